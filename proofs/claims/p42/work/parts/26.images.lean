set_option maxHeartbeats 2000000 in
set_option maxRecDepth 100000 in
theorem c_X9_keep (l : Launch) {D : va_G} {cy : Nat → ClassId} {L : List Nat} {f : Nat → va_E} {sz : Nat} {adK adV : Nat → Nat} {xo tp rd mo dmo im kp sl wk pl oo mx : Nat} {la sa mi da : Nat} {v0 v1 v2 v3 v4 v5 v6 : Int32} {gl gs gm : Nat → Int32} {gd : Nat → Option Nat} {dv : Nat → Nat} {xmo xla xsa xmi xda : Nat} {xv0 xv1 xv2 xv3 xv4 xv5 xv6 : Int32} {xgl xgs xgm : Nat → Int32} {xgd : Nat → Option Nat} {xdv : Nat → Nat} {gi : Nat → Option Nat} {gkp : Nat → Int32} {kk : Int32} (hm_xo : xo ∈ L) (hm_im : im ∈ L) (hm_kp : kp ∈ L) (hm_mo : mo ∈ L) (hm_la : la ∈ L) (hm_sa : sa ∈ L) (hm_mi : mi ∈ L) (hm_da : da ∈ L) (hm_xmo : xmo ∈ L) (hm_xla : xla ∈ L) (hm_xsa : xsa ∈ L) (hm_xmi : xmi ∈ L) (hm_xda : xda ∈ L) (hf_xo : f xo = .inr (9, [.ref tp, .ref rd, .ref xmo, .ref dmo, .ref im, .ref kp, .ref sl, .ref wk, .ref pl, .ref oo, .ref mx])) (hf_im : f im = .inl (cy 5, 3, .inr (.inr (.inr (.inr gi))))) (hf_kp : f kp = .inl (cy 3, 3, .inl gkp)) (hf_mo : f mo = .inr (2, [.int v0, .int v1, .int v2, .int v3, .int v4, .int v5, .int v6, .ref la, .ref sa, .ref mi, .ref da])) (hf_la : f la = .inl (cy 1, 5, .inl gl)) (hf_sa : f sa = .inl (cy 1, 4, .inl gs)) (hf_mi : f mi = .inl (cy 1, 36, .inl gm)) (hf_da : f da = .inl (cy 4, 13, .inr (.inr (.inr (.inr gd))))) (hf_xmo : f xmo = .inr (2, [.int xv0, .int xv1, .int xv2, .int xv3, .int xv4, .int xv5, .int xv6, .ref xla, .ref xsa, .ref xmi, .ref xda])) (hf_xla : f xla = .inl (cy 1, 5, .inl xgl)) (hf_xsa : f xsa = .inl (cy 1, 4, .inl xgs)) (hf_xmi : f xmi = .inl (cy 1, 36, .inl xgm)) (hf_xda : f xda = .inl (cy 4, 13, .inr (.inr (.inr (.inr xgd))))) (ne_mo_xmo : mo ≠ xmo) (ne_la_xla : la ≠ xla) (ne_sa_xsa : sa ≠ xsa) (ne_mi_xmi : mi ≠ xmi) (ne_da_xda : da ≠ xda) (hg_da : ∀ i : Nat, i < 13 → gd i = some (dv i)) (hd_da : z_Drv L f dv 13) (hg_xda : ∀ i : Nat, i < 13 → xgd i = some (xdv i)) (hd_xda : z_Drv L f xdv 13) (hv1 : 0 ≤ v1.toInt ∧ v1.toInt ≤ 4) (hv2 : 0 ≤ v2.toInt ∧ v2.toInt ≤ 9) (hv3 : 0 ≤ v3.toInt ∧ v3.toInt ≤ 5) (hv5 : 0 ≤ v5.toInt ∧ v5.toInt ≤ 12) (hgl : ∀ j : Nat, 0 ≤ (gl j).toInt ∧ (gl j).toInt ≤ 999) (hgs : ∀ j : Nat, 0 ≤ (gs j).toInt ∧ (gs j).toInt ≤ 999) (hgm : ∀ j : Nat, 0 ≤ (gm j).toInt ∧ (gm j).toInt ≤ 9) (hxv1 : 0 ≤ xv1.toInt ∧ xv1.toInt ≤ 4) (hxv2 : 0 ≤ xv2.toInt ∧ xv2.toInt ≤ 9) (hxv3 : 0 ≤ xv3.toInt ∧ xv3.toInt ≤ 5) (hxv5 : 0 ≤ xv5.toInt ∧ xv5.toInt ≤ 12) (hxgl : ∀ j : Nat, 0 ≤ (xgl j).toInt ∧ (xgl j).toInt ≤ 999) (hxgs : ∀ j : Nat, 0 ≤ (xgs j).toInt ∧ (xgs j).toInt ≤ 999) (hxgm : ∀ j : Nat, 0 ≤ (xgm j).toInt ∧ (xgm j).toInt ≤ 9) (hdd : ∀ i : Nat, i < 13 → dv i ≠ xdv i) (hgi0 : 0 ≤ kk.toInt → kk.toInt < 3 → gi kk.toNatClampNeg = some mo) : Met l yX9_keep (z_ws yX9_keep cX9_keep 2 (some .int)) (z_R 3 0 0) (va_Pc [.ref xo, .int kk] (z_Pre D vwCl (z_KK D cy adK adV) L f sz)) (z_Qi D vwCl (fun r u => L = u.1 ∧ (∀ b ∈ L, b ≠ mo → b ≠ la → b ≠ sa → b ≠ mi → b ≠ kp → (∀ i : Nat, i < 13 → b ≠ dv i) → u.2 b = f b) ∧ (∃ (y0 y1 y2 y3 y4 y5 y6 : Int32) (h1 h2 h3 kp2 : Nat → Int32), (u.2 mo = .inr (2, [.int y0, .int y1, .int y2, .int y3, .int y4, .int y5, .int y6, .ref la, .ref sa, .ref mi, .ref da])) ∧ (u.2 la = .inl (cy 1, 5, .inl h1)) ∧ (u.2 sa = .inl (cy 1, 4, .inl h2)) ∧ (u.2 mi = .inl (cy 1, 36, .inl h3)) ∧ (u.2 kp = .inl (cy 3, 3, .inl kp2)) ∧ (z_Drv u.1 u.2 dv 13) ∧ ((0 ≤ y1.toInt ∧ y1.toInt ≤ 4) ∧ (0 ≤ y2.toInt ∧ y2.toInt ≤ 9) ∧ (0 ≤ y3.toInt ∧ y3.toInt ≤ 5) ∧ (0 ≤ y5.toInt ∧ y5.toInt ≤ 12) ∧ (∀ j : Nat, 0 ≤ (h1 j).toInt ∧ (h1 j).toInt ≤ 999) ∧ (∀ j : Nat, 0 ≤ (h2 j).toInt ∧ (h2 j).toInt ≤ 999) ∧ (∀ j : Nat, 0 ≤ (h3 j).toInt ∧ (h3 j).toInt ≤ 9) ∧ ((r = 0 ∧ (0 ≤ kk.toInt ∧ kk.toInt < 3) ∧ kp2 = upd gkp kk.toNatClampNeg 1) ∨ (r = -2 ∧ ¬ (0 ≤ kk.toInt ∧ kk.toInt < 3) ∧ kp2 = gkp))))) L sz) 0 0 (z_A L sz) := by
  refine z_met (cc := cX9_keep) (maxL := 2) (ret := (some .int)) (lv := [(0, .ref xo), (1, .int kk)]) (by decide) rfl (Nat.le_of_ble_eq_true rfl) rfl ?_
  intro p e s m below meth c ls hx hb hr hlk hml hown hnm hts hKK hA hw hl
  have hK := hKK.1.1
  have hown : s.vm.findClass RX9 = some m.cls := hown
  have hT : ∀ w ∈ lw_all, w.before ([.ref xo, .int kk] : List Value).toArray s = true := fun w h => hts w (z_cons w h)
  have hsub : L = L := rfl
  have hfr : ∀ b ∈ L, b ≠ mo → b ≠ la → b ≠ sa → b ≠ mi → b ≠ kp → (∀ i : Nat, i < 13 → b ≠ dv i) → f b = f b := fun _ _ _ _ _ _ _ _ => rfl
  refine lv_iload_n hx hb dX9_keep_0 rfl (lv_at hl 1 rfl) ?_
  refine z_if_lt (tgt := 9) hx hb rfl dX9_keep_1 (by decide) (fun c1 => ?_) (fun c1 => ?_)
  · skip
    refine lv_bipush (v := (-2)) hx hb dX9_keep_9 (by decide) ?_
    exact z_iret hx hb hr hlk (by decide) (by decide) hw (⟨hsub, hfr, v0, v1, v2, v3, v4, v5, v6, gl, gs, gm, gkp, hf_mo, hf_la, hf_sa, hf_mi, hf_kp, hd_da, by omega, by omega, by omega, by omega, hgl, hgs, hgm, Or.inr ⟨rfl, by omega, rfl⟩⟩) dX9_keep_11
  · skip
    refine lv_iload_n hx hb dX9_keep_4 rfl (lv_at hl 1 rfl) ?_
    refine lv_iconst (v := 3) hx hb dX9_keep_5 (by decide) ?_
    refine z_icmp_lt (tgt := 12) hx hb rfl (show (3 : Int32).toInt = 3 by decide) dX9_keep_6 (by decide) (fun c2 => ?_) (fun c2 => ?_)
    · skip
      have hgi := hgi0 (by omega) (by omega)
      refine lv_aload_n hx hb dX9_keep_12 rfl (lv_at hl 0 rfl) ?_
      refine z_get (C := RX9) (T := TX9) (N := 11) (ci := 9) (v := .ref im) hx hb hT zin_X9 hown hK hw hm_xo hf_xo rfl 4 (by decide) (hT _ kw_481) rfl dX9_keep_13 ?_
      refine lv_iload_n hx hb dX9_keep_16 rfl (lv_at hl 1 rfl) ?_
      refine z_aald (b := mo) hx hb hK hw 5 hm_im hf_im rfl (z_ix rfl (by omega)) hgi dX9_keep_17 ?_
      refine lv_aload_n hx hb dX9_keep_18 rfl (lv_at hl 0 rfl) ?_
      refine z_get (C := RX9) (T := TX9) (N := 11) (ci := 9) (v := .ref xmo) hx hb hT zin_X9 hown hK hw hm_xo hf_xo rfl 2 (by decide) (hT _ kw_479) rfl dX9_keep_19 ?_
      refine z_callvV (cells := 0) (slots := 0) (b := mo) (As := [.ref xmo]) (rest := []) (ci := 2) (q0 := (RX2, TX2, 11)) ⟨hx, hb, hml, hown, hT⟩ (c_X2_copyN l hm_mo hm_la hm_sa hm_mi hm_da hm_xmo hm_xla hm_xsa hm_xmi hm_xda hf_mo hf_la hf_sa hf_mi hf_da hf_xmo hf_xla hf_xsa hf_xmi hf_xda ne_mo_xmo ne_la_xla ne_sa_xsa ne_mi_xmi ne_da_xda hg_da hd_da hg_xda hd_xda hdd (by first | omega | decide | assumption)) (cwV 1 hT (z_goodV (fun _ h => h) kw_690 kw_691 kw_692 kw_87 kw_693) rfl rfl rfl (by decide +kernel) ⟨by decide, by decide⟩) z_mv hKK hK hw hA hm_mo hf_mo rfl rfl rfl hl.1 rfl (Nat.le_of_ble_eq_true rfl) dX9_keep_22 ⟨by decide, by decide⟩ (fun u H locs hp hw => ?_)
      obtain ⟨L3, f4⟩ := u
      obtain ⟨hsb, hfm, ha_0, ha_1, ha_2, ha_3, hv_da, hp⟩ := hp
      have hsb : L = L3 := hsb
      subst hsb
      have hsb : ∀ b ∈ L, b ∈ L := fun _ h => h
      have hw : z_H D vwCl (z_A L sz) s.heap L f4 H locs := hw
      have hdo_da := hd_da
      have hfr : ∀ b ∈ L, b ≠ mo → b ≠ la → b ≠ sa → b ≠ mi → b ≠ kp → (∀ i : Nat, i < 13 → b ≠ dv i) → f4 b = f b := fun b hb h0 h1 h2 h3 h4 hp0 => (hfm b hb h0 h1 h2 h3 hp0).trans (hfr b hb h0 h1 h2 h3 h4 hp0)
      have hd_da : z_Drv L f4 dv 13 := hv_da
      have hd_xda : z_Drv L f4 xdv 13 := z_Drv_fr2 hd_xda hv_da hsb (fun b hb ht hq => hfm b hb (z_t0 ht hf_mo (m := 2) rfl (by decide)) (z_t0 ht hf_la (m := 140) rfl (by decide)) (z_t0 ht hf_sa (m := 132) rfl (by decide)) (z_t0 ht hf_mi (m := 388) rfl (by decide)) hq)
      have hf_xo : f4 xo = .inr (9, [.ref tp, .ref rd, .ref xmo, .ref dmo, .ref im, .ref kp, .ref sl, .ref wk, .ref pl, .ref oo, .ref mx]) := (hfm xo hm_xo (z_tne hf_xo hf_mo (m := 9) (n := 2) rfl rfl (by decide)) (z_tne hf_xo hf_la (m := 9) (n := 140) rfl rfl (by decide)) (z_tne hf_xo hf_sa (m := 9) (n := 132) rfl rfl (by decide)) (z_tne hf_xo hf_mi (m := 9) (n := 388) rfl rfl (by decide)) (z_Drv_ne hdo_da hf_xo (m := 9) rfl (by decide))).trans hf_xo
      have hf_im : f4 im = .inl (cy 5, 3, .inr (.inr (.inr (.inr gi)))) := (hfm im hm_im (z_tne hf_im hf_mo (m := 126) (n := 2) rfl rfl (by decide)) (z_tne hf_im hf_la (m := 126) (n := 140) rfl rfl (by decide)) (z_tne hf_im hf_sa (m := 126) (n := 132) rfl rfl (by decide)) (z_tne hf_im hf_mi (m := 126) (n := 388) rfl rfl (by decide)) (z_Drv_ne hdo_da hf_im (m := 126) rfl (by decide))).trans hf_im
      have hf_kp : f4 kp = .inl (cy 3, 3, .inl gkp) := (hfm kp hm_kp (z_tne hf_kp hf_mo (m := 124) (n := 2) rfl rfl (by decide)) (z_tne hf_kp hf_la (m := 124) (n := 140) rfl rfl (by decide)) (z_tne hf_kp hf_sa (m := 124) (n := 132) rfl rfl (by decide)) (z_tne hf_kp hf_mi (m := 124) (n := 388) rfl rfl (by decide)) (z_Drv_ne hdo_da hf_kp (m := 124) rfl (by decide))).trans hf_kp
      have hf_da : f4 da = .inl (cy 4, 13, .inr (.inr (.inr (.inr gd)))) := (hfm da hm_da (z_tne hf_da hf_mo (m := 206) (n := 2) rfl rfl (by decide)) (z_tne hf_da hf_la (m := 206) (n := 140) rfl rfl (by decide)) (z_tne hf_da hf_sa (m := 206) (n := 132) rfl rfl (by decide)) (z_tne hf_da hf_mi (m := 206) (n := 388) rfl rfl (by decide)) (z_Drv_ne hdo_da hf_da (m := 206) rfl (by decide))).trans hf_da
      have hf_xmo : f4 xmo = .inr (2, [.int xv0, .int xv1, .int xv2, .int xv3, .int xv4, .int xv5, .int xv6, .ref xla, .ref xsa, .ref xmi, .ref xda]) := (hfm xmo hm_xmo (Ne.symm ne_mo_xmo) (z_tne hf_xmo hf_la (m := 2) (n := 140) rfl rfl (by decide)) (z_tne hf_xmo hf_sa (m := 2) (n := 132) rfl rfl (by decide)) (z_tne hf_xmo hf_mi (m := 2) (n := 388) rfl rfl (by decide)) (z_Drv_ne hdo_da hf_xmo (m := 2) rfl (by decide))).trans hf_xmo
      have hf_xla : f4 xla = .inl (cy 1, 5, .inl xgl) := (hfm xla hm_xla (z_tne hf_xla hf_mo (m := 140) (n := 2) rfl rfl (by decide)) (Ne.symm ne_la_xla) (z_tne hf_xla hf_sa (m := 140) (n := 132) rfl rfl (by decide)) (z_tne hf_xla hf_mi (m := 140) (n := 388) rfl rfl (by decide)) (z_Drv_ne hdo_da hf_xla (m := 140) rfl (by decide))).trans hf_xla
      have hf_xsa : f4 xsa = .inl (cy 1, 4, .inl xgs) := (hfm xsa hm_xsa (z_tne hf_xsa hf_mo (m := 132) (n := 2) rfl rfl (by decide)) (z_tne hf_xsa hf_la (m := 132) (n := 140) rfl rfl (by decide)) (Ne.symm ne_sa_xsa) (z_tne hf_xsa hf_mi (m := 132) (n := 388) rfl rfl (by decide)) (z_Drv_ne hdo_da hf_xsa (m := 132) rfl (by decide))).trans hf_xsa
      have hf_xmi : f4 xmi = .inl (cy 1, 36, .inl xgm) := (hfm xmi hm_xmi (z_tne hf_xmi hf_mo (m := 388) (n := 2) rfl rfl (by decide)) (z_tne hf_xmi hf_la (m := 388) (n := 140) rfl rfl (by decide)) (z_tne hf_xmi hf_sa (m := 388) (n := 132) rfl rfl (by decide)) (Ne.symm ne_mi_xmi) (z_Drv_ne hdo_da hf_xmi (m := 388) rfl (by decide))).trans hf_xmi
      have hf_xda : f4 xda = .inl (cy 4, 13, .inr (.inr (.inr (.inr xgd)))) := (hfm xda hm_xda (z_tne hf_xda hf_mo (m := 206) (n := 2) rfl rfl (by decide)) (z_tne hf_xda hf_la (m := 206) (n := 140) rfl rfl (by decide)) (z_tne hf_xda hf_sa (m := 206) (n := 132) rfl rfl (by decide)) (z_tne hf_xda hf_mi (m := 206) (n := 388) rfl rfl (by decide)) (z_Drv_ne hdo_da hf_xda (m := 206) rfl (by decide))).trans hf_xda
      have hf_mo : f4 mo = .inr (2, [.int xv0, .int xv1, .int xv2, .int xv3, .int xv4, .int xv5, .int xv6, .ref la, .ref sa, .ref mi, .ref da]) := ha_0
      have hf_la : f4 la = .inl (cy 1, 5, .inl xgl) := ha_1
      have hf_sa : f4 sa = .inl (cy 1, 4, .inl xgs) := ha_2
      have hf_mi : f4 mi = .inl (cy 1, 36, .inl xgm) := ha_3
      refine lv_aload_n hx hb dX9_keep_25 rfl (lv_at hl 0 rfl) ?_
      refine z_get (C := RX9) (T := TX9) (N := 11) (ci := 9) (v := .ref kp) hx hb hT zin_X9 hown hK hw hm_xo hf_xo rfl 5 (by decide) (hT _ kw_482) rfl dX9_keep_26 ?_
      refine lv_iload_n hx hb dX9_keep_29 rfl (lv_at hl 1 rfl) ?_
      refine lv_iconst (v := 1) hx hb dX9_keep_30 (by decide) ?_
      refine z_zast hx hb hK hw 3 hm_kp hf_kp rfl (z_ix rfl (by omega)) dX9_keep_31 (fun H locs hw => ?_)
      obtain ⟨f6, e_f6⟩ : ∃ z, z = va_up f4 kp (.inl (cy 3, 3, .inl (upd gkp kk.toNatClampNeg (vp_nar .boolean 1)))) := ⟨_, rfl⟩
      rw [← e_f6] at hw
      have hf_xo : f6 xo = .inr (9, [.ref tp, .ref rd, .ref xmo, .ref dmo, .ref im, .ref kp, .ref sl, .ref wk, .ref pl, .ref oo, .ref mx]) := (congrFun e_f6 xo).trans (z_up_ne (z_tne hf_xo hf_kp (m := 9) (n := 124) rfl rfl (by decide)) hf_xo)
      have hf_im : f6 im = .inl (cy 5, 3, .inr (.inr (.inr (.inr gi)))) := (congrFun e_f6 im).trans (z_up_ne (z_tne hf_im hf_kp (m := 126) (n := 124) rfl rfl (by decide)) hf_im)
      have hf_mo : f6 mo = .inr (2, [.int xv0, .int xv1, .int xv2, .int xv3, .int xv4, .int xv5, .int xv6, .ref la, .ref sa, .ref mi, .ref da]) := (congrFun e_f6 mo).trans (z_up_ne (z_tne hf_mo hf_kp (m := 2) (n := 124) rfl rfl (by decide)) hf_mo)
      have hf_la : f6 la = .inl (cy 1, 5, .inl xgl) := (congrFun e_f6 la).trans (z_up_ne (z_tne hf_la hf_kp (m := 140) (n := 124) rfl rfl (by decide)) hf_la)
      have hf_sa : f6 sa = .inl (cy 1, 4, .inl xgs) := (congrFun e_f6 sa).trans (z_up_ne (z_tne hf_sa hf_kp (m := 132) (n := 124) rfl rfl (by decide)) hf_sa)
      have hf_mi : f6 mi = .inl (cy 1, 36, .inl xgm) := (congrFun e_f6 mi).trans (z_up_ne (z_tne hf_mi hf_kp (m := 388) (n := 124) rfl rfl (by decide)) hf_mi)
      have hf_da : f6 da = .inl (cy 4, 13, .inr (.inr (.inr (.inr gd)))) := (congrFun e_f6 da).trans (z_up_ne (z_tne hf_da hf_kp (m := 206) (n := 124) rfl rfl (by decide)) hf_da)
      have hf_xmo : f6 xmo = .inr (2, [.int xv0, .int xv1, .int xv2, .int xv3, .int xv4, .int xv5, .int xv6, .ref xla, .ref xsa, .ref xmi, .ref xda]) := (congrFun e_f6 xmo).trans (z_up_ne (z_tne hf_xmo hf_kp (m := 2) (n := 124) rfl rfl (by decide)) hf_xmo)
      have hf_xla : f6 xla = .inl (cy 1, 5, .inl xgl) := (congrFun e_f6 xla).trans (z_up_ne (z_tne hf_xla hf_kp (m := 140) (n := 124) rfl rfl (by decide)) hf_xla)
      have hf_xsa : f6 xsa = .inl (cy 1, 4, .inl xgs) := (congrFun e_f6 xsa).trans (z_up_ne (z_tne hf_xsa hf_kp (m := 132) (n := 124) rfl rfl (by decide)) hf_xsa)
      have hf_xmi : f6 xmi = .inl (cy 1, 36, .inl xgm) := (congrFun e_f6 xmi).trans (z_up_ne (z_tne hf_xmi hf_kp (m := 388) (n := 124) rfl rfl (by decide)) hf_xmi)
      have hf_xda : f6 xda = .inl (cy 4, 13, .inr (.inr (.inr (.inr xgd)))) := (congrFun e_f6 xda).trans (z_up_ne (z_tne hf_xda hf_kp (m := 206) (n := 124) rfl rfl (by decide)) hf_xda)
      have hd_da : z_Drv L f6 dv 13 := z_Drv_up hd_da e_f6 hf_kp (m := 124) rfl (by decide)
      have hd_xda : z_Drv L f6 xdv 13 := z_Drv_up hd_xda e_f6 hf_kp (m := 124) rfl (by decide)
      have hf_kp : f6 kp = .inl (cy 3, 3, .inl (upd gkp kk.toNatClampNeg (vp_nar .boolean 1))) := (congrFun e_f6 kp).trans z_up_self
      have hfr : ∀ b ∈ L, b ≠ mo → b ≠ la → b ≠ sa → b ≠ mi → b ≠ kp → (∀ i : Nat, i < 13 → b ≠ dv i) → f6 b = f b := fun b hb h0 h1 h2 h3 h4 hp0 => (congrFun e_f6 b).trans (z_up_ne h4 (hfr b hb h0 h1 h2 h3 h4 hp0))
      obtain ⟨g5, e_g5⟩ : ∃ z, z = (upd gkp kk.toNatClampNeg (vp_nar .boolean 1)) := ⟨_, rfl⟩
      rw [← e_g5] at hf_kp
      refine lv_iconst (v := 0) hx hb dX9_keep_32 (by decide) ?_
      exact z_iret hx hb hr hlk (by decide) (by decide) hw (⟨hsub, hfr, xv0, xv1, xv2, xv3, xv4, xv5, xv6, xgl, xgs, xgm, g5, hf_mo, hf_la, hf_sa, hf_mi, hf_kp, hd_da, by omega, by omega, by omega, by omega, hxgl, hxgs, hxgm, Or.inl ⟨rfl, by omega, by rw [e_g5]; rfl⟩⟩) dX9_keep_33
    · skip
      refine lv_bipush (v := (-2)) hx hb dX9_keep_9 (by decide) ?_
      exact z_iret hx hb hr hlk (by decide) (by decide) hw (⟨hsub, hfr, v0, v1, v2, v3, v4, v5, v6, gl, gs, gm, gkp, hf_mo, hf_la, hf_sa, hf_mi, hf_kp, hd_da, by omega, by omega, by omega, by omega, hgl, hgs, hgm, Or.inr ⟨rfl, by omega, rfl⟩⟩) dX9_keep_11

set_option maxHeartbeats 2000000 in
set_option maxRecDepth 100000 in
theorem c_X9_back (l : Launch) {D : va_G} {cy : Nat → ClassId} {L : List Nat} {f : Nat → va_E} {sz : Nat} {adK adV : Nat → Nat} {xo tp rd mo dmo im kp sl wk pl oo mx : Nat} {la sa mi da : Nat} {v0 v1 v2 v3 v4 v5 v6 : Int32} {gl gs gm : Nat → Int32} {gd : Nat → Option Nat} {dv : Nat → Nat} {xmo xla xsa xmi xda : Nat} {xv0 xv1 xv2 xv3 xv4 xv5 xv6 : Int32} {xgl xgs xgm : Nat → Int32} {xgd : Nat → Option Nat} {xdv : Nat → Nat} {gi : Nat → Option Nat} {gkp : Nat → Int32} {kk : Int32} (hm_xo : xo ∈ L) (hm_im : im ∈ L) (hm_kp : kp ∈ L) (hm_mo : mo ∈ L) (hm_la : la ∈ L) (hm_sa : sa ∈ L) (hm_mi : mi ∈ L) (hm_da : da ∈ L) (hm_xmo : xmo ∈ L) (hm_xla : xla ∈ L) (hm_xsa : xsa ∈ L) (hm_xmi : xmi ∈ L) (hm_xda : xda ∈ L) (hf_xo : f xo = .inr (9, [.ref tp, .ref rd, .ref mo, .ref dmo, .ref im, .ref kp, .ref sl, .ref wk, .ref pl, .ref oo, .ref mx])) (hf_im : f im = .inl (cy 5, 3, .inr (.inr (.inr (.inr gi))))) (hf_kp : f kp = .inl (cy 3, 3, .inl gkp)) (hf_mo : f mo = .inr (2, [.int v0, .int v1, .int v2, .int v3, .int v4, .int v5, .int v6, .ref la, .ref sa, .ref mi, .ref da])) (hf_la : f la = .inl (cy 1, 5, .inl gl)) (hf_sa : f sa = .inl (cy 1, 4, .inl gs)) (hf_mi : f mi = .inl (cy 1, 36, .inl gm)) (hf_da : f da = .inl (cy 4, 13, .inr (.inr (.inr (.inr gd))))) (hf_xmo : f xmo = .inr (2, [.int xv0, .int xv1, .int xv2, .int xv3, .int xv4, .int xv5, .int xv6, .ref xla, .ref xsa, .ref xmi, .ref xda])) (hf_xla : f xla = .inl (cy 1, 5, .inl xgl)) (hf_xsa : f xsa = .inl (cy 1, 4, .inl xgs)) (hf_xmi : f xmi = .inl (cy 1, 36, .inl xgm)) (hf_xda : f xda = .inl (cy 4, 13, .inr (.inr (.inr (.inr xgd))))) (ne_mo_xmo : mo ≠ xmo) (ne_la_xla : la ≠ xla) (ne_sa_xsa : sa ≠ xsa) (ne_mi_xmi : mi ≠ xmi) (ne_da_xda : da ≠ xda) (hg_da : ∀ i : Nat, i < 13 → gd i = some (dv i)) (hd_da : z_Drv L f dv 13) (hg_xda : ∀ i : Nat, i < 13 → xgd i = some (xdv i)) (hd_xda : z_Drv L f xdv 13) (hv1 : 0 ≤ v1.toInt ∧ v1.toInt ≤ 4) (hv2 : 0 ≤ v2.toInt ∧ v2.toInt ≤ 9) (hv3 : 0 ≤ v3.toInt ∧ v3.toInt ≤ 5) (hv5 : 0 ≤ v5.toInt ∧ v5.toInt ≤ 12) (hgl : ∀ j : Nat, 0 ≤ (gl j).toInt ∧ (gl j).toInt ≤ 999) (hgs : ∀ j : Nat, 0 ≤ (gs j).toInt ∧ (gs j).toInt ≤ 999) (hgm : ∀ j : Nat, 0 ≤ (gm j).toInt ∧ (gm j).toInt ≤ 9) (hxv1 : 0 ≤ xv1.toInt ∧ xv1.toInt ≤ 4) (hxv2 : 0 ≤ xv2.toInt ∧ xv2.toInt ≤ 9) (hxv3 : 0 ≤ xv3.toInt ∧ xv3.toInt ≤ 5) (hxv5 : 0 ≤ xv5.toInt ∧ xv5.toInt ≤ 12) (hxgl : ∀ j : Nat, 0 ≤ (xgl j).toInt ∧ (xgl j).toInt ≤ 999) (hxgs : ∀ j : Nat, 0 ≤ (xgs j).toInt ∧ (xgs j).toInt ≤ 999) (hxgm : ∀ j : Nat, 0 ≤ (xgm j).toInt ∧ (xgm j).toInt ≤ 9) (hdd : ∀ i : Nat, i < 13 → dv i ≠ xdv i) (hgi0 : 0 ≤ kk.toInt → kk.toInt < 3 → gi kk.toNatClampNeg = some xmo) : Met l yX9_back (z_ws yX9_back cX9_back 2 (some .int)) (z_R 3 0 0) (va_Pc [.ref xo, .int kk] (z_Pre D vwCl (z_KK D cy adK adV) L f sz)) (z_Qi D vwCl (fun r u => L = u.1 ∧ (∀ b ∈ L, b ≠ mo → b ≠ la → b ≠ sa → b ≠ mi → (∀ i : Nat, i < 13 → b ≠ dv i) → u.2 b = f b) ∧ (∃ (y0 y1 y2 y3 y4 y5 y6 : Int32) (h1 h2 h3 : Nat → Int32), (u.2 mo = .inr (2, [.int y0, .int y1, .int y2, .int y3, .int y4, .int y5, .int y6, .ref la, .ref sa, .ref mi, .ref da])) ∧ (u.2 la = .inl (cy 1, 5, .inl h1)) ∧ (u.2 sa = .inl (cy 1, 4, .inl h2)) ∧ (u.2 mi = .inl (cy 1, 36, .inl h3)) ∧ (z_Drv u.1 u.2 dv 13) ∧ ((0 ≤ y1.toInt ∧ y1.toInt ≤ 4) ∧ (0 ≤ y2.toInt ∧ y2.toInt ≤ 9) ∧ (0 ≤ y3.toInt ∧ y3.toInt ≤ 5) ∧ (0 ≤ y5.toInt ∧ y5.toInt ≤ 12) ∧ (∀ j : Nat, 0 ≤ (h1 j).toInt ∧ (h1 j).toInt ≤ 999) ∧ (∀ j : Nat, 0 ≤ (h2 j).toInt ∧ (h2 j).toInt ≤ 999) ∧ (∀ j : Nat, 0 ≤ (h3 j).toInt ∧ (h3 j).toInt ≤ 9) ∧ ((r = 0 ∧ (0 ≤ kk.toInt ∧ kk.toInt < 3) ∧ (gkp kk.toNatClampNeg).toInt ≠ 0) ∨ (r = -6 ∧ (0 ≤ kk.toInt ∧ kk.toInt < 3) ∧ (gkp kk.toNatClampNeg).toInt = 0) ∨ (r = -2 ∧ ¬ (0 ≤ kk.toInt ∧ kk.toInt < 3)))))) L sz) 0 0 (z_A L sz) := by
  refine z_met (cc := cX9_back) (maxL := 2) (ret := (some .int)) (lv := [(0, .ref xo), (1, .int kk)]) (by decide) rfl (Nat.le_of_ble_eq_true rfl) rfl ?_
  intro p e s m below meth c ls hx hb hr hlk hml hown hnm hts hKK hA hw hl
  have hK := hKK.1.1
  have hown : s.vm.findClass RX9 = some m.cls := hown
  have hT : ∀ w ∈ lw_all, w.before ([.ref xo, .int kk] : List Value).toArray s = true := fun w h => hts w (z_cons w h)
  have hsub : L = L := rfl
  have hfr : ∀ b ∈ L, b ≠ mo → b ≠ la → b ≠ sa → b ≠ mi → (∀ i : Nat, i < 13 → b ≠ dv i) → f b = f b := fun _ _ _ _ _ _ _ => rfl
  refine lv_iload_n hx hb dX9_back_0 rfl (lv_at hl 1 rfl) ?_
  refine z_if_lt (tgt := 9) hx hb rfl dX9_back_1 (by decide) (fun c1 => ?_) (fun c1 => ?_)
  · skip
    refine lv_bipush (v := (-2)) hx hb dX9_back_9 (by decide) ?_
    exact z_iret hx hb hr hlk (by decide) (by decide) hw (⟨hsub, hfr, v0, v1, v2, v3, v4, v5, v6, gl, gs, gm, hf_mo, hf_la, hf_sa, hf_mi, hd_da, by omega, by omega, by omega, by omega, hgl, hgs, hgm, Or.inr (Or.inr ⟨rfl, by omega⟩)⟩) dX9_back_11
  · skip
    refine lv_iload_n hx hb dX9_back_4 rfl (lv_at hl 1 rfl) ?_
    refine lv_iconst (v := 3) hx hb dX9_back_5 (by decide) ?_
    refine z_icmp_lt (tgt := 12) hx hb rfl (show (3 : Int32).toInt = 3 by decide) dX9_back_6 (by decide) (fun c2 => ?_) (fun c2 => ?_)
    · skip
      refine lv_aload_n hx hb dX9_back_12 rfl (lv_at hl 0 rfl) ?_
      refine z_get (C := RX9) (T := TX9) (N := 11) (ci := 9) (v := .ref kp) hx hb hT zin_X9 hown hK hw hm_xo hf_xo rfl 5 (by decide) (hT _ kw_482) rfl dX9_back_13 ?_
      refine lv_iload_n hx hb dX9_back_16 rfl (lv_at hl 1 rfl) ?_
      refine z_zald hx hb hK hw 3 hm_kp hf_kp rfl (z_ix rfl (by omega)) dX9_back_17 ?_
      refine lv_topi (fun w3 e_w3 => ?_)
      refine z_if_ne (tgt := 24) hx hb rfl dX9_back_18 (by decide) (fun c4 => ?_) (fun c4 => ?_)
      · skip
        refine lv_aload_n hx hb dX9_back_24 rfl (lv_at hl 0 rfl) ?_
        have hgi := hgi0 (by omega) (by omega)
        refine z_get (C := RX9) (T := TX9) (N := 11) (ci := 9) (v := .ref mo) hx hb hT zin_X9 hown hK hw hm_xo hf_xo rfl 2 (by decide) (hT _ kw_479) rfl dX9_back_25 ?_
        refine lv_aload_n hx hb dX9_back_28 rfl (lv_at hl 0 rfl) ?_
        refine z_get (C := RX9) (T := TX9) (N := 11) (ci := 9) (v := .ref im) hx hb hT zin_X9 hown hK hw hm_xo hf_xo rfl 4 (by decide) (hT _ kw_481) rfl dX9_back_29 ?_
        refine lv_iload_n hx hb dX9_back_32 rfl (lv_at hl 1 rfl) ?_
        refine z_aald (b := xmo) hx hb hK hw 5 hm_im hf_im rfl (z_ix rfl (by omega)) hgi dX9_back_33 ?_
        refine z_callvV (cells := 0) (slots := 0) (b := mo) (As := [.ref xmo]) (rest := []) (ci := 2) (q0 := (RX2, TX2, 11)) ⟨hx, hb, hml, hown, hT⟩ (c_X2_copyN l hm_mo hm_la hm_sa hm_mi hm_da hm_xmo hm_xla hm_xsa hm_xmi hm_xda hf_mo hf_la hf_sa hf_mi hf_da hf_xmo hf_xla hf_xsa hf_xmi hf_xda ne_mo_xmo ne_la_xla ne_sa_xsa ne_mi_xmi ne_da_xda hg_da hd_da hg_xda hd_xda hdd (by first | omega | decide | assumption)) (cwV 1 hT (z_goodV (fun _ h => h) kw_690 kw_691 kw_692 kw_87 kw_693) rfl rfl rfl (by decide +kernel) ⟨by decide, by decide⟩) z_mv hKK hK hw hA hm_mo hf_mo rfl rfl rfl hl.1 rfl (Nat.le_of_ble_eq_true rfl) dX9_back_34 ⟨by decide, by decide⟩ (fun u H locs hp hw => ?_)
        obtain ⟨L5, f6⟩ := u
        obtain ⟨hsb, hfm, ha_0, ha_1, ha_2, ha_3, hv_da, hp⟩ := hp
        have hsb : L = L5 := hsb
        subst hsb
        have hsb : ∀ b ∈ L, b ∈ L := fun _ h => h
        have hw : z_H D vwCl (z_A L sz) s.heap L f6 H locs := hw
        have hdo_da := hd_da
        have hfr : ∀ b ∈ L, b ≠ mo → b ≠ la → b ≠ sa → b ≠ mi → (∀ i : Nat, i < 13 → b ≠ dv i) → f6 b = f b := fun b hb h0 h1 h2 h3 hp0 => (hfm b hb h0 h1 h2 h3 hp0).trans (hfr b hb h0 h1 h2 h3 hp0)
        have hd_da : z_Drv L f6 dv 13 := hv_da
        have hd_xda : z_Drv L f6 xdv 13 := z_Drv_fr2 hd_xda hv_da hsb (fun b hb ht hq => hfm b hb (z_t0 ht hf_mo (m := 2) rfl (by decide)) (z_t0 ht hf_la (m := 140) rfl (by decide)) (z_t0 ht hf_sa (m := 132) rfl (by decide)) (z_t0 ht hf_mi (m := 388) rfl (by decide)) hq)
        have hf_xo : f6 xo = .inr (9, [.ref tp, .ref rd, .ref mo, .ref dmo, .ref im, .ref kp, .ref sl, .ref wk, .ref pl, .ref oo, .ref mx]) := (hfm xo hm_xo (z_tne hf_xo hf_mo (m := 9) (n := 2) rfl rfl (by decide)) (z_tne hf_xo hf_la (m := 9) (n := 140) rfl rfl (by decide)) (z_tne hf_xo hf_sa (m := 9) (n := 132) rfl rfl (by decide)) (z_tne hf_xo hf_mi (m := 9) (n := 388) rfl rfl (by decide)) (z_Drv_ne hdo_da hf_xo (m := 9) rfl (by decide))).trans hf_xo
        have hf_im : f6 im = .inl (cy 5, 3, .inr (.inr (.inr (.inr gi)))) := (hfm im hm_im (z_tne hf_im hf_mo (m := 126) (n := 2) rfl rfl (by decide)) (z_tne hf_im hf_la (m := 126) (n := 140) rfl rfl (by decide)) (z_tne hf_im hf_sa (m := 126) (n := 132) rfl rfl (by decide)) (z_tne hf_im hf_mi (m := 126) (n := 388) rfl rfl (by decide)) (z_Drv_ne hdo_da hf_im (m := 126) rfl (by decide))).trans hf_im
        have hf_kp : f6 kp = .inl (cy 3, 3, .inl gkp) := (hfm kp hm_kp (z_tne hf_kp hf_mo (m := 124) (n := 2) rfl rfl (by decide)) (z_tne hf_kp hf_la (m := 124) (n := 140) rfl rfl (by decide)) (z_tne hf_kp hf_sa (m := 124) (n := 132) rfl rfl (by decide)) (z_tne hf_kp hf_mi (m := 124) (n := 388) rfl rfl (by decide)) (z_Drv_ne hdo_da hf_kp (m := 124) rfl (by decide))).trans hf_kp
        have hf_da : f6 da = .inl (cy 4, 13, .inr (.inr (.inr (.inr gd)))) := (hfm da hm_da (z_tne hf_da hf_mo (m := 206) (n := 2) rfl rfl (by decide)) (z_tne hf_da hf_la (m := 206) (n := 140) rfl rfl (by decide)) (z_tne hf_da hf_sa (m := 206) (n := 132) rfl rfl (by decide)) (z_tne hf_da hf_mi (m := 206) (n := 388) rfl rfl (by decide)) (z_Drv_ne hdo_da hf_da (m := 206) rfl (by decide))).trans hf_da
        have hf_xmo : f6 xmo = .inr (2, [.int xv0, .int xv1, .int xv2, .int xv3, .int xv4, .int xv5, .int xv6, .ref xla, .ref xsa, .ref xmi, .ref xda]) := (hfm xmo hm_xmo (Ne.symm ne_mo_xmo) (z_tne hf_xmo hf_la (m := 2) (n := 140) rfl rfl (by decide)) (z_tne hf_xmo hf_sa (m := 2) (n := 132) rfl rfl (by decide)) (z_tne hf_xmo hf_mi (m := 2) (n := 388) rfl rfl (by decide)) (z_Drv_ne hdo_da hf_xmo (m := 2) rfl (by decide))).trans hf_xmo
        have hf_xla : f6 xla = .inl (cy 1, 5, .inl xgl) := (hfm xla hm_xla (z_tne hf_xla hf_mo (m := 140) (n := 2) rfl rfl (by decide)) (Ne.symm ne_la_xla) (z_tne hf_xla hf_sa (m := 140) (n := 132) rfl rfl (by decide)) (z_tne hf_xla hf_mi (m := 140) (n := 388) rfl rfl (by decide)) (z_Drv_ne hdo_da hf_xla (m := 140) rfl (by decide))).trans hf_xla
        have hf_xsa : f6 xsa = .inl (cy 1, 4, .inl xgs) := (hfm xsa hm_xsa (z_tne hf_xsa hf_mo (m := 132) (n := 2) rfl rfl (by decide)) (z_tne hf_xsa hf_la (m := 132) (n := 140) rfl rfl (by decide)) (Ne.symm ne_sa_xsa) (z_tne hf_xsa hf_mi (m := 132) (n := 388) rfl rfl (by decide)) (z_Drv_ne hdo_da hf_xsa (m := 132) rfl (by decide))).trans hf_xsa
        have hf_xmi : f6 xmi = .inl (cy 1, 36, .inl xgm) := (hfm xmi hm_xmi (z_tne hf_xmi hf_mo (m := 388) (n := 2) rfl rfl (by decide)) (z_tne hf_xmi hf_la (m := 388) (n := 140) rfl rfl (by decide)) (z_tne hf_xmi hf_sa (m := 388) (n := 132) rfl rfl (by decide)) (Ne.symm ne_mi_xmi) (z_Drv_ne hdo_da hf_xmi (m := 388) rfl (by decide))).trans hf_xmi
        have hf_xda : f6 xda = .inl (cy 4, 13, .inr (.inr (.inr (.inr xgd)))) := (hfm xda hm_xda (z_tne hf_xda hf_mo (m := 206) (n := 2) rfl rfl (by decide)) (z_tne hf_xda hf_la (m := 206) (n := 140) rfl rfl (by decide)) (z_tne hf_xda hf_sa (m := 206) (n := 132) rfl rfl (by decide)) (z_tne hf_xda hf_mi (m := 206) (n := 388) rfl rfl (by decide)) (z_Drv_ne hdo_da hf_xda (m := 206) rfl (by decide))).trans hf_xda
        have hf_mo : f6 mo = .inr (2, [.int xv0, .int xv1, .int xv2, .int xv3, .int xv4, .int xv5, .int xv6, .ref la, .ref sa, .ref mi, .ref da]) := ha_0
        have hf_la : f6 la = .inl (cy 1, 5, .inl xgl) := ha_1
        have hf_sa : f6 sa = .inl (cy 1, 4, .inl xgs) := ha_2
        have hf_mi : f6 mi = .inl (cy 1, 36, .inl xgm) := ha_3
        refine lv_iconst (v := 0) hx hb dX9_back_37 (by decide) ?_
        exact z_iret hx hb hr hlk (by decide) (by decide) hw (⟨hsub, hfr, xv0, xv1, xv2, xv3, xv4, xv5, xv6, xgl, xgs, xgm, hf_mo, hf_la, hf_sa, hf_mi, hd_da, by omega, by omega, by omega, by omega, hxgl, hxgs, hxgm, Or.inl ⟨rfl, by omega, by rw [← e_w3]; omega⟩⟩) dX9_back_38
      · skip
        refine lv_bipush (v := (-6)) hx hb dX9_back_21 (by decide) ?_
        exact z_iret hx hb hr hlk (by decide) (by decide) hw (⟨hsub, hfr, v0, v1, v2, v3, v4, v5, v6, gl, gs, gm, hf_mo, hf_la, hf_sa, hf_mi, hd_da, by omega, by omega, by omega, by omega, hgl, hgs, hgm, Or.inr (Or.inl ⟨rfl, by omega, by rw [← e_w3]; omega⟩)⟩) dX9_back_23
    · skip
      refine lv_bipush (v := (-2)) hx hb dX9_back_9 (by decide) ?_
      exact z_iret hx hb hr hlk (by decide) (by decide) hw (⟨hsub, hfr, v0, v1, v2, v3, v4, v5, v6, gl, gs, gm, hf_mo, hf_la, hf_sa, hf_mi, hd_da, by omega, by omega, by omega, by omega, hgl, hgs, hgm, Or.inr (Or.inr ⟨rfl, by omega⟩)⟩) dX9_back_11

set_option maxHeartbeats 2000000 in
set_option maxRecDepth 100000 in
theorem c_X9_row (l : Launch) {D : va_G} {cy : Nat → ClassId} {L : List Nat} {f : Nat → va_E} {sz : Nat} {adK adV : Nat → Nat} {xo tp rd mo dmo im kp sl wk pl oo mx : Nat} {nb wi si rr : Nat} {gw gz : Nat → Int32} {gb : Nat → Option Nat} {gr : Nat → Int64} {sn ow nn : Int32} (hm_xo : xo ∈ L) (hm_sl : sl ∈ L) (hm_nb : nb ∈ L) (hm_wi : wi ∈ L) (hm_si : si ∈ L) (hm_rr : rr ∈ L) (hf_xo : f xo = .inr (9, [.ref tp, .ref rd, .ref mo, .ref dmo, .ref im, .ref kp, .ref sl, .ref wk, .ref pl, .ref oo, .ref mx])) (hf_sl : f sl = .inr (6, [.ref nb, .ref wi, .ref si])) (hf_nb : f nb = .inl (cy 6, 4, .inr (.inr (.inr (.inr gb))))) (hf_wi : f wi = .inl (cy 1, 4, .inl gw)) (hf_si : f si = .inl (cy 1, 4, .inl gz)) (hf_rr : f rr = .inl (cy 2, 60, .inr (.inl gr))) (ne_wi_si : wi ≠ si) (hgz : ∀ j : Nat, j < 4 → -1 ≤ (gz j).toInt ∧ (gz j).toInt ≤ 60) (hgb0 : 0 ≤ sn.toInt → sn.toInt ≤ 3 → gb sn.toNatClampNeg = some rr) : Met l yX9_row (z_ws yX9_row cX9_row 4 (some .int)) (z_R 3 0 0) (va_Pc [.ref xo, .int sn, .int ow, .int nn] (z_Pre D vwCl (z_KK D cy adK adV) L f sz)) (z_Qi D vwCl (fun r u => L = u.1 ∧ (∀ b ∈ L, b ≠ rr → b ≠ wi → b ≠ si → u.2 b = f b) ∧ (∃ (r2 : Nat → Int64) (w2 z2 : Nat → Int32), (u.2 rr = .inl (cy 2, 60, .inr (.inl r2))) ∧ (u.2 wi = .inl (cy 1, 4, .inl w2)) ∧ (u.2 si = .inl (cy 1, 4, .inl z2)) ∧ ((∀ j : Nat, j < 4 → -1 ≤ (z2 j).toInt ∧ (z2 j).toInt ≤ 60) ∧ ((r = 0 ∧ ((0 ≤ sn.toInt ∧ sn.toInt ≤ 3) ∧ (0 ≤ ow.toInt ∧ ow.toInt ≤ 3) ∧ nn.toInt ≤ 60) ∧ 0 ≤ nn.toInt ∧ w2 = upd gw sn.toNatClampNeg ow ∧ z2 = upd gz sn.toNatClampNeg nn) ∨ (r = -2 ∧ ¬ ((0 ≤ sn.toInt ∧ sn.toInt ≤ 3) ∧ (0 ≤ ow.toInt ∧ ow.toInt ≤ 3) ∧ nn.toInt ≤ 60) ∧ w2 = gw ∧ z2 = gz) ∨ (r = -3 ∧ ((0 ≤ sn.toInt ∧ sn.toInt ≤ 3) ∧ (0 ≤ ow.toInt ∧ ow.toInt ≤ 3) ∧ nn.toInt ≤ 60) ∧ nn.toInt < 0 ∧ w2 = gw ∧ z2 = gz))))) L sz) 0 0 (z_A L sz) := by
  refine z_met (cc := cX9_row) (maxL := 4) (ret := (some .int)) (lv := [(0, .ref xo), (1, .int sn), (2, .int ow), (3, .int nn)]) (by decide) rfl (Nat.le_of_ble_eq_true rfl) rfl ?_
  intro p e s m below meth c ls hx hb hr hlk hml hown hnm hts hKK hA hw hl
  have hK := hKK.1.1
  have hown : s.vm.findClass RX9 = some m.cls := hown
  have hT : ∀ w ∈ lw_all, w.before ([.ref xo, .int sn, .int ow, .int nn] : List Value).toArray s = true := fun w h => hts w (z_cons w h)
  have hsub : L = L := rfl
  have hfr : ∀ b ∈ L, b ≠ rr → b ≠ wi → b ≠ si → f b = f b := fun _ _ _ _ _ => rfl
  refine lv_iload_n hx hb dX9_row_0 rfl (lv_at hl 1 rfl) ?_
  refine z_calliS (cells := 0) (slots := 0) (As := [.int sn]) (rest := []) ⟨hx, hb, hml, hown, hT⟩ (c_X6_isSlot l ) (va_cwS 1 hT (z_goodS (fun _ h => h) kw_999 kw_1000 kw_90 kw_1001) rfl rfl rfl (by decide +kernel) ⟨by decide, by decide⟩) z_mv hKK hw hA rfl hl.1 rfl (Nat.le_of_ble_eq_true rfl) dX9_row_1 ⟨by decide, by decide⟩ (fun r1 u H locs hp hw => ?_)
  obtain ⟨rfl, hp⟩ := hp
  have hw : z_H D vwCl (z_A L sz) s.heap L f H locs := hw
  rcases hp with ⟨rfl, h2⟩ | ⟨rfl, h2⟩
  · skip
    refine z_if_eq (tgt := 22) hx hb (show (1 : Int32).toInt = 1 by decide) dX9_row_4 (by decide) (fun h => absurd h (by decide)) (fun _ => ?_)
    refine lv_iload_n hx hb dX9_row_7 rfl (lv_at hl 2 rfl) ?_
    refine z_if_lt (tgt := 22) hx hb rfl dX9_row_8 (by decide) (fun c3 => ?_) (fun c3 => ?_)
    · skip
      refine lv_bipush (v := (-2)) hx hb dX9_row_22 (by decide) ?_
      exact z_iret hx hb hr hlk (by decide) (by decide) hw (⟨hsub, hfr, gr, gw, gz, hf_rr, hf_wi, hf_si, hgz, Or.inr (Or.inl ⟨rfl, by omega, rfl, rfl⟩)⟩) dX9_row_24
    · skip
      refine lv_iload_n hx hb dX9_row_11 rfl (lv_at hl 2 rfl) ?_
      refine lv_iconst (v := 4) hx hb dX9_row_12 (by decide) ?_
      refine z_icmp_ge (tgt := 22) hx hb rfl (show (4 : Int32).toInt = 4 by decide) dX9_row_13 (by decide) (fun c4 => ?_) (fun c4 => ?_)
      · skip
        refine lv_bipush (v := (-2)) hx hb dX9_row_22 (by decide) ?_
        exact z_iret hx hb hr hlk (by decide) (by decide) hw (⟨hsub, hfr, gr, gw, gz, hf_rr, hf_wi, hf_si, hgz, Or.inr (Or.inl ⟨rfl, by omega, rfl, rfl⟩)⟩) dX9_row_24
      · skip
        refine lv_iload_n hx hb dX9_row_16 rfl (lv_at hl 3 rfl) ?_
        refine lv_bipush (v := 60) hx hb dX9_row_17 (by decide) ?_
        refine z_icmp_le (tgt := 25) hx hb rfl (show (60 : Int32).toInt = 60 by decide) dX9_row_19 (by decide) (fun c5 => ?_) (fun c5 => ?_)
        · skip
          refine lv_iload_n hx hb dX9_row_25 rfl (lv_at hl 3 rfl) ?_
          refine z_if_ge (tgt := 32) hx hb rfl dX9_row_26 (by decide) (fun c6 => ?_) (fun c6 => ?_)
          · skip
            refine lv_aload_n hx hb dX9_row_32 rfl (lv_at hl 0 rfl) ?_
            have hgb := hgb0 (by omega) (by omega)
            refine z_get (C := RX9) (T := TX9) (N := 11) (ci := 9) (v := .ref sl) hx hb hT zin_X9 hown hK hw hm_xo hf_xo rfl 6 (by decide) (hT _ kw_483) rfl dX9_row_33 ?_
            refine lv_iload_n hx hb dX9_row_36 rfl (lv_at hl 1 rfl) ?_
            refine lv_iload_n hx hb dX9_row_37 rfl (lv_at hl 2 rfl) ?_
            refine lv_iload_n hx hb dX9_row_38 rfl (lv_at hl 3 rfl) ?_
            refine z_callvV (cells := 0) (slots := 0) (b := sl) (As := [.int sn, .int ow, .int nn]) (rest := []) (ci := 6) (q0 := (RX6, TX6, 3)) ⟨hx, hb, hml, hown, hT⟩ (c_X6_lay l hm_sl hm_nb hm_wi hm_si hm_rr hf_sl hf_nb hf_wi hf_si hf_rr ne_wi_si (by first | omega | decide | assumption) hgb) (cwV 3 hT (z_goodV (fun _ h => h) kw_1139 kw_1140 kw_1141 kw_90 kw_1142) rfl rfl rfl (by decide +kernel) ⟨by decide, by decide⟩) z_mv hKK hK hw hA hm_sl hf_sl rfl rfl rfl hl.1 rfl (Nat.le_of_ble_eq_true rfl) dX9_row_39 ⟨by decide, by decide⟩ (fun u H locs hp hw => ?_)
            obtain ⟨L7, f8⟩ := u
            obtain ⟨hsb, hfm, r2_9, ha_0, ha_1, ha_2, hp⟩ := hp
            have hsb : L = L7 := hsb
            subst hsb
            have hsb : ∀ b ∈ L, b ∈ L := fun _ h => h
            have hw : z_H D vwCl (z_A L sz) s.heap L f8 H locs := hw
            have hfr : ∀ b ∈ L, b ≠ rr → b ≠ wi → b ≠ si → f8 b = f b := fun b hb h0 h1 h2 => (hfm b hb h0 h1 h2).trans (hfr b hb h0 h1 h2)
            have hf_xo : f8 xo = .inr (9, [.ref tp, .ref rd, .ref mo, .ref dmo, .ref im, .ref kp, .ref sl, .ref wk, .ref pl, .ref oo, .ref mx]) := (hfm xo hm_xo (z_tne hf_xo hf_rr (m := 9) (n := 581) rfl rfl (by decide)) (z_tne hf_xo hf_wi (m := 9) (n := 132) rfl rfl (by decide)) (z_tne hf_xo hf_si (m := 9) (n := 132) rfl rfl (by decide))).trans hf_xo
            have hf_sl : f8 sl = .inr (6, [.ref nb, .ref wi, .ref si]) := (hfm sl hm_sl (z_tne hf_sl hf_rr (m := 6) (n := 581) rfl rfl (by decide)) (z_tne hf_sl hf_wi (m := 6) (n := 132) rfl rfl (by decide)) (z_tne hf_sl hf_si (m := 6) (n := 132) rfl rfl (by decide))).trans hf_sl
            have hf_nb : f8 nb = .inl (cy 6, 4, .inr (.inr (.inr (.inr gb)))) := (hfm nb hm_nb (z_tne hf_nb hf_rr (m := 134) (n := 581) rfl rfl (by decide)) (z_tne hf_nb hf_wi (m := 134) (n := 132) rfl rfl (by decide)) (z_tne hf_nb hf_si (m := 134) (n := 132) rfl rfl (by decide))).trans hf_nb
            have hf_rr : f8 rr = .inl (cy 2, 60, .inr (.inl r2_9)) := ha_0
            have hf_wi : f8 wi = .inl (cy 1, 4, .inl (upd gw sn.toNatClampNeg ow)) := ha_1
            have hf_si : f8 si = .inl (cy 1, 4, .inl (upd gz sn.toNatClampNeg nn)) := ha_2
            refine lv_iconst (v := 0) hx hb dX9_row_42 (by decide) ?_
            exact z_iret hx hb hr hlk (by decide) (by decide) hw (⟨hsub, hfr, r2_9, (upd gw sn.toNatClampNeg ow), (upd gz sn.toNatClampNeg nn), hf_rr, hf_wi, hf_si, z_updPn (P := fun x : Int32 => -1 ≤ x.toInt ∧ x.toInt ≤ 60) hgz rfl (show _ ∧ _ by omega), Or.inl ⟨rfl, by omega, by omega, rfl, rfl⟩⟩) dX9_row_43
          · skip
            refine lv_bipush (v := (-3)) hx hb dX9_row_29 (by decide) ?_
            exact z_iret hx hb hr hlk (by decide) (by decide) hw (⟨hsub, hfr, gr, gw, gz, hf_rr, hf_wi, hf_si, hgz, Or.inr (Or.inr ⟨rfl, by omega, by omega, rfl, rfl⟩)⟩) dX9_row_31
        · skip
          refine lv_bipush (v := (-2)) hx hb dX9_row_22 (by decide) ?_
          exact z_iret hx hb hr hlk (by decide) (by decide) hw (⟨hsub, hfr, gr, gw, gz, hf_rr, hf_wi, hf_si, hgz, Or.inr (Or.inl ⟨rfl, by omega, rfl, rfl⟩)⟩) dX9_row_24
  · skip
    refine z_if_eq (tgt := 22) hx hb (show (0 : Int32).toInt = 0 by decide) dX9_row_4 (by decide) (fun _ => ?_) (fun h => absurd h (by decide))
    refine lv_bipush (v := (-2)) hx hb dX9_row_22 (by decide) ?_
    exact z_iret hx hb hr hlk (by decide) (by decide) hw (⟨hsub, hfr, gr, gw, gz, hf_rr, hf_wi, hf_si, hgz, Or.inr (Or.inl ⟨rfl, by omega, rfl, rfl⟩)⟩) dX9_row_24

set_option maxHeartbeats 2000000 in
set_option maxRecDepth 100000 in
theorem c_X9_write (l : Launch) {D : va_G} {cy : Nat → ClassId} {L : List Nat} {f : Nat → va_E} {sz : Nat} {adK adV : Nat → Nat} {xo tp rd mo dmo im kp sl wk pl oo mx : Nat} {nb wi si rr : Nat} {gw gz : Nat → Int32} {gb : Nat → Option Nat} {gr : Nat → Int64} {sn ii : Int32} {vv : Int64} (hm_xo : xo ∈ L) (hm_sl : sl ∈ L) (hm_nb : nb ∈ L) (hm_wi : wi ∈ L) (hm_si : si ∈ L) (hm_rr : rr ∈ L) (hf_xo : f xo = .inr (9, [.ref tp, .ref rd, .ref mo, .ref dmo, .ref im, .ref kp, .ref sl, .ref wk, .ref pl, .ref oo, .ref mx])) (hf_sl : f sl = .inr (6, [.ref nb, .ref wi, .ref si])) (hf_nb : f nb = .inl (cy 6, 4, .inr (.inr (.inr (.inr gb))))) (hf_wi : f wi = .inl (cy 1, 4, .inl gw)) (hf_si : f si = .inl (cy 1, 4, .inl gz)) (hf_rr : f rr = .inl (cy 2, 60, .inr (.inl gr))) (ne_wi_si : wi ≠ si) (hgz : ∀ j : Nat, j < 4 → -1 ≤ (gz j).toInt ∧ (gz j).toInt ≤ 60) (hgb0 : 0 ≤ sn.toInt → sn.toInt ≤ 3 → gb sn.toNatClampNeg = some rr) : Met l yX9_write (z_ws yX9_write cX9_write 5 (some .int)) (z_R 2 0 0) (va_Pc [.ref xo, .int sn, .int ii, .long vv] (z_Pre D vwCl (z_KK D cy adK adV) L f sz)) (z_Qi D vwCl (fun r u => L = u.1 ∧ (∀ b ∈ L, b ≠ rr → u.2 b = f b) ∧ (∃ (r2 : Nat → Int64), (u.2 rr = .inl (cy 2, 60, .inr (.inl r2))) ∧ ((r = -2 ∧ ¬ (0 ≤ sn.toInt ∧ sn.toInt ≤ 3)) ∨ (r = -6 ∧ (0 ≤ sn.toInt ∧ sn.toInt ≤ 3) ∧ (gz sn.toNatClampNeg).toInt = -1) ∨ (r = -7 ∧ (0 ≤ sn.toInt ∧ sn.toInt ≤ 3) ∧ (gz sn.toNatClampNeg).toInt ≠ -1 ∧ ¬ (0 ≤ ii.toInt ∧ ii.toInt < (gz sn.toNatClampNeg).toInt)) ∨ (r = 0 ∧ (0 ≤ sn.toInt ∧ sn.toInt ≤ 3) ∧ (gz sn.toNatClampNeg).toInt ≠ -1 ∧ (0 ≤ ii.toInt ∧ ii.toInt < (gz sn.toNatClampNeg).toInt))))) L sz) 0 0 (z_A L sz) := by
  refine z_met (cc := cX9_write) (maxL := 5) (ret := (some .int)) (lv := [(0, .ref xo), (1, .int sn), (2, .int ii), (3, .long vv)]) (by decide) rfl (Nat.le_of_ble_eq_true rfl) rfl ?_
  intro p e s m below meth c ls hx hb hr hlk hml hown hnm hts hKK hA hw hl
  have hK := hKK.1.1
  have hown : s.vm.findClass RX9 = some m.cls := hown
  have hT : ∀ w ∈ lw_all, w.before ([.ref xo, .int sn, .int ii, .long vv] : List Value).toArray s = true := fun w h => hts w (z_cons w h)
  have hsub : L = L := rfl
  have hfr : ∀ b ∈ L, b ≠ rr → f b = f b := fun _ _ _ => rfl
  refine lv_iload_n hx hb dX9_write_0 rfl (lv_at hl 1 rfl) ?_
  refine z_calliS (cells := 0) (slots := 0) (As := [.int sn]) (rest := []) ⟨hx, hb, hml, hown, hT⟩ (c_X6_isSlot l ) (va_cwS 1 hT (z_goodS (fun _ h => h) kw_999 kw_1000 kw_90 kw_1001) rfl rfl rfl (by decide +kernel) ⟨by decide, by decide⟩) z_mv hKK hw hA rfl hl.1 rfl (Nat.le_of_ble_eq_true rfl) dX9_write_1 ⟨by decide, by decide⟩ (fun r1 u H locs hp hw => ?_)
  obtain ⟨rfl, hp⟩ := hp
  have hw : z_H D vwCl (z_A L sz) s.heap L f H locs := hw
  rcases hp with ⟨rfl, h2⟩ | ⟨rfl, h2⟩
  · skip
    refine z_if_ne (tgt := 10) hx hb (show (1 : Int32).toInt = 1 by decide) dX9_write_4 (by decide) (fun _ => ?_) (fun h => absurd h (by decide))
    refine lv_aload_n hx hb dX9_write_10 rfl (lv_at hl 0 rfl) ?_
    have hgb := hgb0 (by omega) (by omega)
    refine z_get (C := RX9) (T := TX9) (N := 11) (ci := 9) (v := .ref sl) hx hb hT zin_X9 hown hK hw hm_xo hf_xo rfl 6 (by decide) (hT _ kw_483) rfl dX9_write_11 ?_
    refine lv_iload_n hx hb dX9_write_14 rfl (lv_at hl 1 rfl) ?_
    refine z_calliV (cells := 0) (slots := 0) (b := sl) (As := [.int sn]) (rest := []) (ci := 6) (q0 := (RX6, TX6, 3)) ⟨hx, hb, hml, hown, hT⟩ (c_X6_hasRow l hm_sl hm_si hf_sl hf_si (by first | omega | decide | assumption)) (cwV 1 hT (z_goodV (fun _ h => h) kw_1002 kw_1003 kw_1004 kw_90 kw_1005) rfl rfl rfl (by decide +kernel) ⟨by decide, by decide⟩) z_mv hKK hK hw hA hm_sl hf_sl rfl rfl rfl hl.1 rfl (Nat.le_of_ble_eq_true rfl) dX9_write_15 ⟨by decide, by decide⟩ (fun r3 u H locs hp hw => ?_)
    obtain ⟨rfl, hp⟩ := hp
    have hw : z_H D vwCl (z_A L sz) s.heap L f H locs := hw
    rcases hp with ⟨rfl, h4⟩ | ⟨rfl, h4⟩
    · skip
      refine z_if_ne (tgt := 24) hx hb (show (1 : Int32).toInt = 1 by decide) dX9_write_18 (by decide) (fun _ => ?_) (fun h => absurd h (by decide))
      refine lv_iload_n hx hb dX9_write_24 rfl (lv_at hl 2 rfl) ?_
      refine z_if_lt (tgt := 41) hx hb rfl dX9_write_25 (by decide) (fun c5 => ?_) (fun c5 => ?_)
      · skip
        refine lv_bipush (v := (-7)) hx hb dX9_write_41 (by decide) ?_
        exact z_iret hx hb hr hlk (by decide) (by decide) hw (⟨hsub, hfr, gr, hf_rr, Or.inr (Or.inr (Or.inl ⟨rfl, by omega, by assumption, by omega⟩))⟩) dX9_write_43
      · skip
        refine lv_iload_n hx hb dX9_write_28 rfl (lv_at hl 2 rfl) ?_
        refine lv_aload_n hx hb dX9_write_29 rfl (lv_at hl 0 rfl) ?_
        refine z_get (C := RX9) (T := TX9) (N := 11) (ci := 9) (v := .ref sl) hx hb hT zin_X9 hown hK hw hm_xo hf_xo rfl 6 (by decide) (hT _ kw_483) rfl dX9_write_30 ?_
        refine z_get (C := RX6) (T := TX6) (N := 3) (ci := 6) (v := .ref si) hx hb hT zin_X6 hown hK hw hm_sl hf_sl rfl 2 (by decide) (hT _ kw_326) rfl dX9_write_33 ?_
        refine lv_iload_n hx hb dX9_write_36 rfl (lv_at hl 1 rfl) ?_
        refine z_iald hx hb hK hw 1 hm_si hf_si rfl (z_ix rfl (by omega)) dX9_write_37 ?_
        refine lv_topi (fun w6 e_w6 => ?_)
        have hz_w6 : -1 ≤ w6.toInt ∧ w6.toInt ≤ 60 := by rw [e_w6]; exact hgz _ (z_clI rfl (by omega))
        refine z_icmp_lt (tgt := 44) hx hb rfl rfl dX9_write_38 (by decide) (fun c7 => ?_) (fun c7 => ?_)
        · skip
          refine lv_aload_n hx hb dX9_write_44 rfl (lv_at hl 0 rfl) ?_
          refine z_get (C := RX9) (T := TX9) (N := 11) (ci := 9) (v := .ref sl) hx hb hT zin_X9 hown hK hw hm_xo hf_xo rfl 6 (by decide) (hT _ kw_483) rfl dX9_write_45 ?_
          refine z_get (C := RX6) (T := TX6) (N := 3) (ci := 6) (v := .ref nb) hx hb hT zin_X6 hown hK hw hm_sl hf_sl rfl 0 (by decide) (hT _ kw_321) rfl dX9_write_48 ?_
          refine lv_iload_n hx hb dX9_write_51 rfl (lv_at hl 1 rfl) ?_
          refine z_aaldA (b := rr) hx hb hK hw 6 hm_nb hf_nb rfl (z_ix rfl (by omega)) hgb dX9_write_52 ?_
          refine lv_iload_n hx hb dX9_write_53 rfl (lv_at hl 2 rfl) ?_
          refine lv_lload_n hx hb dX9_write_54 rfl (lv_at hl 3 rfl) ?_
          refine lv_aload_n hx hb dX9_write_55 rfl (lv_at hl 0 rfl) ?_
          refine z_get (C := RX9) (T := TX9) (N := 11) (ci := 9) (v := .ref sl) hx hb hT zin_X9 hown hK hw hm_xo hf_xo rfl 6 (by decide) (hT _ kw_483) rfl dX9_write_56 ?_
          refine z_get (C := RX6) (T := TX6) (N := 3) (ci := 6) (v := .ref wi) hx hb hT zin_X6 hown hK hw hm_sl hf_sl rfl 1 (by decide) (hT _ kw_323) rfl dX9_write_59 ?_
          refine lv_iload_n hx hb dX9_write_62 rfl (lv_at hl 1 rfl) ?_
          refine z_iald hx hb hK hw 1 hm_wi hf_wi rfl (z_ix rfl (by omega)) dX9_write_63 ?_
          refine lv_topi (fun w8 e_w8 => ?_)
          refine z_calllS (cells := 0) (slots := 0) (As := [.long vv, .int w8]) (rest := [.int ii, .ref rr]) ⟨hx, hb, hml, hown, hT⟩ (c_X6_cut l ) (va_cwS 2 hT (z_goodS (fun _ h => h) kw_1150 kw_1151 kw_90 kw_1152) rfl rfl rfl (by decide +kernel) ⟨by decide, by decide⟩) z_mv hKK hw hA rfl hl.1 rfl (Nat.le_of_ble_eq_true rfl) dX9_write_64 ⟨by decide, by decide⟩ (fun r9 u H locs hp hw => ?_)
          obtain ⟨rfl, hp⟩ := hp
          have hw : z_H D vwCl (z_A L sz) s.heap L f H locs := hw
          refine z_last hx hb hK hw 2 hm_rr hf_rr rfl (z_ix rfl (by omega)) dX9_write_67 (fun H locs hw => ?_)
          obtain ⟨f11, e_f11⟩ : ∃ z, z = va_up f rr (.inl (cy 2, 60, .inr (.inl (vp_updL gr ii.toNatClampNeg r9)))) := ⟨_, rfl⟩
          rw [← e_f11] at hw
          have hf_xo : f11 xo = .inr (9, [.ref tp, .ref rd, .ref mo, .ref dmo, .ref im, .ref kp, .ref sl, .ref wk, .ref pl, .ref oo, .ref mx]) := (congrFun e_f11 xo).trans (z_up_ne (z_tne hf_xo hf_rr (m := 9) (n := 581) rfl rfl (by decide)) hf_xo)
          have hf_sl : f11 sl = .inr (6, [.ref nb, .ref wi, .ref si]) := (congrFun e_f11 sl).trans (z_up_ne (z_tne hf_sl hf_rr (m := 6) (n := 581) rfl rfl (by decide)) hf_sl)
          have hf_nb : f11 nb = .inl (cy 6, 4, .inr (.inr (.inr (.inr gb)))) := (congrFun e_f11 nb).trans (z_up_ne (z_tne hf_nb hf_rr (m := 134) (n := 581) rfl rfl (by decide)) hf_nb)
          have hf_wi : f11 wi = .inl (cy 1, 4, .inl gw) := (congrFun e_f11 wi).trans (z_up_ne (z_tne hf_wi hf_rr (m := 132) (n := 581) rfl rfl (by decide)) hf_wi)
          have hf_si : f11 si = .inl (cy 1, 4, .inl gz) := (congrFun e_f11 si).trans (z_up_ne (z_tne hf_si hf_rr (m := 132) (n := 581) rfl rfl (by decide)) hf_si)
          have hf_rr : f11 rr = .inl (cy 2, 60, .inr (.inl (vp_updL gr ii.toNatClampNeg r9))) := (congrFun e_f11 rr).trans z_up_self
          have hfr : ∀ b ∈ L, b ≠ rr → f11 b = f b := fun b hb h0 => (congrFun e_f11 b).trans (z_up_ne h0 (hfr b hb h0))
          obtain ⟨g10, e_g10⟩ : ∃ z, z = (vp_updL gr ii.toNatClampNeg r9) := ⟨_, rfl⟩
          rw [← e_g10] at hf_rr
          refine lv_iconst (v := 0) hx hb dX9_write_68 (by decide) ?_
          exact z_iret hx hb hr hlk (by decide) (by decide) hw (⟨hsub, hfr, g10, hf_rr, Or.inr (Or.inr (Or.inr ⟨rfl, by omega, by assumption, by rw [← e_w6]; omega⟩))⟩) dX9_write_69
        · skip
          refine lv_bipush (v := (-7)) hx hb dX9_write_41 (by decide) ?_
          exact z_iret hx hb hr hlk (by decide) (by decide) hw (⟨hsub, hfr, gr, hf_rr, Or.inr (Or.inr (Or.inl ⟨rfl, by omega, by assumption, by rw [← e_w6]; omega⟩))⟩) dX9_write_43
    · skip
      refine z_if_ne (tgt := 24) hx hb (show (0 : Int32).toInt = 0 by decide) dX9_write_18 (by decide) (fun h => absurd h (by decide)) (fun _ => ?_)
      refine lv_bipush (v := (-6)) hx hb dX9_write_21 (by decide) ?_
      exact z_iret hx hb hr hlk (by decide) (by decide) hw (⟨hsub, hfr, gr, hf_rr, Or.inr (Or.inl ⟨rfl, by omega, by assumption⟩)⟩) dX9_write_23
  · skip
    refine z_if_ne (tgt := 10) hx hb (show (0 : Int32).toInt = 0 by decide) dX9_write_4 (by decide) (fun h => absurd h (by decide)) (fun _ => ?_)
    refine lv_bipush (v := (-2)) hx hb dX9_write_7 (by decide) ?_
    exact z_iret hx hb hr hlk (by decide) (by decide) hw (⟨hsub, hfr, gr, hf_rr, Or.inl ⟨rfl, by omega⟩⟩) dX9_write_9

set_option maxHeartbeats 2000000 in
set_option maxRecDepth 100000 in
theorem c_X9_paste (l : Launch) {D : va_G} {cy : Nat → ClassId} {L : List Nat} {f : Nat → va_E} {sz : Nat} {adK adV : Nat → Nat} {xo tp rd mo dmo im kp sl wk pl oo mx : Nat} {nb wi si rr : Nat} {gw gz : Nat → Int32} {gb : Nat → Option Nat} {gr : Nat → Int64} {rt : Nat} {gr2 : Nat → Int64} {sn ii tn ki nn : Int32} (hm_xo : xo ∈ L) (hm_sl : sl ∈ L) (hm_nb : nb ∈ L) (hm_wi : wi ∈ L) (hm_si : si ∈ L) (hm_rr : rr ∈ L) (hm_rt : rt ∈ L) (hf_xo : f xo = .inr (9, [.ref tp, .ref rd, .ref mo, .ref dmo, .ref im, .ref kp, .ref sl, .ref wk, .ref pl, .ref oo, .ref mx])) (hf_sl : f sl = .inr (6, [.ref nb, .ref wi, .ref si])) (hf_nb : f nb = .inl (cy 6, 4, .inr (.inr (.inr (.inr gb))))) (hf_wi : f wi = .inl (cy 1, 4, .inl gw)) (hf_si : f si = .inl (cy 1, 4, .inl gz)) (hf_rr : f rr = .inl (cy 2, 60, .inr (.inl gr))) (hf_rt : f rt = .inl (cy 2, 60, .inr (.inl gr2))) (ne_wi_si : wi ≠ si) (ne_rr_rt : rr ≠ rt) (hgz : ∀ j : Nat, j < 4 → -1 ≤ (gz j).toInt ∧ (gz j).toInt ≤ 60) (hgb0 : 0 ≤ sn.toInt → sn.toInt ≤ 3 → gb sn.toNatClampNeg = some rr) (hgb1 : 0 ≤ tn.toInt → tn.toInt ≤ 3 → gb tn.toNatClampNeg = some rt) : Met l yX9_paste (z_ws yX9_paste cX9_paste 6 (some .int)) (z_R 2 0 0) (va_Pc [.ref xo, .int sn, .int ii, .int tn, .int ki, .int nn] (z_Pre D vwCl (z_KK D cy adK adV) L f sz)) (z_Qi D vwCl (fun r u => L = u.1 ∧ (∀ b ∈ L, b ≠ rt → u.2 b = f b) ∧ (∃ (r2 : Nat → Int64), (u.2 rt = .inl (cy 2, 60, .inr (.inl r2))) ∧ ((r = -2 ∧ ¬ ((0 ≤ sn.toInt ∧ sn.toInt ≤ 3) ∧ (0 ≤ tn.toInt ∧ tn.toInt ≤ 3))) ∨ (r = -6 ∧ ((0 ≤ sn.toInt ∧ sn.toInt ≤ 3) ∧ (0 ≤ tn.toInt ∧ tn.toInt ≤ 3)) ∧ ((gz sn.toNatClampNeg).toInt = -1 ∨ (gz tn.toNatClampNeg).toInt = -1)) ∨ (r = -8 ∧ ((0 ≤ sn.toInt ∧ sn.toInt ≤ 3) ∧ (0 ≤ tn.toInt ∧ tn.toInt ≤ 3)) ∧ (gz sn.toNatClampNeg).toInt ≠ -1 ∧ (gz tn.toNatClampNeg).toInt ≠ -1 ∧ (gw sn.toNatClampNeg).toInt ≠ (gw tn.toNatClampNeg).toInt) ∨ (r = -7 ∧ ((0 ≤ sn.toInt ∧ sn.toInt ≤ 3) ∧ (0 ≤ tn.toInt ∧ tn.toInt ≤ 3)) ∧ (gz sn.toNatClampNeg).toInt ≠ -1 ∧ (gz tn.toNatClampNeg).toInt ≠ -1 ∧ (gw sn.toNatClampNeg).toInt = (gw tn.toNatClampNeg).toInt ∧ ¬ ((0 ≤ ii.toInt ∧ 0 ≤ nn.toInt ∧ ii.toInt + nn.toInt ≤ (gz sn.toNatClampNeg).toInt) ∧ (0 ≤ ki.toInt ∧ 0 ≤ nn.toInt ∧ ki.toInt + nn.toInt ≤ (gz tn.toNatClampNeg).toInt))) ∨ (r = 0 ∧ ((0 ≤ sn.toInt ∧ sn.toInt ≤ 3) ∧ (0 ≤ tn.toInt ∧ tn.toInt ≤ 3)) ∧ (gz sn.toNatClampNeg).toInt ≠ -1 ∧ (gz tn.toNatClampNeg).toInt ≠ -1 ∧ (gw sn.toNatClampNeg).toInt = (gw tn.toNatClampNeg).toInt ∧ ((0 ≤ ii.toInt ∧ 0 ≤ nn.toInt ∧ ii.toInt + nn.toInt ≤ (gz sn.toNatClampNeg).toInt) ∧ (0 ≤ ki.toInt ∧ 0 ≤ nn.toInt ∧ ki.toInt + nn.toInt ≤ (gz tn.toNatClampNeg).toInt)))))) L sz) 0 0 (z_A L sz) := by
  refine z_met (cc := cX9_paste) (maxL := 6) (ret := (some .int)) (lv := [(0, .ref xo), (1, .int sn), (2, .int ii), (3, .int tn), (4, .int ki), (5, .int nn)]) (by decide) rfl (Nat.le_of_ble_eq_true rfl) rfl ?_
  intro p e s m below meth c ls hx hb hr hlk hml hown hnm hts hKK hA hw hl
  have hK := hKK.1.1
  have hown : s.vm.findClass RX9 = some m.cls := hown
  have hT : ∀ w ∈ lw_all, w.before ([.ref xo, .int sn, .int ii, .int tn, .int ki, .int nn] : List Value).toArray s = true := fun w h => hts w (z_cons w h)
  have hsub : L = L := rfl
  have hfr : ∀ b ∈ L, b ≠ rt → f b = f b := fun _ _ _ => rfl
  refine lv_iload_n hx hb dX9_paste_0 rfl (lv_at hl 1 rfl) ?_
  refine z_calliS (cells := 0) (slots := 0) (As := [.int sn]) (rest := []) ⟨hx, hb, hml, hown, hT⟩ (c_X6_isSlot l ) (va_cwS 1 hT (z_goodS (fun _ h => h) kw_999 kw_1000 kw_90 kw_1001) rfl rfl rfl (by decide +kernel) ⟨by decide, by decide⟩) z_mv hKK hw hA rfl hl.1 rfl (Nat.le_of_ble_eq_true rfl) dX9_paste_1 ⟨by decide, by decide⟩ (fun r1 u H locs hp hw => ?_)
  obtain ⟨rfl, hp⟩ := hp
  have hw : z_H D vwCl (z_A L sz) s.heap L f H locs := hw
  rcases hp with ⟨rfl, h2⟩ | ⟨rfl, h2⟩
  · skip
    refine z_if_eq (tgt := 14) hx hb (show (1 : Int32).toInt = 1 by decide) dX9_paste_4 (by decide) (fun h => absurd h (by decide)) (fun _ => ?_)
    refine lv_iload_n hx hb dX9_paste_7 rfl (lv_at hl 3 rfl) ?_
    refine z_calliS (cells := 0) (slots := 0) (As := [.int tn]) (rest := []) ⟨hx, hb, hml, hown, hT⟩ (c_X6_isSlot l ) (va_cwS 1 hT (z_goodS (fun _ h => h) kw_999 kw_1000 kw_90 kw_1001) rfl rfl rfl (by decide +kernel) ⟨by decide, by decide⟩) z_mv hKK hw hA rfl hl.1 rfl (Nat.le_of_ble_eq_true rfl) dX9_paste_8 ⟨by decide, by decide⟩ (fun r3 u H locs hp hw => ?_)
    obtain ⟨rfl, hp⟩ := hp
    have hw : z_H D vwCl (z_A L sz) s.heap L f H locs := hw
    rcases hp with ⟨rfl, h4⟩ | ⟨rfl, h4⟩
    · skip
      refine z_if_ne (tgt := 17) hx hb (show (1 : Int32).toInt = 1 by decide) dX9_paste_11 (by decide) (fun _ => ?_) (fun h => absurd h (by decide))
      refine lv_aload_n hx hb dX9_paste_17 rfl (lv_at hl 0 rfl) ?_
      have hgb := hgb0 (by omega) (by omega)
      have hgbt := hgb1 (by omega) (by omega)
      refine z_get (C := RX9) (T := TX9) (N := 11) (ci := 9) (v := .ref sl) hx hb hT zin_X9 hown hK hw hm_xo hf_xo rfl 6 (by decide) (hT _ kw_483) rfl dX9_paste_18 ?_
      refine lv_iload_n hx hb dX9_paste_21 rfl (lv_at hl 1 rfl) ?_
      refine z_calliV (cells := 0) (slots := 0) (b := sl) (As := [.int sn]) (rest := []) (ci := 6) (q0 := (RX6, TX6, 3)) ⟨hx, hb, hml, hown, hT⟩ (c_X6_hasRow l hm_sl hm_si hf_sl hf_si (by first | omega | decide | assumption)) (cwV 1 hT (z_goodV (fun _ h => h) kw_1002 kw_1003 kw_1004 kw_90 kw_1005) rfl rfl rfl (by decide +kernel) ⟨by decide, by decide⟩) z_mv hKK hK hw hA hm_sl hf_sl rfl rfl rfl hl.1 rfl (Nat.le_of_ble_eq_true rfl) dX9_paste_22 ⟨by decide, by decide⟩ (fun r5 u H locs hp hw => ?_)
      obtain ⟨rfl, hp⟩ := hp
      have hw : z_H D vwCl (z_A L sz) s.heap L f H locs := hw
      rcases hp with ⟨rfl, h6⟩ | ⟨rfl, h6⟩
      · skip
        refine z_if_eq (tgt := 39) hx hb (show (1 : Int32).toInt = 1 by decide) dX9_paste_25 (by decide) (fun h => absurd h (by decide)) (fun _ => ?_)
        refine lv_aload_n hx hb dX9_paste_28 rfl (lv_at hl 0 rfl) ?_
        refine z_get (C := RX9) (T := TX9) (N := 11) (ci := 9) (v := .ref sl) hx hb hT zin_X9 hown hK hw hm_xo hf_xo rfl 6 (by decide) (hT _ kw_483) rfl dX9_paste_29 ?_
        refine lv_iload_n hx hb dX9_paste_32 rfl (lv_at hl 3 rfl) ?_
        refine z_calliV (cells := 0) (slots := 0) (b := sl) (As := [.int tn]) (rest := []) (ci := 6) (q0 := (RX6, TX6, 3)) ⟨hx, hb, hml, hown, hT⟩ (c_X6_hasRow l hm_sl hm_si hf_sl hf_si (by first | omega | decide | assumption)) (cwV 1 hT (z_goodV (fun _ h => h) kw_1002 kw_1003 kw_1004 kw_90 kw_1005) rfl rfl rfl (by decide +kernel) ⟨by decide, by decide⟩) z_mv hKK hK hw hA hm_sl hf_sl rfl rfl rfl hl.1 rfl (Nat.le_of_ble_eq_true rfl) dX9_paste_33 ⟨by decide, by decide⟩ (fun r7 u H locs hp hw => ?_)
        obtain ⟨rfl, hp⟩ := hp
        have hw : z_H D vwCl (z_A L sz) s.heap L f H locs := hw
        rcases hp with ⟨rfl, h8⟩ | ⟨rfl, h8⟩
        · skip
          refine z_if_ne (tgt := 42) hx hb (show (1 : Int32).toInt = 1 by decide) dX9_paste_36 (by decide) (fun _ => ?_) (fun h => absurd h (by decide))
          refine lv_aload_n hx hb dX9_paste_42 rfl (lv_at hl 0 rfl) ?_
          refine z_get (C := RX9) (T := TX9) (N := 11) (ci := 9) (v := .ref sl) hx hb hT zin_X9 hown hK hw hm_xo hf_xo rfl 6 (by decide) (hT _ kw_483) rfl dX9_paste_43 ?_
          refine z_get (C := RX6) (T := TX6) (N := 3) (ci := 6) (v := .ref wi) hx hb hT zin_X6 hown hK hw hm_sl hf_sl rfl 1 (by decide) (hT _ kw_323) rfl dX9_paste_46 ?_
          refine lv_iload_n hx hb dX9_paste_49 rfl (lv_at hl 1 rfl) ?_
          refine z_iald hx hb hK hw 1 hm_wi hf_wi rfl (z_ix rfl (by omega)) dX9_paste_50 ?_
          refine lv_topi (fun w9 e_w9 => ?_)
          refine lv_aload_n hx hb dX9_paste_51 rfl (lv_at hl 0 rfl) ?_
          refine z_get (C := RX9) (T := TX9) (N := 11) (ci := 9) (v := .ref sl) hx hb hT zin_X9 hown hK hw hm_xo hf_xo rfl 6 (by decide) (hT _ kw_483) rfl dX9_paste_52 ?_
          refine z_get (C := RX6) (T := TX6) (N := 3) (ci := 6) (v := .ref wi) hx hb hT zin_X6 hown hK hw hm_sl hf_sl rfl 1 (by decide) (hT _ kw_323) rfl dX9_paste_55 ?_
          refine lv_iload_n hx hb dX9_paste_58 rfl (lv_at hl 3 rfl) ?_
          refine z_iald hx hb hK hw 1 hm_wi hf_wi rfl (z_ix rfl (by omega)) dX9_paste_59 ?_
          refine lv_topi (fun w10 e_w10 => ?_)
          have hws_ := congrArg Int32.toInt e_w9
          have hwt_ := congrArg Int32.toInt e_w10
          refine z_icmp_eq (tgt := 66) hx hb rfl rfl dX9_paste_60 (by decide) (fun c11 => ?_) (fun c11 => ?_)
          · skip
            refine lv_aload_n hx hb dX9_paste_66 rfl (lv_at hl 0 rfl) ?_
            refine z_get (C := RX9) (T := TX9) (N := 11) (ci := 9) (v := .ref sl) hx hb hT zin_X9 hown hK hw hm_xo hf_xo rfl 6 (by decide) (hT _ kw_483) rfl dX9_paste_67 ?_
            refine lv_iload_n hx hb dX9_paste_70 rfl (lv_at hl 1 rfl) ?_
            refine lv_iload_n hx hb dX9_paste_71 rfl (lv_at hl 2 rfl) ?_
            refine lv_iload hx hb dX9_paste_72 (lv_at hl 5 rfl) ?_
            refine z_calliV (cells := 0) (slots := 0) (b := sl) (As := [.int sn, .int ii, .int nn]) (rest := []) (ci := 6) (q0 := (RX6, TX6, 3)) ⟨hx, hb, hml, hown, hT⟩ (c_X6_reaches l hm_sl hm_si hf_sl hf_si (by first | omega | decide | assumption) hgz) (cwV 3 hT (z_goodV (fun _ h => h) kw_1157 kw_1158 kw_1159 kw_90 kw_1160) rfl rfl rfl (by decide +kernel) ⟨by decide, by decide⟩) z_mv hKK hK hw hA hm_sl hf_sl rfl rfl rfl hl.1 rfl (Nat.le_of_ble_eq_true rfl) dX9_paste_74 ⟨by decide, by decide⟩ (fun r12 u H locs hp hw => ?_)
            obtain ⟨rfl, hp⟩ := hp
            have hw : z_H D vwCl (z_A L sz) s.heap L f H locs := hw
            rcases hp with ⟨rfl, h13⟩ | ⟨rfl, h13⟩
            · skip
              refine z_if_eq (tgt := 95) hx hb (show (1 : Int32).toInt = 1 by decide) dX9_paste_77 (by decide) (fun h => absurd h (by decide)) (fun _ => ?_)
              refine lv_aload_n hx hb dX9_paste_80 rfl (lv_at hl 0 rfl) ?_
              refine z_get (C := RX9) (T := TX9) (N := 11) (ci := 9) (v := .ref sl) hx hb hT zin_X9 hown hK hw hm_xo hf_xo rfl 6 (by decide) (hT _ kw_483) rfl dX9_paste_81 ?_
              refine lv_iload_n hx hb dX9_paste_84 rfl (lv_at hl 3 rfl) ?_
              refine lv_iload hx hb dX9_paste_85 (lv_at hl 4 rfl) ?_
              refine lv_iload hx hb dX9_paste_87 (lv_at hl 5 rfl) ?_
              refine z_calliV (cells := 0) (slots := 0) (b := sl) (As := [.int tn, .int ki, .int nn]) (rest := []) (ci := 6) (q0 := (RX6, TX6, 3)) ⟨hx, hb, hml, hown, hT⟩ (c_X6_reaches l hm_sl hm_si hf_sl hf_si (by first | omega | decide | assumption) hgz) (cwV 3 hT (z_goodV (fun _ h => h) kw_1157 kw_1158 kw_1159 kw_90 kw_1160) rfl rfl rfl (by decide +kernel) ⟨by decide, by decide⟩) z_mv hKK hK hw hA hm_sl hf_sl rfl rfl rfl hl.1 rfl (Nat.le_of_ble_eq_true rfl) dX9_paste_89 ⟨by decide, by decide⟩ (fun r14 u H locs hp hw => ?_)
              obtain ⟨rfl, hp⟩ := hp
              have hw : z_H D vwCl (z_A L sz) s.heap L f H locs := hw
              rcases hp with ⟨rfl, h15⟩ | ⟨rfl, h15⟩
              · skip
                refine z_if_ne (tgt := 98) hx hb (show (1 : Int32).toInt = 1 by decide) dX9_paste_92 (by decide) (fun _ => ?_) (fun h => absurd h (by decide))
                refine lv_aload_n hx hb dX9_paste_98 rfl (lv_at hl 0 rfl) ?_
                refine z_get (C := RX9) (T := TX9) (N := 11) (ci := 9) (v := .ref sl) hx hb hT zin_X9 hown hK hw hm_xo hf_xo rfl 6 (by decide) (hT _ kw_483) rfl dX9_paste_99 ?_
                refine z_get (C := RX6) (T := TX6) (N := 3) (ci := 6) (v := .ref nb) hx hb hT zin_X6 hown hK hw hm_sl hf_sl rfl 0 (by decide) (hT _ kw_321) rfl dX9_paste_102 ?_
                refine lv_iload_n hx hb dX9_paste_105 rfl (lv_at hl 1 rfl) ?_
                refine z_aaldA (b := rr) hx hb hK hw 6 hm_nb hf_nb rfl (z_ix rfl (by omega)) hgb dX9_paste_106 ?_
                refine lv_iload_n hx hb dX9_paste_107 rfl (lv_at hl 2 rfl) ?_
                refine lv_aload_n hx hb dX9_paste_108 rfl (lv_at hl 0 rfl) ?_
                refine z_get (C := RX9) (T := TX9) (N := 11) (ci := 9) (v := .ref sl) hx hb hT zin_X9 hown hK hw hm_xo hf_xo rfl 6 (by decide) (hT _ kw_483) rfl dX9_paste_109 ?_
                refine z_get (C := RX6) (T := TX6) (N := 3) (ci := 6) (v := .ref nb) hx hb hT zin_X6 hown hK hw hm_sl hf_sl rfl 0 (by decide) (hT _ kw_321) rfl dX9_paste_112 ?_
                refine lv_iload_n hx hb dX9_paste_115 rfl (lv_at hl 3 rfl) ?_
                refine z_aaldA (b := rt) hx hb hK hw 6 hm_nb hf_nb rfl (z_ix rfl (by omega)) hgbt dX9_paste_116 ?_
                refine lv_iload hx hb dX9_paste_117 (lv_at hl 4 rfl) ?_
                refine lv_iload hx hb dX9_paste_119 (lv_at hl 5 rfl) ?_
                refine z_copyl (t0 := 2) hx hb (by rw [hml]; exact hl.1.symm) hown (hT _ kc_lX9) (hT _ kc_n) (hT _ kc_s) (hT _ kc_i) hK hw (ha0 := hm_rr) (he0 := hf_rr) (ha1 := hm_rt) (he1 := hf_rt) (ht := rfl) (h1 := z_nneg (by omega)) (h2 := z_nneg (by omega)) (h3 := z_nneg (by omega)) (h4 := z_cad (by omega) (by omega) (by omega)) (h5 := z_cad (by omega) (by omega) (by omega)) (hframes := Nat.le_of_ble_eq_true rfl) (hlocals := Nat.le_of_ble_eq_true rfl) (hdg := dX9_paste_121) (kk := fun H locs hw => ?_)
                obtain ⟨f16, e_f16⟩ : ∃ z, z = va_up f rt (.inl (cy 2, 60, .inr (.inl (va_cpy gr gr2 ii.toNatClampNeg ki.toNatClampNeg nn.toNatClampNeg)))) := ⟨_, rfl⟩
                rw [← e_f16] at hw
                have hf_xo : f16 xo = .inr (9, [.ref tp, .ref rd, .ref mo, .ref dmo, .ref im, .ref kp, .ref sl, .ref wk, .ref pl, .ref oo, .ref mx]) := (congrFun e_f16 xo).trans (z_up_ne (z_tne hf_xo hf_rt (m := 9) (n := 581) rfl rfl (by decide)) hf_xo)
                have hf_sl : f16 sl = .inr (6, [.ref nb, .ref wi, .ref si]) := (congrFun e_f16 sl).trans (z_up_ne (z_tne hf_sl hf_rt (m := 6) (n := 581) rfl rfl (by decide)) hf_sl)
                have hf_nb : f16 nb = .inl (cy 6, 4, .inr (.inr (.inr (.inr gb)))) := (congrFun e_f16 nb).trans (z_up_ne (z_tne hf_nb hf_rt (m := 134) (n := 581) rfl rfl (by decide)) hf_nb)
                have hf_wi : f16 wi = .inl (cy 1, 4, .inl gw) := (congrFun e_f16 wi).trans (z_up_ne (z_tne hf_wi hf_rt (m := 132) (n := 581) rfl rfl (by decide)) hf_wi)
                have hf_si : f16 si = .inl (cy 1, 4, .inl gz) := (congrFun e_f16 si).trans (z_up_ne (z_tne hf_si hf_rt (m := 132) (n := 581) rfl rfl (by decide)) hf_si)
                have hf_rr : f16 rr = .inl (cy 2, 60, .inr (.inl gr)) := (congrFun e_f16 rr).trans (z_up_ne ne_rr_rt hf_rr)
                have hf_rt : f16 rt = .inl (cy 2, 60, .inr (.inl (va_cpy gr gr2 ii.toNatClampNeg ki.toNatClampNeg nn.toNatClampNeg))) := (congrFun e_f16 rt).trans z_up_self
                have hfr : ∀ b ∈ L, b ≠ rt → f16 b = f b := fun b hb h0 => (congrFun e_f16 b).trans (z_up_ne h0 (hfr b hb h0))
                refine lv_iconst (v := 0) hx hb dX9_paste_124 (by decide) ?_
                exact z_iret hx hb hr hlk (by decide) (by decide) hw (⟨hsub, hfr, (va_cpy gr gr2 ii.toNatClampNeg ki.toNatClampNeg nn.toNatClampNeg), hf_rt, Or.inr (Or.inr (Or.inr (Or.inr ⟨rfl, by omega, by omega, by omega, by omega, by omega⟩)))⟩) dX9_paste_125
              · skip
                refine z_if_ne (tgt := 98) hx hb (show (0 : Int32).toInt = 0 by decide) dX9_paste_92 (by decide) (fun h => absurd h (by decide)) (fun _ => ?_)
                refine lv_bipush (v := (-7)) hx hb dX9_paste_95 (by decide) ?_
                exact z_iret hx hb hr hlk (by decide) (by decide) hw (⟨hsub, hfr, gr2, hf_rt, Or.inr (Or.inr (Or.inr (Or.inl ⟨rfl, by omega, by omega, by omega, by omega, by omega⟩)))⟩) dX9_paste_97
            · skip
              refine z_if_eq (tgt := 95) hx hb (show (0 : Int32).toInt = 0 by decide) dX9_paste_77 (by decide) (fun _ => ?_) (fun h => absurd h (by decide))
              refine lv_bipush (v := (-7)) hx hb dX9_paste_95 (by decide) ?_
              exact z_iret hx hb hr hlk (by decide) (by decide) hw (⟨hsub, hfr, gr2, hf_rt, Or.inr (Or.inr (Or.inr (Or.inl ⟨rfl, by omega, by omega, by omega, by omega, by omega⟩)))⟩) dX9_paste_97
          · skip
            refine lv_bipush (v := (-8)) hx hb dX9_paste_63 (by decide) ?_
            exact z_iret hx hb hr hlk (by decide) (by decide) hw (⟨hsub, hfr, gr2, hf_rt, Or.inr (Or.inr (Or.inl ⟨rfl, by omega, by omega, by omega, by omega⟩))⟩) dX9_paste_65
        · skip
          refine z_if_ne (tgt := 42) hx hb (show (0 : Int32).toInt = 0 by decide) dX9_paste_36 (by decide) (fun h => absurd h (by decide)) (fun _ => ?_)
          refine lv_bipush (v := (-6)) hx hb dX9_paste_39 (by decide) ?_
          exact z_iret hx hb hr hlk (by decide) (by decide) hw (⟨hsub, hfr, gr2, hf_rt, Or.inr (Or.inl ⟨rfl, by omega, by omega⟩)⟩) dX9_paste_41
      · skip
        refine z_if_eq (tgt := 39) hx hb (show (0 : Int32).toInt = 0 by decide) dX9_paste_25 (by decide) (fun _ => ?_) (fun h => absurd h (by decide))
        refine lv_bipush (v := (-6)) hx hb dX9_paste_39 (by decide) ?_
        exact z_iret hx hb hr hlk (by decide) (by decide) hw (⟨hsub, hfr, gr2, hf_rt, Or.inr (Or.inl ⟨rfl, by omega, by omega⟩)⟩) dX9_paste_41
    · skip
      refine z_if_ne (tgt := 17) hx hb (show (0 : Int32).toInt = 0 by decide) dX9_paste_11 (by decide) (fun h => absurd h (by decide)) (fun _ => ?_)
      refine lv_bipush (v := (-2)) hx hb dX9_paste_14 (by decide) ?_
      exact z_iret hx hb hr hlk (by decide) (by decide) hw (⟨hsub, hfr, gr2, hf_rt, Or.inl ⟨rfl, by omega⟩⟩) dX9_paste_16
  · skip
    refine z_if_eq (tgt := 14) hx hb (show (0 : Int32).toInt = 0 by decide) dX9_paste_4 (by decide) (fun _ => ?_) (fun h => absurd h (by decide))
    refine lv_bipush (v := (-2)) hx hb dX9_paste_14 (by decide) ?_
    exact z_iret hx hb hr hlk (by decide) (by decide) hw (⟨hsub, hfr, gr2, hf_rt, Or.inl ⟨rfl, by omega⟩⟩) dX9_paste_16

set_option maxHeartbeats 2000000 in
set_option maxRecDepth 100000 in
theorem c_X9_pasteS (l : Launch) {D : va_G} {cy : Nat → ClassId} {L : List Nat} {f : Nat → va_E} {sz : Nat} {adK adV : Nat → Nat} {xo tp rd mo dmo im kp sl wk pl oo mx : Nat} {nb wi si rr : Nat} {gw gz : Nat → Int32} {gb : Nat → Option Nat} {gr : Nat → Int64}   {sn ii tn ki nn : Int32} (hm_xo : xo ∈ L) (hm_sl : sl ∈ L) (hm_nb : nb ∈ L) (hm_wi : wi ∈ L) (hm_si : si ∈ L) (hm_rr : rr ∈ L) (hf_xo : f xo = .inr (9, [.ref tp, .ref rd, .ref mo, .ref dmo, .ref im, .ref kp, .ref sl, .ref wk, .ref pl, .ref oo, .ref mx])) (hf_sl : f sl = .inr (6, [.ref nb, .ref wi, .ref si])) (hf_nb : f nb = .inl (cy 6, 4, .inr (.inr (.inr (.inr gb))))) (hf_wi : f wi = .inl (cy 1, 4, .inl gw)) (hf_si : f si = .inl (cy 1, 4, .inl gz)) (hf_rr : f rr = .inl (cy 2, 60, .inr (.inl gr))) (ne_wi_si : wi ≠ si) (hgz : ∀ j : Nat, j < 4 → -1 ≤ (gz j).toInt ∧ (gz j).toInt ≤ 60) (hgb0 : 0 ≤ sn.toInt → sn.toInt ≤ 3 → gb sn.toNatClampNeg = some rr) (hgb1 : 0 ≤ tn.toInt → tn.toInt ≤ 3 → gb tn.toNatClampNeg = some rr) : Met l yX9_paste (z_ws yX9_paste cX9_paste 6 (some .int)) (z_R 2 0 0) (va_Pc [.ref xo, .int sn, .int ii, .int tn, .int ki, .int nn] (z_Pre D vwCl (z_KK D cy adK adV) L f sz)) (z_Qi D vwCl (fun r u => L = u.1 ∧ (∀ b ∈ L, b ≠ rr → u.2 b = f b) ∧ (∃ (r2 : Nat → Int64), (u.2 rr = .inl (cy 2, 60, .inr (.inl r2))) ∧ ((r = -2 ∧ ¬ ((0 ≤ sn.toInt ∧ sn.toInt ≤ 3) ∧ (0 ≤ tn.toInt ∧ tn.toInt ≤ 3))) ∨ (r = -6 ∧ ((0 ≤ sn.toInt ∧ sn.toInt ≤ 3) ∧ (0 ≤ tn.toInt ∧ tn.toInt ≤ 3)) ∧ ((gz sn.toNatClampNeg).toInt = -1 ∨ (gz tn.toNatClampNeg).toInt = -1)) ∨ (r = -8 ∧ ((0 ≤ sn.toInt ∧ sn.toInt ≤ 3) ∧ (0 ≤ tn.toInt ∧ tn.toInt ≤ 3)) ∧ (gz sn.toNatClampNeg).toInt ≠ -1 ∧ (gz tn.toNatClampNeg).toInt ≠ -1 ∧ (gw sn.toNatClampNeg).toInt ≠ (gw tn.toNatClampNeg).toInt) ∨ (r = -7 ∧ ((0 ≤ sn.toInt ∧ sn.toInt ≤ 3) ∧ (0 ≤ tn.toInt ∧ tn.toInt ≤ 3)) ∧ (gz sn.toNatClampNeg).toInt ≠ -1 ∧ (gz tn.toNatClampNeg).toInt ≠ -1 ∧ (gw sn.toNatClampNeg).toInt = (gw tn.toNatClampNeg).toInt ∧ ¬ ((0 ≤ ii.toInt ∧ 0 ≤ nn.toInt ∧ ii.toInt + nn.toInt ≤ (gz sn.toNatClampNeg).toInt) ∧ (0 ≤ ki.toInt ∧ 0 ≤ nn.toInt ∧ ki.toInt + nn.toInt ≤ (gz tn.toNatClampNeg).toInt))) ∨ (r = 0 ∧ ((0 ≤ sn.toInt ∧ sn.toInt ≤ 3) ∧ (0 ≤ tn.toInt ∧ tn.toInt ≤ 3)) ∧ (gz sn.toNatClampNeg).toInt ≠ -1 ∧ (gz tn.toNatClampNeg).toInt ≠ -1 ∧ (gw sn.toNatClampNeg).toInt = (gw tn.toNatClampNeg).toInt ∧ ((0 ≤ ii.toInt ∧ 0 ≤ nn.toInt ∧ ii.toInt + nn.toInt ≤ (gz sn.toNatClampNeg).toInt) ∧ (0 ≤ ki.toInt ∧ 0 ≤ nn.toInt ∧ ki.toInt + nn.toInt ≤ (gz tn.toNatClampNeg).toInt)))))) L sz) 0 0 (z_A L sz) := by
  refine z_met (cc := cX9_paste) (maxL := 6) (ret := (some .int)) (lv := [(0, .ref xo), (1, .int sn), (2, .int ii), (3, .int tn), (4, .int ki), (5, .int nn)]) (by decide) rfl (Nat.le_of_ble_eq_true rfl) rfl ?_
  intro p e s m below meth c ls hx hb hr hlk hml hown hnm hts hKK hA hw hl
  have hK := hKK.1.1
  have hown : s.vm.findClass RX9 = some m.cls := hown
  have hT : ∀ w ∈ lw_all, w.before ([.ref xo, .int sn, .int ii, .int tn, .int ki, .int nn] : List Value).toArray s = true := fun w h => hts w (z_cons w h)
  have hsub : L = L := rfl
  have hfr : ∀ b ∈ L, b ≠ rr → f b = f b := fun _ _ _ => rfl
  refine lv_iload_n hx hb dX9_paste_0 rfl (lv_at hl 1 rfl) ?_
  refine z_calliS (cells := 0) (slots := 0) (As := [.int sn]) (rest := []) ⟨hx, hb, hml, hown, hT⟩ (c_X6_isSlot l ) (va_cwS 1 hT (z_goodS (fun _ h => h) kw_999 kw_1000 kw_90 kw_1001) rfl rfl rfl (by decide +kernel) ⟨by decide, by decide⟩) z_mv hKK hw hA rfl hl.1 rfl (Nat.le_of_ble_eq_true rfl) dX9_paste_1 ⟨by decide, by decide⟩ (fun r1 u H locs hp hw => ?_)
  obtain ⟨rfl, hp⟩ := hp
  have hw : z_H D vwCl (z_A L sz) s.heap L f H locs := hw
  rcases hp with ⟨rfl, h2⟩ | ⟨rfl, h2⟩
  · skip
    refine z_if_eq (tgt := 14) hx hb (show (1 : Int32).toInt = 1 by decide) dX9_paste_4 (by decide) (fun h => absurd h (by decide)) (fun _ => ?_)
    refine lv_iload_n hx hb dX9_paste_7 rfl (lv_at hl 3 rfl) ?_
    refine z_calliS (cells := 0) (slots := 0) (As := [.int tn]) (rest := []) ⟨hx, hb, hml, hown, hT⟩ (c_X6_isSlot l ) (va_cwS 1 hT (z_goodS (fun _ h => h) kw_999 kw_1000 kw_90 kw_1001) rfl rfl rfl (by decide +kernel) ⟨by decide, by decide⟩) z_mv hKK hw hA rfl hl.1 rfl (Nat.le_of_ble_eq_true rfl) dX9_paste_8 ⟨by decide, by decide⟩ (fun r3 u H locs hp hw => ?_)
    obtain ⟨rfl, hp⟩ := hp
    have hw : z_H D vwCl (z_A L sz) s.heap L f H locs := hw
    rcases hp with ⟨rfl, h4⟩ | ⟨rfl, h4⟩
    · skip
      refine z_if_ne (tgt := 17) hx hb (show (1 : Int32).toInt = 1 by decide) dX9_paste_11 (by decide) (fun _ => ?_) (fun h => absurd h (by decide))
      refine lv_aload_n hx hb dX9_paste_17 rfl (lv_at hl 0 rfl) ?_
      have hgb := hgb0 (by omega) (by omega)
      have hgbt := hgb1 (by omega) (by omega)
      refine z_get (C := RX9) (T := TX9) (N := 11) (ci := 9) (v := .ref sl) hx hb hT zin_X9 hown hK hw hm_xo hf_xo rfl 6 (by decide) (hT _ kw_483) rfl dX9_paste_18 ?_
      refine lv_iload_n hx hb dX9_paste_21 rfl (lv_at hl 1 rfl) ?_
      refine z_calliV (cells := 0) (slots := 0) (b := sl) (As := [.int sn]) (rest := []) (ci := 6) (q0 := (RX6, TX6, 3)) ⟨hx, hb, hml, hown, hT⟩ (c_X6_hasRow l hm_sl hm_si hf_sl hf_si (by first | omega | decide | assumption)) (cwV 1 hT (z_goodV (fun _ h => h) kw_1002 kw_1003 kw_1004 kw_90 kw_1005) rfl rfl rfl (by decide +kernel) ⟨by decide, by decide⟩) z_mv hKK hK hw hA hm_sl hf_sl rfl rfl rfl hl.1 rfl (Nat.le_of_ble_eq_true rfl) dX9_paste_22 ⟨by decide, by decide⟩ (fun r5 u H locs hp hw => ?_)
      obtain ⟨rfl, hp⟩ := hp
      have hw : z_H D vwCl (z_A L sz) s.heap L f H locs := hw
      rcases hp with ⟨rfl, h6⟩ | ⟨rfl, h6⟩
      · skip
        refine z_if_eq (tgt := 39) hx hb (show (1 : Int32).toInt = 1 by decide) dX9_paste_25 (by decide) (fun h => absurd h (by decide)) (fun _ => ?_)
        refine lv_aload_n hx hb dX9_paste_28 rfl (lv_at hl 0 rfl) ?_
        refine z_get (C := RX9) (T := TX9) (N := 11) (ci := 9) (v := .ref sl) hx hb hT zin_X9 hown hK hw hm_xo hf_xo rfl 6 (by decide) (hT _ kw_483) rfl dX9_paste_29 ?_
        refine lv_iload_n hx hb dX9_paste_32 rfl (lv_at hl 3 rfl) ?_
        refine z_calliV (cells := 0) (slots := 0) (b := sl) (As := [.int tn]) (rest := []) (ci := 6) (q0 := (RX6, TX6, 3)) ⟨hx, hb, hml, hown, hT⟩ (c_X6_hasRow l hm_sl hm_si hf_sl hf_si (by first | omega | decide | assumption)) (cwV 1 hT (z_goodV (fun _ h => h) kw_1002 kw_1003 kw_1004 kw_90 kw_1005) rfl rfl rfl (by decide +kernel) ⟨by decide, by decide⟩) z_mv hKK hK hw hA hm_sl hf_sl rfl rfl rfl hl.1 rfl (Nat.le_of_ble_eq_true rfl) dX9_paste_33 ⟨by decide, by decide⟩ (fun r7 u H locs hp hw => ?_)
        obtain ⟨rfl, hp⟩ := hp
        have hw : z_H D vwCl (z_A L sz) s.heap L f H locs := hw
        rcases hp with ⟨rfl, h8⟩ | ⟨rfl, h8⟩
        · skip
          refine z_if_ne (tgt := 42) hx hb (show (1 : Int32).toInt = 1 by decide) dX9_paste_36 (by decide) (fun _ => ?_) (fun h => absurd h (by decide))
          refine lv_aload_n hx hb dX9_paste_42 rfl (lv_at hl 0 rfl) ?_
          refine z_get (C := RX9) (T := TX9) (N := 11) (ci := 9) (v := .ref sl) hx hb hT zin_X9 hown hK hw hm_xo hf_xo rfl 6 (by decide) (hT _ kw_483) rfl dX9_paste_43 ?_
          refine z_get (C := RX6) (T := TX6) (N := 3) (ci := 6) (v := .ref wi) hx hb hT zin_X6 hown hK hw hm_sl hf_sl rfl 1 (by decide) (hT _ kw_323) rfl dX9_paste_46 ?_
          refine lv_iload_n hx hb dX9_paste_49 rfl (lv_at hl 1 rfl) ?_
          refine z_iald hx hb hK hw 1 hm_wi hf_wi rfl (z_ix rfl (by omega)) dX9_paste_50 ?_
          refine lv_topi (fun w9 e_w9 => ?_)
          refine lv_aload_n hx hb dX9_paste_51 rfl (lv_at hl 0 rfl) ?_
          refine z_get (C := RX9) (T := TX9) (N := 11) (ci := 9) (v := .ref sl) hx hb hT zin_X9 hown hK hw hm_xo hf_xo rfl 6 (by decide) (hT _ kw_483) rfl dX9_paste_52 ?_
          refine z_get (C := RX6) (T := TX6) (N := 3) (ci := 6) (v := .ref wi) hx hb hT zin_X6 hown hK hw hm_sl hf_sl rfl 1 (by decide) (hT _ kw_323) rfl dX9_paste_55 ?_
          refine lv_iload_n hx hb dX9_paste_58 rfl (lv_at hl 3 rfl) ?_
          refine z_iald hx hb hK hw 1 hm_wi hf_wi rfl (z_ix rfl (by omega)) dX9_paste_59 ?_
          refine lv_topi (fun w10 e_w10 => ?_)
          have hws_ := congrArg Int32.toInt e_w9
          have hwt_ := congrArg Int32.toInt e_w10
          refine z_icmp_eq (tgt := 66) hx hb rfl rfl dX9_paste_60 (by decide) (fun c11 => ?_) (fun c11 => ?_)
          · skip
            refine lv_aload_n hx hb dX9_paste_66 rfl (lv_at hl 0 rfl) ?_
            refine z_get (C := RX9) (T := TX9) (N := 11) (ci := 9) (v := .ref sl) hx hb hT zin_X9 hown hK hw hm_xo hf_xo rfl 6 (by decide) (hT _ kw_483) rfl dX9_paste_67 ?_
            refine lv_iload_n hx hb dX9_paste_70 rfl (lv_at hl 1 rfl) ?_
            refine lv_iload_n hx hb dX9_paste_71 rfl (lv_at hl 2 rfl) ?_
            refine lv_iload hx hb dX9_paste_72 (lv_at hl 5 rfl) ?_
            refine z_calliV (cells := 0) (slots := 0) (b := sl) (As := [.int sn, .int ii, .int nn]) (rest := []) (ci := 6) (q0 := (RX6, TX6, 3)) ⟨hx, hb, hml, hown, hT⟩ (c_X6_reaches l hm_sl hm_si hf_sl hf_si (by first | omega | decide | assumption) hgz) (cwV 3 hT (z_goodV (fun _ h => h) kw_1157 kw_1158 kw_1159 kw_90 kw_1160) rfl rfl rfl (by decide +kernel) ⟨by decide, by decide⟩) z_mv hKK hK hw hA hm_sl hf_sl rfl rfl rfl hl.1 rfl (Nat.le_of_ble_eq_true rfl) dX9_paste_74 ⟨by decide, by decide⟩ (fun r12 u H locs hp hw => ?_)
            obtain ⟨rfl, hp⟩ := hp
            have hw : z_H D vwCl (z_A L sz) s.heap L f H locs := hw
            rcases hp with ⟨rfl, h13⟩ | ⟨rfl, h13⟩
            · skip
              refine z_if_eq (tgt := 95) hx hb (show (1 : Int32).toInt = 1 by decide) dX9_paste_77 (by decide) (fun h => absurd h (by decide)) (fun _ => ?_)
              refine lv_aload_n hx hb dX9_paste_80 rfl (lv_at hl 0 rfl) ?_
              refine z_get (C := RX9) (T := TX9) (N := 11) (ci := 9) (v := .ref sl) hx hb hT zin_X9 hown hK hw hm_xo hf_xo rfl 6 (by decide) (hT _ kw_483) rfl dX9_paste_81 ?_
              refine lv_iload_n hx hb dX9_paste_84 rfl (lv_at hl 3 rfl) ?_
              refine lv_iload hx hb dX9_paste_85 (lv_at hl 4 rfl) ?_
              refine lv_iload hx hb dX9_paste_87 (lv_at hl 5 rfl) ?_
              refine z_calliV (cells := 0) (slots := 0) (b := sl) (As := [.int tn, .int ki, .int nn]) (rest := []) (ci := 6) (q0 := (RX6, TX6, 3)) ⟨hx, hb, hml, hown, hT⟩ (c_X6_reaches l hm_sl hm_si hf_sl hf_si (by first | omega | decide | assumption) hgz) (cwV 3 hT (z_goodV (fun _ h => h) kw_1157 kw_1158 kw_1159 kw_90 kw_1160) rfl rfl rfl (by decide +kernel) ⟨by decide, by decide⟩) z_mv hKK hK hw hA hm_sl hf_sl rfl rfl rfl hl.1 rfl (Nat.le_of_ble_eq_true rfl) dX9_paste_89 ⟨by decide, by decide⟩ (fun r14 u H locs hp hw => ?_)
              obtain ⟨rfl, hp⟩ := hp
              have hw : z_H D vwCl (z_A L sz) s.heap L f H locs := hw
              rcases hp with ⟨rfl, h15⟩ | ⟨rfl, h15⟩
              · skip
                refine z_if_ne (tgt := 98) hx hb (show (1 : Int32).toInt = 1 by decide) dX9_paste_92 (by decide) (fun _ => ?_) (fun h => absurd h (by decide))
                refine lv_aload_n hx hb dX9_paste_98 rfl (lv_at hl 0 rfl) ?_
                refine z_get (C := RX9) (T := TX9) (N := 11) (ci := 9) (v := .ref sl) hx hb hT zin_X9 hown hK hw hm_xo hf_xo rfl 6 (by decide) (hT _ kw_483) rfl dX9_paste_99 ?_
                refine z_get (C := RX6) (T := TX6) (N := 3) (ci := 6) (v := .ref nb) hx hb hT zin_X6 hown hK hw hm_sl hf_sl rfl 0 (by decide) (hT _ kw_321) rfl dX9_paste_102 ?_
                refine lv_iload_n hx hb dX9_paste_105 rfl (lv_at hl 1 rfl) ?_
                refine z_aaldA (b := rr) hx hb hK hw 6 hm_nb hf_nb rfl (z_ix rfl (by omega)) hgb dX9_paste_106 ?_
                refine lv_iload_n hx hb dX9_paste_107 rfl (lv_at hl 2 rfl) ?_
                refine lv_aload_n hx hb dX9_paste_108 rfl (lv_at hl 0 rfl) ?_
                refine z_get (C := RX9) (T := TX9) (N := 11) (ci := 9) (v := .ref sl) hx hb hT zin_X9 hown hK hw hm_xo hf_xo rfl 6 (by decide) (hT _ kw_483) rfl dX9_paste_109 ?_
                refine z_get (C := RX6) (T := TX6) (N := 3) (ci := 6) (v := .ref nb) hx hb hT zin_X6 hown hK hw hm_sl hf_sl rfl 0 (by decide) (hT _ kw_321) rfl dX9_paste_112 ?_
                refine lv_iload_n hx hb dX9_paste_115 rfl (lv_at hl 3 rfl) ?_
                refine z_aaldA (b := rr) hx hb hK hw 6 hm_nb hf_nb rfl (z_ix rfl (by omega)) hgbt dX9_paste_116 ?_
                refine lv_iload hx hb dX9_paste_117 (lv_at hl 4 rfl) ?_
                refine lv_iload hx hb dX9_paste_119 (lv_at hl 5 rfl) ?_
                refine z_copyl (t0 := 2) hx hb (by rw [hml]; exact hl.1.symm) hown (hT _ kc_lX9) (hT _ kc_n) (hT _ kc_s) (hT _ kc_i) hK hw (ha0 := hm_rr) (he0 := hf_rr) (ha1 := hm_rr) (he1 := hf_rr) (ht := rfl) (h1 := z_nneg (by omega)) (h2 := z_nneg (by omega)) (h3 := z_nneg (by omega)) (h4 := z_cad (by omega) (by omega) (by omega)) (h5 := z_cad (by omega) (by omega) (by omega)) (hframes := Nat.le_of_ble_eq_true rfl) (hlocals := Nat.le_of_ble_eq_true rfl) (hdg := dX9_paste_121) (kk := fun H locs hw => ?_)
                obtain ⟨f16, e_f16⟩ : ∃ z, z = va_up f rr (.inl (cy 2, 60, .inr (.inl (va_cpy gr gr ii.toNatClampNeg ki.toNatClampNeg nn.toNatClampNeg)))) := ⟨_, rfl⟩
                rw [← e_f16] at hw
                have hf_xo : f16 xo = .inr (9, [.ref tp, .ref rd, .ref mo, .ref dmo, .ref im, .ref kp, .ref sl, .ref wk, .ref pl, .ref oo, .ref mx]) := (congrFun e_f16 xo).trans (z_up_ne (z_tne hf_xo hf_rr (m := 9) (n := 581) rfl rfl (by decide)) hf_xo)
                have hf_sl : f16 sl = .inr (6, [.ref nb, .ref wi, .ref si]) := (congrFun e_f16 sl).trans (z_up_ne (z_tne hf_sl hf_rr (m := 6) (n := 581) rfl rfl (by decide)) hf_sl)
                have hf_nb : f16 nb = .inl (cy 6, 4, .inr (.inr (.inr (.inr gb)))) := (congrFun e_f16 nb).trans (z_up_ne (z_tne hf_nb hf_rr (m := 134) (n := 581) rfl rfl (by decide)) hf_nb)
                have hf_wi : f16 wi = .inl (cy 1, 4, .inl gw) := (congrFun e_f16 wi).trans (z_up_ne (z_tne hf_wi hf_rr (m := 132) (n := 581) rfl rfl (by decide)) hf_wi)
                have hf_si : f16 si = .inl (cy 1, 4, .inl gz) := (congrFun e_f16 si).trans (z_up_ne (z_tne hf_si hf_rr (m := 132) (n := 581) rfl rfl (by decide)) hf_si)
                have hf_rr : f16 rr = .inl (cy 2, 60, .inr (.inl (va_cpy gr gr ii.toNatClampNeg ki.toNatClampNeg nn.toNatClampNeg))) := (congrFun e_f16 rr).trans z_up_self
                have hfr : ∀ b ∈ L, b ≠ rr → f16 b = f b := fun b hb h0 => (congrFun e_f16 b).trans (z_up_ne h0 (hfr b hb h0))
                refine lv_iconst (v := 0) hx hb dX9_paste_124 (by decide) ?_
                exact z_iret hx hb hr hlk (by decide) (by decide) hw (⟨hsub, hfr, (va_cpy gr gr ii.toNatClampNeg ki.toNatClampNeg nn.toNatClampNeg), hf_rr, Or.inr (Or.inr (Or.inr (Or.inr ⟨rfl, by omega, by omega, by omega, by omega, by omega⟩)))⟩) dX9_paste_125
              · skip
                refine z_if_ne (tgt := 98) hx hb (show (0 : Int32).toInt = 0 by decide) dX9_paste_92 (by decide) (fun h => absurd h (by decide)) (fun _ => ?_)
                refine lv_bipush (v := (-7)) hx hb dX9_paste_95 (by decide) ?_
                exact z_iret hx hb hr hlk (by decide) (by decide) hw (⟨hsub, hfr, gr, hf_rr, Or.inr (Or.inr (Or.inr (Or.inl ⟨rfl, by omega, by omega, by omega, by omega, by omega⟩)))⟩) dX9_paste_97
            · skip
              refine z_if_eq (tgt := 95) hx hb (show (0 : Int32).toInt = 0 by decide) dX9_paste_77 (by decide) (fun _ => ?_) (fun h => absurd h (by decide))
              refine lv_bipush (v := (-7)) hx hb dX9_paste_95 (by decide) ?_
              exact z_iret hx hb hr hlk (by decide) (by decide) hw (⟨hsub, hfr, gr, hf_rr, Or.inr (Or.inr (Or.inr (Or.inl ⟨rfl, by omega, by omega, by omega, by omega, by omega⟩)))⟩) dX9_paste_97
          · skip
            refine lv_bipush (v := (-8)) hx hb dX9_paste_63 (by decide) ?_
            exact z_iret hx hb hr hlk (by decide) (by decide) hw (⟨hsub, hfr, gr, hf_rr, Or.inr (Or.inr (Or.inl ⟨rfl, by omega, by omega, by omega, by omega⟩))⟩) dX9_paste_65
        · skip
          refine z_if_ne (tgt := 42) hx hb (show (0 : Int32).toInt = 0 by decide) dX9_paste_36 (by decide) (fun h => absurd h (by decide)) (fun _ => ?_)
          refine lv_bipush (v := (-6)) hx hb dX9_paste_39 (by decide) ?_
          exact z_iret hx hb hr hlk (by decide) (by decide) hw (⟨hsub, hfr, gr, hf_rr, Or.inr (Or.inl ⟨rfl, by omega, by omega⟩)⟩) dX9_paste_41
      · skip
        refine z_if_eq (tgt := 39) hx hb (show (0 : Int32).toInt = 0 by decide) dX9_paste_25 (by decide) (fun _ => ?_) (fun h => absurd h (by decide))
        refine lv_bipush (v := (-6)) hx hb dX9_paste_39 (by decide) ?_
        exact z_iret hx hb hr hlk (by decide) (by decide) hw (⟨hsub, hfr, gr, hf_rr, Or.inr (Or.inl ⟨rfl, by omega, by omega⟩)⟩) dX9_paste_41
    · skip
      refine z_if_ne (tgt := 17) hx hb (show (0 : Int32).toInt = 0 by decide) dX9_paste_11 (by decide) (fun h => absurd h (by decide)) (fun _ => ?_)
      refine lv_bipush (v := (-2)) hx hb dX9_paste_14 (by decide) ?_
      exact z_iret hx hb hr hlk (by decide) (by decide) hw (⟨hsub, hfr, gr, hf_rr, Or.inl ⟨rfl, by omega⟩⟩) dX9_paste_16
  · skip
    refine z_if_eq (tgt := 14) hx hb (show (0 : Int32).toInt = 0 by decide) dX9_paste_4 (by decide) (fun _ => ?_) (fun h => absurd h (by decide))
    refine lv_bipush (v := (-2)) hx hb dX9_paste_14 (by decide) ?_
    exact z_iret hx hb hr hlk (by decide) (by decide) hw (⟨hsub, hfr, gr, hf_rr, Or.inl ⟨rfl, by omega⟩⟩) dX9_paste_16
