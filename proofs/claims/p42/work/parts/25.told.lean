set_option maxHeartbeats 2000000 in
set_option maxRecDepth 100000 in
theorem c_X9_explain (l : Launch) {D : va_G} {cy : Nat → ClassId} {L : List Nat} {f : Nat → va_E} {sz : Nat} {adK adV : Nat → Nat} {xo tp rd mo dmo im kp sl wk pl oo mx : Nat} {ks ct se ow : Nat} {wn wt wd wp : Int32} {gk gc gq go : Nat → Int32} {la sa mi da : Nat} {v0 v1 v2 v3 v4 v5 v6 : Int32} {gl gs gm : Nat → Int32} {gd : Nat → Option Nat} {dv : Nat → Nat} {ln fi sp : Nat} {om of : Int32} {gn gf gp : Nat → Int32} {nb wi si rr : Nat} {gz : Nat → Int32} {gb : Nat → Option Nat} {gr : Nat → Int64} {sn ga dy : Int32} (hm_xo : xo ∈ L) (hm_wk : wk ∈ L) (hm_ks : ks ∈ L) (hm_ct : ct ∈ L) (hm_se : se ∈ L) (hm_ow : ow ∈ L) (hm_mo : mo ∈ L) (hm_la : la ∈ L) (hm_sa : sa ∈ L) (hm_mi : mi ∈ L) (hm_da : da ∈ L) (hm_oo : oo ∈ L) (hm_ln : ln ∈ L) (hm_fi : fi ∈ L) (hm_sp : sp ∈ L) (hm_sl : sl ∈ L) (hm_nb : nb ∈ L) (hm_si : si ∈ L) (hm_rr : rr ∈ L) (hf_xo : f xo = .inr (9, [.ref tp, .ref rd, .ref mo, .ref dmo, .ref im, .ref kp, .ref sl, .ref wk, .ref pl, .ref oo, .ref mx])) (hf_wk : f wk = .inr (8, [.ref ks, .int wn, .ref ct, .ref se, .ref ow, .int wt, .int wd, .int wp])) (hf_ks : f ks = .inl (cy 1, 13, .inl gk)) (hf_ct : f ct = .inl (cy 1, 4, .inl gc)) (hf_se : f se = .inl (cy 1, 4, .inl gq)) (hf_ow : f ow = .inl (cy 1, 5, .inl go)) (hf_mo : f mo = .inr (2, [.int v0, .int v1, .int v2, .int v3, .int v4, .int v5, .int v6, .ref la, .ref sa, .ref mi, .ref da])) (hf_la : f la = .inl (cy 1, 5, .inl gl)) (hf_sa : f sa = .inl (cy 1, 4, .inl gs)) (hf_mi : f mi = .inl (cy 1, 36, .inl gm)) (hf_da : f da = .inl (cy 4, 13, .inr (.inr (.inr (.inr gd))))) (hf_oo : f oo = .inr (3, [.ref wk, .ref ln, .ref fi, .ref sp, .int om, .int of])) (hf_ln : f ln = .inl (cy 1, 6, .inl gn)) (hf_fi : f fi = .inl (cy 1, 6, .inl gf)) (hf_sp : f sp = .inl (cy 1, 12, .inl gp)) (hf_sl : f sl = .inr (6, [.ref nb, .ref wi, .ref si])) (hf_nb : f nb = .inl (cy 6, 4, .inr (.inr (.inr (.inr gb))))) (hf_si : f si = .inl (cy 1, 4, .inl gz)) (hf_rr : f rr = .inl (cy 2, 60, .inr (.inl gr))) (ne_ct_se : ct ≠ se) (ne_ct_sa : ct ≠ sa) (ne_se_sa : se ≠ sa) (ne_ow_la : ow ≠ la) (ne_ct_si : ct ≠ si) (ne_se_si : se ≠ si) (ne_ln_fi : ln ≠ fi) (hg_da : ∀ i : Nat, i < 13 → gd i = some (dv i)) (hd_da : z_Drv L f dv 13) (hv2 : 0 ≤ v2.toInt ∧ v2.toInt ≤ 9) (hv5 : 0 ≤ v5.toInt ∧ v5.toInt ≤ 12) (hv1 : 0 ≤ v1.toInt ∧ v1.toInt ≤ 4) (hv3 : 0 ≤ v3.toInt ∧ v3.toInt ≤ 5) (hgk : ∀ j : Nat, z_key (gk j)) (hgm : ∀ j : Nat, 0 ≤ (gm j).toInt ∧ (gm j).toInt ≤ 9) (hwn : 0 ≤ wn.toInt ∧ wn.toInt ≤ 13) (hgl : ∀ j : Nat, 0 ≤ (gl j).toInt ∧ (gl j).toInt ≤ 999) (hgs : ∀ j : Nat, 0 ≤ (gs j).toInt ∧ (gs j).toInt ≤ 999) (hom : 0 ≤ om.toInt ∧ om.toInt ≤ 6) (hgn : ∀ j : Nat, z_le11 (gn j)) (hgz : ∀ j : Nat, j < 4 → -1 ≤ (gz j).toInt ∧ (gz j).toInt ≤ 60) (hgb0 : 0 ≤ sn.toInt → sn.toInt ≤ 3 → gb sn.toNatClampNeg = some rr) : Met l yX9_explain (z_ws yX9_explain cX9_explain 4 (some .int)) (z_R 6 0 0) (va_Pc [.ref xo, .int sn, .int ga, .int dy] (z_Pre D vwCl (z_KK D cy adK adV) L f sz)) (z_Qi D vwCl (fun r u => L = u.1 ∧ (∀ b ∈ L, b ≠ wk → b ≠ ks → b ≠ ct → b ≠ se → b ≠ ow → b ≠ oo → b ≠ ln → b ≠ fi → b ≠ sp → u.2 b = f b) ∧ (∃ (w2 t2 d2 p2 m2 f2 : Int32) (k2 c2 q2 o2 n2 fi2 sp2 : Nat → Int32), (u.2 wk = .inr (8, [.ref ks, .int w2, .ref ct, .ref se, .ref ow, .int t2, .int d2, .int p2])) ∧ (u.2 ks = .inl (cy 1, 13, .inl k2)) ∧ (u.2 ct = .inl (cy 1, 4, .inl c2)) ∧ (u.2 se = .inl (cy 1, 4, .inl q2)) ∧ (u.2 ow = .inl (cy 1, 5, .inl o2)) ∧ (u.2 oo = .inr (3, [.ref wk, .ref ln, .ref fi, .ref sp, .int m2, .int f2])) ∧ (u.2 ln = .inl (cy 1, 6, .inl n2)) ∧ (u.2 fi = .inl (cy 1, 6, .inl fi2)) ∧ (u.2 sp = .inl (cy 1, 12, .inl sp2)) ∧ ((0 ≤ w2.toInt ∧ w2.toInt ≤ 13) ∧ (0 ≤ m2.toInt ∧ m2.toInt ≤ 6) ∧ (∀ j : Nat, z_key (k2 j)) ∧ ∀ j : Nat, z_le11 (n2 j)))) L sz) 0 0 (z_A L sz) := by
  refine z_met (cc := cX9_explain) (maxL := 4) (ret := (some .int)) (lv := [(0, .ref xo), (1, .int sn), (2, .int ga), (3, .int dy)]) (by decide) rfl (Nat.le_of_ble_eq_true rfl) rfl ?_
  intro p e s m below meth c ls hx hb hr hlk hml hown hnm hts hKK hA hw hl
  have hK := hKK.1.1
  have hown : s.vm.findClass RX9 = some m.cls := hown
  have hT : ∀ w ∈ lw_all, w.before ([.ref xo, .int sn, .int ga, .int dy] : List Value).toArray s = true := fun w h => hts w (z_cons w h)
  have hsub : L = L := rfl
  have hfr : ∀ b ∈ L, b ≠ wk → b ≠ ks → b ≠ ct → b ≠ se → b ≠ ow → b ≠ oo → b ≠ ln → b ≠ fi → b ≠ sp → f b = f b := fun _ _ _ _ _ _ _ _ _ _ _ => rfl
  refine lv_iload_n hx hb dX9_explain_0 rfl (lv_at hl 1 rfl) ?_
  refine z_calliS (cells := 0) (slots := 0) (As := [.int sn]) (rest := []) ⟨hx, hb, hml, hown, hT⟩ (c_X6_isSlot l ) (va_cwS 1 hT (z_goodS (fun _ h => h) kw_999 kw_1000 kw_90 kw_1001) rfl rfl rfl (by decide +kernel) ⟨by decide, by decide⟩) z_mv hKK hw hA rfl hl.1 rfl (Nat.le_of_ble_eq_true rfl) dX9_explain_1 ⟨by decide, by decide⟩ (fun r1 u H locs hp hw => ?_)
  obtain ⟨rfl, hp⟩ := hp
  have hw : z_H D vwCl (z_A L sz) s.heap L f H locs := hw
  rcases hp with ⟨rfl, h2⟩ | ⟨rfl, h2⟩
  · skip
    refine z_if_eq (tgt := 29) hx hb (show (1 : Int32).toInt = 1 by decide) dX9_explain_4 (by decide) (fun h => absurd h (by decide)) (fun _ => ?_)
    refine lv_aload_n hx hb dX9_explain_7 rfl (lv_at hl 0 rfl) ?_
    refine z_get (C := RX9) (T := TX9) (N := 11) (ci := 9) (v := .ref mo) hx hb hT zin_X9 hown hK hw hm_xo hf_xo rfl 2 (by decide) (hT _ kw_479) rfl dX9_explain_8 ?_
    refine lv_iload_n hx hb dX9_explain_11 rfl (lv_at hl 2 rfl) ?_
    refine z_calliV (cells := 0) (slots := 0) (b := mo) (As := [.int ga]) (rest := []) (ci := 2) (q0 := (RX2, TX2, 11)) ⟨hx, hb, hml, hown, hT⟩ (c_X2_hasGap l hm_mo hf_mo) (cwV 1 hT (z_goodV (fun _ h => h) kw_736 kw_737 kw_738 kw_87 kw_739) rfl rfl rfl (by decide +kernel) ⟨by decide, by decide⟩) z_mv hKK hK hw hA hm_mo hf_mo rfl rfl rfl hl.1 rfl (Nat.le_of_ble_eq_true rfl) dX9_explain_12 ⟨by decide, by decide⟩ (fun r3 u H locs hp hw => ?_)
    obtain ⟨rfl, hp⟩ := hp
    have hw : z_H D vwCl (z_A L sz) s.heap L f H locs := hw
    rcases hp with ⟨rfl, h4⟩ | ⟨rfl, h4⟩
    · skip
      refine z_if_eq (tgt := 29) hx hb (show (1 : Int32).toInt = 1 by decide) dX9_explain_15 (by decide) (fun h => absurd h (by decide)) (fun _ => ?_)
      refine lv_aload_n hx hb dX9_explain_18 rfl (lv_at hl 0 rfl) ?_
      refine z_get (C := RX9) (T := TX9) (N := 11) (ci := 9) (v := .ref mo) hx hb hT zin_X9 hown hK hw hm_xo hf_xo rfl 2 (by decide) (hT _ kw_479) rfl dX9_explain_19 ?_
      refine lv_iload_n hx hb dX9_explain_22 rfl (lv_at hl 3 rfl) ?_
      refine z_calliV (cells := 0) (slots := 0) (b := mo) (As := [.int dy]) (rest := []) (ci := 2) (q0 := (RX2, TX2, 11)) ⟨hx, hb, hml, hown, hT⟩ (c_X2_hasDay l hm_mo hf_mo) (cwV 1 hT (z_goodV (fun _ h => h) kw_751 kw_752 kw_753 kw_87 kw_754) rfl rfl rfl (by decide +kernel) ⟨by decide, by decide⟩) z_mv hKK hK hw hA hm_mo hf_mo rfl rfl rfl hl.1 rfl (Nat.le_of_ble_eq_true rfl) dX9_explain_23 ⟨by decide, by decide⟩ (fun r5 u H locs hp hw => ?_)
      obtain ⟨rfl, hp⟩ := hp
      have hw : z_H D vwCl (z_A L sz) s.heap L f H locs := hw
      rcases hp with ⟨rfl, h6⟩ | ⟨rfl, h6⟩
      · skip
        refine z_if_ne (tgt := 32) hx hb (show (1 : Int32).toInt = 1 by decide) dX9_explain_26 (by decide) (fun _ => ?_) (fun h => absurd h (by decide))
        refine lv_aload_n hx hb dX9_explain_32 rfl (lv_at hl 0 rfl) ?_
        have hgb := hgb0 (by omega) (by omega)
        refine z_get (C := RX9) (T := TX9) (N := 11) (ci := 9) (v := .ref sl) hx hb hT zin_X9 hown hK hw hm_xo hf_xo rfl 6 (by decide) (hT _ kw_483) rfl dX9_explain_33 ?_
        refine lv_iload_n hx hb dX9_explain_36 rfl (lv_at hl 1 rfl) ?_
        refine z_calliV (cells := 0) (slots := 0) (b := sl) (As := [.int sn]) (rest := []) (ci := 6) (q0 := (RX6, TX6, 3)) ⟨hx, hb, hml, hown, hT⟩ (c_X6_hasRow l hm_sl hm_si hf_sl hf_si (by first | omega | decide | assumption)) (cwV 1 hT (z_goodV (fun _ h => h) kw_1002 kw_1003 kw_1004 kw_90 kw_1005) rfl rfl rfl (by decide +kernel) ⟨by decide, by decide⟩) z_mv hKK hK hw hA hm_sl hf_sl rfl rfl rfl hl.1 rfl (Nat.le_of_ble_eq_true rfl) dX9_explain_37 ⟨by decide, by decide⟩ (fun r7 u H locs hp hw => ?_)
        obtain ⟨rfl, hp⟩ := hp
        have hw : z_H D vwCl (z_A L sz) s.heap L f H locs := hw
        rcases hp with ⟨rfl, h8⟩ | ⟨rfl, h8⟩
        · skip
          refine z_if_ne (tgt := 46) hx hb (show (1 : Int32).toInt = 1 by decide) dX9_explain_40 (by decide) (fun _ => ?_) (fun h => absurd h (by decide))
          refine lv_aload_n hx hb dX9_explain_46 rfl (lv_at hl 0 rfl) ?_
          refine z_get (C := RX9) (T := TX9) (N := 11) (ci := 9) (v := .ref oo) hx hb hT zin_X9 hown hK hw hm_xo hf_xo rfl 9 (by decide) (hT _ kw_486) rfl dX9_explain_47 ?_
          refine lv_aload_n hx hb dX9_explain_50 rfl (lv_at hl 0 rfl) ?_
          refine z_get (C := RX9) (T := TX9) (N := 11) (ci := 9) (v := .ref mo) hx hb hT zin_X9 hown hK hw hm_xo hf_xo rfl 2 (by decide) (hT _ kw_479) rfl dX9_explain_51 ?_
          refine lv_iload_n hx hb dX9_explain_54 rfl (lv_at hl 2 rfl) ?_
          refine lv_iload_n hx hb dX9_explain_55 rfl (lv_at hl 3 rfl) ?_
          refine z_calliV (cells := 0) (slots := 0) (b := oo) (As := [.ref mo, .int ga, .int dy]) (rest := []) (ci := 3) (q0 := (RX3, TX3, 6)) ⟨hx, hb, hml, hown, hT⟩ (c_X3_gather l hm_oo hm_ln hm_mo hm_da hf_oo hf_ln hf_mo hf_da hg_da hd_da (by first | omega | decide | assumption) (by first | omega | decide | assumption) (by first | omega | decide | assumption) hgn) (cwV 3 hT (z_goodV (fun _ h => h) kw_1006 kw_1007 kw_1008 kw_94 kw_1009) rfl rfl rfl (by decide +kernel) ⟨by decide, by decide⟩) z_mv hKK hK hw hA hm_oo hf_oo rfl rfl rfl hl.1 rfl (Nat.le_of_ble_eq_true rfl) dX9_explain_56 ⟨by decide, by decide⟩ (fun r9 u H locs hp hw => ?_)
          obtain ⟨L10, f11⟩ := u
          obtain ⟨hsb, hfm, m2_12, g2_13, ha_0, ha_1, hp⟩ := hp
          have hsb : L = L10 := hsb
          subst hsb
          have hsb : ∀ b ∈ L, b ∈ L := fun _ h => h
          have hw : z_H D vwCl (z_A L sz) s.heap L f11 H locs := hw
          have hfr : ∀ b ∈ L, b ≠ wk → b ≠ ks → b ≠ ct → b ≠ se → b ≠ ow → b ≠ oo → b ≠ ln → b ≠ fi → b ≠ sp → f11 b = f b := fun b hb h0 h1 h2 h3 h4 h5 h6 h7 h8 => (hfm b hb h5 h6).trans (hfr b hb h0 h1 h2 h3 h4 h5 h6 h7 h8)
          have hd_da : z_Drv L f11 dv 13 := z_Drv_fr hd_da hsb (fun b hb ht => hfm b hb (z_t0 ht hf_oo (m := 3) rfl (by decide)) (z_t0 ht hf_ln (m := 148) rfl (by decide)))
          have hf_xo : f11 xo = .inr (9, [.ref tp, .ref rd, .ref mo, .ref dmo, .ref im, .ref kp, .ref sl, .ref wk, .ref pl, .ref oo, .ref mx]) := (hfm xo hm_xo (z_tne hf_xo hf_oo (m := 9) (n := 3) rfl rfl (by decide)) (z_tne hf_xo hf_ln (m := 9) (n := 148) rfl rfl (by decide))).trans hf_xo
          have hf_wk : f11 wk = .inr (8, [.ref ks, .int wn, .ref ct, .ref se, .ref ow, .int wt, .int wd, .int wp]) := (hfm wk hm_wk (z_tne hf_wk hf_oo (m := 8) (n := 3) rfl rfl (by decide)) (z_tne hf_wk hf_ln (m := 8) (n := 148) rfl rfl (by decide))).trans hf_wk
          have hf_ks : f11 ks = .inl (cy 1, 13, .inl gk) := (hfm ks hm_ks (z_tne hf_ks hf_oo (m := 204) (n := 3) rfl rfl (by decide)) (z_tne hf_ks hf_ln (m := 204) (n := 148) rfl rfl (by decide))).trans hf_ks
          have hf_ct : f11 ct = .inl (cy 1, 4, .inl gc) := (hfm ct hm_ct (z_tne hf_ct hf_oo (m := 132) (n := 3) rfl rfl (by decide)) (z_tne hf_ct hf_ln (m := 132) (n := 148) rfl rfl (by decide))).trans hf_ct
          have hf_se : f11 se = .inl (cy 1, 4, .inl gq) := (hfm se hm_se (z_tne hf_se hf_oo (m := 132) (n := 3) rfl rfl (by decide)) (z_tne hf_se hf_ln (m := 132) (n := 148) rfl rfl (by decide))).trans hf_se
          have hf_ow : f11 ow = .inl (cy 1, 5, .inl go) := (hfm ow hm_ow (z_tne hf_ow hf_oo (m := 140) (n := 3) rfl rfl (by decide)) (z_tne hf_ow hf_ln (m := 140) (n := 148) rfl rfl (by decide))).trans hf_ow
          have hf_mo : f11 mo = .inr (2, [.int v0, .int v1, .int v2, .int v3, .int v4, .int v5, .int v6, .ref la, .ref sa, .ref mi, .ref da]) := (hfm mo hm_mo (z_tne hf_mo hf_oo (m := 2) (n := 3) rfl rfl (by decide)) (z_tne hf_mo hf_ln (m := 2) (n := 148) rfl rfl (by decide))).trans hf_mo
          have hf_la : f11 la = .inl (cy 1, 5, .inl gl) := (hfm la hm_la (z_tne hf_la hf_oo (m := 140) (n := 3) rfl rfl (by decide)) (z_tne hf_la hf_ln (m := 140) (n := 148) rfl rfl (by decide))).trans hf_la
          have hf_sa : f11 sa = .inl (cy 1, 4, .inl gs) := (hfm sa hm_sa (z_tne hf_sa hf_oo (m := 132) (n := 3) rfl rfl (by decide)) (z_tne hf_sa hf_ln (m := 132) (n := 148) rfl rfl (by decide))).trans hf_sa
          have hf_mi : f11 mi = .inl (cy 1, 36, .inl gm) := (hfm mi hm_mi (z_tne hf_mi hf_oo (m := 388) (n := 3) rfl rfl (by decide)) (z_tne hf_mi hf_ln (m := 388) (n := 148) rfl rfl (by decide))).trans hf_mi
          have hf_da : f11 da = .inl (cy 4, 13, .inr (.inr (.inr (.inr gd)))) := (hfm da hm_da (z_tne hf_da hf_oo (m := 206) (n := 3) rfl rfl (by decide)) (z_tne hf_da hf_ln (m := 206) (n := 148) rfl rfl (by decide))).trans hf_da
          have hf_fi : f11 fi = .inl (cy 1, 6, .inl gf) := (hfm fi hm_fi (z_tne hf_fi hf_oo (m := 148) (n := 3) rfl rfl (by decide)) (Ne.symm ne_ln_fi)).trans hf_fi
          have hf_sp : f11 sp = .inl (cy 1, 12, .inl gp) := (hfm sp hm_sp (z_tne hf_sp hf_oo (m := 196) (n := 3) rfl rfl (by decide)) (z_tne hf_sp hf_ln (m := 196) (n := 148) rfl rfl (by decide))).trans hf_sp
          have hf_sl : f11 sl = .inr (6, [.ref nb, .ref wi, .ref si]) := (hfm sl hm_sl (z_tne hf_sl hf_oo (m := 6) (n := 3) rfl rfl (by decide)) (z_tne hf_sl hf_ln (m := 6) (n := 148) rfl rfl (by decide))).trans hf_sl
          have hf_nb : f11 nb = .inl (cy 6, 4, .inr (.inr (.inr (.inr gb)))) := (hfm nb hm_nb (z_tne hf_nb hf_oo (m := 134) (n := 3) rfl rfl (by decide)) (z_tne hf_nb hf_ln (m := 134) (n := 148) rfl rfl (by decide))).trans hf_nb
          have hf_si : f11 si = .inl (cy 1, 4, .inl gz) := (hfm si hm_si (z_tne hf_si hf_oo (m := 132) (n := 3) rfl rfl (by decide)) (z_tne hf_si hf_ln (m := 132) (n := 148) rfl rfl (by decide))).trans hf_si
          have hf_rr : f11 rr = .inl (cy 2, 60, .inr (.inl gr)) := (hfm rr hm_rr (z_tne hf_rr hf_oo (m := 581) (n := 3) rfl rfl (by decide)) (z_tne hf_rr hf_ln (m := 581) (n := 148) rfl rfl (by decide))).trans hf_rr
          have hf_oo : f11 oo = .inr (3, [.ref wk, .ref ln, .ref fi, .ref sp, .int m2_12, .int of]) := ha_0
          have hf_ln : f11 ln = .inl (cy 1, 6, .inl g2_13) := ha_1
          have hga_ := hp
          refine lv_bipush (v := 6) hx hb dX9_explain_59 (by decide) ?_
          refine z_icmp_le (tgt := 67) hx hb rfl (show (6 : Int32).toInt = 6 by decide) dX9_explain_61 (by decide) (fun c14 => ?_) (fun c14 => ?_)
          · skip
            refine lv_aload_n hx hb dX9_explain_67 rfl (lv_at hl 0 rfl) ?_
            refine z_get (C := RX9) (T := TX9) (N := 11) (ci := 9) (v := .ref sl) hx hb hT zin_X9 hown hK hw hm_xo hf_xo rfl 6 (by decide) (hT _ kw_483) rfl dX9_explain_68 ?_
            refine lv_iload_n hx hb dX9_explain_71 rfl (lv_at hl 1 rfl) ?_
            refine lv_aload_n hx hb dX9_explain_72 rfl (lv_at hl 0 rfl) ?_
            refine z_get (C := RX9) (T := TX9) (N := 11) (ci := 9) (v := .ref mo) hx hb hT zin_X9 hown hK hw hm_xo hf_xo rfl 2 (by decide) (hT _ kw_479) rfl dX9_explain_73 ?_
            refine z_get (C := RX2) (T := TX2) (N := 11) (ci := 2) (v := .int v3) hx hb hT zin_X2 hown hK hw hm_mo hf_mo rfl 3 (by decide) (hT _ kw_217) rfl dX9_explain_76 ?_
            refine lv_iconst (v := 1) hx hb dX9_explain_79 (by decide) ?_
            refine lv_isub hx hb dX9_explain_80 ?_
            refine lv_topi (fun w15 e_w15 => ?_)
            refine z_calliV (cells := 0) (slots := 0) (b := sl) (As := [.int sn, .int w15]) (rest := []) (ci := 6) (q0 := (RX6, TX6, 3)) ⟨hx, hb, hml, hown, hT⟩ (c_X6_isWithin l hm_sl hm_nb hm_si hm_rr hf_sl hf_nb hf_si hf_rr (by first | omega | decide | assumption) hgb hgz) (cwV 2 hT (z_goodV (fun _ h => h) kw_1011 kw_1012 kw_1013 kw_90 kw_1014) rfl rfl rfl (by decide +kernel) ⟨by decide, by decide⟩) z_mv hKK hK hw hA hm_sl hf_sl rfl rfl rfl hl.1 rfl (Nat.le_of_ble_eq_true rfl) dX9_explain_81 ⟨by decide, by decide⟩ (fun r16 u H locs hp hw => ?_)
            obtain ⟨rfl, hp⟩ := hp
            have hw : z_H D vwCl (z_A L sz) s.heap L f11 H locs := hw
            rcases hp with ⟨rfl, h17⟩ | ⟨rfl, h17⟩
            · skip
              refine z_if_ne (tgt := 90) hx hb (show (1 : Int32).toInt = 1 by decide) dX9_explain_84 (by decide) (fun _ => ?_) (fun h => absurd h (by decide))
              refine lv_aload_n hx hb dX9_explain_90 rfl (lv_at hl 0 rfl) ?_
              refine z_get (C := RX9) (T := TX9) (N := 11) (ci := 9) (v := .ref oo) hx hb hT zin_X9 hown hK hw hm_xo hf_xo rfl 9 (by decide) (hT _ kw_486) rfl dX9_explain_91 ?_
              refine lv_aload_n hx hb dX9_explain_94 rfl (lv_at hl 0 rfl) ?_
              refine z_get (C := RX9) (T := TX9) (N := 11) (ci := 9) (v := .ref mo) hx hb hT zin_X9 hown hK hw hm_xo hf_xo rfl 2 (by decide) (hT _ kw_479) rfl dX9_explain_95 ?_
              refine lv_iload_n hx hb dX9_explain_98 rfl (lv_at hl 2 rfl) ?_
              refine lv_iload_n hx hb dX9_explain_99 rfl (lv_at hl 3 rfl) ?_
              refine lv_aload_n hx hb dX9_explain_100 rfl (lv_at hl 0 rfl) ?_
              refine z_get (C := RX9) (T := TX9) (N := 11) (ci := 9) (v := .ref sl) hx hb hT zin_X9 hown hK hw hm_xo hf_xo rfl 6 (by decide) (hT _ kw_483) rfl dX9_explain_101 ?_
              refine lv_iload_n hx hb dX9_explain_104 rfl (lv_at hl 1 rfl) ?_
              refine z_callvV (cells := 0) (slots := 0) (b := oo) (As := [.ref mo, .int ga, .int dy, .ref sl, .int sn]) (rest := []) (ci := 3) (q0 := (RX3, TX3, 6)) ⟨hx, hb, hml, hown, hT⟩ (c_X3_search l hm_oo hm_ln hm_fi hm_sp hm_wk hm_ks hm_ct hm_se hm_ow hm_mo hm_la hm_sa hm_mi hm_da hm_sl hm_nb hm_si hm_rr hf_oo hf_ln hf_fi hf_sp hf_wk hf_ks hf_ct hf_se hf_ow hf_mo hf_la hf_sa hf_mi hf_da hf_sl hf_nb hf_si hf_rr ne_ct_se ne_ct_sa ne_se_sa ne_ow_la ne_ct_si ne_se_si ne_ln_fi hg_da hd_da (by first | omega | decide | assumption) (by first | omega | decide | assumption) hgk hgs (by first | omega | decide | assumption) (by first | omega | decide | assumption) hga_.2 hgm hgl (by first | omega | decide | assumption) hgb hgz (by first | omega | decide | assumption)) (cwV 5 hT (z_goodV (fun _ h => h) kw_1015 kw_1016 kw_1017 kw_94 kw_1018) rfl rfl rfl (by decide +kernel) ⟨by decide, by decide⟩) z_mv hKK hK hw hA hm_oo hf_oo rfl rfl rfl hl.1 rfl (Nat.le_of_ble_eq_true rfl) dX9_explain_105 ⟨by decide, by decide⟩ (fun u H locs hp hw => ?_)
              obtain ⟨L18, f19⟩ := u
              obtain ⟨hsb, hfm, w2_20, t2_21, f2_22, k2_23, c2_24, q2_25, o2_26, n2_27, fi2_28, sp2_29, ha_0, ha_1, ha_2, ha_3, ha_4, ha_5, ha_6, ha_7, ha_8, hp⟩ := hp
              have hsb : L = L18 := hsb
              subst hsb
              have hsb : ∀ b ∈ L, b ∈ L := fun _ h => h
              have hw : z_H D vwCl (z_A L sz) s.heap L f19 H locs := hw
              have hfr : ∀ b ∈ L, b ≠ wk → b ≠ ks → b ≠ ct → b ≠ se → b ≠ ow → b ≠ oo → b ≠ ln → b ≠ fi → b ≠ sp → f19 b = f b := fun b hb h0 h1 h2 h3 h4 h5 h6 h7 h8 => (hfm b hb h0 h1 h2 h3 h4 h5 h6 h7 h8).trans (hfr b hb h0 h1 h2 h3 h4 h5 h6 h7 h8)
              have hd_da : z_Drv L f19 dv 13 := z_Drv_fr hd_da hsb (fun b hb ht => hfm b hb (z_t0 ht hf_wk (m := 8) rfl (by decide)) (z_t0 ht hf_ks (m := 204) rfl (by decide)) (z_t0 ht hf_ct (m := 132) rfl (by decide)) (z_t0 ht hf_se (m := 132) rfl (by decide)) (z_t0 ht hf_ow (m := 140) rfl (by decide)) (z_t0 ht hf_oo (m := 3) rfl (by decide)) (z_t0 ht hf_ln (m := 148) rfl (by decide)) (z_t0 ht hf_fi (m := 148) rfl (by decide)) (z_t0 ht hf_sp (m := 196) rfl (by decide)))
              have hf_xo : f19 xo = .inr (9, [.ref tp, .ref rd, .ref mo, .ref dmo, .ref im, .ref kp, .ref sl, .ref wk, .ref pl, .ref oo, .ref mx]) := (hfm xo hm_xo (z_tne hf_xo hf_wk (m := 9) (n := 8) rfl rfl (by decide)) (z_tne hf_xo hf_ks (m := 9) (n := 204) rfl rfl (by decide)) (z_tne hf_xo hf_ct (m := 9) (n := 132) rfl rfl (by decide)) (z_tne hf_xo hf_se (m := 9) (n := 132) rfl rfl (by decide)) (z_tne hf_xo hf_ow (m := 9) (n := 140) rfl rfl (by decide)) (z_tne hf_xo hf_oo (m := 9) (n := 3) rfl rfl (by decide)) (z_tne hf_xo hf_ln (m := 9) (n := 148) rfl rfl (by decide)) (z_tne hf_xo hf_fi (m := 9) (n := 148) rfl rfl (by decide)) (z_tne hf_xo hf_sp (m := 9) (n := 196) rfl rfl (by decide))).trans hf_xo
              have hf_mo : f19 mo = .inr (2, [.int v0, .int v1, .int v2, .int v3, .int v4, .int v5, .int v6, .ref la, .ref sa, .ref mi, .ref da]) := (hfm mo hm_mo (z_tne hf_mo hf_wk (m := 2) (n := 8) rfl rfl (by decide)) (z_tne hf_mo hf_ks (m := 2) (n := 204) rfl rfl (by decide)) (z_tne hf_mo hf_ct (m := 2) (n := 132) rfl rfl (by decide)) (z_tne hf_mo hf_se (m := 2) (n := 132) rfl rfl (by decide)) (z_tne hf_mo hf_ow (m := 2) (n := 140) rfl rfl (by decide)) (z_tne hf_mo hf_oo (m := 2) (n := 3) rfl rfl (by decide)) (z_tne hf_mo hf_ln (m := 2) (n := 148) rfl rfl (by decide)) (z_tne hf_mo hf_fi (m := 2) (n := 148) rfl rfl (by decide)) (z_tne hf_mo hf_sp (m := 2) (n := 196) rfl rfl (by decide))).trans hf_mo
              have hf_la : f19 la = .inl (cy 1, 5, .inl gl) := (hfm la hm_la (z_tne hf_la hf_wk (m := 140) (n := 8) rfl rfl (by decide)) (z_tne hf_la hf_ks (m := 140) (n := 204) rfl rfl (by decide)) (z_tne hf_la hf_ct (m := 140) (n := 132) rfl rfl (by decide)) (z_tne hf_la hf_se (m := 140) (n := 132) rfl rfl (by decide)) (Ne.symm ne_ow_la) (z_tne hf_la hf_oo (m := 140) (n := 3) rfl rfl (by decide)) (z_tne hf_la hf_ln (m := 140) (n := 148) rfl rfl (by decide)) (z_tne hf_la hf_fi (m := 140) (n := 148) rfl rfl (by decide)) (z_tne hf_la hf_sp (m := 140) (n := 196) rfl rfl (by decide))).trans hf_la
              have hf_sa : f19 sa = .inl (cy 1, 4, .inl gs) := (hfm sa hm_sa (z_tne hf_sa hf_wk (m := 132) (n := 8) rfl rfl (by decide)) (z_tne hf_sa hf_ks (m := 132) (n := 204) rfl rfl (by decide)) (Ne.symm ne_ct_sa) (Ne.symm ne_se_sa) (z_tne hf_sa hf_ow (m := 132) (n := 140) rfl rfl (by decide)) (z_tne hf_sa hf_oo (m := 132) (n := 3) rfl rfl (by decide)) (z_tne hf_sa hf_ln (m := 132) (n := 148) rfl rfl (by decide)) (z_tne hf_sa hf_fi (m := 132) (n := 148) rfl rfl (by decide)) (z_tne hf_sa hf_sp (m := 132) (n := 196) rfl rfl (by decide))).trans hf_sa
              have hf_mi : f19 mi = .inl (cy 1, 36, .inl gm) := (hfm mi hm_mi (z_tne hf_mi hf_wk (m := 388) (n := 8) rfl rfl (by decide)) (z_tne hf_mi hf_ks (m := 388) (n := 204) rfl rfl (by decide)) (z_tne hf_mi hf_ct (m := 388) (n := 132) rfl rfl (by decide)) (z_tne hf_mi hf_se (m := 388) (n := 132) rfl rfl (by decide)) (z_tne hf_mi hf_ow (m := 388) (n := 140) rfl rfl (by decide)) (z_tne hf_mi hf_oo (m := 388) (n := 3) rfl rfl (by decide)) (z_tne hf_mi hf_ln (m := 388) (n := 148) rfl rfl (by decide)) (z_tne hf_mi hf_fi (m := 388) (n := 148) rfl rfl (by decide)) (z_tne hf_mi hf_sp (m := 388) (n := 196) rfl rfl (by decide))).trans hf_mi
              have hf_da : f19 da = .inl (cy 4, 13, .inr (.inr (.inr (.inr gd)))) := (hfm da hm_da (z_tne hf_da hf_wk (m := 206) (n := 8) rfl rfl (by decide)) (z_tne hf_da hf_ks (m := 206) (n := 204) rfl rfl (by decide)) (z_tne hf_da hf_ct (m := 206) (n := 132) rfl rfl (by decide)) (z_tne hf_da hf_se (m := 206) (n := 132) rfl rfl (by decide)) (z_tne hf_da hf_ow (m := 206) (n := 140) rfl rfl (by decide)) (z_tne hf_da hf_oo (m := 206) (n := 3) rfl rfl (by decide)) (z_tne hf_da hf_ln (m := 206) (n := 148) rfl rfl (by decide)) (z_tne hf_da hf_fi (m := 206) (n := 148) rfl rfl (by decide)) (z_tne hf_da hf_sp (m := 206) (n := 196) rfl rfl (by decide))).trans hf_da
              have hf_sl : f19 sl = .inr (6, [.ref nb, .ref wi, .ref si]) := (hfm sl hm_sl (z_tne hf_sl hf_wk (m := 6) (n := 8) rfl rfl (by decide)) (z_tne hf_sl hf_ks (m := 6) (n := 204) rfl rfl (by decide)) (z_tne hf_sl hf_ct (m := 6) (n := 132) rfl rfl (by decide)) (z_tne hf_sl hf_se (m := 6) (n := 132) rfl rfl (by decide)) (z_tne hf_sl hf_ow (m := 6) (n := 140) rfl rfl (by decide)) (z_tne hf_sl hf_oo (m := 6) (n := 3) rfl rfl (by decide)) (z_tne hf_sl hf_ln (m := 6) (n := 148) rfl rfl (by decide)) (z_tne hf_sl hf_fi (m := 6) (n := 148) rfl rfl (by decide)) (z_tne hf_sl hf_sp (m := 6) (n := 196) rfl rfl (by decide))).trans hf_sl
              have hf_nb : f19 nb = .inl (cy 6, 4, .inr (.inr (.inr (.inr gb)))) := (hfm nb hm_nb (z_tne hf_nb hf_wk (m := 134) (n := 8) rfl rfl (by decide)) (z_tne hf_nb hf_ks (m := 134) (n := 204) rfl rfl (by decide)) (z_tne hf_nb hf_ct (m := 134) (n := 132) rfl rfl (by decide)) (z_tne hf_nb hf_se (m := 134) (n := 132) rfl rfl (by decide)) (z_tne hf_nb hf_ow (m := 134) (n := 140) rfl rfl (by decide)) (z_tne hf_nb hf_oo (m := 134) (n := 3) rfl rfl (by decide)) (z_tne hf_nb hf_ln (m := 134) (n := 148) rfl rfl (by decide)) (z_tne hf_nb hf_fi (m := 134) (n := 148) rfl rfl (by decide)) (z_tne hf_nb hf_sp (m := 134) (n := 196) rfl rfl (by decide))).trans hf_nb
              have hf_si : f19 si = .inl (cy 1, 4, .inl gz) := (hfm si hm_si (z_tne hf_si hf_wk (m := 132) (n := 8) rfl rfl (by decide)) (z_tne hf_si hf_ks (m := 132) (n := 204) rfl rfl (by decide)) (Ne.symm ne_ct_si) (Ne.symm ne_se_si) (z_tne hf_si hf_ow (m := 132) (n := 140) rfl rfl (by decide)) (z_tne hf_si hf_oo (m := 132) (n := 3) rfl rfl (by decide)) (z_tne hf_si hf_ln (m := 132) (n := 148) rfl rfl (by decide)) (z_tne hf_si hf_fi (m := 132) (n := 148) rfl rfl (by decide)) (z_tne hf_si hf_sp (m := 132) (n := 196) rfl rfl (by decide))).trans hf_si
              have hf_rr : f19 rr = .inl (cy 2, 60, .inr (.inl gr)) := (hfm rr hm_rr (z_tne hf_rr hf_wk (m := 581) (n := 8) rfl rfl (by decide)) (z_tne hf_rr hf_ks (m := 581) (n := 204) rfl rfl (by decide)) (z_tne hf_rr hf_ct (m := 581) (n := 132) rfl rfl (by decide)) (z_tne hf_rr hf_se (m := 581) (n := 132) rfl rfl (by decide)) (z_tne hf_rr hf_ow (m := 581) (n := 140) rfl rfl (by decide)) (z_tne hf_rr hf_oo (m := 581) (n := 3) rfl rfl (by decide)) (z_tne hf_rr hf_ln (m := 581) (n := 148) rfl rfl (by decide)) (z_tne hf_rr hf_fi (m := 581) (n := 148) rfl rfl (by decide)) (z_tne hf_rr hf_sp (m := 581) (n := 196) rfl rfl (by decide))).trans hf_rr
              have hf_wk : f19 wk = .inr (8, [.ref ks, .int w2_20, .ref ct, .ref se, .ref ow, .int t2_21, .int wd, .int wp]) := ha_0
              have hf_ks : f19 ks = .inl (cy 1, 13, .inl k2_23) := ha_1
              have hf_ct : f19 ct = .inl (cy 1, 4, .inl c2_24) := ha_2
              have hf_se : f19 se = .inl (cy 1, 4, .inl q2_25) := ha_3
              have hf_ow : f19 ow = .inl (cy 1, 5, .inl o2_26) := ha_4
              have hf_oo : f19 oo = .inr (3, [.ref wk, .ref ln, .ref fi, .ref sp, .int m2_12, .int f2_22]) := ha_5
              have hf_ln : f19 ln = .inl (cy 1, 6, .inl n2_27) := ha_6
              have hf_fi : f19 fi = .inl (cy 1, 6, .inl fi2_28) := ha_7
              have hf_sp : f19 sp = .inl (cy 1, 12, .inl sp2_29) := ha_8
              have hse_ := hp
              refine lv_iconst (v := 0) hx hb dX9_explain_108 (by decide) ?_
              exact z_iret hx hb hr hlk (by decide) (by decide) hw (⟨hsub, hfr, w2_20, t2_21, wd, wp, m2_12, f2_22, k2_23, c2_24, q2_25, o2_26, n2_27, fi2_28, sp2_29, hf_wk, hf_ks, hf_ct, hf_se, hf_ow, hf_oo, hf_ln, hf_fi, hf_sp, by omega, by omega, hse_.2.1, hse_.2.2⟩) dX9_explain_109
            · skip
              refine z_if_ne (tgt := 90) hx hb (show (0 : Int32).toInt = 0 by decide) dX9_explain_84 (by decide) (fun h => absurd h (by decide)) (fun _ => ?_)
              refine lv_bipush (v := (-2)) hx hb dX9_explain_87 (by decide) ?_
              exact z_iret hx hb hr hlk (by decide) (by decide) hw (⟨hsub, hfr, wn, wt, wd, wp, m2_12, of, gk, gc, gq, go, g2_13, gf, gp, hf_wk, hf_ks, hf_ct, hf_se, hf_ow, hf_oo, hf_ln, hf_fi, hf_sp, by omega, by omega, hgk, hga_.2⟩) dX9_explain_89
          · skip
            refine lv_bipush (v := (-3)) hx hb dX9_explain_64 (by decide) ?_
            exact z_iret hx hb hr hlk (by decide) (by decide) hw (⟨hsub, hfr, wn, wt, wd, wp, m2_12, of, gk, gc, gq, go, g2_13, gf, gp, hf_wk, hf_ks, hf_ct, hf_se, hf_ow, hf_oo, hf_ln, hf_fi, hf_sp, by omega, by omega, hgk, hga_.2⟩) dX9_explain_66
        · skip
          refine z_if_ne (tgt := 46) hx hb (show (0 : Int32).toInt = 0 by decide) dX9_explain_40 (by decide) (fun h => absurd h (by decide)) (fun _ => ?_)
          refine lv_bipush (v := (-6)) hx hb dX9_explain_43 (by decide) ?_
          exact z_iret hx hb hr hlk (by decide) (by decide) hw (⟨hsub, hfr, wn, wt, wd, wp, om, of, gk, gc, gq, go, gn, gf, gp, hf_wk, hf_ks, hf_ct, hf_se, hf_ow, hf_oo, hf_ln, hf_fi, hf_sp, by omega, by omega, hgk, hgn⟩) dX9_explain_45
      · skip
        refine z_if_ne (tgt := 32) hx hb (show (0 : Int32).toInt = 0 by decide) dX9_explain_26 (by decide) (fun h => absurd h (by decide)) (fun _ => ?_)
        refine lv_bipush (v := (-2)) hx hb dX9_explain_29 (by decide) ?_
        exact z_iret hx hb hr hlk (by decide) (by decide) hw (⟨hsub, hfr, wn, wt, wd, wp, om, of, gk, gc, gq, go, gn, gf, gp, hf_wk, hf_ks, hf_ct, hf_se, hf_ow, hf_oo, hf_ln, hf_fi, hf_sp, by omega, by omega, hgk, hgn⟩) dX9_explain_31
    · skip
      refine z_if_eq (tgt := 29) hx hb (show (0 : Int32).toInt = 0 by decide) dX9_explain_15 (by decide) (fun _ => ?_) (fun h => absurd h (by decide))
      refine lv_bipush (v := (-2)) hx hb dX9_explain_29 (by decide) ?_
      exact z_iret hx hb hr hlk (by decide) (by decide) hw (⟨hsub, hfr, wn, wt, wd, wp, om, of, gk, gc, gq, go, gn, gf, gp, hf_wk, hf_ks, hf_ct, hf_se, hf_ow, hf_oo, hf_ln, hf_fi, hf_sp, by omega, by omega, hgk, hgn⟩) dX9_explain_31
  · skip
    refine z_if_eq (tgt := 29) hx hb (show (0 : Int32).toInt = 0 by decide) dX9_explain_4 (by decide) (fun _ => ?_) (fun h => absurd h (by decide))
    refine lv_bipush (v := (-2)) hx hb dX9_explain_29 (by decide) ?_
    exact z_iret hx hb hr hlk (by decide) (by decide) hw (⟨hsub, hfr, wn, wt, wd, wp, om, of, gk, gc, gq, go, gn, gf, gp, hf_wk, hf_ks, hf_ct, hf_se, hf_ow, hf_oo, hf_ln, hf_fi, hf_sp, by omega, by omega, hgk, hgn⟩) dX9_explain_31

set_option maxHeartbeats 2000000 in
set_option maxRecDepth 100000 in
theorem c_X9_orders (l : Launch) {D : va_G} {cy : Nat → ClassId} {L : List Nat} {f : Nat → va_E} {sz : Nat} {adK adV : Nat → Nat} {xo tp rd mo dmo im kp sl wk pl oo mx : Nat} {ks ct se ow : Nat} {wn wt wd wp : Int32} {gk gc gq go : Nat → Int32} {la sa mi da : Nat} {v0 v1 v2 v3 v4 v5 v6 : Int32} {gl gs gm : Nat → Int32} {gd : Nat → Option Nat} {dv : Nat → Nat} {ln fi sp : Nat} {om of : Int32} {gn gf gp : Nat → Int32} {nb wi si rr : Nat} {gz : Nat → Int32} {gb : Nat → Option Nat} {gr : Nat → Int64} {sn ga dy : Int32} (hm_xo : xo ∈ L) (hm_wk : wk ∈ L) (hm_ks : ks ∈ L) (hm_ct : ct ∈ L) (hm_se : se ∈ L) (hm_ow : ow ∈ L) (hm_mo : mo ∈ L) (hm_la : la ∈ L) (hm_sa : sa ∈ L) (hm_mi : mi ∈ L) (hm_da : da ∈ L) (hm_oo : oo ∈ L) (hm_ln : ln ∈ L) (hm_fi : fi ∈ L) (hm_sp : sp ∈ L) (hm_sl : sl ∈ L) (hm_nb : nb ∈ L) (hm_si : si ∈ L) (hm_rr : rr ∈ L) (hf_xo : f xo = .inr (9, [.ref tp, .ref rd, .ref mo, .ref dmo, .ref im, .ref kp, .ref sl, .ref wk, .ref pl, .ref oo, .ref mx])) (hf_wk : f wk = .inr (8, [.ref ks, .int wn, .ref ct, .ref se, .ref ow, .int wt, .int wd, .int wp])) (hf_ks : f ks = .inl (cy 1, 13, .inl gk)) (hf_ct : f ct = .inl (cy 1, 4, .inl gc)) (hf_se : f se = .inl (cy 1, 4, .inl gq)) (hf_ow : f ow = .inl (cy 1, 5, .inl go)) (hf_mo : f mo = .inr (2, [.int v0, .int v1, .int v2, .int v3, .int v4, .int v5, .int v6, .ref la, .ref sa, .ref mi, .ref da])) (hf_la : f la = .inl (cy 1, 5, .inl gl)) (hf_sa : f sa = .inl (cy 1, 4, .inl gs)) (hf_mi : f mi = .inl (cy 1, 36, .inl gm)) (hf_da : f da = .inl (cy 4, 13, .inr (.inr (.inr (.inr gd))))) (hf_oo : f oo = .inr (3, [.ref wk, .ref ln, .ref fi, .ref sp, .int om, .int of])) (hf_ln : f ln = .inl (cy 1, 6, .inl gn)) (hf_fi : f fi = .inl (cy 1, 6, .inl gf)) (hf_sp : f sp = .inl (cy 1, 12, .inl gp)) (hf_sl : f sl = .inr (6, [.ref nb, .ref wi, .ref si])) (hf_nb : f nb = .inl (cy 6, 4, .inr (.inr (.inr (.inr gb))))) (hf_si : f si = .inl (cy 1, 4, .inl gz)) (hf_rr : f rr = .inl (cy 2, 60, .inr (.inl gr))) (ne_ct_se : ct ≠ se) (ne_ct_sa : ct ≠ sa) (ne_se_sa : se ≠ sa) (ne_ow_la : ow ≠ la) (ne_ct_si : ct ≠ si) (ne_se_si : se ≠ si) (ne_ln_fi : ln ≠ fi) (hg_da : ∀ i : Nat, i < 13 → gd i = some (dv i)) (hd_da : z_Drv L f dv 13) (hv2 : 0 ≤ v2.toInt ∧ v2.toInt ≤ 9) (hv5 : 0 ≤ v5.toInt ∧ v5.toInt ≤ 12) (hv1 : 0 ≤ v1.toInt ∧ v1.toInt ≤ 4) (hv3 : 0 ≤ v3.toInt ∧ v3.toInt ≤ 5) (hgk : ∀ j : Nat, z_key (gk j)) (hgm : ∀ j : Nat, 0 ≤ (gm j).toInt ∧ (gm j).toInt ≤ 9) (hwn : 0 ≤ wn.toInt ∧ wn.toInt ≤ 13) (hgl : ∀ j : Nat, 0 ≤ (gl j).toInt ∧ (gl j).toInt ≤ 999) (hgs : ∀ j : Nat, 0 ≤ (gs j).toInt ∧ (gs j).toInt ≤ 999) (hom : 0 ≤ om.toInt ∧ om.toInt ≤ 6) (hgn : ∀ j : Nat, z_le11 (gn j)) (hgz : ∀ j : Nat, j < 4 → -1 ≤ (gz j).toInt ∧ (gz j).toInt ≤ 60) (hgb0 : 0 ≤ sn.toInt → sn.toInt ≤ 3 → gb sn.toNatClampNeg = some rr) : Met l yX9_orders (z_ws yX9_orders cX9_orders 5 (some .int)) (z_R 7 0 0) (va_Pc [.ref xo, .int sn, .int ga, .int dy] (z_Pre D vwCl (z_KK D cy adK adV) L f sz)) (z_Qi D vwCl (fun r u => L = u.1 ∧ (∀ b ∈ L, b ≠ wk → b ≠ ks → b ≠ ct → b ≠ se → b ≠ ow → b ≠ oo → b ≠ ln → b ≠ fi → b ≠ sp → u.2 b = f b) ∧ (∃ (w2 t2 d2 p2 m2 f2 : Int32) (k2 c2 q2 o2 n2 fi2 sp2 : Nat → Int32), (u.2 wk = .inr (8, [.ref ks, .int w2, .ref ct, .ref se, .ref ow, .int t2, .int d2, .int p2])) ∧ (u.2 ks = .inl (cy 1, 13, .inl k2)) ∧ (u.2 ct = .inl (cy 1, 4, .inl c2)) ∧ (u.2 se = .inl (cy 1, 4, .inl q2)) ∧ (u.2 ow = .inl (cy 1, 5, .inl o2)) ∧ (u.2 oo = .inr (3, [.ref wk, .ref ln, .ref fi, .ref sp, .int m2, .int f2])) ∧ (u.2 ln = .inl (cy 1, 6, .inl n2)) ∧ (u.2 fi = .inl (cy 1, 6, .inl fi2)) ∧ (u.2 sp = .inl (cy 1, 12, .inl sp2)) ∧ ((0 ≤ w2.toInt ∧ w2.toInt ≤ 13) ∧ (0 ≤ m2.toInt ∧ m2.toInt ≤ 6) ∧ (∀ j : Nat, z_key (k2 j)) ∧ ∀ j : Nat, z_le11 (n2 j)))) L sz) 0 0 (z_A L sz) := by
  refine z_met (cc := cX9_orders) (maxL := 5) (ret := (some .int)) (lv := [(0, .ref xo), (1, .int sn), (2, .int ga), (3, .int dy)]) (by decide) rfl (Nat.le_of_ble_eq_true rfl) rfl ?_
  intro p e s m below meth c ls hx hb hr hlk hml hown hnm hts hKK hA hw hl
  have hK := hKK.1.1
  have hown : s.vm.findClass RX9 = some m.cls := hown
  have hT : ∀ w ∈ lw_all, w.before ([.ref xo, .int sn, .int ga, .int dy] : List Value).toArray s = true := fun w h => hts w (z_cons w h)
  have hsub : L = L := rfl
  have hfr : ∀ b ∈ L, b ≠ wk → b ≠ ks → b ≠ ct → b ≠ se → b ≠ ow → b ≠ oo → b ≠ ln → b ≠ fi → b ≠ sp → f b = f b := fun _ _ _ _ _ _ _ _ _ _ _ => rfl
  refine lv_aload_n hx hb dX9_orders_0 rfl (lv_at hl 0 rfl) ?_
  refine lv_iload_n hx hb dX9_orders_1 rfl (lv_at hl 1 rfl) ?_
  refine lv_iload_n hx hb dX9_orders_2 rfl (lv_at hl 2 rfl) ?_
  refine lv_iload_n hx hb dX9_orders_3 rfl (lv_at hl 3 rfl) ?_
  refine z_calliV (cells := 0) (slots := 0) (b := xo) (As := [.int sn, .int ga, .int dy]) (rest := []) (ci := 9) (q0 := (RX9, TX9, 11)) ⟨hx, hb, hml, hown, hT⟩ (c_X9_explain l hm_xo hm_wk hm_ks hm_ct hm_se hm_ow hm_mo hm_la hm_sa hm_mi hm_da hm_oo hm_ln hm_fi hm_sp hm_sl hm_nb hm_si hm_rr hf_xo hf_wk hf_ks hf_ct hf_se hf_ow hf_mo hf_la hf_sa hf_mi hf_da hf_oo hf_ln hf_fi hf_sp hf_sl hf_nb hf_si hf_rr ne_ct_se ne_ct_sa ne_se_sa ne_ow_la ne_ct_si ne_se_si ne_ln_fi hg_da hd_da (by first | omega | decide | assumption) (by first | omega | decide | assumption) (by first | omega | decide | assumption) (by first | omega | decide | assumption) hgk hgm (by first | omega | decide | assumption) hgl hgs (by first | omega | decide | assumption) hgn hgz hgb0) (cwV 3 hT (z_goodV (fun _ h => h) kw_995 kw_997 kw_20 kw_85 kw_998) rfl rfl rfl (by decide +kernel) ⟨by decide, by decide⟩) z_mv hKK hK hw hA hm_xo hf_xo rfl rfl rfl hl.1 rfl (Nat.le_of_ble_eq_true rfl) dX9_orders_4 ⟨by decide, by decide⟩ (fun r1 u H locs hp hw => ?_)
  obtain ⟨L2, f3⟩ := u
  obtain ⟨hsb, hfm, w2_4, t2_5, d2_6, p2_7, m2_8, f2_9, k2_10, c2_11, q2_12, o2_13, n2_14, fi2_15, sp2_16, ha_0, ha_1, ha_2, ha_3, ha_4, ha_5, ha_6, ha_7, ha_8, hp⟩ := hp
  have hsb : L = L2 := hsb
  subst hsb
  have hsb : ∀ b ∈ L, b ∈ L := fun _ h => h
  have hw : z_H D vwCl (z_A L sz) s.heap L f3 H locs := hw
  have hfr : ∀ b ∈ L, b ≠ wk → b ≠ ks → b ≠ ct → b ≠ se → b ≠ ow → b ≠ oo → b ≠ ln → b ≠ fi → b ≠ sp → f3 b = f b := fun b hb h0 h1 h2 h3 h4 h5 h6 h7 h8 => (hfm b hb h0 h1 h2 h3 h4 h5 h6 h7 h8).trans (hfr b hb h0 h1 h2 h3 h4 h5 h6 h7 h8)
  have hd_da : z_Drv L f3 dv 13 := z_Drv_fr hd_da hsb (fun b hb ht => hfm b hb (z_t0 ht hf_wk (m := 8) rfl (by decide)) (z_t0 ht hf_ks (m := 204) rfl (by decide)) (z_t0 ht hf_ct (m := 132) rfl (by decide)) (z_t0 ht hf_se (m := 132) rfl (by decide)) (z_t0 ht hf_ow (m := 140) rfl (by decide)) (z_t0 ht hf_oo (m := 3) rfl (by decide)) (z_t0 ht hf_ln (m := 148) rfl (by decide)) (z_t0 ht hf_fi (m := 148) rfl (by decide)) (z_t0 ht hf_sp (m := 196) rfl (by decide)))
  have hf_xo : f3 xo = .inr (9, [.ref tp, .ref rd, .ref mo, .ref dmo, .ref im, .ref kp, .ref sl, .ref wk, .ref pl, .ref oo, .ref mx]) := (hfm xo hm_xo (z_tne hf_xo hf_wk (m := 9) (n := 8) rfl rfl (by decide)) (z_tne hf_xo hf_ks (m := 9) (n := 204) rfl rfl (by decide)) (z_tne hf_xo hf_ct (m := 9) (n := 132) rfl rfl (by decide)) (z_tne hf_xo hf_se (m := 9) (n := 132) rfl rfl (by decide)) (z_tne hf_xo hf_ow (m := 9) (n := 140) rfl rfl (by decide)) (z_tne hf_xo hf_oo (m := 9) (n := 3) rfl rfl (by decide)) (z_tne hf_xo hf_ln (m := 9) (n := 148) rfl rfl (by decide)) (z_tne hf_xo hf_fi (m := 9) (n := 148) rfl rfl (by decide)) (z_tne hf_xo hf_sp (m := 9) (n := 196) rfl rfl (by decide))).trans hf_xo
  have hf_mo : f3 mo = .inr (2, [.int v0, .int v1, .int v2, .int v3, .int v4, .int v5, .int v6, .ref la, .ref sa, .ref mi, .ref da]) := (hfm mo hm_mo (z_tne hf_mo hf_wk (m := 2) (n := 8) rfl rfl (by decide)) (z_tne hf_mo hf_ks (m := 2) (n := 204) rfl rfl (by decide)) (z_tne hf_mo hf_ct (m := 2) (n := 132) rfl rfl (by decide)) (z_tne hf_mo hf_se (m := 2) (n := 132) rfl rfl (by decide)) (z_tne hf_mo hf_ow (m := 2) (n := 140) rfl rfl (by decide)) (z_tne hf_mo hf_oo (m := 2) (n := 3) rfl rfl (by decide)) (z_tne hf_mo hf_ln (m := 2) (n := 148) rfl rfl (by decide)) (z_tne hf_mo hf_fi (m := 2) (n := 148) rfl rfl (by decide)) (z_tne hf_mo hf_sp (m := 2) (n := 196) rfl rfl (by decide))).trans hf_mo
  have hf_la : f3 la = .inl (cy 1, 5, .inl gl) := (hfm la hm_la (z_tne hf_la hf_wk (m := 140) (n := 8) rfl rfl (by decide)) (z_tne hf_la hf_ks (m := 140) (n := 204) rfl rfl (by decide)) (z_tne hf_la hf_ct (m := 140) (n := 132) rfl rfl (by decide)) (z_tne hf_la hf_se (m := 140) (n := 132) rfl rfl (by decide)) (Ne.symm ne_ow_la) (z_tne hf_la hf_oo (m := 140) (n := 3) rfl rfl (by decide)) (z_tne hf_la hf_ln (m := 140) (n := 148) rfl rfl (by decide)) (z_tne hf_la hf_fi (m := 140) (n := 148) rfl rfl (by decide)) (z_tne hf_la hf_sp (m := 140) (n := 196) rfl rfl (by decide))).trans hf_la
  have hf_sa : f3 sa = .inl (cy 1, 4, .inl gs) := (hfm sa hm_sa (z_tne hf_sa hf_wk (m := 132) (n := 8) rfl rfl (by decide)) (z_tne hf_sa hf_ks (m := 132) (n := 204) rfl rfl (by decide)) (Ne.symm ne_ct_sa) (Ne.symm ne_se_sa) (z_tne hf_sa hf_ow (m := 132) (n := 140) rfl rfl (by decide)) (z_tne hf_sa hf_oo (m := 132) (n := 3) rfl rfl (by decide)) (z_tne hf_sa hf_ln (m := 132) (n := 148) rfl rfl (by decide)) (z_tne hf_sa hf_fi (m := 132) (n := 148) rfl rfl (by decide)) (z_tne hf_sa hf_sp (m := 132) (n := 196) rfl rfl (by decide))).trans hf_sa
  have hf_mi : f3 mi = .inl (cy 1, 36, .inl gm) := (hfm mi hm_mi (z_tne hf_mi hf_wk (m := 388) (n := 8) rfl rfl (by decide)) (z_tne hf_mi hf_ks (m := 388) (n := 204) rfl rfl (by decide)) (z_tne hf_mi hf_ct (m := 388) (n := 132) rfl rfl (by decide)) (z_tne hf_mi hf_se (m := 388) (n := 132) rfl rfl (by decide)) (z_tne hf_mi hf_ow (m := 388) (n := 140) rfl rfl (by decide)) (z_tne hf_mi hf_oo (m := 388) (n := 3) rfl rfl (by decide)) (z_tne hf_mi hf_ln (m := 388) (n := 148) rfl rfl (by decide)) (z_tne hf_mi hf_fi (m := 388) (n := 148) rfl rfl (by decide)) (z_tne hf_mi hf_sp (m := 388) (n := 196) rfl rfl (by decide))).trans hf_mi
  have hf_da : f3 da = .inl (cy 4, 13, .inr (.inr (.inr (.inr gd)))) := (hfm da hm_da (z_tne hf_da hf_wk (m := 206) (n := 8) rfl rfl (by decide)) (z_tne hf_da hf_ks (m := 206) (n := 204) rfl rfl (by decide)) (z_tne hf_da hf_ct (m := 206) (n := 132) rfl rfl (by decide)) (z_tne hf_da hf_se (m := 206) (n := 132) rfl rfl (by decide)) (z_tne hf_da hf_ow (m := 206) (n := 140) rfl rfl (by decide)) (z_tne hf_da hf_oo (m := 206) (n := 3) rfl rfl (by decide)) (z_tne hf_da hf_ln (m := 206) (n := 148) rfl rfl (by decide)) (z_tne hf_da hf_fi (m := 206) (n := 148) rfl rfl (by decide)) (z_tne hf_da hf_sp (m := 206) (n := 196) rfl rfl (by decide))).trans hf_da
  have hf_sl : f3 sl = .inr (6, [.ref nb, .ref wi, .ref si]) := (hfm sl hm_sl (z_tne hf_sl hf_wk (m := 6) (n := 8) rfl rfl (by decide)) (z_tne hf_sl hf_ks (m := 6) (n := 204) rfl rfl (by decide)) (z_tne hf_sl hf_ct (m := 6) (n := 132) rfl rfl (by decide)) (z_tne hf_sl hf_se (m := 6) (n := 132) rfl rfl (by decide)) (z_tne hf_sl hf_ow (m := 6) (n := 140) rfl rfl (by decide)) (z_tne hf_sl hf_oo (m := 6) (n := 3) rfl rfl (by decide)) (z_tne hf_sl hf_ln (m := 6) (n := 148) rfl rfl (by decide)) (z_tne hf_sl hf_fi (m := 6) (n := 148) rfl rfl (by decide)) (z_tne hf_sl hf_sp (m := 6) (n := 196) rfl rfl (by decide))).trans hf_sl
  have hf_nb : f3 nb = .inl (cy 6, 4, .inr (.inr (.inr (.inr gb)))) := (hfm nb hm_nb (z_tne hf_nb hf_wk (m := 134) (n := 8) rfl rfl (by decide)) (z_tne hf_nb hf_ks (m := 134) (n := 204) rfl rfl (by decide)) (z_tne hf_nb hf_ct (m := 134) (n := 132) rfl rfl (by decide)) (z_tne hf_nb hf_se (m := 134) (n := 132) rfl rfl (by decide)) (z_tne hf_nb hf_ow (m := 134) (n := 140) rfl rfl (by decide)) (z_tne hf_nb hf_oo (m := 134) (n := 3) rfl rfl (by decide)) (z_tne hf_nb hf_ln (m := 134) (n := 148) rfl rfl (by decide)) (z_tne hf_nb hf_fi (m := 134) (n := 148) rfl rfl (by decide)) (z_tne hf_nb hf_sp (m := 134) (n := 196) rfl rfl (by decide))).trans hf_nb
  have hf_si : f3 si = .inl (cy 1, 4, .inl gz) := (hfm si hm_si (z_tne hf_si hf_wk (m := 132) (n := 8) rfl rfl (by decide)) (z_tne hf_si hf_ks (m := 132) (n := 204) rfl rfl (by decide)) (Ne.symm ne_ct_si) (Ne.symm ne_se_si) (z_tne hf_si hf_ow (m := 132) (n := 140) rfl rfl (by decide)) (z_tne hf_si hf_oo (m := 132) (n := 3) rfl rfl (by decide)) (z_tne hf_si hf_ln (m := 132) (n := 148) rfl rfl (by decide)) (z_tne hf_si hf_fi (m := 132) (n := 148) rfl rfl (by decide)) (z_tne hf_si hf_sp (m := 132) (n := 196) rfl rfl (by decide))).trans hf_si
  have hf_rr : f3 rr = .inl (cy 2, 60, .inr (.inl gr)) := (hfm rr hm_rr (z_tne hf_rr hf_wk (m := 581) (n := 8) rfl rfl (by decide)) (z_tne hf_rr hf_ks (m := 581) (n := 204) rfl rfl (by decide)) (z_tne hf_rr hf_ct (m := 581) (n := 132) rfl rfl (by decide)) (z_tne hf_rr hf_se (m := 581) (n := 132) rfl rfl (by decide)) (z_tne hf_rr hf_ow (m := 581) (n := 140) rfl rfl (by decide)) (z_tne hf_rr hf_oo (m := 581) (n := 3) rfl rfl (by decide)) (z_tne hf_rr hf_ln (m := 581) (n := 148) rfl rfl (by decide)) (z_tne hf_rr hf_fi (m := 581) (n := 148) rfl rfl (by decide)) (z_tne hf_rr hf_sp (m := 581) (n := 196) rfl rfl (by decide))).trans hf_rr
  have hf_wk : f3 wk = .inr (8, [.ref ks, .int w2_4, .ref ct, .ref se, .ref ow, .int t2_5, .int d2_6, .int p2_7]) := ha_0
  have hf_ks : f3 ks = .inl (cy 1, 13, .inl k2_10) := ha_1
  have hf_ct : f3 ct = .inl (cy 1, 4, .inl c2_11) := ha_2
  have hf_se : f3 se = .inl (cy 1, 4, .inl q2_12) := ha_3
  have hf_ow : f3 ow = .inl (cy 1, 5, .inl o2_13) := ha_4
  have hf_oo : f3 oo = .inr (3, [.ref wk, .ref ln, .ref fi, .ref sp, .int m2_8, .int f2_9]) := ha_5
  have hf_ln : f3 ln = .inl (cy 1, 6, .inl n2_14) := ha_6
  have hf_fi : f3 fi = .inl (cy 1, 6, .inl fi2_15) := ha_7
  have hf_sp : f3 sp = .inl (cy 1, 12, .inl sp2_16) := ha_8
  have hex := hp
  refine lv_istore (lv' := [(4, .int r1), (0, .ref xo), (1, .int sn), (2, .int ga), (3, .int dy)]) hx hb dX9_orders_7 hl (by decide) rfl (fun ls hl => ?_)
  refine lv_iload hx hb dX9_orders_9 (lv_at hl 0 rfl) ?_
  refine z_if_eq (tgt := 19) hx hb rfl dX9_orders_11 (by decide) (fun c17 => ?_) (fun c17 => ?_)
  · skip
    refine lv_aload_n hx hb dX9_orders_19 rfl (lv_at hl 1 rfl) ?_
    refine z_get (C := RX9) (T := TX9) (N := 11) (ci := 9) (v := .ref oo) hx hb hT zin_X9 hown hK hw hm_xo hf_xo rfl 9 (by decide) (hT _ kw_486) rfl dX9_orders_20 ?_
    refine z_get (C := RX3) (T := TX3) (N := 6) (ci := 3) (v := .int f2_9) hx hb hT zin_X3 hown hK hw hm_oo hf_oo rfl 5 (by decide) (hT _ kw_444) rfl dX9_orders_23 ?_
    exact z_iret hx hb hr hlk (by decide) (by decide) hw (⟨hsub, hfr, w2_4, t2_5, d2_6, p2_7, m2_8, f2_9, k2_10, c2_11, q2_12, o2_13, n2_14, fi2_15, sp2_16, hf_wk, hf_ks, hf_ct, hf_se, hf_ow, hf_oo, hf_ln, hf_fi, hf_sp, by omega, by omega, hex.2.2.1, hex.2.2.2⟩) dX9_orders_26
  · skip
    refine lv_iload hx hb dX9_orders_14 (lv_at hl 0 rfl) ?_
    refine lv_goto (tgt := 26) hx hb dX9_orders_16 (by decide) ?_
    exact z_iret hx hb hr hlk (by decide) (by decide) hw (⟨hsub, hfr, w2_4, t2_5, d2_6, p2_7, m2_8, f2_9, k2_10, c2_11, q2_12, o2_13, n2_14, fi2_15, sp2_16, hf_wk, hf_ks, hf_ct, hf_se, hf_ow, hf_oo, hf_ln, hf_fi, hf_sp, by omega, by omega, hex.2.2.1, hex.2.2.2⟩) dX9_orders_26

set_option maxHeartbeats 2000000 in
set_option maxRecDepth 100000 in
theorem c_X9_order (l : Launch) {D : va_G} {cy : Nat → ClassId} {L : List Nat} {f : Nat → va_E} {sz : Nat} {adK adV : Nat → Nat} {xo tp rd mo dmo im kp sl wk pl oo mx : Nat} {ks ct se ow : Nat} {wn wt wd wp : Int32} {gk gc gq go : Nat → Int32} {la sa mi da : Nat} {v0 v1 v2 v3 v4 v5 v6 : Int32} {gl gs gm : Nat → Int32} {gd : Nat → Option Nat} {dv : Nat → Nat} {ln fi sp : Nat} {om of : Int32} {gn gf gp : Nat → Int32} {nb wi si rr : Nat} {gz : Nat → Int32} {gb : Nat → Option Nat} {gr : Nat → Int64} {sn ga dy ii : Int32} (hm_xo : xo ∈ L) (hm_wk : wk ∈ L) (hm_ks : ks ∈ L) (hm_ct : ct ∈ L) (hm_se : se ∈ L) (hm_ow : ow ∈ L) (hm_mo : mo ∈ L) (hm_la : la ∈ L) (hm_sa : sa ∈ L) (hm_mi : mi ∈ L) (hm_da : da ∈ L) (hm_oo : oo ∈ L) (hm_ln : ln ∈ L) (hm_fi : fi ∈ L) (hm_sp : sp ∈ L) (hm_sl : sl ∈ L) (hm_nb : nb ∈ L) (hm_si : si ∈ L) (hm_rr : rr ∈ L) (hf_xo : f xo = .inr (9, [.ref tp, .ref rd, .ref mo, .ref dmo, .ref im, .ref kp, .ref sl, .ref wk, .ref pl, .ref oo, .ref mx])) (hf_wk : f wk = .inr (8, [.ref ks, .int wn, .ref ct, .ref se, .ref ow, .int wt, .int wd, .int wp])) (hf_ks : f ks = .inl (cy 1, 13, .inl gk)) (hf_ct : f ct = .inl (cy 1, 4, .inl gc)) (hf_se : f se = .inl (cy 1, 4, .inl gq)) (hf_ow : f ow = .inl (cy 1, 5, .inl go)) (hf_mo : f mo = .inr (2, [.int v0, .int v1, .int v2, .int v3, .int v4, .int v5, .int v6, .ref la, .ref sa, .ref mi, .ref da])) (hf_la : f la = .inl (cy 1, 5, .inl gl)) (hf_sa : f sa = .inl (cy 1, 4, .inl gs)) (hf_mi : f mi = .inl (cy 1, 36, .inl gm)) (hf_da : f da = .inl (cy 4, 13, .inr (.inr (.inr (.inr gd))))) (hf_oo : f oo = .inr (3, [.ref wk, .ref ln, .ref fi, .ref sp, .int om, .int of])) (hf_ln : f ln = .inl (cy 1, 6, .inl gn)) (hf_fi : f fi = .inl (cy 1, 6, .inl gf)) (hf_sp : f sp = .inl (cy 1, 12, .inl gp)) (hf_sl : f sl = .inr (6, [.ref nb, .ref wi, .ref si])) (hf_nb : f nb = .inl (cy 6, 4, .inr (.inr (.inr (.inr gb))))) (hf_si : f si = .inl (cy 1, 4, .inl gz)) (hf_rr : f rr = .inl (cy 2, 60, .inr (.inl gr))) (ne_ct_se : ct ≠ se) (ne_ct_sa : ct ≠ sa) (ne_se_sa : se ≠ sa) (ne_ow_la : ow ≠ la) (ne_ct_si : ct ≠ si) (ne_se_si : se ≠ si) (ne_ln_fi : ln ≠ fi) (hg_da : ∀ i : Nat, i < 13 → gd i = some (dv i)) (hd_da : z_Drv L f dv 13) (hv2 : 0 ≤ v2.toInt ∧ v2.toInt ≤ 9) (hv5 : 0 ≤ v5.toInt ∧ v5.toInt ≤ 12) (hv1 : 0 ≤ v1.toInt ∧ v1.toInt ≤ 4) (hv3 : 0 ≤ v3.toInt ∧ v3.toInt ≤ 5) (hgk : ∀ j : Nat, z_key (gk j)) (hgm : ∀ j : Nat, 0 ≤ (gm j).toInt ∧ (gm j).toInt ≤ 9) (hwn : 0 ≤ wn.toInt ∧ wn.toInt ≤ 13) (hgl : ∀ j : Nat, 0 ≤ (gl j).toInt ∧ (gl j).toInt ≤ 999) (hgs : ∀ j : Nat, 0 ≤ (gs j).toInt ∧ (gs j).toInt ≤ 999) (hom : 0 ≤ om.toInt ∧ om.toInt ≤ 6) (hgn : ∀ j : Nat, z_le11 (gn j)) (hgz : ∀ j : Nat, j < 4 → -1 ≤ (gz j).toInt ∧ (gz j).toInt ≤ 60) (hgb0 : 0 ≤ sn.toInt → sn.toInt ≤ 3 → gb sn.toNatClampNeg = some rr) : Met l yX9_order (z_ws yX9_order cX9_order 6 (some .int)) (z_R 7 0 0) (va_Pc [.ref xo, .int sn, .int ga, .int dy, .int ii] (z_Pre D vwCl (z_KK D cy adK adV) L f sz)) (z_Qi D vwCl (fun r u => L = u.1 ∧ (∀ b ∈ L, b ≠ wk → b ≠ ks → b ≠ ct → b ≠ se → b ≠ ow → b ≠ oo → b ≠ ln → b ≠ fi → b ≠ sp → u.2 b = f b) ∧ (∃ (w2 t2 d2 p2 m2 f2 : Int32) (k2 c2 q2 o2 n2 fi2 sp2 : Nat → Int32), (u.2 wk = .inr (8, [.ref ks, .int w2, .ref ct, .ref se, .ref ow, .int t2, .int d2, .int p2])) ∧ (u.2 ks = .inl (cy 1, 13, .inl k2)) ∧ (u.2 ct = .inl (cy 1, 4, .inl c2)) ∧ (u.2 se = .inl (cy 1, 4, .inl q2)) ∧ (u.2 ow = .inl (cy 1, 5, .inl o2)) ∧ (u.2 oo = .inr (3, [.ref wk, .ref ln, .ref fi, .ref sp, .int m2, .int f2])) ∧ (u.2 ln = .inl (cy 1, 6, .inl n2)) ∧ (u.2 fi = .inl (cy 1, 6, .inl fi2)) ∧ (u.2 sp = .inl (cy 1, 12, .inl sp2)) ∧ ((0 ≤ w2.toInt ∧ w2.toInt ≤ 13) ∧ (0 ≤ m2.toInt ∧ m2.toInt ≤ 6) ∧ (∀ j : Nat, z_key (k2 j)) ∧ ∀ j : Nat, z_le11 (n2 j)))) L sz) 0 0 (z_A L sz) := by
  refine z_met (cc := cX9_order) (maxL := 6) (ret := (some .int)) (lv := [(0, .ref xo), (1, .int sn), (2, .int ga), (3, .int dy), (4, .int ii)]) (by decide) rfl (Nat.le_of_ble_eq_true rfl) rfl ?_
  intro p e s m below meth c ls hx hb hr hlk hml hown hnm hts hKK hA hw hl
  have hK := hKK.1.1
  have hown : s.vm.findClass RX9 = some m.cls := hown
  have hT : ∀ w ∈ lw_all, w.before ([.ref xo, .int sn, .int ga, .int dy, .int ii] : List Value).toArray s = true := fun w h => hts w (z_cons w h)
  have hsub : L = L := rfl
  have hfr : ∀ b ∈ L, b ≠ wk → b ≠ ks → b ≠ ct → b ≠ se → b ≠ ow → b ≠ oo → b ≠ ln → b ≠ fi → b ≠ sp → f b = f b := fun _ _ _ _ _ _ _ _ _ _ _ => rfl
  refine lv_aload_n hx hb dX9_order_0 rfl (lv_at hl 0 rfl) ?_
  refine lv_iload_n hx hb dX9_order_1 rfl (lv_at hl 1 rfl) ?_
  refine lv_iload_n hx hb dX9_order_2 rfl (lv_at hl 2 rfl) ?_
  refine lv_iload_n hx hb dX9_order_3 rfl (lv_at hl 3 rfl) ?_
  refine z_calliV (cells := 0) (slots := 0) (b := xo) (As := [.int sn, .int ga, .int dy]) (rest := []) (ci := 9) (q0 := (RX9, TX9, 11)) ⟨hx, hb, hml, hown, hT⟩ (c_X9_explain l hm_xo hm_wk hm_ks hm_ct hm_se hm_ow hm_mo hm_la hm_sa hm_mi hm_da hm_oo hm_ln hm_fi hm_sp hm_sl hm_nb hm_si hm_rr hf_xo hf_wk hf_ks hf_ct hf_se hf_ow hf_mo hf_la hf_sa hf_mi hf_da hf_oo hf_ln hf_fi hf_sp hf_sl hf_nb hf_si hf_rr ne_ct_se ne_ct_sa ne_se_sa ne_ow_la ne_ct_si ne_se_si ne_ln_fi hg_da hd_da (by first | omega | decide | assumption) (by first | omega | decide | assumption) (by first | omega | decide | assumption) (by first | omega | decide | assumption) hgk hgm (by first | omega | decide | assumption) hgl hgs (by first | omega | decide | assumption) hgn hgz hgb0) (cwV 3 hT (z_goodV (fun _ h => h) kw_995 kw_997 kw_20 kw_85 kw_998) rfl rfl rfl (by decide +kernel) ⟨by decide, by decide⟩) z_mv hKK hK hw hA hm_xo hf_xo rfl rfl rfl hl.1 rfl (Nat.le_of_ble_eq_true rfl) dX9_order_4 ⟨by decide, by decide⟩ (fun r1 u H locs hp hw => ?_)
  obtain ⟨L2, f3⟩ := u
  obtain ⟨hsb, hfm, w2_4, t2_5, d2_6, p2_7, m2_8, f2_9, k2_10, c2_11, q2_12, o2_13, n2_14, fi2_15, sp2_16, ha_0, ha_1, ha_2, ha_3, ha_4, ha_5, ha_6, ha_7, ha_8, hp⟩ := hp
  have hsb : L = L2 := hsb
  subst hsb
  have hsb : ∀ b ∈ L, b ∈ L := fun _ h => h
  have hw : z_H D vwCl (z_A L sz) s.heap L f3 H locs := hw
  have hfr : ∀ b ∈ L, b ≠ wk → b ≠ ks → b ≠ ct → b ≠ se → b ≠ ow → b ≠ oo → b ≠ ln → b ≠ fi → b ≠ sp → f3 b = f b := fun b hb h0 h1 h2 h3 h4 h5 h6 h7 h8 => (hfm b hb h0 h1 h2 h3 h4 h5 h6 h7 h8).trans (hfr b hb h0 h1 h2 h3 h4 h5 h6 h7 h8)
  have hd_da : z_Drv L f3 dv 13 := z_Drv_fr hd_da hsb (fun b hb ht => hfm b hb (z_t0 ht hf_wk (m := 8) rfl (by decide)) (z_t0 ht hf_ks (m := 204) rfl (by decide)) (z_t0 ht hf_ct (m := 132) rfl (by decide)) (z_t0 ht hf_se (m := 132) rfl (by decide)) (z_t0 ht hf_ow (m := 140) rfl (by decide)) (z_t0 ht hf_oo (m := 3) rfl (by decide)) (z_t0 ht hf_ln (m := 148) rfl (by decide)) (z_t0 ht hf_fi (m := 148) rfl (by decide)) (z_t0 ht hf_sp (m := 196) rfl (by decide)))
  have hf_xo : f3 xo = .inr (9, [.ref tp, .ref rd, .ref mo, .ref dmo, .ref im, .ref kp, .ref sl, .ref wk, .ref pl, .ref oo, .ref mx]) := (hfm xo hm_xo (z_tne hf_xo hf_wk (m := 9) (n := 8) rfl rfl (by decide)) (z_tne hf_xo hf_ks (m := 9) (n := 204) rfl rfl (by decide)) (z_tne hf_xo hf_ct (m := 9) (n := 132) rfl rfl (by decide)) (z_tne hf_xo hf_se (m := 9) (n := 132) rfl rfl (by decide)) (z_tne hf_xo hf_ow (m := 9) (n := 140) rfl rfl (by decide)) (z_tne hf_xo hf_oo (m := 9) (n := 3) rfl rfl (by decide)) (z_tne hf_xo hf_ln (m := 9) (n := 148) rfl rfl (by decide)) (z_tne hf_xo hf_fi (m := 9) (n := 148) rfl rfl (by decide)) (z_tne hf_xo hf_sp (m := 9) (n := 196) rfl rfl (by decide))).trans hf_xo
  have hf_mo : f3 mo = .inr (2, [.int v0, .int v1, .int v2, .int v3, .int v4, .int v5, .int v6, .ref la, .ref sa, .ref mi, .ref da]) := (hfm mo hm_mo (z_tne hf_mo hf_wk (m := 2) (n := 8) rfl rfl (by decide)) (z_tne hf_mo hf_ks (m := 2) (n := 204) rfl rfl (by decide)) (z_tne hf_mo hf_ct (m := 2) (n := 132) rfl rfl (by decide)) (z_tne hf_mo hf_se (m := 2) (n := 132) rfl rfl (by decide)) (z_tne hf_mo hf_ow (m := 2) (n := 140) rfl rfl (by decide)) (z_tne hf_mo hf_oo (m := 2) (n := 3) rfl rfl (by decide)) (z_tne hf_mo hf_ln (m := 2) (n := 148) rfl rfl (by decide)) (z_tne hf_mo hf_fi (m := 2) (n := 148) rfl rfl (by decide)) (z_tne hf_mo hf_sp (m := 2) (n := 196) rfl rfl (by decide))).trans hf_mo
  have hf_la : f3 la = .inl (cy 1, 5, .inl gl) := (hfm la hm_la (z_tne hf_la hf_wk (m := 140) (n := 8) rfl rfl (by decide)) (z_tne hf_la hf_ks (m := 140) (n := 204) rfl rfl (by decide)) (z_tne hf_la hf_ct (m := 140) (n := 132) rfl rfl (by decide)) (z_tne hf_la hf_se (m := 140) (n := 132) rfl rfl (by decide)) (Ne.symm ne_ow_la) (z_tne hf_la hf_oo (m := 140) (n := 3) rfl rfl (by decide)) (z_tne hf_la hf_ln (m := 140) (n := 148) rfl rfl (by decide)) (z_tne hf_la hf_fi (m := 140) (n := 148) rfl rfl (by decide)) (z_tne hf_la hf_sp (m := 140) (n := 196) rfl rfl (by decide))).trans hf_la
  have hf_sa : f3 sa = .inl (cy 1, 4, .inl gs) := (hfm sa hm_sa (z_tne hf_sa hf_wk (m := 132) (n := 8) rfl rfl (by decide)) (z_tne hf_sa hf_ks (m := 132) (n := 204) rfl rfl (by decide)) (Ne.symm ne_ct_sa) (Ne.symm ne_se_sa) (z_tne hf_sa hf_ow (m := 132) (n := 140) rfl rfl (by decide)) (z_tne hf_sa hf_oo (m := 132) (n := 3) rfl rfl (by decide)) (z_tne hf_sa hf_ln (m := 132) (n := 148) rfl rfl (by decide)) (z_tne hf_sa hf_fi (m := 132) (n := 148) rfl rfl (by decide)) (z_tne hf_sa hf_sp (m := 132) (n := 196) rfl rfl (by decide))).trans hf_sa
  have hf_mi : f3 mi = .inl (cy 1, 36, .inl gm) := (hfm mi hm_mi (z_tne hf_mi hf_wk (m := 388) (n := 8) rfl rfl (by decide)) (z_tne hf_mi hf_ks (m := 388) (n := 204) rfl rfl (by decide)) (z_tne hf_mi hf_ct (m := 388) (n := 132) rfl rfl (by decide)) (z_tne hf_mi hf_se (m := 388) (n := 132) rfl rfl (by decide)) (z_tne hf_mi hf_ow (m := 388) (n := 140) rfl rfl (by decide)) (z_tne hf_mi hf_oo (m := 388) (n := 3) rfl rfl (by decide)) (z_tne hf_mi hf_ln (m := 388) (n := 148) rfl rfl (by decide)) (z_tne hf_mi hf_fi (m := 388) (n := 148) rfl rfl (by decide)) (z_tne hf_mi hf_sp (m := 388) (n := 196) rfl rfl (by decide))).trans hf_mi
  have hf_da : f3 da = .inl (cy 4, 13, .inr (.inr (.inr (.inr gd)))) := (hfm da hm_da (z_tne hf_da hf_wk (m := 206) (n := 8) rfl rfl (by decide)) (z_tne hf_da hf_ks (m := 206) (n := 204) rfl rfl (by decide)) (z_tne hf_da hf_ct (m := 206) (n := 132) rfl rfl (by decide)) (z_tne hf_da hf_se (m := 206) (n := 132) rfl rfl (by decide)) (z_tne hf_da hf_ow (m := 206) (n := 140) rfl rfl (by decide)) (z_tne hf_da hf_oo (m := 206) (n := 3) rfl rfl (by decide)) (z_tne hf_da hf_ln (m := 206) (n := 148) rfl rfl (by decide)) (z_tne hf_da hf_fi (m := 206) (n := 148) rfl rfl (by decide)) (z_tne hf_da hf_sp (m := 206) (n := 196) rfl rfl (by decide))).trans hf_da
  have hf_sl : f3 sl = .inr (6, [.ref nb, .ref wi, .ref si]) := (hfm sl hm_sl (z_tne hf_sl hf_wk (m := 6) (n := 8) rfl rfl (by decide)) (z_tne hf_sl hf_ks (m := 6) (n := 204) rfl rfl (by decide)) (z_tne hf_sl hf_ct (m := 6) (n := 132) rfl rfl (by decide)) (z_tne hf_sl hf_se (m := 6) (n := 132) rfl rfl (by decide)) (z_tne hf_sl hf_ow (m := 6) (n := 140) rfl rfl (by decide)) (z_tne hf_sl hf_oo (m := 6) (n := 3) rfl rfl (by decide)) (z_tne hf_sl hf_ln (m := 6) (n := 148) rfl rfl (by decide)) (z_tne hf_sl hf_fi (m := 6) (n := 148) rfl rfl (by decide)) (z_tne hf_sl hf_sp (m := 6) (n := 196) rfl rfl (by decide))).trans hf_sl
  have hf_nb : f3 nb = .inl (cy 6, 4, .inr (.inr (.inr (.inr gb)))) := (hfm nb hm_nb (z_tne hf_nb hf_wk (m := 134) (n := 8) rfl rfl (by decide)) (z_tne hf_nb hf_ks (m := 134) (n := 204) rfl rfl (by decide)) (z_tne hf_nb hf_ct (m := 134) (n := 132) rfl rfl (by decide)) (z_tne hf_nb hf_se (m := 134) (n := 132) rfl rfl (by decide)) (z_tne hf_nb hf_ow (m := 134) (n := 140) rfl rfl (by decide)) (z_tne hf_nb hf_oo (m := 134) (n := 3) rfl rfl (by decide)) (z_tne hf_nb hf_ln (m := 134) (n := 148) rfl rfl (by decide)) (z_tne hf_nb hf_fi (m := 134) (n := 148) rfl rfl (by decide)) (z_tne hf_nb hf_sp (m := 134) (n := 196) rfl rfl (by decide))).trans hf_nb
  have hf_si : f3 si = .inl (cy 1, 4, .inl gz) := (hfm si hm_si (z_tne hf_si hf_wk (m := 132) (n := 8) rfl rfl (by decide)) (z_tne hf_si hf_ks (m := 132) (n := 204) rfl rfl (by decide)) (Ne.symm ne_ct_si) (Ne.symm ne_se_si) (z_tne hf_si hf_ow (m := 132) (n := 140) rfl rfl (by decide)) (z_tne hf_si hf_oo (m := 132) (n := 3) rfl rfl (by decide)) (z_tne hf_si hf_ln (m := 132) (n := 148) rfl rfl (by decide)) (z_tne hf_si hf_fi (m := 132) (n := 148) rfl rfl (by decide)) (z_tne hf_si hf_sp (m := 132) (n := 196) rfl rfl (by decide))).trans hf_si
  have hf_rr : f3 rr = .inl (cy 2, 60, .inr (.inl gr)) := (hfm rr hm_rr (z_tne hf_rr hf_wk (m := 581) (n := 8) rfl rfl (by decide)) (z_tne hf_rr hf_ks (m := 581) (n := 204) rfl rfl (by decide)) (z_tne hf_rr hf_ct (m := 581) (n := 132) rfl rfl (by decide)) (z_tne hf_rr hf_se (m := 581) (n := 132) rfl rfl (by decide)) (z_tne hf_rr hf_ow (m := 581) (n := 140) rfl rfl (by decide)) (z_tne hf_rr hf_oo (m := 581) (n := 3) rfl rfl (by decide)) (z_tne hf_rr hf_ln (m := 581) (n := 148) rfl rfl (by decide)) (z_tne hf_rr hf_fi (m := 581) (n := 148) rfl rfl (by decide)) (z_tne hf_rr hf_sp (m := 581) (n := 196) rfl rfl (by decide))).trans hf_rr
  have hf_wk : f3 wk = .inr (8, [.ref ks, .int w2_4, .ref ct, .ref se, .ref ow, .int t2_5, .int d2_6, .int p2_7]) := ha_0
  have hf_ks : f3 ks = .inl (cy 1, 13, .inl k2_10) := ha_1
  have hf_ct : f3 ct = .inl (cy 1, 4, .inl c2_11) := ha_2
  have hf_se : f3 se = .inl (cy 1, 4, .inl q2_12) := ha_3
  have hf_ow : f3 ow = .inl (cy 1, 5, .inl o2_13) := ha_4
  have hf_oo : f3 oo = .inr (3, [.ref wk, .ref ln, .ref fi, .ref sp, .int m2_8, .int f2_9]) := ha_5
  have hf_ln : f3 ln = .inl (cy 1, 6, .inl n2_14) := ha_6
  have hf_fi : f3 fi = .inl (cy 1, 6, .inl fi2_15) := ha_7
  have hf_sp : f3 sp = .inl (cy 1, 12, .inl sp2_16) := ha_8
  have hex := hp
  refine lv_istore (lv' := [(5, .int r1), (0, .ref xo), (1, .int sn), (2, .int ga), (3, .int dy), (4, .int ii)]) hx hb dX9_order_7 hl (by decide) rfl (fun ls hl => ?_)
  refine lv_iload hx hb dX9_order_9 (lv_at hl 0 rfl) ?_
  refine z_if_eq (tgt := 17) hx hb rfl dX9_order_11 (by decide) (fun c17 => ?_) (fun c17 => ?_)
  · skip
    refine lv_aload_n hx hb dX9_order_17 rfl (lv_at hl 1 rfl) ?_
    refine z_get (C := RX9) (T := TX9) (N := 11) (ci := 9) (v := .ref oo) hx hb hT zin_X9 hown hK hw hm_xo hf_xo rfl 9 (by decide) (hT _ kw_486) rfl dX9_order_18 ?_
    refine z_get (C := RX3) (T := TX3) (N := 6) (ci := 3) (v := .int f2_9) hx hb hT zin_X3 hown hK hw hm_oo hf_oo rfl 5 (by decide) (hT _ kw_444) rfl dX9_order_21 ?_
    refine z_if_eq (tgt := 44) hx hb rfl dX9_order_24 (by decide) (fun c18 => ?_) (fun c18 => ?_)
    · skip
      refine lv_iconst (v := (-1)) hx hb dX9_order_44 (by decide) ?_
      exact z_iret hx hb hr hlk (by decide) (by decide) hw (⟨hsub, hfr, w2_4, t2_5, d2_6, p2_7, m2_8, f2_9, k2_10, c2_11, q2_12, o2_13, n2_14, fi2_15, sp2_16, hf_wk, hf_ks, hf_ct, hf_se, hf_ow, hf_oo, hf_ln, hf_fi, hf_sp, by omega, by omega, hex.2.2.1, hex.2.2.2⟩) dX9_order_45
    · skip
      refine lv_iload hx hb dX9_order_27 (lv_at hl 5 rfl) ?_
      refine z_if_lt (tgt := 44) hx hb rfl dX9_order_29 (by decide) (fun c19 => ?_) (fun c19 => ?_)
      · skip
        refine lv_iconst (v := (-1)) hx hb dX9_order_44 (by decide) ?_
        exact z_iret hx hb hr hlk (by decide) (by decide) hw (⟨hsub, hfr, w2_4, t2_5, d2_6, p2_7, m2_8, f2_9, k2_10, c2_11, q2_12, o2_13, n2_14, fi2_15, sp2_16, hf_wk, hf_ks, hf_ct, hf_se, hf_ow, hf_oo, hf_ln, hf_fi, hf_sp, by omega, by omega, hex.2.2.1, hex.2.2.2⟩) dX9_order_45
      · skip
        refine lv_iload hx hb dX9_order_32 (lv_at hl 5 rfl) ?_
        refine lv_aload_n hx hb dX9_order_34 rfl (lv_at hl 1 rfl) ?_
        refine z_get (C := RX9) (T := TX9) (N := 11) (ci := 9) (v := .ref oo) hx hb hT zin_X9 hown hK hw hm_xo hf_xo rfl 9 (by decide) (hT _ kw_486) rfl dX9_order_35 ?_
        refine z_get (C := RX3) (T := TX3) (N := 6) (ci := 3) (v := .int m2_8) hx hb hT zin_X3 hown hK hw hm_oo hf_oo rfl 4 (by decide) (hT _ kw_442) rfl dX9_order_38 ?_
        refine z_icmp_lt (tgt := 46) hx hb rfl rfl dX9_order_41 (by decide) (fun c20 => ?_) (fun c20 => ?_)
        · skip
          refine lv_aload_n hx hb dX9_order_46 rfl (lv_at hl 1 rfl) ?_
          refine z_get (C := RX9) (T := TX9) (N := 11) (ci := 9) (v := .ref oo) hx hb hT zin_X9 hown hK hw hm_xo hf_xo rfl 9 (by decide) (hT _ kw_486) rfl dX9_order_47 ?_
          refine z_get (C := RX3) (T := TX3) (N := 6) (ci := 3) (v := .ref fi) hx hb hT zin_X3 hown hK hw hm_oo hf_oo rfl 2 (by decide) (hT _ kw_438) rfl dX9_order_50 ?_
          refine lv_iload hx hb dX9_order_53 (lv_at hl 5 rfl) ?_
          refine z_iald hx hb hK hw 1 hm_fi hf_fi rfl (z_ix rfl (by omega)) dX9_order_55 ?_
          refine lv_topi (fun w21 e_w21 => ?_)
          exact z_iret hx hb hr hlk (by decide) (by decide) hw (⟨hsub, hfr, w2_4, t2_5, d2_6, p2_7, m2_8, f2_9, k2_10, c2_11, q2_12, o2_13, n2_14, fi2_15, sp2_16, hf_wk, hf_ks, hf_ct, hf_se, hf_ow, hf_oo, hf_ln, hf_fi, hf_sp, by omega, by omega, hex.2.2.1, hex.2.2.2⟩) dX9_order_56
        · skip
          refine lv_iconst (v := (-1)) hx hb dX9_order_44 (by decide) ?_
          exact z_iret hx hb hr hlk (by decide) (by decide) hw (⟨hsub, hfr, w2_4, t2_5, d2_6, p2_7, m2_8, f2_9, k2_10, c2_11, q2_12, o2_13, n2_14, fi2_15, sp2_16, hf_wk, hf_ks, hf_ct, hf_se, hf_ow, hf_oo, hf_ln, hf_fi, hf_sp, by omega, by omega, hex.2.2.1, hex.2.2.2⟩) dX9_order_45
  · skip
    refine lv_iload hx hb dX9_order_14 (lv_at hl 0 rfl) ?_
    exact z_iret hx hb hr hlk (by decide) (by decide) hw (⟨hsub, hfr, w2_4, t2_5, d2_6, p2_7, m2_8, f2_9, k2_10, c2_11, q2_12, o2_13, n2_14, fi2_15, sp2_16, hf_wk, hf_ks, hf_ct, hf_se, hf_ow, hf_oo, hf_ln, hf_fi, hf_sp, by omega, by omega, hex.2.2.1, hex.2.2.2⟩) dX9_order_16

set_option maxHeartbeats 2000000 in
set_option maxRecDepth 100000 in
theorem c_X9_sure (l : Launch) {D : va_G} {cy : Nat → ClassId} {L : List Nat} {f : Nat → va_E} {sz : Nat} {adK adV : Nat → Nat} {xo tp rd mo dmo im kp sl wk pl oo mx : Nat} {ks ct se ow : Nat} {wn wt wd wp : Int32} {gk gc gq go : Nat → Int32} {la sa mi da : Nat} {v0 v1 v2 v3 v4 v5 v6 : Int32} {gl gs gm : Nat → Int32} {gd : Nat → Option Nat} {dv : Nat → Nat} {ln fi sp : Nat} {om of : Int32} {gn gf gp : Nat → Int32} {nb wi si rr : Nat} {gz : Nat → Int32} {gb : Nat → Option Nat} {gr : Nat → Int64} {sn ga dy nu : Int32} (hm_xo : xo ∈ L) (hm_wk : wk ∈ L) (hm_ks : ks ∈ L) (hm_ct : ct ∈ L) (hm_se : se ∈ L) (hm_ow : ow ∈ L) (hm_mo : mo ∈ L) (hm_la : la ∈ L) (hm_sa : sa ∈ L) (hm_mi : mi ∈ L) (hm_da : da ∈ L) (hm_oo : oo ∈ L) (hm_ln : ln ∈ L) (hm_fi : fi ∈ L) (hm_sp : sp ∈ L) (hm_sl : sl ∈ L) (hm_nb : nb ∈ L) (hm_si : si ∈ L) (hm_rr : rr ∈ L) (hf_xo : f xo = .inr (9, [.ref tp, .ref rd, .ref mo, .ref dmo, .ref im, .ref kp, .ref sl, .ref wk, .ref pl, .ref oo, .ref mx])) (hf_wk : f wk = .inr (8, [.ref ks, .int wn, .ref ct, .ref se, .ref ow, .int wt, .int wd, .int wp])) (hf_ks : f ks = .inl (cy 1, 13, .inl gk)) (hf_ct : f ct = .inl (cy 1, 4, .inl gc)) (hf_se : f se = .inl (cy 1, 4, .inl gq)) (hf_ow : f ow = .inl (cy 1, 5, .inl go)) (hf_mo : f mo = .inr (2, [.int v0, .int v1, .int v2, .int v3, .int v4, .int v5, .int v6, .ref la, .ref sa, .ref mi, .ref da])) (hf_la : f la = .inl (cy 1, 5, .inl gl)) (hf_sa : f sa = .inl (cy 1, 4, .inl gs)) (hf_mi : f mi = .inl (cy 1, 36, .inl gm)) (hf_da : f da = .inl (cy 4, 13, .inr (.inr (.inr (.inr gd))))) (hf_oo : f oo = .inr (3, [.ref wk, .ref ln, .ref fi, .ref sp, .int om, .int of])) (hf_ln : f ln = .inl (cy 1, 6, .inl gn)) (hf_fi : f fi = .inl (cy 1, 6, .inl gf)) (hf_sp : f sp = .inl (cy 1, 12, .inl gp)) (hf_sl : f sl = .inr (6, [.ref nb, .ref wi, .ref si])) (hf_nb : f nb = .inl (cy 6, 4, .inr (.inr (.inr (.inr gb))))) (hf_si : f si = .inl (cy 1, 4, .inl gz)) (hf_rr : f rr = .inl (cy 2, 60, .inr (.inl gr))) (ne_ct_se : ct ≠ se) (ne_ct_sa : ct ≠ sa) (ne_se_sa : se ≠ sa) (ne_ow_la : ow ≠ la) (ne_ct_si : ct ≠ si) (ne_se_si : se ≠ si) (ne_ln_fi : ln ≠ fi) (hg_da : ∀ i : Nat, i < 13 → gd i = some (dv i)) (hd_da : z_Drv L f dv 13) (hv2 : 0 ≤ v2.toInt ∧ v2.toInt ≤ 9) (hv5 : 0 ≤ v5.toInt ∧ v5.toInt ≤ 12) (hv1 : 0 ≤ v1.toInt ∧ v1.toInt ≤ 4) (hv3 : 0 ≤ v3.toInt ∧ v3.toInt ≤ 5) (hgk : ∀ j : Nat, z_key (gk j)) (hgm : ∀ j : Nat, 0 ≤ (gm j).toInt ∧ (gm j).toInt ≤ 9) (hwn : 0 ≤ wn.toInt ∧ wn.toInt ≤ 13) (hgl : ∀ j : Nat, 0 ≤ (gl j).toInt ∧ (gl j).toInt ≤ 999) (hgs : ∀ j : Nat, 0 ≤ (gs j).toInt ∧ (gs j).toInt ≤ 999) (hom : 0 ≤ om.toInt ∧ om.toInt ≤ 6) (hgn : ∀ j : Nat, z_le11 (gn j)) (hgz : ∀ j : Nat, j < 4 → -1 ≤ (gz j).toInt ∧ (gz j).toInt ≤ 60) (hgb0 : 0 ≤ sn.toInt → sn.toInt ≤ 3 → gb sn.toNatClampNeg = some rr) : Met l yX9_sure (z_ws yX9_sure cX9_sure 6 (some .int)) (z_R 7 0 0) (va_Pc [.ref xo, .int sn, .int ga, .int dy, .int nu] (z_Pre D vwCl (z_KK D cy adK adV) L f sz)) (z_Qi D vwCl (fun r u => L = u.1 ∧ (∀ b ∈ L, b ≠ wk → b ≠ ks → b ≠ ct → b ≠ se → b ≠ ow → b ≠ oo → b ≠ ln → b ≠ fi → b ≠ sp → u.2 b = f b) ∧ (∃ (w2 t2 d2 p2 m2 f2 : Int32) (k2 c2 q2 o2 n2 fi2 sp2 : Nat → Int32), (u.2 wk = .inr (8, [.ref ks, .int w2, .ref ct, .ref se, .ref ow, .int t2, .int d2, .int p2])) ∧ (u.2 ks = .inl (cy 1, 13, .inl k2)) ∧ (u.2 ct = .inl (cy 1, 4, .inl c2)) ∧ (u.2 se = .inl (cy 1, 4, .inl q2)) ∧ (u.2 ow = .inl (cy 1, 5, .inl o2)) ∧ (u.2 oo = .inr (3, [.ref wk, .ref ln, .ref fi, .ref sp, .int m2, .int f2])) ∧ (u.2 ln = .inl (cy 1, 6, .inl n2)) ∧ (u.2 fi = .inl (cy 1, 6, .inl fi2)) ∧ (u.2 sp = .inl (cy 1, 12, .inl sp2)) ∧ ((0 ≤ w2.toInt ∧ w2.toInt ≤ 13) ∧ (0 ≤ m2.toInt ∧ m2.toInt ≤ 6) ∧ (∀ j : Nat, z_key (k2 j)) ∧ ∀ j : Nat, z_le11 (n2 j)))) L sz) 0 0 (z_A L sz) := by
  refine z_met (cc := cX9_sure) (maxL := 6) (ret := (some .int)) (lv := [(0, .ref xo), (1, .int sn), (2, .int ga), (3, .int dy), (4, .int nu)]) (by decide) rfl (Nat.le_of_ble_eq_true rfl) rfl ?_
  intro p e s m below meth c ls hx hb hr hlk hml hown hnm hts hKK hA hw hl
  have hK := hKK.1.1
  have hown : s.vm.findClass RX9 = some m.cls := hown
  have hT : ∀ w ∈ lw_all, w.before ([.ref xo, .int sn, .int ga, .int dy, .int nu] : List Value).toArray s = true := fun w h => hts w (z_cons w h)
  have hsub : L = L := rfl
  have hfr : ∀ b ∈ L, b ≠ wk → b ≠ ks → b ≠ ct → b ≠ se → b ≠ ow → b ≠ oo → b ≠ ln → b ≠ fi → b ≠ sp → f b = f b := fun _ _ _ _ _ _ _ _ _ _ _ => rfl
  refine lv_aload_n hx hb dX9_sure_0 rfl (lv_at hl 0 rfl) ?_
  refine z_get (C := RX9) (T := TX9) (N := 11) (ci := 9) (v := .ref mo) hx hb hT zin_X9 hown hK hw hm_xo hf_xo rfl 2 (by decide) (hT _ kw_479) rfl dX9_sure_1 ?_
  refine lv_iload hx hb dX9_sure_4 (lv_at hl 4 rfl) ?_
  refine z_calliV (cells := 0) (slots := 0) (b := mo) (As := [.int nu]) (rest := []) (ci := 2) (q0 := (RX2, TX2, 11)) ⟨hx, hb, hml, hown, hT⟩ (c_X2_hasDrive l hm_mo hf_mo) (cwV 1 hT (z_goodV (fun _ h => h) kw_709 kw_710 kw_711 kw_87 kw_712) rfl rfl rfl (by decide +kernel) ⟨by decide, by decide⟩) z_mv hKK hK hw hA hm_mo hf_mo rfl rfl rfl hl.1 rfl (Nat.le_of_ble_eq_true rfl) dX9_sure_6 ⟨by decide, by decide⟩ (fun r1 u H locs hp hw => ?_)
  obtain ⟨rfl, hp⟩ := hp
  have hw : z_H D vwCl (z_A L sz) s.heap L f H locs := hw
  rcases hp with ⟨rfl, h2⟩ | ⟨rfl, h2⟩
  · skip
    refine z_if_ne (tgt := 15) hx hb (show (1 : Int32).toInt = 1 by decide) dX9_sure_9 (by decide) (fun _ => ?_) (fun h => absurd h (by decide))
    refine lv_aload_n hx hb dX9_sure_15 rfl (lv_at hl 0 rfl) ?_
    refine lv_iload_n hx hb dX9_sure_16 rfl (lv_at hl 1 rfl) ?_
    refine lv_iload_n hx hb dX9_sure_17 rfl (lv_at hl 2 rfl) ?_
    refine lv_iload_n hx hb dX9_sure_18 rfl (lv_at hl 3 rfl) ?_
    refine z_calliV (cells := 0) (slots := 0) (b := xo) (As := [.int sn, .int ga, .int dy]) (rest := []) (ci := 9) (q0 := (RX9, TX9, 11)) ⟨hx, hb, hml, hown, hT⟩ (c_X9_explain l hm_xo hm_wk hm_ks hm_ct hm_se hm_ow hm_mo hm_la hm_sa hm_mi hm_da hm_oo hm_ln hm_fi hm_sp hm_sl hm_nb hm_si hm_rr hf_xo hf_wk hf_ks hf_ct hf_se hf_ow hf_mo hf_la hf_sa hf_mi hf_da hf_oo hf_ln hf_fi hf_sp hf_sl hf_nb hf_si hf_rr ne_ct_se ne_ct_sa ne_se_sa ne_ow_la ne_ct_si ne_se_si ne_ln_fi hg_da hd_da (by first | omega | decide | assumption) (by first | omega | decide | assumption) (by first | omega | decide | assumption) (by first | omega | decide | assumption) hgk hgm (by first | omega | decide | assumption) hgl hgs (by first | omega | decide | assumption) hgn hgz hgb0) (cwV 3 hT (z_goodV (fun _ h => h) kw_995 kw_997 kw_20 kw_85 kw_998) rfl rfl rfl (by decide +kernel) ⟨by decide, by decide⟩) z_mv hKK hK hw hA hm_xo hf_xo rfl rfl rfl hl.1 rfl (Nat.le_of_ble_eq_true rfl) dX9_sure_19 ⟨by decide, by decide⟩ (fun r3 u H locs hp hw => ?_)
    obtain ⟨L4, f5⟩ := u
    obtain ⟨hsb, hfm, w2_6, t2_7, d2_8, p2_9, m2_10, f2_11, k2_12, c2_13, q2_14, o2_15, n2_16, fi2_17, sp2_18, ha_0, ha_1, ha_2, ha_3, ha_4, ha_5, ha_6, ha_7, ha_8, hp⟩ := hp
    have hsb : L = L4 := hsb
    subst hsb
    have hsb : ∀ b ∈ L, b ∈ L := fun _ h => h
    have hw : z_H D vwCl (z_A L sz) s.heap L f5 H locs := hw
    have hfr : ∀ b ∈ L, b ≠ wk → b ≠ ks → b ≠ ct → b ≠ se → b ≠ ow → b ≠ oo → b ≠ ln → b ≠ fi → b ≠ sp → f5 b = f b := fun b hb h0 h1 h2 h3 h4 h5 h6 h7 h8 => (hfm b hb h0 h1 h2 h3 h4 h5 h6 h7 h8).trans (hfr b hb h0 h1 h2 h3 h4 h5 h6 h7 h8)
    have hd_da : z_Drv L f5 dv 13 := z_Drv_fr hd_da hsb (fun b hb ht => hfm b hb (z_t0 ht hf_wk (m := 8) rfl (by decide)) (z_t0 ht hf_ks (m := 204) rfl (by decide)) (z_t0 ht hf_ct (m := 132) rfl (by decide)) (z_t0 ht hf_se (m := 132) rfl (by decide)) (z_t0 ht hf_ow (m := 140) rfl (by decide)) (z_t0 ht hf_oo (m := 3) rfl (by decide)) (z_t0 ht hf_ln (m := 148) rfl (by decide)) (z_t0 ht hf_fi (m := 148) rfl (by decide)) (z_t0 ht hf_sp (m := 196) rfl (by decide)))
    have hf_xo : f5 xo = .inr (9, [.ref tp, .ref rd, .ref mo, .ref dmo, .ref im, .ref kp, .ref sl, .ref wk, .ref pl, .ref oo, .ref mx]) := (hfm xo hm_xo (z_tne hf_xo hf_wk (m := 9) (n := 8) rfl rfl (by decide)) (z_tne hf_xo hf_ks (m := 9) (n := 204) rfl rfl (by decide)) (z_tne hf_xo hf_ct (m := 9) (n := 132) rfl rfl (by decide)) (z_tne hf_xo hf_se (m := 9) (n := 132) rfl rfl (by decide)) (z_tne hf_xo hf_ow (m := 9) (n := 140) rfl rfl (by decide)) (z_tne hf_xo hf_oo (m := 9) (n := 3) rfl rfl (by decide)) (z_tne hf_xo hf_ln (m := 9) (n := 148) rfl rfl (by decide)) (z_tne hf_xo hf_fi (m := 9) (n := 148) rfl rfl (by decide)) (z_tne hf_xo hf_sp (m := 9) (n := 196) rfl rfl (by decide))).trans hf_xo
    have hf_mo : f5 mo = .inr (2, [.int v0, .int v1, .int v2, .int v3, .int v4, .int v5, .int v6, .ref la, .ref sa, .ref mi, .ref da]) := (hfm mo hm_mo (z_tne hf_mo hf_wk (m := 2) (n := 8) rfl rfl (by decide)) (z_tne hf_mo hf_ks (m := 2) (n := 204) rfl rfl (by decide)) (z_tne hf_mo hf_ct (m := 2) (n := 132) rfl rfl (by decide)) (z_tne hf_mo hf_se (m := 2) (n := 132) rfl rfl (by decide)) (z_tne hf_mo hf_ow (m := 2) (n := 140) rfl rfl (by decide)) (z_tne hf_mo hf_oo (m := 2) (n := 3) rfl rfl (by decide)) (z_tne hf_mo hf_ln (m := 2) (n := 148) rfl rfl (by decide)) (z_tne hf_mo hf_fi (m := 2) (n := 148) rfl rfl (by decide)) (z_tne hf_mo hf_sp (m := 2) (n := 196) rfl rfl (by decide))).trans hf_mo
    have hf_la : f5 la = .inl (cy 1, 5, .inl gl) := (hfm la hm_la (z_tne hf_la hf_wk (m := 140) (n := 8) rfl rfl (by decide)) (z_tne hf_la hf_ks (m := 140) (n := 204) rfl rfl (by decide)) (z_tne hf_la hf_ct (m := 140) (n := 132) rfl rfl (by decide)) (z_tne hf_la hf_se (m := 140) (n := 132) rfl rfl (by decide)) (Ne.symm ne_ow_la) (z_tne hf_la hf_oo (m := 140) (n := 3) rfl rfl (by decide)) (z_tne hf_la hf_ln (m := 140) (n := 148) rfl rfl (by decide)) (z_tne hf_la hf_fi (m := 140) (n := 148) rfl rfl (by decide)) (z_tne hf_la hf_sp (m := 140) (n := 196) rfl rfl (by decide))).trans hf_la
    have hf_sa : f5 sa = .inl (cy 1, 4, .inl gs) := (hfm sa hm_sa (z_tne hf_sa hf_wk (m := 132) (n := 8) rfl rfl (by decide)) (z_tne hf_sa hf_ks (m := 132) (n := 204) rfl rfl (by decide)) (Ne.symm ne_ct_sa) (Ne.symm ne_se_sa) (z_tne hf_sa hf_ow (m := 132) (n := 140) rfl rfl (by decide)) (z_tne hf_sa hf_oo (m := 132) (n := 3) rfl rfl (by decide)) (z_tne hf_sa hf_ln (m := 132) (n := 148) rfl rfl (by decide)) (z_tne hf_sa hf_fi (m := 132) (n := 148) rfl rfl (by decide)) (z_tne hf_sa hf_sp (m := 132) (n := 196) rfl rfl (by decide))).trans hf_sa
    have hf_mi : f5 mi = .inl (cy 1, 36, .inl gm) := (hfm mi hm_mi (z_tne hf_mi hf_wk (m := 388) (n := 8) rfl rfl (by decide)) (z_tne hf_mi hf_ks (m := 388) (n := 204) rfl rfl (by decide)) (z_tne hf_mi hf_ct (m := 388) (n := 132) rfl rfl (by decide)) (z_tne hf_mi hf_se (m := 388) (n := 132) rfl rfl (by decide)) (z_tne hf_mi hf_ow (m := 388) (n := 140) rfl rfl (by decide)) (z_tne hf_mi hf_oo (m := 388) (n := 3) rfl rfl (by decide)) (z_tne hf_mi hf_ln (m := 388) (n := 148) rfl rfl (by decide)) (z_tne hf_mi hf_fi (m := 388) (n := 148) rfl rfl (by decide)) (z_tne hf_mi hf_sp (m := 388) (n := 196) rfl rfl (by decide))).trans hf_mi
    have hf_da : f5 da = .inl (cy 4, 13, .inr (.inr (.inr (.inr gd)))) := (hfm da hm_da (z_tne hf_da hf_wk (m := 206) (n := 8) rfl rfl (by decide)) (z_tne hf_da hf_ks (m := 206) (n := 204) rfl rfl (by decide)) (z_tne hf_da hf_ct (m := 206) (n := 132) rfl rfl (by decide)) (z_tne hf_da hf_se (m := 206) (n := 132) rfl rfl (by decide)) (z_tne hf_da hf_ow (m := 206) (n := 140) rfl rfl (by decide)) (z_tne hf_da hf_oo (m := 206) (n := 3) rfl rfl (by decide)) (z_tne hf_da hf_ln (m := 206) (n := 148) rfl rfl (by decide)) (z_tne hf_da hf_fi (m := 206) (n := 148) rfl rfl (by decide)) (z_tne hf_da hf_sp (m := 206) (n := 196) rfl rfl (by decide))).trans hf_da
    have hf_sl : f5 sl = .inr (6, [.ref nb, .ref wi, .ref si]) := (hfm sl hm_sl (z_tne hf_sl hf_wk (m := 6) (n := 8) rfl rfl (by decide)) (z_tne hf_sl hf_ks (m := 6) (n := 204) rfl rfl (by decide)) (z_tne hf_sl hf_ct (m := 6) (n := 132) rfl rfl (by decide)) (z_tne hf_sl hf_se (m := 6) (n := 132) rfl rfl (by decide)) (z_tne hf_sl hf_ow (m := 6) (n := 140) rfl rfl (by decide)) (z_tne hf_sl hf_oo (m := 6) (n := 3) rfl rfl (by decide)) (z_tne hf_sl hf_ln (m := 6) (n := 148) rfl rfl (by decide)) (z_tne hf_sl hf_fi (m := 6) (n := 148) rfl rfl (by decide)) (z_tne hf_sl hf_sp (m := 6) (n := 196) rfl rfl (by decide))).trans hf_sl
    have hf_nb : f5 nb = .inl (cy 6, 4, .inr (.inr (.inr (.inr gb)))) := (hfm nb hm_nb (z_tne hf_nb hf_wk (m := 134) (n := 8) rfl rfl (by decide)) (z_tne hf_nb hf_ks (m := 134) (n := 204) rfl rfl (by decide)) (z_tne hf_nb hf_ct (m := 134) (n := 132) rfl rfl (by decide)) (z_tne hf_nb hf_se (m := 134) (n := 132) rfl rfl (by decide)) (z_tne hf_nb hf_ow (m := 134) (n := 140) rfl rfl (by decide)) (z_tne hf_nb hf_oo (m := 134) (n := 3) rfl rfl (by decide)) (z_tne hf_nb hf_ln (m := 134) (n := 148) rfl rfl (by decide)) (z_tne hf_nb hf_fi (m := 134) (n := 148) rfl rfl (by decide)) (z_tne hf_nb hf_sp (m := 134) (n := 196) rfl rfl (by decide))).trans hf_nb
    have hf_si : f5 si = .inl (cy 1, 4, .inl gz) := (hfm si hm_si (z_tne hf_si hf_wk (m := 132) (n := 8) rfl rfl (by decide)) (z_tne hf_si hf_ks (m := 132) (n := 204) rfl rfl (by decide)) (Ne.symm ne_ct_si) (Ne.symm ne_se_si) (z_tne hf_si hf_ow (m := 132) (n := 140) rfl rfl (by decide)) (z_tne hf_si hf_oo (m := 132) (n := 3) rfl rfl (by decide)) (z_tne hf_si hf_ln (m := 132) (n := 148) rfl rfl (by decide)) (z_tne hf_si hf_fi (m := 132) (n := 148) rfl rfl (by decide)) (z_tne hf_si hf_sp (m := 132) (n := 196) rfl rfl (by decide))).trans hf_si
    have hf_rr : f5 rr = .inl (cy 2, 60, .inr (.inl gr)) := (hfm rr hm_rr (z_tne hf_rr hf_wk (m := 581) (n := 8) rfl rfl (by decide)) (z_tne hf_rr hf_ks (m := 581) (n := 204) rfl rfl (by decide)) (z_tne hf_rr hf_ct (m := 581) (n := 132) rfl rfl (by decide)) (z_tne hf_rr hf_se (m := 581) (n := 132) rfl rfl (by decide)) (z_tne hf_rr hf_ow (m := 581) (n := 140) rfl rfl (by decide)) (z_tne hf_rr hf_oo (m := 581) (n := 3) rfl rfl (by decide)) (z_tne hf_rr hf_ln (m := 581) (n := 148) rfl rfl (by decide)) (z_tne hf_rr hf_fi (m := 581) (n := 148) rfl rfl (by decide)) (z_tne hf_rr hf_sp (m := 581) (n := 196) rfl rfl (by decide))).trans hf_rr
    have hf_wk : f5 wk = .inr (8, [.ref ks, .int w2_6, .ref ct, .ref se, .ref ow, .int t2_7, .int d2_8, .int p2_9]) := ha_0
    have hf_ks : f5 ks = .inl (cy 1, 13, .inl k2_12) := ha_1
    have hf_ct : f5 ct = .inl (cy 1, 4, .inl c2_13) := ha_2
    have hf_se : f5 se = .inl (cy 1, 4, .inl q2_14) := ha_3
    have hf_ow : f5 ow = .inl (cy 1, 5, .inl o2_15) := ha_4
    have hf_oo : f5 oo = .inr (3, [.ref wk, .ref ln, .ref fi, .ref sp, .int m2_10, .int f2_11]) := ha_5
    have hf_ln : f5 ln = .inl (cy 1, 6, .inl n2_16) := ha_6
    have hf_fi : f5 fi = .inl (cy 1, 6, .inl fi2_17) := ha_7
    have hf_sp : f5 sp = .inl (cy 1, 12, .inl sp2_18) := ha_8
    have hex := hp
    refine lv_istore (lv' := [(5, .int r3), (0, .ref xo), (1, .int sn), (2, .int ga), (3, .int dy), (4, .int nu)]) hx hb dX9_sure_22 hl (by decide) rfl (fun ls hl => ?_)
    refine lv_iload hx hb dX9_sure_24 (lv_at hl 0 rfl) ?_
    refine z_if_eq (tgt := 34) hx hb rfl dX9_sure_26 (by decide) (fun c19 => ?_) (fun c19 => ?_)
    · skip
      refine lv_aload_n hx hb dX9_sure_34 rfl (lv_at hl 1 rfl) ?_
      refine z_get (C := RX9) (T := TX9) (N := 11) (ci := 9) (v := .ref oo) hx hb hT zin_X9 hown hK hw hm_xo hf_xo rfl 9 (by decide) (hT _ kw_486) rfl dX9_sure_35 ?_
      refine z_get (C := RX3) (T := TX3) (N := 6) (ci := 3) (v := .ref sp) hx hb hT zin_X3 hown hK hw hm_oo hf_oo rfl 3 (by decide) (hT _ kw_440) rfl dX9_sure_38 ?_
      refine lv_iload hx hb dX9_sure_41 (lv_at hl 5 rfl) ?_
      refine z_iald hx hb hK hw 1 hm_sp hf_sp rfl (z_ix rfl (by omega)) dX9_sure_43 ?_
      refine lv_topi (fun w20 e_w20 => ?_)
      exact z_iret hx hb hr hlk (by decide) (by decide) hw (⟨hsub, hfr, w2_6, t2_7, d2_8, p2_9, m2_10, f2_11, k2_12, c2_13, q2_14, o2_15, n2_16, fi2_17, sp2_18, hf_wk, hf_ks, hf_ct, hf_se, hf_ow, hf_oo, hf_ln, hf_fi, hf_sp, by omega, by omega, hex.2.2.1, hex.2.2.2⟩) dX9_sure_44
    · skip
      refine lv_iload hx hb dX9_sure_29 (lv_at hl 0 rfl) ?_
      refine lv_goto (tgt := 44) hx hb dX9_sure_31 (by decide) ?_
      exact z_iret hx hb hr hlk (by decide) (by decide) hw (⟨hsub, hfr, w2_6, t2_7, d2_8, p2_9, m2_10, f2_11, k2_12, c2_13, q2_14, o2_15, n2_16, fi2_17, sp2_18, hf_wk, hf_ks, hf_ct, hf_se, hf_ow, hf_oo, hf_ln, hf_fi, hf_sp, by omega, by omega, hex.2.2.1, hex.2.2.2⟩) dX9_sure_44
  · skip
    refine z_if_ne (tgt := 15) hx hb (show (0 : Int32).toInt = 0 by decide) dX9_sure_9 (by decide) (fun h => absurd h (by decide)) (fun _ => ?_)
    refine lv_bipush (v := (-2)) hx hb dX9_sure_12 (by decide) ?_
    exact z_iret hx hb hr hlk (by decide) (by decide) hw (⟨hsub, hfr, wn, wt, wd, wp, om, of, gk, gc, gq, go, gn, gf, gp, hf_wk, hf_ks, hf_ct, hf_se, hf_ow, hf_oo, hf_ln, hf_fi, hf_sp, by omega, by omega, hgk, hgn⟩) dX9_sure_14

set_option maxHeartbeats 2000000 in
set_option maxRecDepth 100000 in
theorem c_X9_askTold (l : Launch) {D : va_G} {cy : Nat → ClassId} {L : List Nat} {f : Nat → va_E} {sz : Nat} {adK adV : Nat → Nat} {xo tp rd mo dmo im kp sl wk pl oo mx : Nat} {la sa mi da : Nat} {v0 v1 v2 v3 v4 v5 v6 : Int32} {gd : Nat → Option Nat} {dv : Nat → Nat} {nb wi si rr : Nat} {gz : Nat → Int32} {gb : Nat → Option Nat} {gr : Nat → Int64} {sn dy : Int32} (hm_xo : xo ∈ L) (hm_mo : mo ∈ L) (hm_da : da ∈ L) (hm_sl : sl ∈ L) (hm_nb : nb ∈ L) (hm_si : si ∈ L) (hm_rr : rr ∈ L) (hf_xo : f xo = .inr (9, [.ref tp, .ref rd, .ref mo, .ref dmo, .ref im, .ref kp, .ref sl, .ref wk, .ref pl, .ref oo, .ref mx])) (hf_mo : f mo = .inr (2, [.int v0, .int v1, .int v2, .int v3, .int v4, .int v5, .int v6, .ref la, .ref sa, .ref mi, .ref da])) (hf_da : f da = .inl (cy 4, 13, .inr (.inr (.inr (.inr gd))))) (hf_sl : f sl = .inr (6, [.ref nb, .ref wi, .ref si])) (hf_nb : f nb = .inl (cy 6, 4, .inr (.inr (.inr (.inr gb))))) (hf_si : f si = .inl (cy 1, 4, .inl gz)) (hf_rr : f rr = .inl (cy 2, 60, .inr (.inl gr))) (hg_da : ∀ i : Nat, i < 13 → gd i = some (dv i)) (hd_da : z_Drv L f dv 13) (hgz : ∀ j : Nat, j < 4 → -1 ≤ (gz j).toInt ∧ (gz j).toInt ≤ 60) (hgb0 : 0 ≤ sn.toInt → sn.toInt ≤ 3 → gb sn.toNatClampNeg = some rr) : Met l yX9_askTold (z_ws yX9_askTold cX9_askTold 3 (some .int)) (z_R 2 0 0) (va_Pc [.ref xo, .int sn, .int dy] (z_Pre D vwCl (z_KK D cy adK adV) L f sz)) (z_Qi D vwCl (fun r u => u = (L, f) ∧ ((r.toInt = 0 ∧ (0 ≤ sn.toInt ∧ sn.toInt ≤ 3)) ∨ r.toInt ≠ 0)) L sz) 0 0 (z_A L sz) := by
  refine z_met (cc := cX9_askTold) (maxL := 3) (ret := (some .int)) (lv := [(0, .ref xo), (1, .int sn), (2, .int dy)]) (by decide) rfl (Nat.le_of_ble_eq_true rfl) rfl ?_
  intro p e s m below meth c ls hx hb hr hlk hml hown hnm hts hKK hA hw hl
  have hK := hKK.1.1
  have hown : s.vm.findClass RX9 = some m.cls := hown
  have hT : ∀ w ∈ lw_all, w.before ([.ref xo, .int sn, .int dy] : List Value).toArray s = true := fun w h => hts w (z_cons w h)
  refine lv_iload_n hx hb dX9_askTold_0 rfl (lv_at hl 1 rfl) ?_
  refine z_calliS (cells := 0) (slots := 0) (As := [.int sn]) (rest := []) ⟨hx, hb, hml, hown, hT⟩ (c_X6_isSlot l ) (va_cwS 1 hT (z_goodS (fun _ h => h) kw_999 kw_1000 kw_90 kw_1001) rfl rfl rfl (by decide +kernel) ⟨by decide, by decide⟩) z_mv hKK hw hA rfl hl.1 rfl (Nat.le_of_ble_eq_true rfl) dX9_askTold_1 ⟨by decide, by decide⟩ (fun r1 u H locs hp hw => ?_)
  obtain ⟨rfl, hp⟩ := hp
  have hw : z_H D vwCl (z_A L sz) s.heap L f H locs := hw
  rcases hp with ⟨rfl, h2⟩ | ⟨rfl, h2⟩
  · skip
    refine z_if_eq (tgt := 18) hx hb (show (1 : Int32).toInt = 1 by decide) dX9_askTold_4 (by decide) (fun h => absurd h (by decide)) (fun _ => ?_)
    refine lv_aload_n hx hb dX9_askTold_7 rfl (lv_at hl 0 rfl) ?_
    refine z_get (C := RX9) (T := TX9) (N := 11) (ci := 9) (v := .ref mo) hx hb hT zin_X9 hown hK hw hm_xo hf_xo rfl 2 (by decide) (hT _ kw_479) rfl dX9_askTold_8 ?_
    refine lv_iload_n hx hb dX9_askTold_11 rfl (lv_at hl 2 rfl) ?_
    refine z_calliV (cells := 0) (slots := 0) (b := mo) (As := [.int dy]) (rest := []) (ci := 2) (q0 := (RX2, TX2, 11)) ⟨hx, hb, hml, hown, hT⟩ (c_X2_hasDay l hm_mo hf_mo) (cwV 1 hT (z_goodV (fun _ h => h) kw_751 kw_752 kw_753 kw_87 kw_754) rfl rfl rfl (by decide +kernel) ⟨by decide, by decide⟩) z_mv hKK hK hw hA hm_mo hf_mo rfl rfl rfl hl.1 rfl (Nat.le_of_ble_eq_true rfl) dX9_askTold_12 ⟨by decide, by decide⟩ (fun r3 u H locs hp hw => ?_)
    obtain ⟨rfl, hp⟩ := hp
    have hw : z_H D vwCl (z_A L sz) s.heap L f H locs := hw
    rcases hp with ⟨rfl, h4⟩ | ⟨rfl, h4⟩
    · skip
      refine z_if_ne (tgt := 21) hx hb (show (1 : Int32).toInt = 1 by decide) dX9_askTold_15 (by decide) (fun _ => ?_) (fun h => absurd h (by decide))
      refine lv_aload_n hx hb dX9_askTold_21 rfl (lv_at hl 0 rfl) ?_
      have hgb := hgb0 (by omega) (by omega)
      refine z_get (C := RX9) (T := TX9) (N := 11) (ci := 9) (v := .ref sl) hx hb hT zin_X9 hown hK hw hm_xo hf_xo rfl 6 (by decide) (hT _ kw_483) rfl dX9_askTold_22 ?_
      refine lv_iload_n hx hb dX9_askTold_25 rfl (lv_at hl 1 rfl) ?_
      refine z_calliV (cells := 0) (slots := 0) (b := sl) (As := [.int sn]) (rest := []) (ci := 6) (q0 := (RX6, TX6, 3)) ⟨hx, hb, hml, hown, hT⟩ (c_X6_hasRow l hm_sl hm_si hf_sl hf_si (by first | omega | decide | assumption)) (cwV 1 hT (z_goodV (fun _ h => h) kw_1002 kw_1003 kw_1004 kw_90 kw_1005) rfl rfl rfl (by decide +kernel) ⟨by decide, by decide⟩) z_mv hKK hK hw hA hm_sl hf_sl rfl rfl rfl hl.1 rfl (Nat.le_of_ble_eq_true rfl) dX9_askTold_26 ⟨by decide, by decide⟩ (fun r5 u H locs hp hw => ?_)
      obtain ⟨rfl, hp⟩ := hp
      have hw : z_H D vwCl (z_A L sz) s.heap L f H locs := hw
      rcases hp with ⟨rfl, h6⟩ | ⟨rfl, h6⟩
      · skip
        refine z_if_ne (tgt := 35) hx hb (show (1 : Int32).toInt = 1 by decide) dX9_askTold_29 (by decide) (fun _ => ?_) (fun h => absurd h (by decide))
        refine lv_aload_n hx hb dX9_askTold_35 rfl (lv_at hl 0 rfl) ?_
        refine z_get (C := RX9) (T := TX9) (N := 11) (ci := 9) (v := .ref sl) hx hb hT zin_X9 hown hK hw hm_xo hf_xo rfl 6 (by decide) (hT _ kw_483) rfl dX9_askTold_36 ?_
        refine z_get (C := RX6) (T := TX6) (N := 3) (ci := 6) (v := .ref si) hx hb hT zin_X6 hown hK hw hm_sl hf_sl rfl 2 (by decide) (hT _ kw_326) rfl dX9_askTold_39 ?_
        refine lv_iload_n hx hb dX9_askTold_42 rfl (lv_at hl 1 rfl) ?_
        refine z_iald hx hb hK hw 1 hm_si hf_si rfl (z_ix rfl (by omega)) dX9_askTold_43 ?_
        refine lv_topi (fun w7 e_w7 => ?_)
        refine lv_aload_n hx hb dX9_askTold_44 rfl (lv_at hl 0 rfl) ?_
        refine z_get (C := RX9) (T := TX9) (N := 11) (ci := 9) (v := .ref mo) hx hb hT zin_X9 hown hK hw hm_xo hf_xo rfl 2 (by decide) (hT _ kw_479) rfl dX9_askTold_45 ?_
        refine z_get (C := RX2) (T := TX2) (N := 11) (ci := 2) (v := .int v1) hx hb hT zin_X2 hown hK hw hm_mo hf_mo rfl 1 (by decide) (hT _ kw_210) rfl dX9_askTold_48 ?_
        refine z_icmp_eq (tgt := 57) hx hb rfl rfl dX9_askTold_51 (by decide) (fun c8 => ?_) (fun c8 => ?_)
        · skip
          refine lv_aload_n hx hb dX9_askTold_57 rfl (lv_at hl 0 rfl) ?_
          refine z_get (C := RX9) (T := TX9) (N := 11) (ci := 9) (v := .ref sl) hx hb hT zin_X9 hown hK hw hm_xo hf_xo rfl 6 (by decide) (hT _ kw_483) rfl dX9_askTold_58 ?_
          refine lv_iload_n hx hb dX9_askTold_61 rfl (lv_at hl 1 rfl) ?_
          refine lv_sipush (v := 9999) hx hb dX9_askTold_62 (by decide) ?_
          have hz9 := (show (9999 : Int32).toInt = 9999 by decide)
          refine z_calliV (cells := 0) (slots := 0) (b := sl) (As := [.int sn, .int 9999]) (rest := []) (ci := 6) (q0 := (RX6, TX6, 3)) ⟨hx, hb, hml, hown, hT⟩ (c_X6_isWithin l hm_sl hm_nb hm_si hm_rr hf_sl hf_nb hf_si hf_rr (by first | omega | decide | assumption) hgb hgz) (cwV 2 hT (z_goodV (fun _ h => h) kw_1011 kw_1012 kw_1013 kw_90 kw_1014) rfl rfl rfl (by decide +kernel) ⟨by decide, by decide⟩) z_mv hKK hK hw hA hm_sl hf_sl rfl rfl rfl hl.1 rfl (Nat.le_of_ble_eq_true rfl) dX9_askTold_65 ⟨by decide, by decide⟩ (fun r10 u H locs hp hw => ?_)
          obtain ⟨rfl, hp⟩ := hp
          have hw : z_H D vwCl (z_A L sz) s.heap L f H locs := hw
          rcases hp with ⟨rfl, h11⟩ | ⟨rfl, h11⟩
          · skip
            refine z_if_eq (tgt := 75) hx hb (show (1 : Int32).toInt = 1 by decide) dX9_askTold_68 (by decide) (fun h => absurd h (by decide)) (fun _ => ?_)
            refine lv_iconst (v := 0) hx hb dX9_askTold_71 (by decide) ?_
            refine lv_goto (tgt := 77) hx hb dX9_askTold_72 (by decide) ?_
            exact z_iret hx hb hr hlk (by decide) (by decide) hw (⟨rfl, Or.inl ⟨by decide, by omega⟩⟩) dX9_askTold_77
          · skip
            refine z_if_eq (tgt := 75) hx hb (show (0 : Int32).toInt = 0 by decide) dX9_askTold_68 (by decide) (fun _ => ?_) (fun h => absurd h (by decide))
            refine lv_bipush (v := (-2)) hx hb dX9_askTold_75 (by decide) ?_
            exact z_iret hx hb hr hlk (by decide) (by decide) hw (⟨rfl, Or.inr (by decide)⟩) dX9_askTold_77
        · skip
          refine lv_bipush (v := (-7)) hx hb dX9_askTold_54 (by decide) ?_
          exact z_iret hx hb hr hlk (by decide) (by decide) hw (⟨rfl, Or.inr (by decide)⟩) dX9_askTold_56
      · skip
        refine z_if_ne (tgt := 35) hx hb (show (0 : Int32).toInt = 0 by decide) dX9_askTold_29 (by decide) (fun h => absurd h (by decide)) (fun _ => ?_)
        refine lv_bipush (v := (-6)) hx hb dX9_askTold_32 (by decide) ?_
        exact z_iret hx hb hr hlk (by decide) (by decide) hw (⟨rfl, Or.inr (by decide)⟩) dX9_askTold_34
    · skip
      refine z_if_ne (tgt := 21) hx hb (show (0 : Int32).toInt = 0 by decide) dX9_askTold_15 (by decide) (fun h => absurd h (by decide)) (fun _ => ?_)
      refine lv_bipush (v := (-2)) hx hb dX9_askTold_18 (by decide) ?_
      exact z_iret hx hb hr hlk (by decide) (by decide) hw (⟨rfl, Or.inr (by decide)⟩) dX9_askTold_20
  · skip
    refine z_if_eq (tgt := 18) hx hb (show (0 : Int32).toInt = 0 by decide) dX9_askTold_4 (by decide) (fun _ => ?_) (fun h => absurd h (by decide))
    refine lv_bipush (v := (-2)) hx hb dX9_askTold_18 (by decide) ?_
    exact z_iret hx hb hr hlk (by decide) (by decide) hw (⟨rfl, Or.inr (by decide)⟩) dX9_askTold_20

set_option maxHeartbeats 2000000 in
set_option maxRecDepth 100000 in
theorem c_X9_wrong (l : Launch) {D : va_G} {cy : Nat → ClassId} {L : List Nat} {f : Nat → va_E} {sz : Nat} {adK adV : Nat → Nat} {xo tp rd mo dmo im kp sl wk pl oo mx : Nat} {la sa mi da : Nat} {v0 v1 v2 v3 v4 v5 v6 : Int32} {gd : Nat → Option Nat} {dv : Nat → Nat} {nb wi si rr : Nat} {gz : Nat → Int32} {gb : Nat → Option Nat} {gr : Nat → Int64} {sn dy : Int32} (hm_xo : xo ∈ L) (hm_mo : mo ∈ L) (hm_da : da ∈ L) (hm_sl : sl ∈ L) (hm_nb : nb ∈ L) (hm_si : si ∈ L) (hm_rr : rr ∈ L) (hf_xo : f xo = .inr (9, [.ref tp, .ref rd, .ref mo, .ref dmo, .ref im, .ref kp, .ref sl, .ref wk, .ref pl, .ref oo, .ref mx])) (hf_mo : f mo = .inr (2, [.int v0, .int v1, .int v2, .int v3, .int v4, .int v5, .int v6, .ref la, .ref sa, .ref mi, .ref da])) (hf_da : f da = .inl (cy 4, 13, .inr (.inr (.inr (.inr gd))))) (hf_sl : f sl = .inr (6, [.ref nb, .ref wi, .ref si])) (hf_nb : f nb = .inl (cy 6, 4, .inr (.inr (.inr (.inr gb))))) (hf_si : f si = .inl (cy 1, 4, .inl gz)) (hf_rr : f rr = .inl (cy 2, 60, .inr (.inl gr))) (hg_da : ∀ i : Nat, i < 13 → gd i = some (dv i)) (hd_da : z_Drv L f dv 13) (hv2 : 0 ≤ v2.toInt ∧ v2.toInt ≤ 9) (hv5 : 0 ≤ v5.toInt ∧ v5.toInt ≤ 12) (hv1 : 0 ≤ v1.toInt ∧ v1.toInt ≤ 4) (hgz : ∀ j : Nat, j < 4 → -1 ≤ (gz j).toInt ∧ (gz j).toInt ≤ 60) (hgb0 : 0 ≤ sn.toInt → sn.toInt ≤ 3 → gb sn.toNatClampNeg = some rr) : Met l yX9_wrong (z_ws yX9_wrong cX9_wrong 6 (some .int)) (z_R 4 0 0) (va_Pc [.ref xo, .int sn, .int dy] (z_Pre D vwCl (z_KK D cy adK adV) L f sz)) (z_Qi D vwCl (fun r u => u = (L, f) ∧ (True)) L sz) 0 0 (z_A L sz) := by
  refine z_met (cc := cX9_wrong) (maxL := 6) (ret := (some .int)) (lv := [(0, .ref xo), (1, .int sn), (2, .int dy)]) (by decide) rfl (Nat.le_of_ble_eq_true rfl) rfl ?_
  intro p e s m below meth c ls hx hb hr hlk hml hown hnm hts hKK hA hw hl
  have hK := hKK.1.1
  have hown : s.vm.findClass RX9 = some m.cls := hown
  have hT : ∀ w ∈ lw_all, w.before ([.ref xo, .int sn, .int dy] : List Value).toArray s = true := fun w h => hts w (z_cons w h)
  refine lv_aload_n hx hb dX9_wrong_0 rfl (lv_at hl 0 rfl) ?_
  refine lv_iload_n hx hb dX9_wrong_1 rfl (lv_at hl 1 rfl) ?_
  refine lv_iload_n hx hb dX9_wrong_2 rfl (lv_at hl 2 rfl) ?_
  refine z_calliV (cells := 0) (slots := 0) (b := xo) (As := [.int sn, .int dy]) (rest := []) (ci := 9) (q0 := (RX9, TX9, 11)) ⟨hx, hb, hml, hown, hT⟩ (c_X9_askTold l hm_xo hm_mo hm_da hm_sl hm_nb hm_si hm_rr hf_xo hf_mo hf_da hf_sl hf_nb hf_si hf_rr hg_da hd_da hgz hgb0) (cwV 2 hT (z_goodV (fun _ h => h) kw_1055 kw_1057 kw_25 kw_85 kw_1058) rfl rfl rfl (by decide +kernel) ⟨by decide, by decide⟩) z_mv hKK hK hw hA hm_xo hf_xo rfl rfl rfl hl.1 rfl (Nat.le_of_ble_eq_true rfl) dX9_wrong_3 ⟨by decide, by decide⟩ (fun r1 u H locs hp hw => ?_)
  obtain ⟨rfl, hp⟩ := hp
  have hw : z_H D vwCl (z_A L sz) s.heap L f H locs := hw
  have hq2 := hp
  refine lv_istore_n (lv' := [(3, .int r1), (0, .ref xo), (1, .int sn), (2, .int dy)]) hx hb dX9_wrong_6 rfl hl (by decide) rfl (fun ls hl => ?_)
  refine lv_iload_n hx hb dX9_wrong_7 rfl (lv_at hl 0 rfl) ?_
  refine z_if_eq (tgt := 13) hx hb rfl dX9_wrong_8 (by decide) (fun c3 => ?_) (fun c3 => ?_)
  · skip
    have hgb := hgb0 (by omega) (by omega)
    refine lv_iconst (v := 0) hx hb dX9_wrong_13 (by decide) ?_
    refine lv_istore (lv' := [(4, .int 0), (3, .int r1), (0, .ref xo), (1, .int sn), (2, .int dy)]) hx hb dX9_wrong_14 hl (by decide) rfl (fun ls hl => ?_)
    refine lv_iconst (v := 0) hx hb dX9_wrong_16 (by decide) ?_
    refine lv_istore (lv' := [(5, .int 0), (4, .int 0), (3, .int r1), (0, .ref xo), (1, .int sn), (2, .int dy)]) hx hb dX9_wrong_17 hl (by decide) rfl (fun ls hl => ?_)
    have hzk : (0 : Int32).toInt = 0 := by decide
    refine z_loop (fun n H locs ls => ∃ (K4 : Int32) (V5 : Int32), (n = (v1.toInt - K4.toInt).toNat) ∧ (0 ≤ K4.toInt) ∧ (K4.toInt ≤ v1.toInt) ∧ (z_H D vwCl (z_A L sz) s.heap L f H locs) ∧ (lv_has ls 6 [(5, .int K4), (4, .int V5), (3, .int r1), (0, .ref xo), (1, .int sn), (2, .int dy)])) _ ⟨0, 0, rfl, (by first | decide | omega), (by first | decide | omega), hw, (lv_sub hl [0, 1, 2, 3, 4, 5] rfl)⟩ (fun n H locs ls hI ih_19 => ?_)
    obtain ⟨K4, V5, hn, hk0, hk1, hw, hl⟩ := hI
    refine lv_iload hx hb dX9_wrong_19 (lv_at hl 0 rfl) ?_
    refine lv_aload_n hx hb dX9_wrong_21 rfl (lv_at hl 3 rfl) ?_
    refine z_get (C := RX9) (T := TX9) (N := 11) (ci := 9) (v := .ref mo) hx hb hT zin_X9 hown hK hw hm_xo hf_xo rfl 2 (by decide) (hT _ kw_479) rfl dX9_wrong_22 ?_
    refine z_get (C := RX2) (T := TX2) (N := 11) (ci := 2) (v := .int v1) hx hb hT zin_X2 hown hK hw hm_mo hf_mo rfl 1 (by decide) (hT _ kw_210) rfl dX9_wrong_25 ?_
    refine z_icmp_ge (tgt := 67) hx hb rfl rfl dX9_wrong_28 (by decide) (fun c6 => ?_) (fun c6 => ?_)
    · skip
      refine lv_iload hx hb dX9_wrong_67 (lv_at hl 1 rfl) ?_
      exact z_iret hx hb hr hlk (by decide) (by decide) hw (⟨rfl, trivial⟩) dX9_wrong_69
    · skip
      refine lv_aload_n hx hb dX9_wrong_31 rfl (lv_at hl 3 rfl) ?_
      refine z_get (C := RX9) (T := TX9) (N := 11) (ci := 9) (v := .ref sl) hx hb hT zin_X9 hown hK hw hm_xo hf_xo rfl 6 (by decide) (hT _ kw_483) rfl dX9_wrong_32 ?_
      refine z_get (C := RX6) (T := TX6) (N := 3) (ci := 6) (v := .ref nb) hx hb hT zin_X6 hown hK hw hm_sl hf_sl rfl 0 (by decide) (hT _ kw_321) rfl dX9_wrong_35 ?_
      refine lv_iload_n hx hb dX9_wrong_38 rfl (lv_at hl 4 rfl) ?_
      refine z_aaldA (b := rr) hx hb hK hw 6 hm_nb hf_nb rfl (z_ix rfl (by omega)) hgb dX9_wrong_39 ?_
      refine lv_iload hx hb dX9_wrong_40 (lv_at hl 0 rfl) ?_
      refine z_lald hx hb hK hw 2 hm_rr hf_rr rfl (z_ix rfl (by omega)) dX9_wrong_42 ?_
      refine lv_topl (fun w7 e_w7 => ?_)
      refine lv_aload_n hx hb dX9_wrong_43 rfl (lv_at hl 3 rfl) ?_
      refine z_get (C := RX9) (T := TX9) (N := 11) (ci := 9) (v := .ref mo) hx hb hT zin_X9 hown hK hw hm_xo hf_xo rfl 2 (by decide) (hT _ kw_479) rfl dX9_wrong_44 ?_
      refine lv_iload hx hb dX9_wrong_47 (lv_at hl 0 rfl) ?_
      refine lv_iload_n hx hb dX9_wrong_49 rfl (lv_at hl 5 rfl) ?_
      refine z_calliV (cells := 0) (slots := 0) (b := mo) (As := [.int K4, .int dy]) (rest := [.long w7]) (ci := 2) (q0 := (RX2, TX2, 11)) ⟨hx, hb, hml, hown, hT⟩ (c_X2_beastsThrough l hm_mo hm_da hf_mo hf_da hg_da hd_da (by first | omega | decide | assumption) (by first | omega | decide | assumption)) (cwV 2 hT (z_goodV (fun _ h => h) kw_814 kw_815 kw_816 kw_87 kw_817) rfl rfl rfl (by decide +kernel) ⟨by decide, by decide⟩) z_mv hKK hK hw hA hm_mo hf_mo rfl rfl rfl hl.1 rfl (Nat.le_of_ble_eq_true rfl) dX9_wrong_50 ⟨by decide, by decide⟩ (fun r8 u H locs hp hw => ?_)
      obtain ⟨rfl, hp⟩ := hp
      have hw : z_H D vwCl (z_A L sz) s.heap L f H locs := hw
      refine lv_i2l hx hb dX9_wrong_53 rfl ?_
      refine lv_topl (fun w9 e_w9 => ?_)
      have i_w9 : w9.toInt = r8.toInt := z_i2l e_w9 rfl
      refine W.lcmp hx hb dX9_wrong_54 ?_
      refine lv_topi (fun w10 e_w10 => ?_)
      have i_w10 := z_lc e_w10 rfl i_w9
      refine z_if_eq (tgt := 61) hx hb rfl dX9_wrong_55 (by decide) (fun c11 => ?_) (fun c11 => ?_)
      · skip
        obtain ⟨k12, e_k12⟩ : ∃ z : Int32, z = K4 + 1 := ⟨_, rfl⟩
        refine lv_iinc (v := k12) (lv' := [(5, .int k12), (4, .int V5), (3, .int r1), (0, .ref xo), (1, .int sn), (2, .int dy)]) hx hb dX9_wrong_61 hl (k := 0) rfl (by rw [e_k12]; rfl) (by decide) rfl (fun ls hl => ?_)
        have i_k12 : k12.toInt = (K4.toInt + 1) := z_add e_k12 rfl (by decide) (by omega)
        refine lv_goto (tgt := 19) hx hb dX9_wrong_64 (by decide) ?_
        exact ih_19 _ (by omega) _ _ _ ⟨k12, V5, rfl, (by first | decide | omega), (by first | decide | omega), hw, (lv_sub hl [0, 1, 2, 3, 4, 5] rfl)⟩
      · skip
        obtain ⟨k13, e_k13⟩ : ∃ z : Int32, z = V5 + 1 := ⟨_, rfl⟩
        refine lv_iinc (v := k13) (lv' := [(4, .int k13), (5, .int K4), (3, .int r1), (0, .ref xo), (1, .int sn), (2, .int dy)]) hx hb dX9_wrong_58 hl (k := 1) rfl (by rw [e_k13]; rfl) (by decide) rfl (fun ls hl => ?_)
        obtain ⟨k14, e_k14⟩ : ∃ z : Int32, z = K4 + 1 := ⟨_, rfl⟩
        refine lv_iinc (v := k14) (lv' := [(5, .int k14), (4, .int k13), (3, .int r1), (0, .ref xo), (1, .int sn), (2, .int dy)]) hx hb dX9_wrong_61 hl (k := 1) rfl (by rw [e_k14]; rfl) (by decide) rfl (fun ls hl => ?_)
        have i_k14 : k14.toInt = (K4.toInt + 1) := z_add e_k14 rfl (by decide) (by omega)
        refine lv_goto (tgt := 19) hx hb dX9_wrong_64 (by decide) ?_
        exact ih_19 _ (by omega) _ _ _ ⟨k14, k13, rfl, (by first | decide | omega), (by first | decide | omega), hw, (lv_sub hl [0, 1, 2, 3, 4, 5] rfl)⟩
  · skip
    refine lv_iload_n hx hb dX9_wrong_11 rfl (lv_at hl 0 rfl) ?_
    exact z_iret hx hb hr hlk (by decide) (by decide) hw (⟨rfl, trivial⟩) dX9_wrong_12

set_option maxHeartbeats 2000000 in
set_option maxRecDepth 100000 in
theorem c_X9_anew (l : Launch) {D : va_G} {cy : Nat → ClassId} {L : List Nat} {f : Nat → va_E} {sz : Nat} {adK adV : Nat → Nat} {xo tp rd mo dmo im kp sl wk pl oo mx : Nat} {la sa mi da : Nat} {v0 v1 v2 v3 v4 v5 v6 : Int32} {gd : Nat → Option Nat} {dv : Nat → Nat} {nb wi si rr : Nat} {gz : Nat → Int32} {gb : Nat → Option Nat} {gr : Nat → Int64} {sn dy : Int32} (hm_xo : xo ∈ L) (hm_mo : mo ∈ L) (hm_da : da ∈ L) (hm_sl : sl ∈ L) (hm_nb : nb ∈ L) (hm_si : si ∈ L) (hm_rr : rr ∈ L) (hf_xo : f xo = .inr (9, [.ref tp, .ref rd, .ref mo, .ref dmo, .ref im, .ref kp, .ref sl, .ref wk, .ref pl, .ref oo, .ref mx])) (hf_mo : f mo = .inr (2, [.int v0, .int v1, .int v2, .int v3, .int v4, .int v5, .int v6, .ref la, .ref sa, .ref mi, .ref da])) (hf_da : f da = .inl (cy 4, 13, .inr (.inr (.inr (.inr gd))))) (hf_sl : f sl = .inr (6, [.ref nb, .ref wi, .ref si])) (hf_nb : f nb = .inl (cy 6, 4, .inr (.inr (.inr (.inr gb))))) (hf_si : f si = .inl (cy 1, 4, .inl gz)) (hf_rr : f rr = .inl (cy 2, 60, .inr (.inl gr))) (hg_da : ∀ i : Nat, i < 13 → gd i = some (dv i)) (hd_da : z_Drv L f dv 13) (hv2 : 0 ≤ v2.toInt ∧ v2.toInt ≤ 9) (hv5 : 0 ≤ v5.toInt ∧ v5.toInt ≤ 12) (hv1 : 0 ≤ v1.toInt ∧ v1.toInt ≤ 4) (hgz : ∀ j : Nat, j < 4 → -1 ≤ (gz j).toInt ∧ (gz j).toInt ≤ 60) (hgb0 : 0 ≤ sn.toInt → sn.toInt ≤ 3 → gb sn.toNatClampNeg = some rr) : Met l yX9_anew (z_ws yX9_anew cX9_anew 7 (some .int)) (z_R 4 0 0) (va_Pc [.ref xo, .int sn, .int dy] (z_Pre D vwCl (z_KK D cy adK adV) L f sz)) (z_Qi D vwCl (fun r u => u = (L, f) ∧ (True)) L sz) 0 0 (z_A L sz) := by
  refine z_met (cc := cX9_anew) (maxL := 7) (ret := (some .int)) (lv := [(0, .ref xo), (1, .int sn), (2, .int dy)]) (by decide) rfl (Nat.le_of_ble_eq_true rfl) rfl ?_
  intro p e s m below meth c ls hx hb hr hlk hml hown hnm hts hKK hA hw hl
  have hK := hKK.1.1
  have hown : s.vm.findClass RX9 = some m.cls := hown
  have hT : ∀ w ∈ lw_all, w.before ([.ref xo, .int sn, .int dy] : List Value).toArray s = true := fun w h => hts w (z_cons w h)
  refine lv_aload_n hx hb dX9_anew_0 rfl (lv_at hl 0 rfl) ?_
  refine lv_iload_n hx hb dX9_anew_1 rfl (lv_at hl 1 rfl) ?_
  refine lv_iload_n hx hb dX9_anew_2 rfl (lv_at hl 2 rfl) ?_
  refine z_calliV (cells := 0) (slots := 0) (b := xo) (As := [.int sn, .int dy]) (rest := []) (ci := 9) (q0 := (RX9, TX9, 11)) ⟨hx, hb, hml, hown, hT⟩ (c_X9_askTold l hm_xo hm_mo hm_da hm_sl hm_nb hm_si hm_rr hf_xo hf_mo hf_da hf_sl hf_nb hf_si hf_rr hg_da hd_da hgz hgb0) (cwV 2 hT (z_goodV (fun _ h => h) kw_1055 kw_1057 kw_25 kw_85 kw_1058) rfl rfl rfl (by decide +kernel) ⟨by decide, by decide⟩) z_mv hKK hK hw hA hm_xo hf_xo rfl rfl rfl hl.1 rfl (Nat.le_of_ble_eq_true rfl) dX9_anew_3 ⟨by decide, by decide⟩ (fun r1 u H locs hp hw => ?_)
  obtain ⟨rfl, hp⟩ := hp
  have hw : z_H D vwCl (z_A L sz) s.heap L f H locs := hw
  have hq2 := hp
  refine lv_istore_n (lv' := [(3, .int r1), (0, .ref xo), (1, .int sn), (2, .int dy)]) hx hb dX9_anew_6 rfl hl (by decide) rfl (fun ls hl => ?_)
  refine lv_iload_n hx hb dX9_anew_7 rfl (lv_at hl 0 rfl) ?_
  refine z_if_eq (tgt := 13) hx hb rfl dX9_anew_8 (by decide) (fun c3 => ?_) (fun c3 => ?_)
  · skip
    have hgb := hgb0 (by omega) (by omega)
    refine lv_lconst (v := 0) hx hb dX9_anew_13 (by decide) ?_
    refine lv_lstore (lv' := [(4, .long 0), (3, .int r1), (0, .ref xo), (1, .int sn), (2, .int dy)]) hx hb dX9_anew_14 hl (by decide) rfl (fun ls hl => ?_)
    refine lv_iconst (v := 0) hx hb dX9_anew_16 (by decide) ?_
    refine lv_istore (lv' := [(6, .int 0), (4, .long 0), (3, .int r1), (0, .ref xo), (1, .int sn), (2, .int dy)]) hx hb dX9_anew_17 hl (by decide) rfl (fun ls hl => ?_)
    have hzk : (0 : Int32).toInt = 0 := by decide
    refine z_loop (fun n H locs ls => ∃ (K4 : Int32) (V5 : Int64), (n = (v1.toInt - K4.toInt).toNat) ∧ (0 ≤ K4.toInt) ∧ (K4.toInt ≤ v1.toInt) ∧ (z_H D vwCl (z_A L sz) s.heap L f H locs) ∧ (lv_has ls 7 [(6, .int K4), (4, .long V5), (3, .int r1), (0, .ref xo), (1, .int sn), (2, .int dy)])) _ ⟨0, 0, rfl, (by first | decide | omega), (by first | decide | omega), hw, (lv_sub hl [0, 1, 2, 3, 4, 5] rfl)⟩ (fun n H locs ls hI ih_19 => ?_)
    obtain ⟨K4, V5, hn, hk0, hk1, hw, hl⟩ := hI
    refine lv_iload hx hb dX9_anew_19 (lv_at hl 0 rfl) ?_
    refine lv_aload_n hx hb dX9_anew_21 rfl (lv_at hl 3 rfl) ?_
    refine z_get (C := RX9) (T := TX9) (N := 11) (ci := 9) (v := .ref mo) hx hb hT zin_X9 hown hK hw hm_xo hf_xo rfl 2 (by decide) (hT _ kw_479) rfl dX9_anew_22 ?_
    refine z_get (C := RX2) (T := TX2) (N := 11) (ci := 2) (v := .int v1) hx hb hT zin_X2 hown hK hw hm_mo hf_mo rfl 1 (by decide) (hT _ kw_210) rfl dX9_anew_25 ?_
    refine z_icmp_ge (tgt := 66) hx hb rfl rfl dX9_anew_28 (by decide) (fun c6 => ?_) (fun c6 => ?_)
    · skip
      refine lv_iconst (v := 0) hx hb dX9_anew_66 (by decide) ?_
      refine lv_istore (lv' := [(6, .int 0), (4, .long V5), (3, .int r1), (0, .ref xo), (1, .int sn), (2, .int dy)]) hx hb dX9_anew_67 hl (by decide) rfl (fun ls hl => ?_)
      refine lv_lload hx hb dX9_anew_69 (lv_at hl 1 rfl) ?_
      refine lv_lconst (v := 0) hx hb dX9_anew_71 (by decide) ?_
      refine W.lcmp hx hb dX9_anew_72 ?_
      refine lv_topi (fun w7 e_w7 => ?_)
      have i_w7 := z_lc e_w7 rfl (show (0 : Int64).toInt = 0 by decide)
      refine z_if_eq (tgt := 102) hx hb rfl dX9_anew_73 (by decide) (fun c8 => ?_) (fun c8 => ?_)
      · skip
        refine lv_iload hx hb dX9_anew_102 (lv_at hl 0 rfl) ?_
        exact z_iret hx hb hr hlk (by decide) (by decide) hw (⟨rfl, trivial⟩) dX9_anew_104
      · skip
        have hzk : (0 : Int32).toInt = 0 := by decide
        refine z_loop (fun n H locs ls => ∃ (K9 : Int32), (n = (4 - K9.toInt).toNat) ∧ (0 ≤ K9.toInt) ∧ (K9.toInt ≤ 4) ∧ (z_H D vwCl (z_A L sz) s.heap L f H locs) ∧ (lv_has ls 7 [(6, .int K9), (4, .long V5), (3, .int r1), (0, .ref xo), (1, .int sn), (2, .int dy)])) _ ⟨0, rfl, (by first | decide | omega), (by first | decide | omega), hw, (lv_sub hl [0, 1, 2, 3, 4, 5] rfl)⟩ (fun n H locs ls hI ih_76 => ?_)
        obtain ⟨K9, hn, hk0, hk1, hw, hl⟩ := hI
        refine lv_iload hx hb dX9_anew_76 (lv_at hl 0 rfl) ?_
        refine lv_iconst (v := 4) hx hb dX9_anew_78 (by decide) ?_
        refine z_icmp_ge (tgt := 102) hx hb rfl (show (4 : Int32).toInt = 4 by decide) dX9_anew_79 (by decide) (fun c10 => ?_) (fun c10 => ?_)
        · skip
          refine lv_iload hx hb dX9_anew_102 (lv_at hl 0 rfl) ?_
          exact z_iret hx hb hr hlk (by decide) (by decide) hw (⟨rfl, trivial⟩) dX9_anew_104
        · skip
          refine lv_iconst (v := 1) hx hb dX9_anew_82 (by decide) ?_
          refine lv_iload hx hb dX9_anew_83 (lv_at hl 0 rfl) ?_
          refine lv_ishl hx hb dX9_anew_85 ?_
          refine lv_topi (fun w11 e_w11 => ?_)
          refine lv_aload_n hx hb dX9_anew_86 rfl (lv_at hl 3 rfl) ?_
          refine z_get (C := RX9) (T := TX9) (N := 11) (ci := 9) (v := .ref mo) hx hb hT zin_X9 hown hK hw hm_xo hf_xo rfl 2 (by decide) (hT _ kw_479) rfl dX9_anew_87 ?_
          refine z_get (C := RX2) (T := TX2) (N := 11) (ci := 2) (v := .int v1) hx hb hT zin_X2 hown hK hw hm_mo hf_mo rfl 1 (by decide) (hT _ kw_210) rfl dX9_anew_90 ?_
          refine z_icmp_ge (tgt := 102) hx hb rfl rfl dX9_anew_93 (by decide) (fun c12 => ?_) (fun c12 => ?_)
          · skip
            refine lv_iload hx hb dX9_anew_102 (lv_at hl 0 rfl) ?_
            exact z_iret hx hb hr hlk (by decide) (by decide) hw (⟨rfl, trivial⟩) dX9_anew_104
          · skip
            obtain ⟨k13, e_k13⟩ : ∃ z : Int32, z = K9 + 1 := ⟨_, rfl⟩
            refine lv_iinc (v := k13) (lv' := [(6, .int k13), (4, .long V5), (3, .int r1), (0, .ref xo), (1, .int sn), (2, .int dy)]) hx hb dX9_anew_96 hl (k := 0) rfl (by rw [e_k13]; rfl) (by decide) rfl (fun ls hl => ?_)
            have i_k13 : k13.toInt = (K9.toInt + 1) := z_add e_k13 rfl (by decide) (by omega)
            refine lv_goto (tgt := 76) hx hb dX9_anew_99 (by decide) ?_
            exact ih_76 _ (by omega) _ _ _ ⟨k13, rfl, (by first | decide | omega), (by first | decide | omega), hw, (lv_sub hl [0, 1, 2, 3, 4, 5] rfl)⟩
    · skip
      refine lv_lload hx hb dX9_anew_31 (lv_at hl 1 rfl) ?_
      refine lv_aload_n hx hb dX9_anew_33 rfl (lv_at hl 3 rfl) ?_
      refine z_get (C := RX9) (T := TX9) (N := 11) (ci := 9) (v := .ref sl) hx hb hT zin_X9 hown hK hw hm_xo hf_xo rfl 6 (by decide) (hT _ kw_483) rfl dX9_anew_34 ?_
      refine z_get (C := RX6) (T := TX6) (N := 3) (ci := 6) (v := .ref nb) hx hb hT zin_X6 hown hK hw hm_sl hf_sl rfl 0 (by decide) (hT _ kw_321) rfl dX9_anew_37 ?_
      refine lv_iload_n hx hb dX9_anew_40 rfl (lv_at hl 4 rfl) ?_
      refine z_aaldA (b := rr) hx hb hK hw 6 hm_nb hf_nb rfl (z_ix rfl (by omega)) hgb dX9_anew_41 ?_
      refine lv_iload hx hb dX9_anew_42 (lv_at hl 0 rfl) ?_
      refine z_lald hx hb hK hw 2 hm_rr hf_rr rfl (z_ix rfl (by omega)) dX9_anew_44 ?_
      refine lv_topl (fun w14 e_w14 => ?_)
      refine lv_aload_n hx hb dX9_anew_45 rfl (lv_at hl 3 rfl) ?_
      refine z_get (C := RX9) (T := TX9) (N := 11) (ci := 9) (v := .ref mo) hx hb hT zin_X9 hown hK hw hm_xo hf_xo rfl 2 (by decide) (hT _ kw_479) rfl dX9_anew_46 ?_
      refine lv_iload hx hb dX9_anew_49 (lv_at hl 0 rfl) ?_
      refine lv_iload_n hx hb dX9_anew_51 rfl (lv_at hl 5 rfl) ?_
      refine z_calliV (cells := 0) (slots := 0) (b := mo) (As := [.int K4, .int dy]) (rest := [.long w14, .long V5]) (ci := 2) (q0 := (RX2, TX2, 11)) ⟨hx, hb, hml, hown, hT⟩ (c_X2_beastsThrough l hm_mo hm_da hf_mo hf_da hg_da hd_da (by first | omega | decide | assumption) (by first | omega | decide | assumption)) (cwV 2 hT (z_goodV (fun _ h => h) kw_814 kw_815 kw_816 kw_87 kw_817) rfl rfl rfl (by decide +kernel) ⟨by decide, by decide⟩) z_mv hKK hK hw hA hm_mo hf_mo rfl rfl rfl hl.1 rfl (Nat.le_of_ble_eq_true rfl) dX9_anew_52 ⟨by decide, by decide⟩ (fun r15 u H locs hp hw => ?_)
      obtain ⟨rfl, hp⟩ := hp
      have hw : z_H D vwCl (z_A L sz) s.heap L f H locs := hw
      refine lv_i2l hx hb dX9_anew_55 rfl ?_
      refine lv_topl (fun w16 e_w16 => ?_)
      have i_w16 : w16.toInt = r15.toInt := z_i2l e_w16 rfl
      refine lv_lsub hx hb dX9_anew_56 ?_
      refine lv_ladd hx hb dX9_anew_57 ?_
      refine lv_lstore (lv' := [(4, .long (V5 + (w14 - w16))), (6, .int K4), (3, .int r1), (0, .ref xo), (1, .int sn), (2, .int dy)]) hx hb dX9_anew_58 hl (by decide) rfl (fun ls hl => ?_)
      obtain ⟨k17, e_k17⟩ : ∃ z : Int32, z = K4 + 1 := ⟨_, rfl⟩
      refine lv_iinc (v := k17) (lv' := [(6, .int k17), (4, .long (V5 + (w14 - w16))), (3, .int r1), (0, .ref xo), (1, .int sn), (2, .int dy)]) hx hb dX9_anew_60 hl (k := 1) rfl (by rw [e_k17]; rfl) (by decide) rfl (fun ls hl => ?_)
      have i_k17 : k17.toInt = (K4.toInt + 1) := z_add e_k17 rfl (by decide) (by omega)
      refine lv_goto (tgt := 19) hx hb dX9_anew_63 (by decide) ?_
      exact ih_19 _ (by omega) _ _ _ ⟨k17, (V5 + (w14 - w16)), rfl, (by first | decide | omega), (by first | decide | omega), hw, (lv_sub hl [0, 1, 2, 3, 4, 5] rfl)⟩
  · skip
    refine lv_iload_n hx hb dX9_anew_11 rfl (lv_at hl 0 rfl) ?_
    exact z_iret hx hb hr hlk (by decide) (by decide) hw (⟨rfl, trivial⟩) dX9_anew_12

set_option maxHeartbeats 2000000 in
set_option maxRecDepth 100000 in
theorem c_X9_count (l : Launch) {D : va_G} {cy : Nat → ClassId} {L : List Nat} {f : Nat → va_E} {sz : Nat} {adK adV : Nat → Nat} {xo tp rd mo dmo im kp sl wk pl oo mx : Nat} {la sa mi da : Nat} {v0 v1 v2 v3 v4 v5 v6 : Int32} {tb : Nat} {tl : Int32}  {nb wi si : Nat} {gz : Nat → Int32}   {wh : Int32} (hm_xo : xo ∈ L) (hm_mo : mo ∈ L) (hm_tp : tp ∈ L) (hm_sl : sl ∈ L) (hm_si : si ∈ L) (hf_xo : f xo = .inr (9, [.ref tp, .ref rd, .ref mo, .ref dmo, .ref im, .ref kp, .ref sl, .ref wk, .ref pl, .ref oo, .ref mx])) (hf_mo : f mo = .inr (2, [.int v0, .int v1, .int v2, .int v3, .int v4, .int v5, .int v6, .ref la, .ref sa, .ref mi, .ref da])) (hf_tp : f tp = .inr (7, [.ref tb, .int tl])) (hf_sl : f sl = .inr (6, [.ref nb, .ref wi, .ref si])) (hf_si : f si = .inl (cy 1, 4, .inl gz)) : Met l yX9_count (z_ws yX9_count cX9_count 2 (some .int)) (z_R 3 0 0) (va_Pc [.ref xo, .int wh] (z_Pre D vwCl (z_KK D cy adK adV) L f sz)) (z_Qi D vwCl (fun r u => u = (L, f) ∧ (True)) L sz) 0 0 (z_A L sz) := by
  refine z_met (cc := cX9_count) (maxL := 2) (ret := (some .int)) (lv := [(0, .ref xo), (1, .int wh)]) (by decide) rfl (Nat.le_of_ble_eq_true rfl) rfl ?_
  intro p e s m below meth c ls hx hb hr hlk hml hown hnm hts hKK hA hw hl
  have hK := hKK.1.1
  have hown : s.vm.findClass RX9 = some m.cls := hown
  have hT : ∀ w ∈ lw_all, w.before ([.ref xo, .int wh] : List Value).toArray s = true := fun w h => hts w (z_cons w h)
  refine lv_iload_n hx hb dX9_count_0 rfl (lv_at hl 1 rfl) ?_
  by_cases c1 : wh.toInt < 0 ∨ 8 < wh.toInt
  · skip
    refine lv_tableOut (tgt := 124) hx hb dX9_count_1 (by rw [show wh.toInt = wh.toInt from rfl]; exact c1) (by decide) ?_
    refine lv_iconst (v := (-1)) hx hb dX9_count_124 (by decide) ?_
    exact z_iret hx hb hr hlk (by decide) (by decide) hw (⟨rfl, trivial⟩) dX9_count_125
  · skip
    have c1s : wh.toInt = 0 ∨ wh.toInt = 1 ∨ wh.toInt = 2 ∨ wh.toInt = 3 ∨ wh.toInt = 4 ∨ wh.toInt = 5 ∨ wh.toInt = 6 ∨ wh.toInt = 7 ∨ wh.toInt = 8 := by omega
    rcases c1s with c1 | c1 | c1 | c1 | c1 | c1 | c1 | c1 | c1
    · skip
      refine lv_tableIn (off := 51) (tgt := 52) hx hb dX9_count_1 (by omega) (by omega) (by rw [show wh.toInt = 0 from c1]; rfl) (by decide) ?_
      refine lv_aload_n hx hb dX9_count_52 rfl (lv_at hl 0 rfl) ?_
      refine z_get (C := RX9) (T := TX9) (N := 11) (ci := 9) (v := .ref mo) hx hb hT zin_X9 hown hK hw hm_xo hf_xo rfl 2 (by decide) (hT _ kw_479) rfl dX9_count_53 ?_
      refine z_get (C := RX2) (T := TX2) (N := 11) (ci := 2) (v := .int v1) hx hb hT zin_X2 hown hK hw hm_mo hf_mo rfl 1 (by decide) (hT _ kw_210) rfl dX9_count_56 ?_
      exact z_iret hx hb hr hlk (by decide) (by decide) hw (⟨rfl, trivial⟩) dX9_count_59
    · skip
      refine lv_tableIn (off := 59) (tgt := 60) hx hb dX9_count_1 (by omega) (by omega) (by rw [show wh.toInt = 1 from c1]; rfl) (by decide) ?_
      refine lv_aload_n hx hb dX9_count_60 rfl (lv_at hl 0 rfl) ?_
      refine z_get (C := RX9) (T := TX9) (N := 11) (ci := 9) (v := .ref mo) hx hb hT zin_X9 hown hK hw hm_xo hf_xo rfl 2 (by decide) (hT _ kw_479) rfl dX9_count_61 ?_
      refine z_get (C := RX2) (T := TX2) (N := 11) (ci := 2) (v := .int v2) hx hb hT zin_X2 hown hK hw hm_mo hf_mo rfl 2 (by decide) (hT _ kw_214) rfl dX9_count_64 ?_
      exact z_iret hx hb hr hlk (by decide) (by decide) hw (⟨rfl, trivial⟩) dX9_count_67
    · skip
      refine lv_tableIn (off := 67) (tgt := 68) hx hb dX9_count_1 (by omega) (by omega) (by rw [show wh.toInt = 2 from c1]; rfl) (by decide) ?_
      refine lv_aload_n hx hb dX9_count_68 rfl (lv_at hl 0 rfl) ?_
      refine z_get (C := RX9) (T := TX9) (N := 11) (ci := 9) (v := .ref mo) hx hb hT zin_X9 hown hK hw hm_xo hf_xo rfl 2 (by decide) (hT _ kw_479) rfl dX9_count_69 ?_
      refine z_get (C := RX2) (T := TX2) (N := 11) (ci := 2) (v := .int v3) hx hb hT zin_X2 hown hK hw hm_mo hf_mo rfl 3 (by decide) (hT _ kw_217) rfl dX9_count_72 ?_
      exact z_iret hx hb hr hlk (by decide) (by decide) hw (⟨rfl, trivial⟩) dX9_count_75
    · skip
      refine lv_tableIn (off := 75) (tgt := 76) hx hb dX9_count_1 (by omega) (by omega) (by rw [show wh.toInt = 3 from c1]; rfl) (by decide) ?_
      refine lv_aload_n hx hb dX9_count_76 rfl (lv_at hl 0 rfl) ?_
      refine z_get (C := RX9) (T := TX9) (N := 11) (ci := 9) (v := .ref mo) hx hb hT zin_X9 hown hK hw hm_xo hf_xo rfl 2 (by decide) (hT _ kw_479) rfl dX9_count_77 ?_
      refine z_get (C := RX2) (T := TX2) (N := 11) (ci := 2) (v := .int v5) hx hb hT zin_X2 hown hK hw hm_mo hf_mo rfl 5 (by decide) (hT _ kw_226) rfl dX9_count_80 ?_
      exact z_iret hx hb hr hlk (by decide) (by decide) hw (⟨rfl, trivial⟩) dX9_count_83
    · skip
      refine lv_tableIn (off := 83) (tgt := 84) hx hb dX9_count_1 (by omega) (by omega) (by rw [show wh.toInt = 4 from c1]; rfl) (by decide) ?_
      refine lv_aload_n hx hb dX9_count_84 rfl (lv_at hl 0 rfl) ?_
      refine z_get (C := RX9) (T := TX9) (N := 11) (ci := 9) (v := .ref mo) hx hb hT zin_X9 hown hK hw hm_xo hf_xo rfl 2 (by decide) (hT _ kw_479) rfl dX9_count_85 ?_
      refine z_get (C := RX2) (T := TX2) (N := 11) (ci := 2) (v := .int v6) hx hb hT zin_X2 hown hK hw hm_mo hf_mo rfl 6 (by decide) (hT _ kw_229) rfl dX9_count_88 ?_
      exact z_iret hx hb hr hlk (by decide) (by decide) hw (⟨rfl, trivial⟩) dX9_count_91
    · skip
      refine lv_tableIn (off := 91) (tgt := 92) hx hb dX9_count_1 (by omega) (by omega) (by rw [show wh.toInt = 5 from c1]; rfl) (by decide) ?_
      refine lv_aload_n hx hb dX9_count_92 rfl (lv_at hl 0 rfl) ?_
      refine z_get (C := RX9) (T := TX9) (N := 11) (ci := 9) (v := .ref mo) hx hb hT zin_X9 hown hK hw hm_xo hf_xo rfl 2 (by decide) (hT _ kw_479) rfl dX9_count_93 ?_
      refine z_get (C := RX2) (T := TX2) (N := 11) (ci := 2) (v := .int v0) hx hb hT zin_X2 hown hK hw hm_mo hf_mo rfl 0 (by decide) (hT _ kw_205) rfl dX9_count_96 ?_
      exact z_iret hx hb hr hlk (by decide) (by decide) hw (⟨rfl, trivial⟩) dX9_count_99
    · skip
      refine lv_tableIn (off := 99) (tgt := 100) hx hb dX9_count_1 (by omega) (by omega) (by rw [show wh.toInt = 6 from c1]; rfl) (by decide) ?_
      refine lv_aload_n hx hb dX9_count_100 rfl (lv_at hl 0 rfl) ?_
      refine z_get (C := RX9) (T := TX9) (N := 11) (ci := 9) (v := .ref tp) hx hb hT zin_X9 hown hK hw hm_xo hf_xo rfl 0 (by decide) (hT _ kw_477) rfl dX9_count_101 ?_
      refine z_get (C := RX7) (T := TX7) (N := 2) (ci := 7) (v := .int tl) hx hb hT zin_X7 hown hK hw hm_tp hf_tp rfl 1 (by decide) (hT _ kw_119) rfl dX9_count_104 ?_
      exact z_iret hx hb hr hlk (by decide) (by decide) hw (⟨rfl, trivial⟩) dX9_count_107
    · skip
      refine lv_tableIn (off := 107) (tgt := 108) hx hb dX9_count_1 (by omega) (by omega) (by rw [show wh.toInt = 7 from c1]; rfl) (by decide) ?_
      refine lv_aload_n hx hb dX9_count_108 rfl (lv_at hl 0 rfl) ?_
      refine z_get (C := RX9) (T := TX9) (N := 11) (ci := 9) (v := .ref mo) hx hb hT zin_X9 hown hK hw hm_xo hf_xo rfl 2 (by decide) (hT _ kw_479) rfl dX9_count_109 ?_
      refine z_get (C := RX2) (T := TX2) (N := 11) (ci := 2) (v := .int v4) hx hb hT zin_X2 hown hK hw hm_mo hf_mo rfl 4 (by decide) (hT _ kw_220) rfl dX9_count_112 ?_
      exact z_iret hx hb hr hlk (by decide) (by decide) hw (⟨rfl, trivial⟩) dX9_count_115
    · skip
      refine lv_tableIn (off := 115) (tgt := 116) hx hb dX9_count_1 (by omega) (by omega) (by rw [show wh.toInt = 8 from c1]; rfl) (by decide) ?_
      refine lv_aload_n hx hb dX9_count_116 rfl (lv_at hl 0 rfl) ?_
      refine z_get (C := RX9) (T := TX9) (N := 11) (ci := 9) (v := .ref sl) hx hb hT zin_X9 hown hK hw hm_xo hf_xo rfl 6 (by decide) (hT _ kw_483) rfl dX9_count_117 ?_
      refine z_calliV (cells := 0) (slots := 0) (b := sl) (As := []) (rest := []) (ci := 6) (q0 := (RX6, TX6, 3)) ⟨hx, hb, hml, hown, hT⟩ (c_X6_rows l hm_sl hm_si hf_sl hf_si) (cwV 0 hT (z_goodV (fun _ h => h) kw_1122 kw_1123 kw_1124 kw_90 kw_1125) rfl rfl rfl (by decide +kernel) ⟨by decide, by decide⟩) z_mv hKK hK hw hA hm_sl hf_sl rfl rfl rfl hl.1 rfl (Nat.le_of_ble_eq_true rfl) dX9_count_120 ⟨by decide, by decide⟩ (fun r2 u H locs hp hw => ?_)
      obtain ⟨rfl, hp⟩ := hp
      have hw : z_H D vwCl (z_A L sz) s.heap L f H locs := hw
      exact z_iret hx hb hr hlk (by decide) (by decide) hw (⟨rfl, trivial⟩) dX9_count_123

set_option maxHeartbeats 2000000 in
set_option maxRecDepth 100000 in
theorem c_X9_mixed (l : Launch) {D : va_G} {cy : Nat → ClassId} {L : List Nat} {f : Nat → va_E} {sz : Nat} {adK adV : Nat → Nat} {xo tp rd mo dmo im kp sl wk pl oo mx : Nat} {ks ct se ow : Nat} {wn wt wd wp : Int32} {gk gc gq go : Nat → Int32} {la sa mi da : Nat} {v0 v1 v2 v3 v4 v5 v6 : Int32} {gl gs gm : Nat → Int32} {gd : Nat → Option Nat} {dv : Nat → Nat} {bs : Nat} {mm : Int32} {xx : Int64} {gb_ : Nat → Int32} {sd on : Int32} (hm_xo : xo ∈ L) (hm_mx : mx ∈ L) (hm_bs : bs ∈ L) (hm_wk : wk ∈ L) (hm_ks : ks ∈ L) (hm_ct : ct ∈ L) (hm_se : se ∈ L) (hm_ow : ow ∈ L) (hm_mo : mo ∈ L) (hm_la : la ∈ L) (hm_sa : sa ∈ L) (hm_mi : mi ∈ L) (hm_da : da ∈ L) (hf_xo : f xo = .inr (9, [.ref tp, .ref rd, .ref mo, .ref dmo, .ref im, .ref kp, .ref sl, .ref wk, .ref pl, .ref oo, .ref mx])) (hf_mx : f mx = .inr (1, [.ref wk, .ref bs, .int mm, .long xx])) (hf_bs : f bs = .inl (cy 0, 2376, .inl gb_)) (hf_wk : f wk = .inr (8, [.ref ks, .int wn, .ref ct, .ref se, .ref ow, .int wt, .int wd, .int wp])) (hf_ks : f ks = .inl (cy 1, 13, .inl gk)) (hf_ct : f ct = .inl (cy 1, 4, .inl gc)) (hf_se : f se = .inl (cy 1, 4, .inl gq)) (hf_ow : f ow = .inl (cy 1, 5, .inl go)) (hf_mo : f mo = .inr (2, [.int v0, .int v1, .int v2, .int v3, .int v4, .int v5, .int v6, .ref la, .ref sa, .ref mi, .ref da])) (hf_la : f la = .inl (cy 1, 5, .inl gl)) (hf_sa : f sa = .inl (cy 1, 4, .inl gs)) (hf_mi : f mi = .inl (cy 1, 36, .inl gm)) (hf_da : f da = .inl (cy 4, 13, .inr (.inr (.inr (.inr gd))))) (ne_ct_se : ct ≠ se) (ne_ct_sa : ct ≠ sa) (ne_se_sa : se ≠ sa) (ne_ow_la : ow ≠ la) (hg_da : ∀ i : Nat, i < 13 → gd i = some (dv i)) (hd_da : z_Drv L f dv 13) (hv2 : 0 ≤ v2.toInt ∧ v2.toInt ≤ 9) (hv5 : 0 ≤ v5.toInt ∧ v5.toInt ≤ 12) (hv1 : 0 ≤ v1.toInt ∧ v1.toInt ≤ 4) (hv3 : 0 ≤ v3.toInt ∧ v3.toInt ≤ 5) (hgk : ∀ j : Nat, z_key (gk j)) (hgm : ∀ j : Nat, 0 ≤ (gm j).toInt ∧ (gm j).toInt ≤ 9) (hwn : 0 ≤ wn.toInt ∧ wn.toInt ≤ 13) (hbs : ∀ j : Nat, z_bst (gb_ j)) (hmm : 0 ≤ mm.toInt ∧ mm.toInt ≤ 2376) (hxx : 0 ≤ xx.toInt ∧ xx.toInt < 2147483648) : Met l yX9_mixed (z_ws yX9_mixed cX9_mixed 3 (some .int)) (z_R 6 0 0) (va_Pc [.ref xo, .int sd, .int on] (z_Pre D vwCl (z_KK D cy adK adV) L f sz)) (z_Qi D vwCl (fun r u => L = u.1 ∧ (∀ b ∈ L, b ≠ mx → b ≠ bs → b ≠ wk → b ≠ ks → b ≠ ct → b ≠ se → b ≠ ow → u.2 b = f b) ∧ (∃ (m2 w2 t2 d2 p2 : Int32) (x2 : Int64) (b2 k2 c2 q2 o2 : Nat → Int32), (u.2 mx = .inr (1, [.ref wk, .ref bs, .int m2, .long x2])) ∧ (u.2 bs = .inl (cy 0, 2376, .inl b2)) ∧ (u.2 wk = .inr (8, [.ref ks, .int w2, .ref ct, .ref se, .ref ow, .int t2, .int d2, .int p2])) ∧ (u.2 ks = .inl (cy 1, 13, .inl k2)) ∧ (u.2 ct = .inl (cy 1, 4, .inl c2)) ∧ (u.2 se = .inl (cy 1, 4, .inl q2)) ∧ (u.2 ow = .inl (cy 1, 5, .inl o2)) ∧ ((0 ≤ m2.toInt ∧ m2.toInt ≤ 2376) ∧ (0 ≤ x2.toInt ∧ x2.toInt < 2147483648) ∧ (0 ≤ w2.toInt ∧ w2.toInt ≤ 13) ∧ (∀ j : Nat, z_bst (b2 j)) ∧ ∀ j : Nat, z_key (k2 j)))) L sz) 0 0 (z_A L sz) := by
  refine z_met (cc := cX9_mixed) (maxL := 3) (ret := (some .int)) (lv := [(0, .ref xo), (1, .int sd), (2, .int on)]) (by decide) rfl (Nat.le_of_ble_eq_true rfl) rfl ?_
  intro p e s m below meth c ls hx hb hr hlk hml hown hnm hts hKK hA hw hl
  have hK := hKK.1.1
  have hown : s.vm.findClass RX9 = some m.cls := hown
  have hT : ∀ w ∈ lw_all, w.before ([.ref xo, .int sd, .int on] : List Value).toArray s = true := fun w h => hts w (z_cons w h)
  have hsub : L = L := rfl
  have hfr : ∀ b ∈ L, b ≠ mx → b ≠ bs → b ≠ wk → b ≠ ks → b ≠ ct → b ≠ se → b ≠ ow → f b = f b := fun _ _ _ _ _ _ _ _ _ => rfl
  refine lv_aload_n hx hb dX9_mixed_0 rfl (lv_at hl 0 rfl) ?_
  refine z_get (C := RX9) (T := TX9) (N := 11) (ci := 9) (v := .ref mo) hx hb hT zin_X9 hown hK hw hm_xo hf_xo rfl 2 (by decide) (hT _ kw_479) rfl dX9_mixed_1 ?_
  refine lv_iload_n hx hb dX9_mixed_4 rfl (lv_at hl 2 rfl) ?_
  refine z_calliV (cells := 0) (slots := 0) (b := mo) (As := [.int on]) (rest := []) (ci := 2) (q0 := (RX2, TX2, 11)) ⟨hx, hb, hml, hown, hT⟩ (c_X2_hasOwner l hm_mo hf_mo) (cwV 1 hT (z_goodV (fun _ h => h) kw_858 kw_859 kw_860 kw_87 kw_861) rfl rfl rfl (by decide +kernel) ⟨by decide, by decide⟩) z_mv hKK hK hw hA hm_mo hf_mo rfl rfl rfl hl.1 rfl (Nat.le_of_ble_eq_true rfl) dX9_mixed_5 ⟨by decide, by decide⟩ (fun r1 u H locs hp hw => ?_)
  obtain ⟨rfl, hp⟩ := hp
  have hw : z_H D vwCl (z_A L sz) s.heap L f H locs := hw
  rcases hp with ⟨rfl, h2⟩ | ⟨rfl, h2⟩
  · skip
    refine z_if_eq (tgt := 18) hx hb (show (1 : Int32).toInt = 1 by decide) dX9_mixed_8 (by decide) (fun h => absurd h (by decide)) (fun _ => ?_)
    refine lv_iload_n hx hb dX9_mixed_11 rfl (lv_at hl 1 rfl) ?_
    refine z_calliS (cells := 0) (slots := 0) (As := [.int sd]) (rest := []) ⟨hx, hb, hml, hown, hT⟩ (c_X9_isSeed l ) (va_cwS 1 hT (z_goodS (fun _ h => h) kw_1067 kw_1068 kw_85 kw_1069) rfl rfl rfl (by decide +kernel) ⟨by decide, by decide⟩) z_mv hKK hw hA rfl hl.1 rfl (Nat.le_of_ble_eq_true rfl) dX9_mixed_12 ⟨by decide, by decide⟩ (fun r3 u H locs hp hw => ?_)
    obtain ⟨rfl, hp⟩ := hp
    have hw : z_H D vwCl (z_A L sz) s.heap L f H locs := hw
    rcases hp with ⟨rfl, h4⟩ | ⟨rfl, h4⟩
    · skip
      refine z_if_ne (tgt := 21) hx hb (show (1 : Int32).toInt = 1 by decide) dX9_mixed_15 (by decide) (fun _ => ?_) (fun h => absurd h (by decide))
      refine lv_aload_n hx hb dX9_mixed_21 rfl (lv_at hl 0 rfl) ?_
      refine z_get (C := RX9) (T := TX9) (N := 11) (ci := 9) (v := .ref mx) hx hb hT zin_X9 hown hK hw hm_xo hf_xo rfl 10 (by decide) (hT _ kw_487) rfl dX9_mixed_22 ?_
      refine lv_aload_n hx hb dX9_mixed_25 rfl (lv_at hl 0 rfl) ?_
      refine z_get (C := RX9) (T := TX9) (N := 11) (ci := 9) (v := .ref mo) hx hb hT zin_X9 hown hK hw hm_xo hf_xo rfl 2 (by decide) (hT _ kw_479) rfl dX9_mixed_26 ?_
      refine lv_iload_n hx hb dX9_mixed_29 rfl (lv_at hl 1 rfl) ?_
      refine lv_iload_n hx hb dX9_mixed_30 rfl (lv_at hl 2 rfl) ?_
      refine z_calliV (cells := 0) (slots := 0) (b := mx) (As := [.ref mo, .int sd, .int on]) (rest := []) (ci := 1) (q0 := (RX1, TX1, 4)) ⟨hx, hb, hml, hown, hT⟩ (c_X1_sumOf l hm_mx hm_bs hm_wk hm_ks hm_ct hm_se hm_ow hm_mo hm_la hm_sa hm_mi hm_da hf_mx hf_bs hf_wk hf_ks hf_ct hf_se hf_ow hf_mo hf_la hf_sa hf_mi hf_da ne_ct_se ne_ct_sa ne_se_sa ne_ow_la hg_da hd_da (by first | omega | decide | assumption) (by first | omega | decide | assumption) hgk hgm hbs (by first | omega | decide | assumption)) (cwV 3 hT (z_goodV (fun _ h => h) kw_1071 kw_1072 kw_1073 kw_95 kw_1074) rfl rfl rfl (by decide +kernel) ⟨by decide, by decide⟩) z_mv hKK hK hw hA hm_mx hf_mx rfl rfl rfl hl.1 rfl (Nat.le_of_ble_eq_true rfl) dX9_mixed_31 ⟨by decide, by decide⟩ (fun r5 u H locs hp hw => ?_)
      obtain ⟨L6, f7⟩ := u
      obtain ⟨hsb, hfm, m2_8, w2_9, t2_10, x2_11, b2_12, k2_13, c2_14, q2_15, o2_16, ha_0, ha_1, ha_2, ha_3, ha_4, ha_5, ha_6, hp⟩ := hp
      have hsb : L = L6 := hsb
      subst hsb
      have hsb : ∀ b ∈ L, b ∈ L := fun _ h => h
      have hw : z_H D vwCl (z_A L sz) s.heap L f7 H locs := hw
      have hfr : ∀ b ∈ L, b ≠ mx → b ≠ bs → b ≠ wk → b ≠ ks → b ≠ ct → b ≠ se → b ≠ ow → f7 b = f b := fun b hb h0 h1 h2 h3 h4 h5 h6 => (hfm b hb h0 h1 h2 h3 h4 h5 h6).trans (hfr b hb h0 h1 h2 h3 h4 h5 h6)
      have hd_da : z_Drv L f7 dv 13 := z_Drv_fr hd_da hsb (fun b hb ht => hfm b hb (z_t0 ht hf_mx (m := 1) rfl (by decide)) (z_t0 ht hf_bs (m := 19108) rfl (by decide)) (z_t0 ht hf_wk (m := 8) rfl (by decide)) (z_t0 ht hf_ks (m := 204) rfl (by decide)) (z_t0 ht hf_ct (m := 132) rfl (by decide)) (z_t0 ht hf_se (m := 132) rfl (by decide)) (z_t0 ht hf_ow (m := 140) rfl (by decide)))
      have hf_xo : f7 xo = .inr (9, [.ref tp, .ref rd, .ref mo, .ref dmo, .ref im, .ref kp, .ref sl, .ref wk, .ref pl, .ref oo, .ref mx]) := (hfm xo hm_xo (z_tne hf_xo hf_mx (m := 9) (n := 1) rfl rfl (by decide)) (z_tne hf_xo hf_bs (m := 9) (n := 19108) rfl rfl (by decide)) (z_tne hf_xo hf_wk (m := 9) (n := 8) rfl rfl (by decide)) (z_tne hf_xo hf_ks (m := 9) (n := 204) rfl rfl (by decide)) (z_tne hf_xo hf_ct (m := 9) (n := 132) rfl rfl (by decide)) (z_tne hf_xo hf_se (m := 9) (n := 132) rfl rfl (by decide)) (z_tne hf_xo hf_ow (m := 9) (n := 140) rfl rfl (by decide))).trans hf_xo
      have hf_mo : f7 mo = .inr (2, [.int v0, .int v1, .int v2, .int v3, .int v4, .int v5, .int v6, .ref la, .ref sa, .ref mi, .ref da]) := (hfm mo hm_mo (z_tne hf_mo hf_mx (m := 2) (n := 1) rfl rfl (by decide)) (z_tne hf_mo hf_bs (m := 2) (n := 19108) rfl rfl (by decide)) (z_tne hf_mo hf_wk (m := 2) (n := 8) rfl rfl (by decide)) (z_tne hf_mo hf_ks (m := 2) (n := 204) rfl rfl (by decide)) (z_tne hf_mo hf_ct (m := 2) (n := 132) rfl rfl (by decide)) (z_tne hf_mo hf_se (m := 2) (n := 132) rfl rfl (by decide)) (z_tne hf_mo hf_ow (m := 2) (n := 140) rfl rfl (by decide))).trans hf_mo
      have hf_la : f7 la = .inl (cy 1, 5, .inl gl) := (hfm la hm_la (z_tne hf_la hf_mx (m := 140) (n := 1) rfl rfl (by decide)) (z_tne hf_la hf_bs (m := 140) (n := 19108) rfl rfl (by decide)) (z_tne hf_la hf_wk (m := 140) (n := 8) rfl rfl (by decide)) (z_tne hf_la hf_ks (m := 140) (n := 204) rfl rfl (by decide)) (z_tne hf_la hf_ct (m := 140) (n := 132) rfl rfl (by decide)) (z_tne hf_la hf_se (m := 140) (n := 132) rfl rfl (by decide)) (Ne.symm ne_ow_la)).trans hf_la
      have hf_sa : f7 sa = .inl (cy 1, 4, .inl gs) := (hfm sa hm_sa (z_tne hf_sa hf_mx (m := 132) (n := 1) rfl rfl (by decide)) (z_tne hf_sa hf_bs (m := 132) (n := 19108) rfl rfl (by decide)) (z_tne hf_sa hf_wk (m := 132) (n := 8) rfl rfl (by decide)) (z_tne hf_sa hf_ks (m := 132) (n := 204) rfl rfl (by decide)) (Ne.symm ne_ct_sa) (Ne.symm ne_se_sa) (z_tne hf_sa hf_ow (m := 132) (n := 140) rfl rfl (by decide))).trans hf_sa
      have hf_mi : f7 mi = .inl (cy 1, 36, .inl gm) := (hfm mi hm_mi (z_tne hf_mi hf_mx (m := 388) (n := 1) rfl rfl (by decide)) (z_tne hf_mi hf_bs (m := 388) (n := 19108) rfl rfl (by decide)) (z_tne hf_mi hf_wk (m := 388) (n := 8) rfl rfl (by decide)) (z_tne hf_mi hf_ks (m := 388) (n := 204) rfl rfl (by decide)) (z_tne hf_mi hf_ct (m := 388) (n := 132) rfl rfl (by decide)) (z_tne hf_mi hf_se (m := 388) (n := 132) rfl rfl (by decide)) (z_tne hf_mi hf_ow (m := 388) (n := 140) rfl rfl (by decide))).trans hf_mi
      have hf_da : f7 da = .inl (cy 4, 13, .inr (.inr (.inr (.inr gd)))) := (hfm da hm_da (z_tne hf_da hf_mx (m := 206) (n := 1) rfl rfl (by decide)) (z_tne hf_da hf_bs (m := 206) (n := 19108) rfl rfl (by decide)) (z_tne hf_da hf_wk (m := 206) (n := 8) rfl rfl (by decide)) (z_tne hf_da hf_ks (m := 206) (n := 204) rfl rfl (by decide)) (z_tne hf_da hf_ct (m := 206) (n := 132) rfl rfl (by decide)) (z_tne hf_da hf_se (m := 206) (n := 132) rfl rfl (by decide)) (z_tne hf_da hf_ow (m := 206) (n := 140) rfl rfl (by decide))).trans hf_da
      have hf_mx : f7 mx = .inr (1, [.ref wk, .ref bs, .int m2_8, .long x2_11]) := ha_0
      have hf_bs : f7 bs = .inl (cy 0, 2376, .inl b2_12) := ha_1
      have hf_wk : f7 wk = .inr (8, [.ref ks, .int w2_9, .ref ct, .ref se, .ref ow, .int t2_10, .int wd, .int wp]) := ha_2
      have hf_ks : f7 ks = .inl (cy 1, 13, .inl k2_13) := ha_3
      have hf_ct : f7 ct = .inl (cy 1, 4, .inl c2_14) := ha_4
      have hf_se : f7 se = .inl (cy 1, 4, .inl q2_15) := ha_5
      have hf_ow : f7 ow = .inl (cy 1, 5, .inl o2_16) := ha_6
      have hmx17 := hp
      exact z_iret hx hb hr hlk (by decide) (by decide) hw (⟨hsub, hfr, m2_8, w2_9, t2_10, wd, wp, x2_11, b2_12, k2_13, c2_14, q2_15, o2_16, hf_mx, hf_bs, hf_wk, hf_ks, hf_ct, hf_se, hf_ow, by omega, by omega, by omega, hmx17.2.2.2.1, hmx17.2.2.2.2⟩) dX9_mixed_34
    · skip
      refine z_if_ne (tgt := 21) hx hb (show (0 : Int32).toInt = 0 by decide) dX9_mixed_15 (by decide) (fun h => absurd h (by decide)) (fun _ => ?_)
      refine lv_bipush (v := (-2)) hx hb dX9_mixed_18 (by decide) ?_
      exact z_iret hx hb hr hlk (by decide) (by decide) hw (⟨hsub, hfr, mm, wn, wt, wd, wp, xx, gb_, gk, gc, gq, go, hf_mx, hf_bs, hf_wk, hf_ks, hf_ct, hf_se, hf_ow, by omega, by omega, by omega, hbs, hgk⟩) dX9_mixed_20
  · skip
    refine z_if_eq (tgt := 18) hx hb (show (0 : Int32).toInt = 0 by decide) dX9_mixed_8 (by decide) (fun _ => ?_) (fun h => absurd h (by decide))
    refine lv_bipush (v := (-2)) hx hb dX9_mixed_18 (by decide) ?_
    exact z_iret hx hb hr hlk (by decide) (by decide) hw (⟨hsub, hfr, mm, wn, wt, wd, wp, xx, gb_, gk, gc, gq, go, hf_mx, hf_bs, hf_wk, hf_ks, hf_ct, hf_se, hf_ow, by omega, by omega, by omega, hbs, hgk⟩) dX9_mixed_20

set_option maxHeartbeats 2000000 in
set_option maxRecDepth 100000 in
theorem c_X9_luck (l : Launch) {D : va_G} {cy : Nat → ClassId} {L : List Nat} {f : Nat → va_E} {sz : Nat} {adK adV : Nat → Nat} {xo tp rd mo dmo im kp sl wk pl oo mx : Nat} {ks ct se ow : Nat} {wn wt wd wp : Int32} {gk gc gq go : Nat → Int32} {la sa mi da : Nat} {v0 v1 v2 v3 v4 v5 v6 : Int32} {gl gs gm : Nat → Int32} {gd : Nat → Option Nat} {dv : Nat → Nat} {bs : Nat} {mm : Int32} {xx : Int64} {gb_ : Nat → Int32} {sd nn on : Int32} (hm_xo : xo ∈ L) (hm_mx : mx ∈ L) (hm_bs : bs ∈ L) (hm_wk : wk ∈ L) (hm_ks : ks ∈ L) (hm_ct : ct ∈ L) (hm_se : se ∈ L) (hm_ow : ow ∈ L) (hm_mo : mo ∈ L) (hm_la : la ∈ L) (hm_sa : sa ∈ L) (hm_mi : mi ∈ L) (hm_da : da ∈ L) (hf_xo : f xo = .inr (9, [.ref tp, .ref rd, .ref mo, .ref dmo, .ref im, .ref kp, .ref sl, .ref wk, .ref pl, .ref oo, .ref mx])) (hf_mx : f mx = .inr (1, [.ref wk, .ref bs, .int mm, .long xx])) (hf_bs : f bs = .inl (cy 0, 2376, .inl gb_)) (hf_wk : f wk = .inr (8, [.ref ks, .int wn, .ref ct, .ref se, .ref ow, .int wt, .int wd, .int wp])) (hf_ks : f ks = .inl (cy 1, 13, .inl gk)) (hf_ct : f ct = .inl (cy 1, 4, .inl gc)) (hf_se : f se = .inl (cy 1, 4, .inl gq)) (hf_ow : f ow = .inl (cy 1, 5, .inl go)) (hf_mo : f mo = .inr (2, [.int v0, .int v1, .int v2, .int v3, .int v4, .int v5, .int v6, .ref la, .ref sa, .ref mi, .ref da])) (hf_la : f la = .inl (cy 1, 5, .inl gl)) (hf_sa : f sa = .inl (cy 1, 4, .inl gs)) (hf_mi : f mi = .inl (cy 1, 36, .inl gm)) (hf_da : f da = .inl (cy 4, 13, .inr (.inr (.inr (.inr gd))))) (ne_ct_se : ct ≠ se) (ne_ct_sa : ct ≠ sa) (ne_se_sa : se ≠ sa) (ne_ow_la : ow ≠ la) (hg_da : ∀ i : Nat, i < 13 → gd i = some (dv i)) (hd_da : z_Drv L f dv 13) (hv2 : 0 ≤ v2.toInt ∧ v2.toInt ≤ 9) (hv5 : 0 ≤ v5.toInt ∧ v5.toInt ≤ 12) (hv1 : 0 ≤ v1.toInt ∧ v1.toInt ≤ 4) (hv3 : 0 ≤ v3.toInt ∧ v3.toInt ≤ 5) (hgk : ∀ j : Nat, z_key (gk j)) (hgm : ∀ j : Nat, 0 ≤ (gm j).toInt ∧ (gm j).toInt ≤ 9) (hwn : 0 ≤ wn.toInt ∧ wn.toInt ≤ 13) (hbs : ∀ j : Nat, z_bst (gb_ j)) (hmm : 0 ≤ mm.toInt ∧ mm.toInt ≤ 2376) (hxx : 0 ≤ xx.toInt ∧ xx.toInt < 2147483648) : Met l yX9_luck (z_ws yX9_luck cX9_luck 7 (some .int)) (z_R 6 0 0) (va_Pc [.ref xo, .int sd, .int nn, .int on] (z_Pre D vwCl (z_KK D cy adK adV) L f sz)) (z_Qi D vwCl (fun r u => L = u.1 ∧ (∀ b ∈ L, b ≠ mx → b ≠ bs → b ≠ wk → b ≠ ks → b ≠ ct → b ≠ se → b ≠ ow → u.2 b = f b) ∧ (∃ (m2 w2 t2 d2 p2 : Int32) (x2 : Int64) (b2 k2 c2 q2 o2 : Nat → Int32), (u.2 mx = .inr (1, [.ref wk, .ref bs, .int m2, .long x2])) ∧ (u.2 bs = .inl (cy 0, 2376, .inl b2)) ∧ (u.2 wk = .inr (8, [.ref ks, .int w2, .ref ct, .ref se, .ref ow, .int t2, .int d2, .int p2])) ∧ (u.2 ks = .inl (cy 1, 13, .inl k2)) ∧ (u.2 ct = .inl (cy 1, 4, .inl c2)) ∧ (u.2 se = .inl (cy 1, 4, .inl q2)) ∧ (u.2 ow = .inl (cy 1, 5, .inl o2)) ∧ ((0 ≤ m2.toInt ∧ m2.toInt ≤ 2376) ∧ (0 ≤ x2.toInt ∧ x2.toInt < 2147483648) ∧ (0 ≤ w2.toInt ∧ w2.toInt ≤ 13) ∧ (∀ j : Nat, z_bst (b2 j)) ∧ ∀ j : Nat, z_key (k2 j)))) L sz) 0 0 (z_A L sz) := by
  refine z_met (cc := cX9_luck) (maxL := 7) (ret := (some .int)) (lv := [(0, .ref xo), (1, .int sd), (2, .int nn), (3, .int on)]) (by decide) rfl (Nat.le_of_ble_eq_true rfl) rfl ?_
  intro p e s m below meth c ls hx hb hr hlk hml hown hnm hts hKK hA hw hl
  have hK := hKK.1.1
  have hown : s.vm.findClass RX9 = some m.cls := hown
  have hT : ∀ w ∈ lw_all, w.before ([.ref xo, .int sd, .int nn, .int on] : List Value).toArray s = true := fun w h => hts w (z_cons w h)
  have hsub : L = L := rfl
  have hfr : ∀ b ∈ L, b ≠ mx → b ≠ bs → b ≠ wk → b ≠ ks → b ≠ ct → b ≠ se → b ≠ ow → f b = f b := fun _ _ _ _ _ _ _ _ _ => rfl
  refine lv_aload_n hx hb dX9_luck_0 rfl (lv_at hl 0 rfl) ?_
  refine z_get (C := RX9) (T := TX9) (N := 11) (ci := 9) (v := .ref mo) hx hb hT zin_X9 hown hK hw hm_xo hf_xo rfl 2 (by decide) (hT _ kw_479) rfl dX9_luck_1 ?_
  refine lv_iload_n hx hb dX9_luck_4 rfl (lv_at hl 3 rfl) ?_
  refine z_calliV (cells := 0) (slots := 0) (b := mo) (As := [.int on]) (rest := []) (ci := 2) (q0 := (RX2, TX2, 11)) ⟨hx, hb, hml, hown, hT⟩ (c_X2_hasOwner l hm_mo hf_mo) (cwV 1 hT (z_goodV (fun _ h => h) kw_858 kw_859 kw_860 kw_87 kw_861) rfl rfl rfl (by decide +kernel) ⟨by decide, by decide⟩) z_mv hKK hK hw hA hm_mo hf_mo rfl rfl rfl hl.1 rfl (Nat.le_of_ble_eq_true rfl) dX9_luck_5 ⟨by decide, by decide⟩ (fun r1 u H locs hp hw => ?_)
  obtain ⟨rfl, hp⟩ := hp
  have hw : z_H D vwCl (z_A L sz) s.heap L f H locs := hw
  rcases hp with ⟨rfl, h2⟩ | ⟨rfl, h2⟩
  · skip
    refine z_if_eq (tgt := 29) hx hb (show (1 : Int32).toInt = 1 by decide) dX9_luck_8 (by decide) (fun h => absurd h (by decide)) (fun _ => ?_)
    refine lv_iload_n hx hb dX9_luck_11 rfl (lv_at hl 1 rfl) ?_
    refine z_calliS (cells := 0) (slots := 0) (As := [.int sd]) (rest := []) ⟨hx, hb, hml, hown, hT⟩ (c_X9_isSeed l ) (va_cwS 1 hT (z_goodS (fun _ h => h) kw_1067 kw_1068 kw_85 kw_1069) rfl rfl rfl (by decide +kernel) ⟨by decide, by decide⟩) z_mv hKK hw hA rfl hl.1 rfl (Nat.le_of_ble_eq_true rfl) dX9_luck_12 ⟨by decide, by decide⟩ (fun r3 u H locs hp hw => ?_)
    obtain ⟨rfl, hp⟩ := hp
    have hw : z_H D vwCl (z_A L sz) s.heap L f H locs := hw
    rcases hp with ⟨rfl, h4⟩ | ⟨rfl, h4⟩
    · skip
      refine z_if_eq (tgt := 29) hx hb (show (1 : Int32).toInt = 1 by decide) dX9_luck_15 (by decide) (fun h => absurd h (by decide)) (fun _ => ?_)
      refine lv_iload_n hx hb dX9_luck_18 rfl (lv_at hl 2 rfl) ?_
      refine lv_iconst (v := 1) hx hb dX9_luck_19 (by decide) ?_
      refine z_icmp_lt (tgt := 29) hx hb rfl (show (1 : Int32).toInt = 1 by decide) dX9_luck_20 (by decide) (fun c5 => ?_) (fun c5 => ?_)
      · skip
        refine lv_bipush (v := (-2)) hx hb dX9_luck_29 (by decide) ?_
        exact z_iret hx hb hr hlk (by decide) (by decide) hw (⟨hsub, hfr, mm, wn, wt, wd, wp, xx, gb_, gk, gc, gq, go, hf_mx, hf_bs, hf_wk, hf_ks, hf_ct, hf_se, hf_ow, by omega, by omega, by omega, hbs, hgk⟩) dX9_luck_31
      · skip
        refine lv_iload_n hx hb dX9_luck_23 rfl (lv_at hl 2 rfl) ?_
        refine lv_bipush (v := 20) hx hb dX9_luck_24 (by decide) ?_
        refine z_icmp_le (tgt := 32) hx hb rfl (show (20 : Int32).toInt = 20 by decide) dX9_luck_26 (by decide) (fun c6 => ?_) (fun c6 => ?_)
        · skip
          refine lv_aload_n hx hb dX9_luck_32 rfl (lv_at hl 0 rfl) ?_
          refine z_get (C := RX9) (T := TX9) (N := 11) (ci := 9) (v := .ref wk) hx hb hT zin_X9 hown hK hw hm_xo hf_xo rfl 7 (by decide) (hT _ kw_484) rfl dX9_luck_33 ?_
          refine lv_aload_n hx hb dX9_luck_36 rfl (lv_at hl 0 rfl) ?_
          refine z_get (C := RX9) (T := TX9) (N := 11) (ci := 9) (v := .ref mo) hx hb hT zin_X9 hown hK hw hm_xo hf_xo rfl 2 (by decide) (hT _ kw_479) rfl dX9_luck_37 ?_
          refine lv_iload_n hx hb dX9_luck_40 rfl (lv_at hl 3 rfl) ?_
          refine z_calliV (cells := 0) (slots := 0) (b := wk) (As := [.ref mo, .int on]) (rest := []) (ci := 8) (q0 := (RX8, TX8, 8)) ⟨hx, hb, hml, hown, hT⟩ (c_X8_sumOf l hm_wk hm_ks hm_ct hm_se hm_ow hm_mo hm_la hm_sa hm_mi hm_da hf_wk hf_ks hf_ct hf_se hf_ow hf_mo hf_la hf_sa hf_mi hf_da ne_ct_se ne_ct_sa ne_se_sa ne_ow_la hg_da hd_da (by first | omega | decide | assumption) (by first | omega | decide | assumption) hgk hgm (by first | omega | decide | assumption)) (cwV 2 hT (z_goodV (fun _ h => h) kw_862 kw_863 kw_864 kw_92 kw_865) rfl rfl rfl (by decide +kernel) ⟨by decide, by decide⟩) z_mv hKK hK hw hA hm_wk hf_wk rfl rfl rfl hl.1 rfl (Nat.le_of_ble_eq_true rfl) dX9_luck_41 ⟨by decide, by decide⟩ (fun r7 u H locs hp hw => ?_)
          obtain ⟨L8, f9⟩ := u
          obtain ⟨hsb, hfm, w2_10, t2_11, k2_12, c2_13, q2_14, o2_15, ha_0, ha_1, ha_2, ha_3, ha_4, hp⟩ := hp
          have hsb : L = L8 := hsb
          subst hsb
          have hsb : ∀ b ∈ L, b ∈ L := fun _ h => h
          have hw : z_H D vwCl (z_A L sz) s.heap L f9 H locs := hw
          have hfr : ∀ b ∈ L, b ≠ mx → b ≠ bs → b ≠ wk → b ≠ ks → b ≠ ct → b ≠ se → b ≠ ow → f9 b = f b := fun b hb h0 h1 h2 h3 h4 h5 h6 => (hfm b hb h2 h3 h4 h5 h6).trans (hfr b hb h0 h1 h2 h3 h4 h5 h6)
          have hd_da : z_Drv L f9 dv 13 := z_Drv_fr hd_da hsb (fun b hb ht => hfm b hb (z_t0 ht hf_wk (m := 8) rfl (by decide)) (z_t0 ht hf_ks (m := 204) rfl (by decide)) (z_t0 ht hf_ct (m := 132) rfl (by decide)) (z_t0 ht hf_se (m := 132) rfl (by decide)) (z_t0 ht hf_ow (m := 140) rfl (by decide)))
          have hf_xo : f9 xo = .inr (9, [.ref tp, .ref rd, .ref mo, .ref dmo, .ref im, .ref kp, .ref sl, .ref wk, .ref pl, .ref oo, .ref mx]) := (hfm xo hm_xo (z_tne hf_xo hf_wk (m := 9) (n := 8) rfl rfl (by decide)) (z_tne hf_xo hf_ks (m := 9) (n := 204) rfl rfl (by decide)) (z_tne hf_xo hf_ct (m := 9) (n := 132) rfl rfl (by decide)) (z_tne hf_xo hf_se (m := 9) (n := 132) rfl rfl (by decide)) (z_tne hf_xo hf_ow (m := 9) (n := 140) rfl rfl (by decide))).trans hf_xo
          have hf_mx : f9 mx = .inr (1, [.ref wk, .ref bs, .int mm, .long xx]) := (hfm mx hm_mx (z_tne hf_mx hf_wk (m := 1) (n := 8) rfl rfl (by decide)) (z_tne hf_mx hf_ks (m := 1) (n := 204) rfl rfl (by decide)) (z_tne hf_mx hf_ct (m := 1) (n := 132) rfl rfl (by decide)) (z_tne hf_mx hf_se (m := 1) (n := 132) rfl rfl (by decide)) (z_tne hf_mx hf_ow (m := 1) (n := 140) rfl rfl (by decide))).trans hf_mx
          have hf_bs : f9 bs = .inl (cy 0, 2376, .inl gb_) := (hfm bs hm_bs (z_tne hf_bs hf_wk (m := 19108) (n := 8) rfl rfl (by decide)) (z_tne hf_bs hf_ks (m := 19108) (n := 204) rfl rfl (by decide)) (z_tne hf_bs hf_ct (m := 19108) (n := 132) rfl rfl (by decide)) (z_tne hf_bs hf_se (m := 19108) (n := 132) rfl rfl (by decide)) (z_tne hf_bs hf_ow (m := 19108) (n := 140) rfl rfl (by decide))).trans hf_bs
          have hf_mo : f9 mo = .inr (2, [.int v0, .int v1, .int v2, .int v3, .int v4, .int v5, .int v6, .ref la, .ref sa, .ref mi, .ref da]) := (hfm mo hm_mo (z_tne hf_mo hf_wk (m := 2) (n := 8) rfl rfl (by decide)) (z_tne hf_mo hf_ks (m := 2) (n := 204) rfl rfl (by decide)) (z_tne hf_mo hf_ct (m := 2) (n := 132) rfl rfl (by decide)) (z_tne hf_mo hf_se (m := 2) (n := 132) rfl rfl (by decide)) (z_tne hf_mo hf_ow (m := 2) (n := 140) rfl rfl (by decide))).trans hf_mo
          have hf_la : f9 la = .inl (cy 1, 5, .inl gl) := (hfm la hm_la (z_tne hf_la hf_wk (m := 140) (n := 8) rfl rfl (by decide)) (z_tne hf_la hf_ks (m := 140) (n := 204) rfl rfl (by decide)) (z_tne hf_la hf_ct (m := 140) (n := 132) rfl rfl (by decide)) (z_tne hf_la hf_se (m := 140) (n := 132) rfl rfl (by decide)) (Ne.symm ne_ow_la)).trans hf_la
          have hf_sa : f9 sa = .inl (cy 1, 4, .inl gs) := (hfm sa hm_sa (z_tne hf_sa hf_wk (m := 132) (n := 8) rfl rfl (by decide)) (z_tne hf_sa hf_ks (m := 132) (n := 204) rfl rfl (by decide)) (Ne.symm ne_ct_sa) (Ne.symm ne_se_sa) (z_tne hf_sa hf_ow (m := 132) (n := 140) rfl rfl (by decide))).trans hf_sa
          have hf_mi : f9 mi = .inl (cy 1, 36, .inl gm) := (hfm mi hm_mi (z_tne hf_mi hf_wk (m := 388) (n := 8) rfl rfl (by decide)) (z_tne hf_mi hf_ks (m := 388) (n := 204) rfl rfl (by decide)) (z_tne hf_mi hf_ct (m := 388) (n := 132) rfl rfl (by decide)) (z_tne hf_mi hf_se (m := 388) (n := 132) rfl rfl (by decide)) (z_tne hf_mi hf_ow (m := 388) (n := 140) rfl rfl (by decide))).trans hf_mi
          have hf_da : f9 da = .inl (cy 4, 13, .inr (.inr (.inr (.inr gd)))) := (hfm da hm_da (z_tne hf_da hf_wk (m := 206) (n := 8) rfl rfl (by decide)) (z_tne hf_da hf_ks (m := 206) (n := 204) rfl rfl (by decide)) (z_tne hf_da hf_ct (m := 206) (n := 132) rfl rfl (by decide)) (z_tne hf_da hf_se (m := 206) (n := 132) rfl rfl (by decide)) (z_tne hf_da hf_ow (m := 206) (n := 140) rfl rfl (by decide))).trans hf_da
          have hf_wk : f9 wk = .inr (8, [.ref ks, .int w2_10, .ref ct, .ref se, .ref ow, .int t2_11, .int wd, .int wp]) := ha_0
          have hf_ks : f9 ks = .inl (cy 1, 13, .inl k2_12) := ha_1
          have hf_ct : f9 ct = .inl (cy 1, 4, .inl c2_13) := ha_2
          have hf_se : f9 se = .inl (cy 1, 4, .inl q2_14) := ha_3
          have hf_ow : f9 ow = .inl (cy 1, 5, .inl o2_15) := ha_4
          have hbg16 := hp
          refine lv_istore (lv' := [(4, .int r7), (0, .ref xo), (1, .int sd), (2, .int nn), (3, .int on)]) hx hb dX9_luck_44 hl (by decide) rfl (fun ls hl => ?_)
          refine lv_iconst (v := 0) hx hb dX9_luck_46 (by decide) ?_
          refine lv_istore (lv' := [(5, .int 0), (4, .int r7), (0, .ref xo), (1, .int sd), (2, .int nn), (3, .int on)]) hx hb dX9_luck_47 hl (by decide) rfl (fun ls hl => ?_)
          refine lv_iconst (v := 0) hx hb dX9_luck_49 (by decide) ?_
          refine lv_istore (lv' := [(6, .int 0), (5, .int 0), (4, .int r7), (0, .ref xo), (1, .int sd), (2, .int nn), (3, .int on)]) hx hb dX9_luck_50 hl (by decide) rfl (fun ls hl => ?_)
          have hzk : (0 : Int32).toInt = 0 := by decide
          refine z_loop (fun n H locs ls => ∃ (K17 : Int32) (G21 : Nat → Int32) (G24 : Nat → Int32) (G25 : Nat → Int32) (G26 : Nat → Int32) (G27 : Nat → Int32) (MM19 : Int32) (XX20 : Int64) (WN22 : Int32) (WT23 : Int32) (V28 : Int32) (f18 : Nat → va_E), (n = (nn.toInt - K17.toInt).toNat) ∧ (0 ≤ K17.toInt) ∧ (K17.toInt ≤ nn.toInt) ∧ (0 ≤ MM19.toInt ∧ MM19.toInt ≤ 2376) ∧ (0 ≤ XX20.toInt ∧ XX20.toInt < 2147483648) ∧ (0 ≤ WN22.toInt ∧ WN22.toInt ≤ 13) ∧ (∀ j : Nat, z_bst (G21 j)) ∧ (∀ j : Nat, z_key (G24 j)) ∧ (z_H D vwCl (z_A L sz) s.heap L f18 H locs) ∧ (f18 xo = .inr (9, [.ref tp, .ref rd, .ref mo, .ref dmo, .ref im, .ref kp, .ref sl, .ref wk, .ref pl, .ref oo, .ref mx])) ∧ (f18 mx = .inr (1, [.ref wk, .ref bs, .int MM19, .long XX20])) ∧ (f18 bs = .inl (cy 0, 2376, .inl G21)) ∧ (f18 wk = .inr (8, [.ref ks, .int WN22, .ref ct, .ref se, .ref ow, .int WT23, .int wd, .int wp])) ∧ (f18 ks = .inl (cy 1, 13, .inl G24)) ∧ (f18 ct = .inl (cy 1, 4, .inl G25)) ∧ (f18 se = .inl (cy 1, 4, .inl G26)) ∧ (f18 ow = .inl (cy 1, 5, .inl G27)) ∧ (f18 mo = .inr (2, [.int v0, .int v1, .int v2, .int v3, .int v4, .int v5, .int v6, .ref la, .ref sa, .ref mi, .ref da])) ∧ (f18 la = .inl (cy 1, 5, .inl gl)) ∧ (f18 sa = .inl (cy 1, 4, .inl gs)) ∧ (f18 mi = .inl (cy 1, 36, .inl gm)) ∧ (f18 da = .inl (cy 4, 13, .inr (.inr (.inr (.inr gd))))) ∧ (∀ b ∈ L, b ≠ mx → b ≠ bs → b ≠ wk → b ≠ ks → b ≠ ct → b ≠ se → b ≠ ow → f18 b = f b) ∧ (z_Drv L f18 dv 13) ∧ (lv_has ls 7 [(6, .int K17), (5, .int V28), (4, .int r7), (0, .ref xo), (1, .int sd), (2, .int nn), (3, .int on)])) _ ⟨0, gb_, k2_12, c2_13, q2_14, o2_15, mm, xx, w2_10, t2_11, 0, f9, rfl, (by first | decide | omega), (by first | decide | omega), (by omega), (by omega), (by omega), hbs, hbg16.2, hw, hf_xo, hf_mx, hf_bs, hf_wk, hf_ks, hf_ct, hf_se, hf_ow, hf_mo, hf_la, hf_sa, hf_mi, hf_da, hfr, hd_da, (lv_sub hl [0, 1, 2, 3, 4, 5, 6] rfl)⟩ (fun n H locs ls hI ih_52 => ?_)
          obtain ⟨K17, G21, G24, G25, G26, G27, MM19, XX20, WN22, WT23, V28, f18, hn, hk0, hk1, hi0, hi1, hi2, hi3, hi4, hw, hf_xo, hf_mx, hf_bs, hf_wk, hf_ks, hf_ct, hf_se, hf_ow, hf_mo, hf_la, hf_sa, hf_mi, hf_da, hfr, hd_da, hl⟩ := hI
          refine lv_iload hx hb dX9_luck_52 (lv_at hl 0 rfl) ?_
          refine lv_iload_n hx hb dX9_luck_54 rfl (lv_at hl 5 rfl) ?_
          refine z_icmp_ge (tgt := 88) hx hb rfl rfl dX9_luck_55 (by decide) (fun c29 => ?_) (fun c29 => ?_)
          · skip
            refine lv_iload hx hb dX9_luck_88 (lv_at hl 1 rfl) ?_
            exact z_iret hx hb hr hlk (by decide) (by decide) hw (⟨hsub, hfr, MM19, WN22, WT23, wd, wp, XX20, G21, G24, G25, G26, G27, hf_mx, hf_bs, hf_wk, hf_ks, hf_ct, hf_se, hf_ow, by omega, by omega, by omega, hi3, hi4⟩) dX9_luck_90
          · skip
            refine lv_aload_n hx hb dX9_luck_58 rfl (lv_at hl 3 rfl) ?_
            refine z_get (C := RX9) (T := TX9) (N := 11) (ci := 9) (v := .ref mx) hx hb hT zin_X9 hown hK hw hm_xo hf_xo rfl 10 (by decide) (hT _ kw_487) rfl dX9_luck_59 ?_
            refine lv_aload_n hx hb dX9_luck_62 rfl (lv_at hl 3 rfl) ?_
            refine z_get (C := RX9) (T := TX9) (N := 11) (ci := 9) (v := .ref mo) hx hb hT zin_X9 hown hK hw hm_xo hf_xo rfl 2 (by decide) (hT _ kw_479) rfl dX9_luck_63 ?_
            refine lv_iload_n hx hb dX9_luck_66 rfl (lv_at hl 4 rfl) ?_
            refine lv_iload hx hb dX9_luck_67 (lv_at hl 0 rfl) ?_
            refine lv_iadd hx hb dX9_luck_69 ?_
            refine lv_topi (fun w30 e_w30 => ?_)
            have i_w30 : w30.toInt = (sd.toInt + K17.toInt) := z_add e_w30 rfl rfl (by omega)
            refine lv_iload_n hx hb dX9_luck_70 rfl (lv_at hl 6 rfl) ?_
            refine z_calliV (cells := 0) (slots := 0) (b := mx) (As := [.ref mo, .int w30, .int on]) (rest := []) (ci := 1) (q0 := (RX1, TX1, 4)) ⟨hx, hb, hml, hown, hT⟩ (c_X1_sumOf l hm_mx hm_bs hm_wk hm_ks hm_ct hm_se hm_ow hm_mo hm_la hm_sa hm_mi hm_da hf_mx hf_bs hf_wk hf_ks hf_ct hf_se hf_ow hf_mo hf_la hf_sa hf_mi hf_da ne_ct_se ne_ct_sa ne_se_sa ne_ow_la hg_da hd_da (by first | omega | decide | assumption) (by first | omega | decide | assumption) hi4 hgm hi3 (by first | omega | decide | assumption)) (cwV 3 hT (z_goodV (fun _ h => h) kw_1071 kw_1072 kw_1073 kw_95 kw_1074) rfl rfl rfl (by decide +kernel) ⟨by decide, by decide⟩) z_mv hKK hK hw hA hm_mx hf_mx rfl rfl rfl hl.1 rfl (Nat.le_of_ble_eq_true rfl) dX9_luck_71 ⟨by decide, by decide⟩ (fun r31 u H locs hp hw => ?_)
            obtain ⟨L32, f33⟩ := u
            obtain ⟨hsb, hfm, m2_34, w2_35, t2_36, x2_37, b2_38, k2_39, c2_40, q2_41, o2_42, ha_0, ha_1, ha_2, ha_3, ha_4, ha_5, ha_6, hp⟩ := hp
            have hsb : L = L32 := hsb
            subst hsb
            have hsb : ∀ b ∈ L, b ∈ L := fun _ h => h
            have hw : z_H D vwCl (z_A L sz) s.heap L f33 H locs := hw
            have hfr : ∀ b ∈ L, b ≠ mx → b ≠ bs → b ≠ wk → b ≠ ks → b ≠ ct → b ≠ se → b ≠ ow → f33 b = f b := fun b hb h0 h1 h2 h3 h4 h5 h6 => (hfm b hb h0 h1 h2 h3 h4 h5 h6).trans (hfr b hb h0 h1 h2 h3 h4 h5 h6)
            have hd_da : z_Drv L f33 dv 13 := z_Drv_fr hd_da hsb (fun b hb ht => hfm b hb (z_t0 ht hf_mx (m := 1) rfl (by decide)) (z_t0 ht hf_bs (m := 19108) rfl (by decide)) (z_t0 ht hf_wk (m := 8) rfl (by decide)) (z_t0 ht hf_ks (m := 204) rfl (by decide)) (z_t0 ht hf_ct (m := 132) rfl (by decide)) (z_t0 ht hf_se (m := 132) rfl (by decide)) (z_t0 ht hf_ow (m := 140) rfl (by decide)))
            have hf_xo : f33 xo = .inr (9, [.ref tp, .ref rd, .ref mo, .ref dmo, .ref im, .ref kp, .ref sl, .ref wk, .ref pl, .ref oo, .ref mx]) := (hfm xo hm_xo (z_tne hf_xo hf_mx (m := 9) (n := 1) rfl rfl (by decide)) (z_tne hf_xo hf_bs (m := 9) (n := 19108) rfl rfl (by decide)) (z_tne hf_xo hf_wk (m := 9) (n := 8) rfl rfl (by decide)) (z_tne hf_xo hf_ks (m := 9) (n := 204) rfl rfl (by decide)) (z_tne hf_xo hf_ct (m := 9) (n := 132) rfl rfl (by decide)) (z_tne hf_xo hf_se (m := 9) (n := 132) rfl rfl (by decide)) (z_tne hf_xo hf_ow (m := 9) (n := 140) rfl rfl (by decide))).trans hf_xo
            have hf_mo : f33 mo = .inr (2, [.int v0, .int v1, .int v2, .int v3, .int v4, .int v5, .int v6, .ref la, .ref sa, .ref mi, .ref da]) := (hfm mo hm_mo (z_tne hf_mo hf_mx (m := 2) (n := 1) rfl rfl (by decide)) (z_tne hf_mo hf_bs (m := 2) (n := 19108) rfl rfl (by decide)) (z_tne hf_mo hf_wk (m := 2) (n := 8) rfl rfl (by decide)) (z_tne hf_mo hf_ks (m := 2) (n := 204) rfl rfl (by decide)) (z_tne hf_mo hf_ct (m := 2) (n := 132) rfl rfl (by decide)) (z_tne hf_mo hf_se (m := 2) (n := 132) rfl rfl (by decide)) (z_tne hf_mo hf_ow (m := 2) (n := 140) rfl rfl (by decide))).trans hf_mo
            have hf_la : f33 la = .inl (cy 1, 5, .inl gl) := (hfm la hm_la (z_tne hf_la hf_mx (m := 140) (n := 1) rfl rfl (by decide)) (z_tne hf_la hf_bs (m := 140) (n := 19108) rfl rfl (by decide)) (z_tne hf_la hf_wk (m := 140) (n := 8) rfl rfl (by decide)) (z_tne hf_la hf_ks (m := 140) (n := 204) rfl rfl (by decide)) (z_tne hf_la hf_ct (m := 140) (n := 132) rfl rfl (by decide)) (z_tne hf_la hf_se (m := 140) (n := 132) rfl rfl (by decide)) (Ne.symm ne_ow_la)).trans hf_la
            have hf_sa : f33 sa = .inl (cy 1, 4, .inl gs) := (hfm sa hm_sa (z_tne hf_sa hf_mx (m := 132) (n := 1) rfl rfl (by decide)) (z_tne hf_sa hf_bs (m := 132) (n := 19108) rfl rfl (by decide)) (z_tne hf_sa hf_wk (m := 132) (n := 8) rfl rfl (by decide)) (z_tne hf_sa hf_ks (m := 132) (n := 204) rfl rfl (by decide)) (Ne.symm ne_ct_sa) (Ne.symm ne_se_sa) (z_tne hf_sa hf_ow (m := 132) (n := 140) rfl rfl (by decide))).trans hf_sa
            have hf_mi : f33 mi = .inl (cy 1, 36, .inl gm) := (hfm mi hm_mi (z_tne hf_mi hf_mx (m := 388) (n := 1) rfl rfl (by decide)) (z_tne hf_mi hf_bs (m := 388) (n := 19108) rfl rfl (by decide)) (z_tne hf_mi hf_wk (m := 388) (n := 8) rfl rfl (by decide)) (z_tne hf_mi hf_ks (m := 388) (n := 204) rfl rfl (by decide)) (z_tne hf_mi hf_ct (m := 388) (n := 132) rfl rfl (by decide)) (z_tne hf_mi hf_se (m := 388) (n := 132) rfl rfl (by decide)) (z_tne hf_mi hf_ow (m := 388) (n := 140) rfl rfl (by decide))).trans hf_mi
            have hf_da : f33 da = .inl (cy 4, 13, .inr (.inr (.inr (.inr gd)))) := (hfm da hm_da (z_tne hf_da hf_mx (m := 206) (n := 1) rfl rfl (by decide)) (z_tne hf_da hf_bs (m := 206) (n := 19108) rfl rfl (by decide)) (z_tne hf_da hf_wk (m := 206) (n := 8) rfl rfl (by decide)) (z_tne hf_da hf_ks (m := 206) (n := 204) rfl rfl (by decide)) (z_tne hf_da hf_ct (m := 206) (n := 132) rfl rfl (by decide)) (z_tne hf_da hf_se (m := 206) (n := 132) rfl rfl (by decide)) (z_tne hf_da hf_ow (m := 206) (n := 140) rfl rfl (by decide))).trans hf_da
            have hf_mx : f33 mx = .inr (1, [.ref wk, .ref bs, .int m2_34, .long x2_37]) := ha_0
            have hf_bs : f33 bs = .inl (cy 0, 2376, .inl b2_38) := ha_1
            have hf_wk : f33 wk = .inr (8, [.ref ks, .int w2_35, .ref ct, .ref se, .ref ow, .int t2_36, .int wd, .int wp]) := ha_2
            have hf_ks : f33 ks = .inl (cy 1, 13, .inl k2_39) := ha_3
            have hf_ct : f33 ct = .inl (cy 1, 4, .inl c2_40) := ha_4
            have hf_se : f33 se = .inl (cy 1, 4, .inl q2_41) := ha_5
            have hf_ow : f33 ow = .inl (cy 1, 5, .inl o2_42) := ha_6
            have hmx43 := hp
            refine lv_iload hx hb dX9_luck_74 (lv_at hl 2 rfl) ?_
            refine z_icmp_le (tgt := 82) hx hb rfl rfl dX9_luck_76 (by decide) (fun c44 => ?_) (fun c44 => ?_)
            · skip
              obtain ⟨k45, e_k45⟩ : ∃ z : Int32, z = K17 + 1 := ⟨_, rfl⟩
              refine lv_iinc (v := k45) (lv' := [(6, .int k45), (5, .int V28), (4, .int r7), (0, .ref xo), (1, .int sd), (2, .int nn), (3, .int on)]) hx hb dX9_luck_82 hl (k := 0) rfl (by rw [e_k45]; rfl) (by decide) rfl (fun ls hl => ?_)
              have i_k45 : k45.toInt = (K17.toInt + 1) := z_add e_k45 rfl (by decide) (by omega)
              refine lv_goto (tgt := 52) hx hb dX9_luck_85 (by decide) ?_
              exact ih_52 _ (by omega) _ _ _ ⟨k45, b2_38, k2_39, c2_40, q2_41, o2_42, m2_34, x2_37, w2_35, t2_36, V28, f33, rfl, (by first | decide | omega), (by first | decide | omega), (by omega), (by omega), (by omega), hmx43.2.2.2.1, hmx43.2.2.2.2, hw, hf_xo, hf_mx, hf_bs, hf_wk, hf_ks, hf_ct, hf_se, hf_ow, hf_mo, hf_la, hf_sa, hf_mi, hf_da, hfr, hd_da, (lv_sub hl [0, 1, 2, 3, 4, 5, 6] rfl)⟩
            · skip
              obtain ⟨k46, e_k46⟩ : ∃ z : Int32, z = V28 + 1 := ⟨_, rfl⟩
              refine lv_iinc (v := k46) (lv' := [(5, .int k46), (6, .int K17), (4, .int r7), (0, .ref xo), (1, .int sd), (2, .int nn), (3, .int on)]) hx hb dX9_luck_79 hl (k := 1) rfl (by rw [e_k46]; rfl) (by decide) rfl (fun ls hl => ?_)
              obtain ⟨k47, e_k47⟩ : ∃ z : Int32, z = K17 + 1 := ⟨_, rfl⟩
              refine lv_iinc (v := k47) (lv' := [(6, .int k47), (5, .int k46), (4, .int r7), (0, .ref xo), (1, .int sd), (2, .int nn), (3, .int on)]) hx hb dX9_luck_82 hl (k := 1) rfl (by rw [e_k47]; rfl) (by decide) rfl (fun ls hl => ?_)
              have i_k47 : k47.toInt = (K17.toInt + 1) := z_add e_k47 rfl (by decide) (by omega)
              refine lv_goto (tgt := 52) hx hb dX9_luck_85 (by decide) ?_
              exact ih_52 _ (by omega) _ _ _ ⟨k47, b2_38, k2_39, c2_40, q2_41, o2_42, m2_34, x2_37, w2_35, t2_36, k46, f33, rfl, (by first | decide | omega), (by first | decide | omega), (by omega), (by omega), (by omega), hmx43.2.2.2.1, hmx43.2.2.2.2, hw, hf_xo, hf_mx, hf_bs, hf_wk, hf_ks, hf_ct, hf_se, hf_ow, hf_mo, hf_la, hf_sa, hf_mi, hf_da, hfr, hd_da, (lv_sub hl [0, 1, 2, 3, 4, 5, 6] rfl)⟩
        · skip
          refine lv_bipush (v := (-2)) hx hb dX9_luck_29 (by decide) ?_
          exact z_iret hx hb hr hlk (by decide) (by decide) hw (⟨hsub, hfr, mm, wn, wt, wd, wp, xx, gb_, gk, gc, gq, go, hf_mx, hf_bs, hf_wk, hf_ks, hf_ct, hf_se, hf_ow, by omega, by omega, by omega, hbs, hgk⟩) dX9_luck_31
    · skip
      refine z_if_eq (tgt := 29) hx hb (show (0 : Int32).toInt = 0 by decide) dX9_luck_15 (by decide) (fun _ => ?_) (fun h => absurd h (by decide))
      refine lv_bipush (v := (-2)) hx hb dX9_luck_29 (by decide) ?_
      exact z_iret hx hb hr hlk (by decide) (by decide) hw (⟨hsub, hfr, mm, wn, wt, wd, wp, xx, gb_, gk, gc, gq, go, hf_mx, hf_bs, hf_wk, hf_ks, hf_ct, hf_se, hf_ow, by omega, by omega, by omega, hbs, hgk⟩) dX9_luck_31
  · skip
    refine z_if_eq (tgt := 29) hx hb (show (0 : Int32).toInt = 0 by decide) dX9_luck_8 (by decide) (fun _ => ?_) (fun h => absurd h (by decide))
    refine lv_bipush (v := (-2)) hx hb dX9_luck_29 (by decide) ?_
    exact z_iret hx hb hr hlk (by decide) (by decide) hw (⟨hsub, hfr, mm, wn, wt, wd, wp, xx, gb_, gk, gc, gq, go, hf_mx, hf_bs, hf_wk, hf_ks, hf_ct, hf_se, hf_ow, by omega, by omega, by omega, hbs, hgk⟩) dX9_luck_31
