set_option maxHeartbeats 2000000 in
set_option maxRecDepth 100000 in
theorem c_X3_explains (l : Launch) {D : va_G} {cy : Nat → ClassId} {L : List Nat} {f : Nat → va_E} {sz : Nat} {adK adV : Nat → Nat} {wk ks ct se ow : Nat} {wn wt wd wp : Int32} {gc gq : Nat → Int32} {oo ln fi sp : Nat} {om of : Int32} {gn : Nat → Int32} {mo la sa mi da : Nat} {v0 v1 v2 v3 v4 v5 v6 : Int32} {gl gm : Nat → Int32} {gd : Nat → Option Nat} {dv : Nat → Nat} {sl nb si rr : Nat} {gz : Nat → Int32} {gb : Nat → Option Nat} {gr : Nat → Int64} {wi : Nat} {dy sn : Int32} {N : Int} (hm_oo : oo ∈ L) (hm_ln : ln ∈ L) (hm_wk : wk ∈ L) (hm_ct : ct ∈ L) (hm_se : se ∈ L) (hm_mo : mo ∈ L) (hm_la : la ∈ L) (hm_mi : mi ∈ L) (hm_da : da ∈ L) (hm_sl : sl ∈ L) (hm_nb : nb ∈ L) (hm_si : si ∈ L) (hm_rr : rr ∈ L) (hf_oo : f oo = .inr (3, [.ref wk, .ref ln, .ref fi, .ref sp, .int om, .int of])) (hf_ln : f ln = .inl (cy 1, 6, .inl gn)) (hf_wk : f wk = .inr (8, [.ref ks, .int wn, .ref ct, .ref se, .ref ow, .int wt, .int wd, .int wp])) (hf_ct : f ct = .inl (cy 1, 4, .inl gc)) (hf_se : f se = .inl (cy 1, 4, .inl gq)) (hf_mo : f mo = .inr (2, [.int v0, .int v1, .int v2, .int v3, .int v4, .int v5, .int v6, .ref la, .ref sa, .ref mi, .ref da])) (hf_la : f la = .inl (cy 1, 5, .inl gl)) (hf_mi : f mi = .inl (cy 1, 36, .inl gm)) (hf_da : f da = .inl (cy 4, 13, .inr (.inr (.inr (.inr gd))))) (hf_sl : f sl = .inr (6, [.ref nb, .ref wi, .ref si])) (hf_nb : f nb = .inl (cy 6, 4, .inr (.inr (.inr (.inr gb))))) (hf_si : f si = .inl (cy 1, 4, .inl gz)) (hf_rr : f rr = .inl (cy 2, 60, .inr (.inl gr))) (ne_ct_se : ct ≠ se) (ne_ct_si : ct ≠ si) (ne_se_si : se ≠ si) (hg_da : ∀ i : Nat, i < 13 → gd i = some (dv i)) (hd_da : z_Drv L f dv 13) (hom : 0 ≤ om.toInt ∧ om.toInt ≤ 6) (hgn : ∀ j : Nat, z_le11 (gn j)) (hgm : ∀ j : Nat, 0 ≤ (gm j).toInt ∧ (gm j).toInt ≤ 9) (hgl : ∀ j : Nat, 0 ≤ (gl j).toInt ∧ (gl j).toInt ≤ 999) (hsn : 0 ≤ sn.toInt ∧ sn.toInt ≤ 3) (hgb : gb sn.toNatClampNeg = some rr) (hgz : ∀ j : Nat, j < 4 → -1 ≤ (gz j).toInt ∧ (gz j).toInt ≤ 60) (hdy : 0 ≤ dy.toInt ∧ dy.toInt ≤ 8) (hgc : ∀ j : Nat, j < 4 → z_upto (N) (gc j)) (hgq : ∀ j : Nat, j < 4 → z_upto (N) (gq j)) (hNN : 0 ≤ N ∧ N ≤ 900000000) : Met l yX3_explains (z_ws yX3_explains cX3_explains 11 (some .boolean)) (z_R 4 0 0) (va_Pc [.ref oo, .ref mo, .int dy, .ref sl, .int sn] (z_Pre D vwCl (z_KK D cy adK adV) L f sz)) (z_Qi D vwCl (fun r u => L = u.1 ∧ (∀ b ∈ L, b ≠ wk → b ≠ ct → b ≠ se → u.2 b = f b) ∧ (∃ (t2 : Int32) (c2 q2 : Nat → Int32), (u.2 wk = .inr (8, [.ref ks, .int wn, .ref ct, .ref se, .ref ow, .int t2, .int wd, .int wp])) ∧ (u.2 ct = .inl (cy 1, 4, .inl c2)) ∧ (u.2 se = .inl (cy 1, 4, .inl q2)) ∧ (((r = 1 ∧ True) ∨ (r = 0 ∧ True)) ∧ (∀ j : Nat, j < 4 → z_upto (N + 7000) (c2 j)) ∧ (∀ j : Nat, j < 4 → z_upto (N + 7000) (q2 j))))) L sz) 0 0 (z_A L sz) := by
  refine z_met (cc := cX3_explains) (maxL := 11) (ret := (some .boolean)) (lv := [(0, .ref oo), (1, .ref mo), (2, .int dy), (3, .ref sl), (4, .int sn)]) (by decide) rfl (Nat.le_of_ble_eq_true rfl) rfl ?_
  intro p e s m below meth c ls hx hb hr hlk hml hown hnm hts hKK hA hw hl
  have hK := hKK.1.1
  have hown : s.vm.findClass RX3 = some m.cls := hown
  have hT : ∀ w ∈ lw_all, w.before ([.ref oo, .ref mo, .int dy, .ref sl, .int sn] : List Value).toArray s = true := fun w h => hts w (z_cons w h)
  have hsub : L = L := rfl
  have hfr : ∀ b ∈ L, b ≠ wk → b ≠ ct → b ≠ se → f b = f b := fun _ _ _ _ _ => rfl
  refine lv_aload_n hx hb dX3_explains_0 rfl (lv_at hl 3 rfl) ?_
  refine z_get (C := RX6) (T := TX6) (N := 3) (ci := 6) (v := .ref si) hx hb hT zin_X6 hown hK hw hm_sl hf_sl rfl 2 (by decide) (hT _ kw_325) rfl dX3_explains_1 ?_
  refine lv_iload hx hb dX3_explains_4 (lv_at hl 4 rfl) ?_
  refine z_iald hx hb hK hw 1 hm_si hf_si rfl (z_ix rfl (by omega)) dX3_explains_6 ?_
  refine lv_topi (fun w1 e_w1 => ?_)
  have hz_w1 : -1 ≤ w1.toInt ∧ w1.toInt ≤ 60 := by rw [e_w1]; exact hgz _ (z_clI rfl (by omega))
  refine lv_istore (lv' := [(5, .int w1), (0, .ref oo), (1, .ref mo), (2, .int dy), (3, .ref sl), (4, .int sn)]) hx hb dX3_explains_7 hl (by decide) rfl (fun ls hl => ?_)
  refine lv_iconst (v := 0) hx hb dX3_explains_9 (by decide) ?_
  refine lv_istore (lv' := [(6, .int 0), (5, .int w1), (0, .ref oo), (1, .ref mo), (2, .int dy), (3, .ref sl), (4, .int sn)]) hx hb dX3_explains_10 hl (by decide) rfl (fun ls hl => ?_)
  refine lv_iconst (v := 0) hx hb dX3_explains_12 (by decide) ?_
  refine lv_istore (lv' := [(7, .int 0), (6, .int 0), (5, .int w1), (0, .ref oo), (1, .ref mo), (2, .int dy), (3, .ref sl), (4, .int sn)]) hx hb dX3_explains_13 hl (by decide) rfl (fun ls hl => ?_)
  have hzk : (0 : Int32).toInt = 0 := by decide
  refine z_loop (fun n H locs ls => ∃ (K2 : Int32) (G5 : Nat → Int32) (G6 : Nat → Int32) (WT4 : Int32) (V7 : Int32) (f3 : Nat → va_E), (n = (om.toInt - K2.toInt).toNat) ∧ (0 ≤ K2.toInt) ∧ (K2.toInt ≤ om.toInt) ∧ (0 ≤ V7.toInt ∧ V7.toInt ≤ 60) ∧ (∀ j : Nat, j < 4 → z_upto (N + 1000 * K2.toInt) (G5 j)) ∧ (∀ j : Nat, j < 4 → z_upto (N + 1000 * K2.toInt) (G6 j)) ∧ (z_H D vwCl (z_A L sz) s.heap L f3 H locs) ∧ (f3 oo = .inr (3, [.ref wk, .ref ln, .ref fi, .ref sp, .int om, .int of])) ∧ (f3 ln = .inl (cy 1, 6, .inl gn)) ∧ (f3 wk = .inr (8, [.ref ks, .int wn, .ref ct, .ref se, .ref ow, .int WT4, .int wd, .int wp])) ∧ (f3 ct = .inl (cy 1, 4, .inl G5)) ∧ (f3 se = .inl (cy 1, 4, .inl G6)) ∧ (f3 mo = .inr (2, [.int v0, .int v1, .int v2, .int v3, .int v4, .int v5, .int v6, .ref la, .ref sa, .ref mi, .ref da])) ∧ (f3 la = .inl (cy 1, 5, .inl gl)) ∧ (f3 mi = .inl (cy 1, 36, .inl gm)) ∧ (f3 da = .inl (cy 4, 13, .inr (.inr (.inr (.inr gd))))) ∧ (f3 sl = .inr (6, [.ref nb, .ref wi, .ref si])) ∧ (f3 nb = .inl (cy 6, 4, .inr (.inr (.inr (.inr gb))))) ∧ (f3 si = .inl (cy 1, 4, .inl gz)) ∧ (f3 rr = .inl (cy 2, 60, .inr (.inl gr))) ∧ (∀ b ∈ L, b ≠ wk → b ≠ ct → b ≠ se → f3 b = f b) ∧ (z_Drv L f3 dv 13) ∧ (lv_has ls 11 [(7, .int K2), (6, .int V7), (5, .int w1), (0, .ref oo), (1, .ref mo), (2, .int dy), (3, .ref sl), (4, .int sn)])) _ ⟨0, gc, gq, wt, 0, f, rfl, (by first | decide | omega), (by first | decide | omega), (by decide), (z_upto_mono (by omega) hgc), (z_upto_mono (by omega) hgq), hw, hf_oo, hf_ln, hf_wk, hf_ct, hf_se, hf_mo, hf_la, hf_mi, hf_da, hf_sl, hf_nb, hf_si, hf_rr, hfr, hd_da, (lv_sub hl [0, 1, 2, 3, 4, 5, 6, 7] rfl)⟩ (fun n H locs ls hI ih_15 => ?_)
  obtain ⟨K2, G5, G6, WT4, V7, f3, hn, hk0, hk1, hi0, hi1, hi2, hw, hf_oo, hf_ln, hf_wk, hf_ct, hf_se, hf_mo, hf_la, hf_mi, hf_da, hf_sl, hf_nb, hf_si, hf_rr, hfr, hd_da, hl⟩ := hI
  refine lv_iload hx hb dX3_explains_15 (lv_at hl 0 rfl) ?_
  refine lv_aload_n hx hb dX3_explains_17 rfl (lv_at hl 3 rfl) ?_
  refine z_get (C := RX3) (T := TX3) (N := 6) (ci := 3) (v := .int om) hx hb hT zin_X3 hown hK hw hm_oo hf_oo rfl 4 (by decide) (hT _ kw_441) rfl dX3_explains_18 ?_
  refine z_icmp_ge (tgt := 133) hx hb rfl rfl dX3_explains_21 (by decide) (fun c8 => ?_) (fun c8 => ?_)
  · skip
    refine lv_iload hx hb dX3_explains_133 (lv_at hl 1 rfl) ?_
    refine lv_iload hx hb dX3_explains_135 (lv_at hl 2 rfl) ?_
    refine z_icmp_ne (tgt := 144) hx hb rfl rfl dX3_explains_137 (by decide) (fun c9 => ?_) (fun c9 => ?_)
    · skip
      refine lv_iconst (v := 0) hx hb dX3_explains_144 (by decide) ?_
      exact z_zret hx hb hr rfl hlk (by decide) (by decide) hw (⟨hsub, hfr, WT4, G5, G6, hf_wk, hf_ct, hf_se, Or.inr ⟨rfl, trivial⟩, z_upto_mono (by omega) hi1, z_upto_mono (by omega) hi2⟩) dX3_explains_145
    · skip
      refine lv_iconst (v := 1) hx hb dX3_explains_140 (by decide) ?_
      refine lv_goto (tgt := 145) hx hb dX3_explains_141 (by decide) ?_
      exact z_zret hx hb hr rfl hlk (by decide) (by decide) hw (⟨hsub, hfr, WT4, G5, G6, hf_wk, hf_ct, hf_se, Or.inl ⟨rfl, trivial⟩, z_upto_mono (by omega) hi1, z_upto_mono (by omega) hi2⟩) dX3_explains_145
  · skip
    refine lv_aload_n hx hb dX3_explains_24 rfl (lv_at hl 4 rfl) ?_
    refine z_get (C := RX2) (T := TX2) (N := 11) (ci := 2) (v := .ref da) hx hb hT zin_X2 hown hK hw hm_mo hf_mo rfl 10 (by decide) (hT _ kw_244) rfl dX3_explains_25 ?_
    refine lv_aload_n hx hb dX3_explains_28 rfl (lv_at hl 3 rfl) ?_
    refine z_get (C := RX3) (T := TX3) (N := 6) (ci := 3) (v := .ref ln) hx hb hT zin_X3 hown hK hw hm_oo hf_oo rfl 1 (by decide) (hT _ kw_436) rfl dX3_explains_29 ?_
    refine lv_iload hx hb dX3_explains_32 (lv_at hl 0 rfl) ?_
    refine z_iald hx hb hK hw 1 hm_ln hf_ln rfl (z_ix rfl (by omega)) dX3_explains_34 ?_
    refine lv_topi (fun w10 e_w10 => ?_)
    have hl_w10 : 0 ≤ w10.toInt ∧ w10.toInt ≤ 11 := by rw [e_w10]; exact hgn _
    obtain ⟨dq11, e_dq11⟩ : ∃ z, z = dv w10.toNatClampNeg := ⟨_, rfl⟩
    have hi_dq11 : w10.toNatClampNeg < 13 := z_clI rfl (by omega)
    refine z_aald (b := dq11) hx hb hK hw 4 hm_da hf_da rfl (z_ix rfl (by omega)) (by rw [e_dq11]; exact hg_da _ hi_dq11) dX3_explains_35 ?_
    obtain ⟨hm_dq11, do12, dg13, dd14, dh15, ds16, dl17, dp18, dm19, hf_dq11, hr_do12, hr_dg13, hr_dd14, hr_dh15, hr_ds16, hr_dl17, hr_dp18, hr_dm19⟩ := hd_da _ hi_dq11
    rw [← e_dq11] at hm_dq11 hf_dq11
    refine lv_astore (lv' := [(8, .ref dq11), (7, .int K2), (6, .int V7), (5, .int w1), (0, .ref oo), (1, .ref mo), (2, .int dy), (3, .ref sl), (4, .int sn)]) hx hb dX3_explains_36 hl (by decide) rfl (fun ls hl => ?_)
    refine lv_aload_n hx hb dX3_explains_38 rfl (lv_at hl 4 rfl) ?_
    refine z_get (C := RX3) (T := TX3) (N := 6) (ci := 3) (v := .ref wk) hx hb hT zin_X3 hown hK hw hm_oo hf_oo rfl 0 (by decide) (hT _ kw_435) rfl dX3_explains_39 ?_
    refine lv_aload_n hx hb dX3_explains_42 rfl (lv_at hl 5 rfl) ?_
    refine lv_iload_n hx hb dX3_explains_43 rfl (lv_at hl 6 rfl) ?_
    refine lv_bipush (v := 24) hx hb dX3_explains_44 (by decide) ?_
    refine lv_imul hx hb dX3_explains_46 ?_
    refine lv_topi (fun w20 e_w20 => ?_)
    have i_w20 : w20.toInt = (dy.toInt * 24) := z_mul e_w20 rfl (show (24 : Int32).toInt = 24 by decide) (by omega)
    refine lv_aload hx hb dX3_explains_47 (lv_at hl 0 rfl) ?_
    refine z_get (C := RX0) (T := TX0) (N := 8) (ci := 0) (v := .int dg13) hx hb hT zin_X0 hown hK hw hm_dq11 hf_dq11 rfl 1 (by decide) (hT _ kw_147) rfl dX3_explains_49 ?_
    refine lv_aload_n hx hb dX3_explains_52 rfl (lv_at hl 4 rfl) ?_
    refine z_get (C := RX3) (T := TX3) (N := 6) (ci := 3) (v := .ref ln) hx hb hT zin_X3 hown hK hw hm_oo hf_oo rfl 1 (by decide) (hT _ kw_436) rfl dX3_explains_53 ?_
    refine lv_iload hx hb dX3_explains_56 (lv_at hl 1 rfl) ?_
    refine z_iald hx hb hK hw 1 hm_ln hf_ln rfl (z_ix rfl (by omega)) dX3_explains_58 ?_
    refine lv_topi (fun w21 e_w21 => ?_)
    have hl_w21 : 0 ≤ w21.toInt ∧ w21.toInt ≤ 11 := by rw [e_w21]; exact hgn _
    refine z_calliS (cells := 0) (slots := 0) (As := [.int w20, .int dg13, .int w21]) (rest := [.ref mo, .ref wk]) ⟨hx, hb, hml, hown, hT⟩ (c_X8_keyOf l (by first | omega | decide | assumption) (by first | omega | decide | assumption) (by first | omega | decide | assumption)) (va_cwS 3 hT (z_goodS (fun _ h => h) kw_1029 kw_765 kw_92 kw_766) rfl rfl rfl (by decide +kernel) ⟨by decide, by decide⟩) z_mv hKK hw hA rfl hl.1 rfl (Nat.le_of_ble_eq_true rfl) dX3_explains_59 ⟨by decide, by decide⟩ (fun r22 u H locs hp hw => ?_)
    obtain ⟨rfl, hp⟩ := hp
    have hw : z_H D vwCl (z_A L sz) s.heap L f3 H locs := hw
    have hky := hp
    refine z_calliV (cells := 0) (slots := 0) (b := wk) (As := [.ref mo, .int r22]) (rest := []) (ci := 8) (q0 := (RX8, TX8, 8)) ⟨hx, hb, hml, hown, hT⟩ (c_X8_passN l hm_wk hm_ct hm_se hm_mo hm_la hm_mi hm_da hf_wk hf_ct hf_se hf_mo hf_la hf_mi hf_da ne_ct_se hg_da hd_da hky hgm hgl hi1 hi2 (by first | omega | decide | assumption)) (cwV 2 hT (z_goodV (fun _ h => h) kw_1030 kw_780 kw_781 kw_92 kw_782) rfl rfl rfl (by decide +kernel) ⟨by decide, by decide⟩) z_mv hKK hK hw hA hm_wk hf_wk rfl rfl rfl hl.1 rfl (Nat.le_of_ble_eq_true rfl) dX3_explains_62 ⟨by decide, by decide⟩ (fun r23 u H locs hp hw => ?_)
    obtain ⟨L24, f25⟩ := u
    obtain ⟨hsb, hfm, t2_26, c2_27, q2_28, ha_0, ha_1, ha_2, hp⟩ := hp
    have hsb : L = L24 := hsb
    subst hsb
    have hsb : ∀ b ∈ L, b ∈ L := fun _ h => h
    have hw : z_H D vwCl (z_A L sz) s.heap L f25 H locs := hw
    have hfr : ∀ b ∈ L, b ≠ wk → b ≠ ct → b ≠ se → f25 b = f b := fun b hb h0 h1 h2 => (hfm b hb h0 h1 h2).trans (hfr b hb h0 h1 h2)
    have hd_da : z_Drv L f25 dv 13 := z_Drv_fr hd_da hsb (fun b hb ht => hfm b hb (z_t0 ht hf_wk (m := 8) rfl (by decide)) (z_t0 ht hf_ct (m := 132) rfl (by decide)) (z_t0 ht hf_se (m := 132) rfl (by decide)))
    have hf_oo : f25 oo = .inr (3, [.ref wk, .ref ln, .ref fi, .ref sp, .int om, .int of]) := (hfm oo hm_oo (z_tne hf_oo hf_wk (m := 3) (n := 8) rfl rfl (by decide)) (z_tne hf_oo hf_ct (m := 3) (n := 132) rfl rfl (by decide)) (z_tne hf_oo hf_se (m := 3) (n := 132) rfl rfl (by decide))).trans hf_oo
    have hf_ln : f25 ln = .inl (cy 1, 6, .inl gn) := (hfm ln hm_ln (z_tne hf_ln hf_wk (m := 148) (n := 8) rfl rfl (by decide)) (z_tne hf_ln hf_ct (m := 148) (n := 132) rfl rfl (by decide)) (z_tne hf_ln hf_se (m := 148) (n := 132) rfl rfl (by decide))).trans hf_ln
    have hf_mo : f25 mo = .inr (2, [.int v0, .int v1, .int v2, .int v3, .int v4, .int v5, .int v6, .ref la, .ref sa, .ref mi, .ref da]) := (hfm mo hm_mo (z_tne hf_mo hf_wk (m := 2) (n := 8) rfl rfl (by decide)) (z_tne hf_mo hf_ct (m := 2) (n := 132) rfl rfl (by decide)) (z_tne hf_mo hf_se (m := 2) (n := 132) rfl rfl (by decide))).trans hf_mo
    have hf_la : f25 la = .inl (cy 1, 5, .inl gl) := (hfm la hm_la (z_tne hf_la hf_wk (m := 140) (n := 8) rfl rfl (by decide)) (z_tne hf_la hf_ct (m := 140) (n := 132) rfl rfl (by decide)) (z_tne hf_la hf_se (m := 140) (n := 132) rfl rfl (by decide))).trans hf_la
    have hf_mi : f25 mi = .inl (cy 1, 36, .inl gm) := (hfm mi hm_mi (z_tne hf_mi hf_wk (m := 388) (n := 8) rfl rfl (by decide)) (z_tne hf_mi hf_ct (m := 388) (n := 132) rfl rfl (by decide)) (z_tne hf_mi hf_se (m := 388) (n := 132) rfl rfl (by decide))).trans hf_mi
    have hf_da : f25 da = .inl (cy 4, 13, .inr (.inr (.inr (.inr gd)))) := (hfm da hm_da (z_tne hf_da hf_wk (m := 206) (n := 8) rfl rfl (by decide)) (z_tne hf_da hf_ct (m := 206) (n := 132) rfl rfl (by decide)) (z_tne hf_da hf_se (m := 206) (n := 132) rfl rfl (by decide))).trans hf_da
    have hf_sl : f25 sl = .inr (6, [.ref nb, .ref wi, .ref si]) := (hfm sl hm_sl (z_tne hf_sl hf_wk (m := 6) (n := 8) rfl rfl (by decide)) (z_tne hf_sl hf_ct (m := 6) (n := 132) rfl rfl (by decide)) (z_tne hf_sl hf_se (m := 6) (n := 132) rfl rfl (by decide))).trans hf_sl
    have hf_nb : f25 nb = .inl (cy 6, 4, .inr (.inr (.inr (.inr gb)))) := (hfm nb hm_nb (z_tne hf_nb hf_wk (m := 134) (n := 8) rfl rfl (by decide)) (z_tne hf_nb hf_ct (m := 134) (n := 132) rfl rfl (by decide)) (z_tne hf_nb hf_se (m := 134) (n := 132) rfl rfl (by decide))).trans hf_nb
    have hf_si : f25 si = .inl (cy 1, 4, .inl gz) := (hfm si hm_si (z_tne hf_si hf_wk (m := 132) (n := 8) rfl rfl (by decide)) (Ne.symm ne_ct_si) (Ne.symm ne_se_si)).trans hf_si
    have hf_rr : f25 rr = .inl (cy 2, 60, .inr (.inl gr)) := (hfm rr hm_rr (z_tne hf_rr hf_wk (m := 581) (n := 8) rfl rfl (by decide)) (z_tne hf_rr hf_ct (m := 581) (n := 132) rfl rfl (by decide)) (z_tne hf_rr hf_se (m := 581) (n := 132) rfl rfl (by decide))).trans hf_rr
    have hf_dq11 : f25 dq11 = .inr (0, [.int do12, .int dg13, .int dd14, .int dh15, .int ds16, .int dl17, .int dp18, .int dm19]) := (hfm dq11 hm_dq11 (z_tne hf_dq11 hf_wk (m := 0) (n := 8) rfl rfl (by decide)) (z_tne hf_dq11 hf_ct (m := 0) (n := 132) rfl rfl (by decide)) (z_tne hf_dq11 hf_se (m := 0) (n := 132) rfl rfl (by decide))).trans hf_dq11
    have hf_wk : f25 wk = .inr (8, [.ref ks, .int wn, .ref ct, .ref se, .ref ow, .int t2_26, .int wd, .int wp]) := ha_0
    have hf_ct : f25 ct = .inl (cy 1, 4, .inl c2_27) := ha_1
    have hf_se : f25 se = .inl (cy 1, 4, .inl q2_28) := ha_2
    have hdu := hp.1
    have hcP := hp.2.1
    have hqP := hp.2.2
    refine lv_istore (lv' := [(9, .int r23), (8, .ref dq11), (7, .int K2), (6, .int V7), (5, .int w1), (0, .ref oo), (1, .ref mo), (2, .int dy), (3, .ref sl), (4, .int sn)]) hx hb dX3_explains_65 hl (by decide) rfl (fun ls hl => ?_)
    refine lv_iload hx hb dX3_explains_67 (lv_at hl 0 rfl) ?_
    refine lv_iload hx hb dX3_explains_69 (lv_at hl 4 rfl) ?_
    refine lv_iload hx hb dX3_explains_71 (lv_at hl 3 rfl) ?_
    refine lv_isub hx hb dX3_explains_73 ?_
    refine lv_topi (fun w29 e_w29 => ?_)
    have i_w29 : w29.toInt = (w1.toInt - V7.toInt) := z_subI e_w29 rfl rfl (by omega)
    refine z_icmp_le (tgt := 79) hx hb rfl i_w29 dX3_explains_74 (by decide) (fun c30 => ?_) (fun c30 => ?_)
    · skip
      refine lv_iconst (v := 0) hx hb dX3_explains_79 (by decide) ?_
      refine lv_istore (lv' := [(10, .int 0), (9, .int r23), (8, .ref dq11), (7, .int K2), (6, .int V7), (5, .int w1), (0, .ref oo), (1, .ref mo), (2, .int dy), (3, .ref sl), (4, .int sn)]) hx hb dX3_explains_80 hl (by decide) rfl (fun ls hl => ?_)
      have hzk : (0 : Int32).toInt = 0 := by decide
      refine z_loop (fun n H locs ls => ∃ (K31 : Int32) (f32 : Nat → va_E), (n = (r23.toInt - K31.toInt).toNat) ∧ (0 ≤ K31.toInt) ∧ (K31.toInt ≤ r23.toInt) ∧ (z_H D vwCl (z_A L sz) s.heap L f32 H locs) ∧ (f32 oo = .inr (3, [.ref wk, .ref ln, .ref fi, .ref sp, .int om, .int of])) ∧ (f32 ln = .inl (cy 1, 6, .inl gn)) ∧ (f32 wk = .inr (8, [.ref ks, .int wn, .ref ct, .ref se, .ref ow, .int t2_26, .int wd, .int wp])) ∧ (f32 ct = .inl (cy 1, 4, .inl c2_27)) ∧ (f32 se = .inl (cy 1, 4, .inl q2_28)) ∧ (f32 mo = .inr (2, [.int v0, .int v1, .int v2, .int v3, .int v4, .int v5, .int v6, .ref la, .ref sa, .ref mi, .ref da])) ∧ (f32 la = .inl (cy 1, 5, .inl gl)) ∧ (f32 mi = .inl (cy 1, 36, .inl gm)) ∧ (f32 da = .inl (cy 4, 13, .inr (.inr (.inr (.inr gd))))) ∧ (f32 sl = .inr (6, [.ref nb, .ref wi, .ref si])) ∧ (f32 nb = .inl (cy 6, 4, .inr (.inr (.inr (.inr gb))))) ∧ (f32 si = .inl (cy 1, 4, .inl gz)) ∧ (f32 rr = .inl (cy 2, 60, .inr (.inl gr))) ∧ (∀ b ∈ L, b ≠ wk → b ≠ ct → b ≠ se → f32 b = f b) ∧ (z_Drv L f32 dv 13) ∧ (lv_has ls 11 [(10, .int K31), (9, .int r23), (8, .ref dq11), (7, .int K2), (6, .int V7), (5, .int w1), (0, .ref oo), (1, .ref mo), (2, .int dy), (3, .ref sl), (4, .int sn)])) _ ⟨0, f25, rfl, (by first | decide | omega), (by first | decide | omega), hw, hf_oo, hf_ln, hf_wk, hf_ct, hf_se, hf_mo, hf_la, hf_mi, hf_da, hf_sl, hf_nb, hf_si, hf_rr, hfr, hd_da, (lv_sub hl [0, 1, 2, 3, 4, 5, 6, 7, 8, 9, 10] rfl)⟩ (fun n H locs ls hI ih_82 => ?_)
      obtain ⟨K31, f32, hn, hk0, hk1, hw, hf_oo, hf_ln, hf_wk, hf_ct, hf_se, hf_mo, hf_la, hf_mi, hf_da, hf_sl, hf_nb, hf_si, hf_rr, hfr, hd_da, hl⟩ := hI
      refine lv_iload hx hb dX3_explains_82 (lv_at hl 0 rfl) ?_
      refine lv_iload hx hb dX3_explains_84 (lv_at hl 1 rfl) ?_
      refine z_icmp_ge (tgt := 120) hx hb rfl rfl dX3_explains_86 (by decide) (fun c33 => ?_) (fun c33 => ?_)
      · skip
        refine lv_iload hx hb dX3_explains_120 (lv_at hl 4 rfl) ?_
        refine lv_iload hx hb dX3_explains_122 (lv_at hl 1 rfl) ?_
        refine lv_iadd hx hb dX3_explains_124 ?_
        refine lv_topi (fun w34 e_w34 => ?_)
        have i_w34 : w34.toInt = (V7.toInt + r23.toInt) := z_add e_w34 rfl rfl (by omega)
        refine lv_istore (lv' := [(6, .int w34), (10, .int K31), (9, .int r23), (8, .ref dq11), (7, .int K2), (5, .int w1), (0, .ref oo), (1, .ref mo), (2, .int dy), (3, .ref sl), (4, .int sn)]) hx hb dX3_explains_125 hl (by decide) rfl (fun ls hl => ?_)
        obtain ⟨k35, e_k35⟩ : ∃ z : Int32, z = K2 + 1 := ⟨_, rfl⟩
        refine lv_iinc (v := k35) (lv' := [(7, .int k35), (6, .int w34), (10, .int K31), (9, .int r23), (8, .ref dq11), (5, .int w1), (0, .ref oo), (1, .ref mo), (2, .int dy), (3, .ref sl), (4, .int sn)]) hx hb dX3_explains_127 hl (k := 4) rfl (by rw [e_k35]; rfl) (by decide) rfl (fun ls hl => ?_)
        have i_k35 : k35.toInt = (K2.toInt + 1) := z_add e_k35 rfl (by decide) (by omega)
        refine lv_goto (tgt := 15) hx hb dX3_explains_130 (by decide) ?_
        exact ih_15 _ (by omega) _ _ _ ⟨k35, c2_27, q2_28, t2_26, w34, f32, rfl, (by first | decide | omega), (by first | decide | omega), (by omega), (z_upto_mono (by omega) hcP), (z_upto_mono (by omega) hqP), hw, hf_oo, hf_ln, hf_wk, hf_ct, hf_se, hf_mo, hf_la, hf_mi, hf_da, hf_sl, hf_nb, hf_si, hf_rr, hfr, hd_da, (lv_sub hl [0, 1, 5, 6, 7, 8, 9, 10] rfl)⟩
      · skip
        refine lv_aload_n hx hb dX3_explains_89 rfl (lv_at hl 9 rfl) ?_
        refine z_get (C := RX6) (T := TX6) (N := 3) (ci := 6) (v := .ref nb) hx hb hT zin_X6 hown hK hw hm_sl hf_sl rfl 0 (by decide) (hT _ kw_320) rfl dX3_explains_90 ?_
        refine lv_iload hx hb dX3_explains_93 (lv_at hl 10 rfl) ?_
        refine z_aaldA (b := rr) hx hb hK hw 6 hm_nb hf_nb rfl (z_ix rfl (by omega)) hgb dX3_explains_95 ?_
        refine lv_iload hx hb dX3_explains_96 (lv_at hl 4 rfl) ?_
        refine lv_iload hx hb dX3_explains_98 (lv_at hl 0 rfl) ?_
        refine lv_iadd hx hb dX3_explains_100 ?_
        refine lv_topi (fun w36 e_w36 => ?_)
        have i_w36 : w36.toInt = (V7.toInt + K31.toInt) := z_add e_w36 rfl rfl (by omega)
        refine z_lald hx hb hK hw 2 hm_rr hf_rr rfl (z_ix i_w36 (by omega)) dX3_explains_101 ?_
        refine lv_topl (fun w37 e_w37 => ?_)
        refine lv_aload hx hb dX3_explains_102 (lv_at hl 2 rfl) ?_
        obtain ⟨hm_dq11, do38, dg39, dd40, dh41, ds42, dl43, dp44, dm45, hf_dq11, hr_do38, hr_dg39, hr_dd40, hr_dh41, hr_ds42, hr_dl43, hr_dp44, hr_dm45⟩ := hd_da _ hi_dq11
        rw [← e_dq11] at hm_dq11 hf_dq11
        refine z_get (C := RX0) (T := TX0) (N := 8) (ci := 0) (v := .int dp44) hx hb hT zin_X0 hown hK hw hm_dq11 hf_dq11 rfl 6 (by decide) (hT _ kw_175) rfl dX3_explains_104 ?_
        refine lv_i2l hx hb dX3_explains_107 rfl ?_
        refine lv_topl (fun w46 e_w46 => ?_)
        have i_w46 : w46.toInt = dp44.toInt := z_i2l e_w46 rfl
        refine W.lcmp hx hb dX3_explains_108 ?_
        refine lv_topi (fun w47 e_w47 => ?_)
        have i_w47 := z_lc e_w47 rfl i_w46
        refine z_if_eq (tgt := 114) hx hb rfl dX3_explains_109 (by decide) (fun c48 => ?_) (fun c48 => ?_)
        · skip
          obtain ⟨k49, e_k49⟩ : ∃ z : Int32, z = K31 + 1 := ⟨_, rfl⟩
          refine lv_iinc (v := k49) (lv' := [(10, .int k49), (9, .int r23), (8, .ref dq11), (7, .int K2), (6, .int V7), (5, .int w1), (0, .ref oo), (1, .ref mo), (2, .int dy), (3, .ref sl), (4, .int sn)]) hx hb dX3_explains_114 hl (k := 0) rfl (by rw [e_k49]; rfl) (by decide) rfl (fun ls hl => ?_)
          have i_k49 : k49.toInt = (K31.toInt + 1) := z_add e_k49 rfl (by decide) (by omega)
          refine lv_goto (tgt := 82) hx hb dX3_explains_117 (by decide) ?_
          exact ih_82 _ (by omega) _ _ _ ⟨k49, f32, rfl, (by first | decide | omega), (by first | decide | omega), hw, hf_oo, hf_ln, hf_wk, hf_ct, hf_se, hf_mo, hf_la, hf_mi, hf_da, hf_sl, hf_nb, hf_si, hf_rr, hfr, hd_da, (lv_sub hl [0, 1, 2, 3, 4, 5, 6, 7, 8, 9, 10] rfl)⟩
        · skip
          refine lv_iconst (v := 0) hx hb dX3_explains_112 (by decide) ?_
          exact z_zret hx hb hr rfl hlk (by decide) (by decide) hw (⟨hsub, hfr, t2_26, c2_27, q2_28, hf_wk, hf_ct, hf_se, Or.inr ⟨rfl, trivial⟩, z_upto_mono (by omega) hcP, z_upto_mono (by omega) hqP⟩) dX3_explains_113
    · skip
      refine lv_iconst (v := 0) hx hb dX3_explains_77 (by decide) ?_
      exact z_zret hx hb hr rfl hlk (by decide) (by decide) hw (⟨hsub, hfr, t2_26, c2_27, q2_28, hf_wk, hf_ct, hf_se, Or.inr ⟨rfl, trivial⟩, z_upto_mono (by omega) hcP, z_upto_mono (by omega) hqP⟩) dX3_explains_78

set_option maxHeartbeats 2000000 in
set_option maxRecDepth 100000 in
theorem c_X3_search (l : Launch) {D : va_G} {cy : Nat → ClassId} {L : List Nat} {f : Nat → va_E} {sz : Nat} {adK adV : Nat → Nat} {wk ks ct se ow : Nat} {wn wt wd wp : Int32} {gk gc gq go : Nat → Int32} {oo ln fi sp : Nat} {om of : Int32} {gn gf gp : Nat → Int32} {mo la sa mi da : Nat} {v0 v1 v2 v3 v4 v5 v6 : Int32} {gl gs gm : Nat → Int32} {gd : Nat → Option Nat} {dv : Nat → Nat} {sl nb si rr : Nat} {gz : Nat → Int32} {gb : Nat → Option Nat} {gr : Nat → Int64} {wi : Nat} {ga dy sn : Int32} (hm_oo : oo ∈ L) (hm_ln : ln ∈ L) (hm_fi : fi ∈ L) (hm_sp : sp ∈ L) (hm_wk : wk ∈ L) (hm_ks : ks ∈ L) (hm_ct : ct ∈ L) (hm_se : se ∈ L) (hm_ow : ow ∈ L) (hm_mo : mo ∈ L) (hm_la : la ∈ L) (hm_sa : sa ∈ L) (hm_mi : mi ∈ L) (hm_da : da ∈ L) (hm_sl : sl ∈ L) (hm_nb : nb ∈ L) (hm_si : si ∈ L) (hm_rr : rr ∈ L) (hf_oo : f oo = .inr (3, [.ref wk, .ref ln, .ref fi, .ref sp, .int om, .int of])) (hf_ln : f ln = .inl (cy 1, 6, .inl gn)) (hf_fi : f fi = .inl (cy 1, 6, .inl gf)) (hf_sp : f sp = .inl (cy 1, 12, .inl gp)) (hf_wk : f wk = .inr (8, [.ref ks, .int wn, .ref ct, .ref se, .ref ow, .int wt, .int wd, .int wp])) (hf_ks : f ks = .inl (cy 1, 13, .inl gk)) (hf_ct : f ct = .inl (cy 1, 4, .inl gc)) (hf_se : f se = .inl (cy 1, 4, .inl gq)) (hf_ow : f ow = .inl (cy 1, 5, .inl go)) (hf_mo : f mo = .inr (2, [.int v0, .int v1, .int v2, .int v3, .int v4, .int v5, .int v6, .ref la, .ref sa, .ref mi, .ref da])) (hf_la : f la = .inl (cy 1, 5, .inl gl)) (hf_sa : f sa = .inl (cy 1, 4, .inl gs)) (hf_mi : f mi = .inl (cy 1, 36, .inl gm)) (hf_da : f da = .inl (cy 4, 13, .inr (.inr (.inr (.inr gd))))) (hf_sl : f sl = .inr (6, [.ref nb, .ref wi, .ref si])) (hf_nb : f nb = .inl (cy 6, 4, .inr (.inr (.inr (.inr gb))))) (hf_si : f si = .inl (cy 1, 4, .inl gz)) (hf_rr : f rr = .inl (cy 2, 60, .inr (.inl gr))) (ne_ct_se : ct ≠ se) (ne_ct_sa : ct ≠ sa) (ne_se_sa : se ≠ sa) (ne_ow_la : ow ≠ la) (ne_ct_si : ct ≠ si) (ne_se_si : se ≠ si) (ne_ln_fi : ln ≠ fi) (hg_da : ∀ i : Nat, i < 13 → gd i = some (dv i)) (hd_da : z_Drv L f dv 13) (hv2 : 0 ≤ v2.toInt ∧ v2.toInt ≤ 9) (hv5 : 0 ≤ v5.toInt ∧ v5.toInt ≤ 13) (hgk : ∀ j : Nat, z_key (gk j)) (hgs : ∀ j : Nat, 0 ≤ (gs j).toInt ∧ (gs j).toInt ≤ 999) (hga : 0 ≤ ga.toInt ∧ ga.toInt ≤ 3) (hom : 0 ≤ om.toInt ∧ om.toInt ≤ 6) (hgn : ∀ j : Nat, z_le11 (gn j)) (hgm : ∀ j : Nat, 0 ≤ (gm j).toInt ∧ (gm j).toInt ≤ 9) (hgl : ∀ j : Nat, 0 ≤ (gl j).toInt ∧ (gl j).toInt ≤ 999) (hsn : 0 ≤ sn.toInt ∧ sn.toInt ≤ 3) (hgb : gb sn.toNatClampNeg = some rr) (hgz : ∀ j : Nat, j < 4 → -1 ≤ (gz j).toInt ∧ (gz j).toInt ≤ 60) (hdy : 0 ≤ dy.toInt ∧ dy.toInt ≤ 8) : Met l yX3_search (z_ws yX3_search cX3_search 10 none) (z_R 5 0 0) (va_Pc [.ref oo, .ref mo, .int ga, .int dy, .ref sl, .int sn] (z_Pre D vwCl (z_KK D cy adK adV) L f sz)) (z_Qv D vwCl (fun u => L = u.1 ∧ (∀ b ∈ L, b ≠ wk → b ≠ ks → b ≠ ct → b ≠ se → b ≠ ow → b ≠ oo → b ≠ ln → b ≠ fi → b ≠ sp → u.2 b = f b) ∧ (∃ (w2 t2 f2 : Int32) (k2 c2 q2 o2 n2 fi2 sp2 : Nat → Int32), (u.2 wk = .inr (8, [.ref ks, .int w2, .ref ct, .ref se, .ref ow, .int t2, .int wd, .int wp])) ∧ (u.2 ks = .inl (cy 1, 13, .inl k2)) ∧ (u.2 ct = .inl (cy 1, 4, .inl c2)) ∧ (u.2 se = .inl (cy 1, 4, .inl q2)) ∧ (u.2 ow = .inl (cy 1, 5, .inl o2)) ∧ (u.2 oo = .inr (3, [.ref wk, .ref ln, .ref fi, .ref sp, .int om, .int f2])) ∧ (u.2 ln = .inl (cy 1, 6, .inl n2)) ∧ (u.2 fi = .inl (cy 1, 6, .inl fi2)) ∧ (u.2 sp = .inl (cy 1, 12, .inl sp2)) ∧ ((0 ≤ w2.toInt ∧ w2.toInt ≤ 13) ∧ (∀ j : Nat, z_key (k2 j)) ∧ ∀ j : Nat, z_le11 (n2 j)))) L sz) 0 0 (z_A L sz) := by
  refine z_met (cc := cX3_search) (maxL := 10) (ret := none) (lv := [(0, .ref oo), (1, .ref mo), (2, .int ga), (3, .int dy), (4, .ref sl), (5, .int sn)]) (by decide) rfl (Nat.le_of_ble_eq_true rfl) rfl ?_
  intro p e s m below meth c ls hx hb hr hlk hml hown hnm hts hKK hA hw hl
  have hK := hKK.1.1
  have hown : s.vm.findClass RX3 = some m.cls := hown
  have hT : ∀ w ∈ lw_all, w.before ([.ref oo, .ref mo, .int ga, .int dy, .ref sl, .int sn] : List Value).toArray s = true := fun w h => hts w (z_cons w h)
  have hsub : L = L := rfl
  have hfr : ∀ b ∈ L, b ≠ wk → b ≠ ks → b ≠ ct → b ≠ se → b ≠ ow → b ≠ oo → b ≠ ln → b ≠ fi → b ≠ sp → f b = f b := fun _ _ _ _ _ _ _ _ _ _ _ => rfl
  refine lv_aload_n hx hb dX3_search_0 rfl (lv_at hl 0 rfl) ?_
  refine lv_iconst (v := 0) hx hb dX3_search_1 (by decide) ?_
  refine z_put (C := RX3) (T := TX3) (N := 6) (ci := 3) (v := .int 0) (fs' := [.ref wk, .ref ln, .ref fi, .ref sp, .int om, .int 0]) hx hb hT zin_X3 tyX3_ok nmX3 hown hK hw hm_oo hf_oo rfl 5 (by decide) (hT _ kw_443) rfl rfl rfl (Nat.le_of_ble_eq_true rfl) rfl dX3_search_2 (fun H locs hw => ?_)
  obtain ⟨f1, e_f1⟩ : ∃ z, z = va_up f oo (.inr (3, [.ref wk, .ref ln, .ref fi, .ref sp, .int om, .int 0])) := ⟨_, rfl⟩
  rw [← e_f1] at hw
  have hf_ln : f1 ln = .inl (cy 1, 6, .inl gn) := (congrFun e_f1 ln).trans (z_up_ne (z_tne hf_ln hf_oo (m := 148) (n := 3) rfl rfl (by decide)) hf_ln)
  have hf_fi : f1 fi = .inl (cy 1, 6, .inl gf) := (congrFun e_f1 fi).trans (z_up_ne (z_tne hf_fi hf_oo (m := 148) (n := 3) rfl rfl (by decide)) hf_fi)
  have hf_sp : f1 sp = .inl (cy 1, 12, .inl gp) := (congrFun e_f1 sp).trans (z_up_ne (z_tne hf_sp hf_oo (m := 196) (n := 3) rfl rfl (by decide)) hf_sp)
  have hf_wk : f1 wk = .inr (8, [.ref ks, .int wn, .ref ct, .ref se, .ref ow, .int wt, .int wd, .int wp]) := (congrFun e_f1 wk).trans (z_up_ne (z_tne hf_wk hf_oo (m := 8) (n := 3) rfl rfl (by decide)) hf_wk)
  have hf_ks : f1 ks = .inl (cy 1, 13, .inl gk) := (congrFun e_f1 ks).trans (z_up_ne (z_tne hf_ks hf_oo (m := 204) (n := 3) rfl rfl (by decide)) hf_ks)
  have hf_ct : f1 ct = .inl (cy 1, 4, .inl gc) := (congrFun e_f1 ct).trans (z_up_ne (z_tne hf_ct hf_oo (m := 132) (n := 3) rfl rfl (by decide)) hf_ct)
  have hf_se : f1 se = .inl (cy 1, 4, .inl gq) := (congrFun e_f1 se).trans (z_up_ne (z_tne hf_se hf_oo (m := 132) (n := 3) rfl rfl (by decide)) hf_se)
  have hf_ow : f1 ow = .inl (cy 1, 5, .inl go) := (congrFun e_f1 ow).trans (z_up_ne (z_tne hf_ow hf_oo (m := 140) (n := 3) rfl rfl (by decide)) hf_ow)
  have hf_mo : f1 mo = .inr (2, [.int v0, .int v1, .int v2, .int v3, .int v4, .int v5, .int v6, .ref la, .ref sa, .ref mi, .ref da]) := (congrFun e_f1 mo).trans (z_up_ne (z_tne hf_mo hf_oo (m := 2) (n := 3) rfl rfl (by decide)) hf_mo)
  have hf_la : f1 la = .inl (cy 1, 5, .inl gl) := (congrFun e_f1 la).trans (z_up_ne (z_tne hf_la hf_oo (m := 140) (n := 3) rfl rfl (by decide)) hf_la)
  have hf_sa : f1 sa = .inl (cy 1, 4, .inl gs) := (congrFun e_f1 sa).trans (z_up_ne (z_tne hf_sa hf_oo (m := 132) (n := 3) rfl rfl (by decide)) hf_sa)
  have hf_mi : f1 mi = .inl (cy 1, 36, .inl gm) := (congrFun e_f1 mi).trans (z_up_ne (z_tne hf_mi hf_oo (m := 388) (n := 3) rfl rfl (by decide)) hf_mi)
  have hf_da : f1 da = .inl (cy 4, 13, .inr (.inr (.inr (.inr gd)))) := (congrFun e_f1 da).trans (z_up_ne (z_tne hf_da hf_oo (m := 206) (n := 3) rfl rfl (by decide)) hf_da)
  have hf_sl : f1 sl = .inr (6, [.ref nb, .ref wi, .ref si]) := (congrFun e_f1 sl).trans (z_up_ne (z_tne hf_sl hf_oo (m := 6) (n := 3) rfl rfl (by decide)) hf_sl)
  have hf_nb : f1 nb = .inl (cy 6, 4, .inr (.inr (.inr (.inr gb)))) := (congrFun e_f1 nb).trans (z_up_ne (z_tne hf_nb hf_oo (m := 134) (n := 3) rfl rfl (by decide)) hf_nb)
  have hf_si : f1 si = .inl (cy 1, 4, .inl gz) := (congrFun e_f1 si).trans (z_up_ne (z_tne hf_si hf_oo (m := 132) (n := 3) rfl rfl (by decide)) hf_si)
  have hf_rr : f1 rr = .inl (cy 2, 60, .inr (.inl gr)) := (congrFun e_f1 rr).trans (z_up_ne (z_tne hf_rr hf_oo (m := 581) (n := 3) rfl rfl (by decide)) hf_rr)
  have hd_da : z_Drv L f1 dv 13 := z_Drv_up hd_da e_f1 hf_oo (m := 3) rfl (by decide)
  have hf_oo : f1 oo = .inr (3, [.ref wk, .ref ln, .ref fi, .ref sp, .int om, .int 0]) := (congrFun e_f1 oo).trans z_up_self
  have hfr : ∀ b ∈ L, b ≠ wk → b ≠ ks → b ≠ ct → b ≠ se → b ≠ ow → b ≠ oo → b ≠ ln → b ≠ fi → b ≠ sp → f1 b = f b := fun b hb h0 h1 h2 h3 h4 h5 h6 h7 h8 => (congrFun e_f1 b).trans (z_up_ne h5 (hfr b hb h0 h1 h2 h3 h4 h5 h6 h7 h8))
  refine lv_aload_n hx hb dX3_search_5 rfl (lv_at hl 0 rfl) ?_
  refine z_get (C := RX3) (T := TX3) (N := 6) (ci := 3) (v := .ref sp) hx hb hT zin_X3 hown hK hw hm_oo hf_oo rfl 3 (by decide) (hT _ kw_439) rfl dX3_search_6 ?_
  refine lv_iconst (v := (-1)) hx hb dX3_search_9 (by decide) ?_
  have hz2 := (show ((-1) : Int32).toInt = (-1) by decide)
  refine z_callvS (cells := 0) (slots := 0) (As := [.ref sp, .int (-1)]) (rest := []) ⟨hx, hb, hml, hown, hT⟩ (c_J7_fill_53178 l hm_sp hf_sp (by decide)) (va_cwS 2 hT (z_goodS (fun _ h => h) kw_1019 kw_317 kw_91 kw_318) rfl rfl rfl (by decide +kernel) ⟨by decide, by decide⟩) z_mv hKK hw hA rfl hl.1 rfl (Nat.le_of_ble_eq_true rfl) dX3_search_10 ⟨by decide, by decide⟩ (fun u H locs hp hw => ?_)
  obtain ⟨L3, f4⟩ := u
  obtain ⟨hsb, hfm, g2_5, ha_0, hp⟩ := hp
  have hsb : L = L3 := hsb
  subst hsb
  have hsb : ∀ b ∈ L, b ∈ L := fun _ h => h
  have hw : z_H D vwCl (z_A L sz) s.heap L f4 H locs := hw
  have hfr : ∀ b ∈ L, b ≠ wk → b ≠ ks → b ≠ ct → b ≠ se → b ≠ ow → b ≠ oo → b ≠ ln → b ≠ fi → b ≠ sp → f4 b = f b := fun b hb h0 h1 h2 h3 h4 h5 h6 h7 h8 => (hfm b hb h8).trans (hfr b hb h0 h1 h2 h3 h4 h5 h6 h7 h8)
  have hd_da : z_Drv L f4 dv 13 := z_Drv_fr hd_da hsb (fun b hb ht => hfm b hb (z_t0 ht hf_sp (m := 196) rfl (by decide)))
  have hf_oo : f4 oo = .inr (3, [.ref wk, .ref ln, .ref fi, .ref sp, .int om, .int 0]) := (hfm oo hm_oo (z_tne hf_oo hf_sp (m := 3) (n := 196) rfl rfl (by decide))).trans hf_oo
  have hf_ln : f4 ln = .inl (cy 1, 6, .inl gn) := (hfm ln hm_ln (z_tne hf_ln hf_sp (m := 148) (n := 196) rfl rfl (by decide))).trans hf_ln
  have hf_fi : f4 fi = .inl (cy 1, 6, .inl gf) := (hfm fi hm_fi (z_tne hf_fi hf_sp (m := 148) (n := 196) rfl rfl (by decide))).trans hf_fi
  have hf_wk : f4 wk = .inr (8, [.ref ks, .int wn, .ref ct, .ref se, .ref ow, .int wt, .int wd, .int wp]) := (hfm wk hm_wk (z_tne hf_wk hf_sp (m := 8) (n := 196) rfl rfl (by decide))).trans hf_wk
  have hf_ks : f4 ks = .inl (cy 1, 13, .inl gk) := (hfm ks hm_ks (z_tne hf_ks hf_sp (m := 204) (n := 196) rfl rfl (by decide))).trans hf_ks
  have hf_ct : f4 ct = .inl (cy 1, 4, .inl gc) := (hfm ct hm_ct (z_tne hf_ct hf_sp (m := 132) (n := 196) rfl rfl (by decide))).trans hf_ct
  have hf_se : f4 se = .inl (cy 1, 4, .inl gq) := (hfm se hm_se (z_tne hf_se hf_sp (m := 132) (n := 196) rfl rfl (by decide))).trans hf_se
  have hf_ow : f4 ow = .inl (cy 1, 5, .inl go) := (hfm ow hm_ow (z_tne hf_ow hf_sp (m := 140) (n := 196) rfl rfl (by decide))).trans hf_ow
  have hf_mo : f4 mo = .inr (2, [.int v0, .int v1, .int v2, .int v3, .int v4, .int v5, .int v6, .ref la, .ref sa, .ref mi, .ref da]) := (hfm mo hm_mo (z_tne hf_mo hf_sp (m := 2) (n := 196) rfl rfl (by decide))).trans hf_mo
  have hf_la : f4 la = .inl (cy 1, 5, .inl gl) := (hfm la hm_la (z_tne hf_la hf_sp (m := 140) (n := 196) rfl rfl (by decide))).trans hf_la
  have hf_sa : f4 sa = .inl (cy 1, 4, .inl gs) := (hfm sa hm_sa (z_tne hf_sa hf_sp (m := 132) (n := 196) rfl rfl (by decide))).trans hf_sa
  have hf_mi : f4 mi = .inl (cy 1, 36, .inl gm) := (hfm mi hm_mi (z_tne hf_mi hf_sp (m := 388) (n := 196) rfl rfl (by decide))).trans hf_mi
  have hf_da : f4 da = .inl (cy 4, 13, .inr (.inr (.inr (.inr gd)))) := (hfm da hm_da (z_tne hf_da hf_sp (m := 206) (n := 196) rfl rfl (by decide))).trans hf_da
  have hf_sl : f4 sl = .inr (6, [.ref nb, .ref wi, .ref si]) := (hfm sl hm_sl (z_tne hf_sl hf_sp (m := 6) (n := 196) rfl rfl (by decide))).trans hf_sl
  have hf_nb : f4 nb = .inl (cy 6, 4, .inr (.inr (.inr (.inr gb)))) := (hfm nb hm_nb (z_tne hf_nb hf_sp (m := 134) (n := 196) rfl rfl (by decide))).trans hf_nb
  have hf_si : f4 si = .inl (cy 1, 4, .inl gz) := (hfm si hm_si (z_tne hf_si hf_sp (m := 132) (n := 196) rfl rfl (by decide))).trans hf_si
  have hf_rr : f4 rr = .inl (cy 2, 60, .inr (.inl gr)) := (hfm rr hm_rr (z_tne hf_rr hf_sp (m := 581) (n := 196) rfl rfl (by decide))).trans hf_rr
  have hf_sp : f4 sp = .inl (cy 1, 12, .inl g2_5) := ha_0
  refine lv_aload_n hx hb dX3_search_13 rfl (lv_at hl 0 rfl) ?_
  refine z_get (C := RX3) (T := TX3) (N := 6) (ci := 3) (v := .ref wk) hx hb hT zin_X3 hown hK hw hm_oo hf_oo rfl 0 (by decide) (hT _ kw_435) rfl dX3_search_14 ?_
  refine lv_aload_n hx hb dX3_search_17 rfl (lv_at hl 1 rfl) ?_
  refine lv_iload_n hx hb dX3_search_18 rfl (lv_at hl 2 rfl) ?_
  refine lv_iload_n hx hb dX3_search_19 rfl (lv_at hl 3 rfl) ?_
  refine z_callvV (cells := 0) (slots := 0) (b := wk) (As := [.ref mo, .int ga, .int dy]) (rest := []) (ci := 8) (q0 := (RX8, TX8, 8)) ⟨hx, hb, hml, hown, hT⟩ (c_X8_goAheadN l hm_wk hm_ks hm_ct hm_se hm_ow hm_mo hm_la hm_sa hm_mi hm_da hf_wk hf_ks hf_ct hf_se hf_ow hf_mo hf_la hf_sa hf_mi hf_da ne_ct_se ne_ct_sa ne_se_sa ne_ow_la hg_da hd_da (by first | omega | decide | assumption) (by first | omega | decide | assumption) hgk hgm hgl hgs) (cwV 3 hT (z_goodV (fun _ h => h) kw_1020 kw_1021 kw_1022 kw_92 kw_1023) rfl rfl rfl (by decide +kernel) ⟨by decide, by decide⟩) z_mv hKK hK hw hA hm_wk hf_wk rfl rfl rfl hl.1 rfl (Nat.le_of_ble_eq_true rfl) dX3_search_20 ⟨by decide, by decide⟩ (fun u H locs hp hw => ?_)
  obtain ⟨L6, f7⟩ := u
  obtain ⟨hsb, hfm, w2_8, t2_9, k2_10, c2_11, q2_12, o2_13, ha_0, ha_1, ha_2, ha_3, ha_4, hp⟩ := hp
  have hsb : L = L6 := hsb
  subst hsb
  have hsb : ∀ b ∈ L, b ∈ L := fun _ h => h
  have hw : z_H D vwCl (z_A L sz) s.heap L f7 H locs := hw
  have hfr : ∀ b ∈ L, b ≠ wk → b ≠ ks → b ≠ ct → b ≠ se → b ≠ ow → b ≠ oo → b ≠ ln → b ≠ fi → b ≠ sp → f7 b = f b := fun b hb h0 h1 h2 h3 h4 h5 h6 h7 h8 => (hfm b hb h0 h1 h2 h3 h4).trans (hfr b hb h0 h1 h2 h3 h4 h5 h6 h7 h8)
  have hd_da : z_Drv L f7 dv 13 := z_Drv_fr hd_da hsb (fun b hb ht => hfm b hb (z_t0 ht hf_wk (m := 8) rfl (by decide)) (z_t0 ht hf_ks (m := 204) rfl (by decide)) (z_t0 ht hf_ct (m := 132) rfl (by decide)) (z_t0 ht hf_se (m := 132) rfl (by decide)) (z_t0 ht hf_ow (m := 140) rfl (by decide)))
  have hf_oo : f7 oo = .inr (3, [.ref wk, .ref ln, .ref fi, .ref sp, .int om, .int 0]) := (hfm oo hm_oo (z_tne hf_oo hf_wk (m := 3) (n := 8) rfl rfl (by decide)) (z_tne hf_oo hf_ks (m := 3) (n := 204) rfl rfl (by decide)) (z_tne hf_oo hf_ct (m := 3) (n := 132) rfl rfl (by decide)) (z_tne hf_oo hf_se (m := 3) (n := 132) rfl rfl (by decide)) (z_tne hf_oo hf_ow (m := 3) (n := 140) rfl rfl (by decide))).trans hf_oo
  have hf_ln : f7 ln = .inl (cy 1, 6, .inl gn) := (hfm ln hm_ln (z_tne hf_ln hf_wk (m := 148) (n := 8) rfl rfl (by decide)) (z_tne hf_ln hf_ks (m := 148) (n := 204) rfl rfl (by decide)) (z_tne hf_ln hf_ct (m := 148) (n := 132) rfl rfl (by decide)) (z_tne hf_ln hf_se (m := 148) (n := 132) rfl rfl (by decide)) (z_tne hf_ln hf_ow (m := 148) (n := 140) rfl rfl (by decide))).trans hf_ln
  have hf_fi : f7 fi = .inl (cy 1, 6, .inl gf) := (hfm fi hm_fi (z_tne hf_fi hf_wk (m := 148) (n := 8) rfl rfl (by decide)) (z_tne hf_fi hf_ks (m := 148) (n := 204) rfl rfl (by decide)) (z_tne hf_fi hf_ct (m := 148) (n := 132) rfl rfl (by decide)) (z_tne hf_fi hf_se (m := 148) (n := 132) rfl rfl (by decide)) (z_tne hf_fi hf_ow (m := 148) (n := 140) rfl rfl (by decide))).trans hf_fi
  have hf_sp : f7 sp = .inl (cy 1, 12, .inl g2_5) := (hfm sp hm_sp (z_tne hf_sp hf_wk (m := 196) (n := 8) rfl rfl (by decide)) (z_tne hf_sp hf_ks (m := 196) (n := 204) rfl rfl (by decide)) (z_tne hf_sp hf_ct (m := 196) (n := 132) rfl rfl (by decide)) (z_tne hf_sp hf_se (m := 196) (n := 132) rfl rfl (by decide)) (z_tne hf_sp hf_ow (m := 196) (n := 140) rfl rfl (by decide))).trans hf_sp
  have hf_mo : f7 mo = .inr (2, [.int v0, .int v1, .int v2, .int v3, .int v4, .int v5, .int v6, .ref la, .ref sa, .ref mi, .ref da]) := (hfm mo hm_mo (z_tne hf_mo hf_wk (m := 2) (n := 8) rfl rfl (by decide)) (z_tne hf_mo hf_ks (m := 2) (n := 204) rfl rfl (by decide)) (z_tne hf_mo hf_ct (m := 2) (n := 132) rfl rfl (by decide)) (z_tne hf_mo hf_se (m := 2) (n := 132) rfl rfl (by decide)) (z_tne hf_mo hf_ow (m := 2) (n := 140) rfl rfl (by decide))).trans hf_mo
  have hf_la : f7 la = .inl (cy 1, 5, .inl gl) := (hfm la hm_la (z_tne hf_la hf_wk (m := 140) (n := 8) rfl rfl (by decide)) (z_tne hf_la hf_ks (m := 140) (n := 204) rfl rfl (by decide)) (z_tne hf_la hf_ct (m := 140) (n := 132) rfl rfl (by decide)) (z_tne hf_la hf_se (m := 140) (n := 132) rfl rfl (by decide)) (Ne.symm ne_ow_la)).trans hf_la
  have hf_sa : f7 sa = .inl (cy 1, 4, .inl gs) := (hfm sa hm_sa (z_tne hf_sa hf_wk (m := 132) (n := 8) rfl rfl (by decide)) (z_tne hf_sa hf_ks (m := 132) (n := 204) rfl rfl (by decide)) (Ne.symm ne_ct_sa) (Ne.symm ne_se_sa) (z_tne hf_sa hf_ow (m := 132) (n := 140) rfl rfl (by decide))).trans hf_sa
  have hf_mi : f7 mi = .inl (cy 1, 36, .inl gm) := (hfm mi hm_mi (z_tne hf_mi hf_wk (m := 388) (n := 8) rfl rfl (by decide)) (z_tne hf_mi hf_ks (m := 388) (n := 204) rfl rfl (by decide)) (z_tne hf_mi hf_ct (m := 388) (n := 132) rfl rfl (by decide)) (z_tne hf_mi hf_se (m := 388) (n := 132) rfl rfl (by decide)) (z_tne hf_mi hf_ow (m := 388) (n := 140) rfl rfl (by decide))).trans hf_mi
  have hf_da : f7 da = .inl (cy 4, 13, .inr (.inr (.inr (.inr gd)))) := (hfm da hm_da (z_tne hf_da hf_wk (m := 206) (n := 8) rfl rfl (by decide)) (z_tne hf_da hf_ks (m := 206) (n := 204) rfl rfl (by decide)) (z_tne hf_da hf_ct (m := 206) (n := 132) rfl rfl (by decide)) (z_tne hf_da hf_se (m := 206) (n := 132) rfl rfl (by decide)) (z_tne hf_da hf_ow (m := 206) (n := 140) rfl rfl (by decide))).trans hf_da
  have hf_sl : f7 sl = .inr (6, [.ref nb, .ref wi, .ref si]) := (hfm sl hm_sl (z_tne hf_sl hf_wk (m := 6) (n := 8) rfl rfl (by decide)) (z_tne hf_sl hf_ks (m := 6) (n := 204) rfl rfl (by decide)) (z_tne hf_sl hf_ct (m := 6) (n := 132) rfl rfl (by decide)) (z_tne hf_sl hf_se (m := 6) (n := 132) rfl rfl (by decide)) (z_tne hf_sl hf_ow (m := 6) (n := 140) rfl rfl (by decide))).trans hf_sl
  have hf_nb : f7 nb = .inl (cy 6, 4, .inr (.inr (.inr (.inr gb)))) := (hfm nb hm_nb (z_tne hf_nb hf_wk (m := 134) (n := 8) rfl rfl (by decide)) (z_tne hf_nb hf_ks (m := 134) (n := 204) rfl rfl (by decide)) (z_tne hf_nb hf_ct (m := 134) (n := 132) rfl rfl (by decide)) (z_tne hf_nb hf_se (m := 134) (n := 132) rfl rfl (by decide)) (z_tne hf_nb hf_ow (m := 134) (n := 140) rfl rfl (by decide))).trans hf_nb
  have hf_si : f7 si = .inl (cy 1, 4, .inl gz) := (hfm si hm_si (z_tne hf_si hf_wk (m := 132) (n := 8) rfl rfl (by decide)) (z_tne hf_si hf_ks (m := 132) (n := 204) rfl rfl (by decide)) (Ne.symm ne_ct_si) (Ne.symm ne_se_si) (z_tne hf_si hf_ow (m := 132) (n := 140) rfl rfl (by decide))).trans hf_si
  have hf_rr : f7 rr = .inl (cy 2, 60, .inr (.inl gr)) := (hfm rr hm_rr (z_tne hf_rr hf_wk (m := 581) (n := 8) rfl rfl (by decide)) (z_tne hf_rr hf_ks (m := 581) (n := 204) rfl rfl (by decide)) (z_tne hf_rr hf_ct (m := 581) (n := 132) rfl rfl (by decide)) (z_tne hf_rr hf_se (m := 581) (n := 132) rfl rfl (by decide)) (z_tne hf_rr hf_ow (m := 581) (n := 140) rfl rfl (by decide))).trans hf_rr
  have hf_wk : f7 wk = .inr (8, [.ref ks, .int w2_8, .ref ct, .ref se, .ref ow, .int t2_9, .int wd, .int wp]) := ha_0
  have hf_ks : f7 ks = .inl (cy 1, 13, .inl k2_10) := ha_1
  have hf_ct : f7 ct = .inl (cy 1, 4, .inl c2_11) := ha_2
  have hf_se : f7 se = .inl (cy 1, 4, .inl q2_12) := ha_3
  have hf_ow : f7 ow = .inl (cy 1, 5, .inl o2_13) := ha_4
  have hga_ := hp
  refine lv_aload_n hx hb dX3_search_23 rfl (lv_at hl 1 rfl) ?_
  refine lv_iload_n hx hb dX3_search_24 rfl (lv_at hl 2 rfl) ?_
  refine z_calliV (cells := 0) (slots := 0) (b := mo) (As := [.int ga]) (rest := []) (ci := 2) (q0 := (RX2, TX2, 11)) ⟨hx, hb, hml, hown, hT⟩ (c_X2_counterOf l hm_mo hm_la hf_mo hf_la (by first | omega | decide | assumption)) (cwV 1 hT (z_goodV (fun _ h => h) kw_1024 kw_773 kw_774 kw_87 kw_775) rfl rfl rfl (by decide +kernel) ⟨by decide, by decide⟩) z_mv hKK hK hw hA hm_mo hf_mo rfl rfl rfl hl.1 rfl (Nat.le_of_ble_eq_true rfl) dX3_search_25 ⟨by decide, by decide⟩ (fun r14 u H locs hp hw => ?_)
  obtain ⟨rfl, hp⟩ := hp
  have hw : z_H D vwCl (z_A L sz) s.heap L f7 H locs := hw
  refine lv_istore (lv' := [(6, .int r14), (0, .ref oo), (1, .ref mo), (2, .int ga), (3, .int dy), (4, .ref sl), (5, .int sn)]) hx hb dX3_search_28 hl (by decide) rfl (fun ls hl => ?_)
  refine lv_aload_n hx hb dX3_search_30 rfl (lv_at hl 1 rfl) ?_
  refine z_get (C := RX3) (T := TX3) (N := 6) (ci := 3) (v := .ref wk) hx hb hT zin_X3 hown hK hw hm_oo hf_oo rfl 0 (by decide) (hT _ kw_435) rfl dX3_search_31 ?_
  refine z_get (C := RX8) (T := TX8) (N := 8) (ci := 8) (v := .ref ct) hx hb hT zin_X8 hown hK hw hm_wk hf_wk rfl 2 (by decide) (hT _ kw_347) rfl dX3_search_34 ?_
  refine lv_iload hx hb dX3_search_37 (lv_at hl 0 rfl) ?_
  refine z_iald hx hb hK hw 1 hm_ct hf_ct rfl (z_ix rfl (by omega)) dX3_search_39 ?_
  refine lv_topi (fun w15 e_w15 => ?_)
  have hah : 0 ≤ w15.toInt ∧ w15.toInt ≤ 20000 := by rw [e_w15]; exact hga_.2.2.1 _ (z_clI rfl (by omega))
  refine lv_istore (lv' := [(7, .int w15), (6, .int r14), (0, .ref oo), (1, .ref mo), (2, .int ga), (3, .int dy), (4, .ref sl), (5, .int sn)]) hx hb dX3_search_40 hl (by decide) rfl (fun ls hl => ?_)
  refine lv_iconst (v := 1) hx hb dX3_search_42 (by decide) ?_
  refine lv_istore (lv' := [(8, .int 1), (7, .int w15), (6, .int r14), (0, .ref oo), (1, .ref mo), (2, .int ga), (3, .int dy), (4, .ref sl), (5, .int sn)]) hx hb dX3_search_43 hl (by decide) rfl (fun ls hl => ?_)
  refine lv_iconst (v := 0) hx hb dX3_search_45 (by decide) ?_
  refine lv_istore (lv' := [(9, .int 0), (8, .int 1), (7, .int w15), (6, .int r14), (0, .ref oo), (1, .ref mo), (2, .int ga), (3, .int dy), (4, .ref sl), (5, .int sn)]) hx hb dX3_search_46 hl (by decide) rfl (fun ls hl => ?_)
  have hzk : (0 : Int32).toInt = 0 := by decide
  refine z_loop (fun n H locs ls => ∃ (K16 : Int32) (G23 : Nat → Int32) (G24 : Nat → Int32) (G19 : Nat → Int32) (G20 : Nat → Int32) (G21 : Nat → Int32) (OF18 : Int32) (WT22 : Int32) (V25 : Int32) (f17 : Nat → va_E), (n = (720 - K16.toInt).toNat) ∧ (0 ≤ K16.toInt) ∧ (K16.toInt ≤ 720) ∧ (∀ j : Nat, j < 4 → z_upto (20000 + 7000 * K16.toInt) (G23 j)) ∧ (∀ j : Nat, j < 4 → z_upto (20000 + 7000 * K16.toInt) (G24 j)) ∧ (∀ j : Nat, z_le11 (G19 j)) ∧ (z_H D vwCl (z_A L sz) s.heap L f17 H locs) ∧ (f17 oo = .inr (3, [.ref wk, .ref ln, .ref fi, .ref sp, .int om, .int OF18])) ∧ (f17 ln = .inl (cy 1, 6, .inl G19)) ∧ (f17 fi = .inl (cy 1, 6, .inl G20)) ∧ (f17 sp = .inl (cy 1, 12, .inl G21)) ∧ (f17 wk = .inr (8, [.ref ks, .int w2_8, .ref ct, .ref se, .ref ow, .int WT22, .int wd, .int wp])) ∧ (f17 ks = .inl (cy 1, 13, .inl k2_10)) ∧ (f17 ct = .inl (cy 1, 4, .inl G23)) ∧ (f17 se = .inl (cy 1, 4, .inl G24)) ∧ (f17 ow = .inl (cy 1, 5, .inl o2_13)) ∧ (f17 mo = .inr (2, [.int v0, .int v1, .int v2, .int v3, .int v4, .int v5, .int v6, .ref la, .ref sa, .ref mi, .ref da])) ∧ (f17 la = .inl (cy 1, 5, .inl gl)) ∧ (f17 sa = .inl (cy 1, 4, .inl gs)) ∧ (f17 mi = .inl (cy 1, 36, .inl gm)) ∧ (f17 da = .inl (cy 4, 13, .inr (.inr (.inr (.inr gd))))) ∧ (f17 sl = .inr (6, [.ref nb, .ref wi, .ref si])) ∧ (f17 nb = .inl (cy 6, 4, .inr (.inr (.inr (.inr gb))))) ∧ (f17 si = .inl (cy 1, 4, .inl gz)) ∧ (f17 rr = .inl (cy 2, 60, .inr (.inl gr))) ∧ (∀ b ∈ L, b ≠ wk → b ≠ ks → b ≠ ct → b ≠ se → b ≠ ow → b ≠ oo → b ≠ ln → b ≠ fi → b ≠ sp → f17 b = f b) ∧ (z_Drv L f17 dv 13) ∧ (lv_has ls 10 [(9, .int K16), (8, .int V25), (7, .int w15), (6, .int r14), (0, .ref oo), (1, .ref mo), (2, .int ga), (3, .int dy), (4, .ref sl), (5, .int sn)])) _ ⟨0, c2_11, q2_12, gn, gf, g2_5, 0, t2_9, 1, f7, rfl, (by first | decide | omega), (by first | decide | omega), (z_upto_mono (by omega) hga_.2.2.1), (z_upto_mono (by omega) hga_.2.2.2), hgn, hw, hf_oo, hf_ln, hf_fi, hf_sp, hf_wk, hf_ks, hf_ct, hf_se, hf_ow, hf_mo, hf_la, hf_sa, hf_mi, hf_da, hf_sl, hf_nb, hf_si, hf_rr, hfr, hd_da, (lv_sub hl [0, 1, 2, 3, 4, 5, 6, 7, 8, 9] rfl)⟩ (fun n H locs ls hI ih_48 => ?_)
  obtain ⟨K16, G23, G24, G19, G20, G21, OF18, WT22, V25, f17, hn, hk0, hk1, hi0, hi1, hi2, hw, hf_oo, hf_ln, hf_fi, hf_sp, hf_wk, hf_ks, hf_ct, hf_se, hf_ow, hf_mo, hf_la, hf_sa, hf_mi, hf_da, hf_sl, hf_nb, hf_si, hf_rr, hfr, hd_da, hl⟩ := hI
  refine lv_iload hx hb dX3_search_48 (lv_at hl 0 rfl) ?_
  refine lv_sipush (v := 720) hx hb dX3_search_50 (by decide) ?_
  refine z_icmp_ge (tgt := 112) hx hb rfl (show (720 : Int32).toInt = 720 by decide) dX3_search_53 (by decide) (fun c26 => ?_) (fun c26 => ?_)
  · skip
    exact z_vret hx hb hr hlk (by decide) (by decide) hw (⟨hsub, hfr, w2_8, WT22, OF18, k2_10, G23, G24, o2_13, G19, G20, G21, hf_wk, hf_ks, hf_ct, hf_se, hf_ow, hf_oo, hf_ln, hf_fi, hf_sp, by omega, hga_.2.1, hi2⟩) dX3_search_112
  · skip
    refine lv_iload hx hb dX3_search_56 (lv_at hl 1 rfl) ?_
    refine z_if_eq (tgt := 112) hx hb rfl dX3_search_58 (by decide) (fun c27 => ?_) (fun c27 => ?_)
    · skip
      exact z_vret hx hb hr hlk (by decide) (by decide) hw (⟨hsub, hfr, w2_8, WT22, OF18, k2_10, G23, G24, o2_13, G19, G20, G21, hf_wk, hf_ks, hf_ct, hf_se, hf_ow, hf_oo, hf_ln, hf_fi, hf_sp, by omega, hga_.2.1, hi2⟩) dX3_search_112
    · skip
      refine lv_aload_n hx hb dX3_search_61 rfl (lv_at hl 4 rfl) ?_
      refine z_get (C := RX3) (T := TX3) (N := 6) (ci := 3) (v := .ref wk) hx hb hT zin_X3 hown hK hw hm_oo hf_oo rfl 0 (by decide) (hT _ kw_435) rfl dX3_search_62 ?_
      refine z_get (C := RX8) (T := TX8) (N := 8) (ci := 8) (v := .ref ct) hx hb hT zin_X8 hown hK hw hm_wk hf_wk rfl 2 (by decide) (hT _ kw_347) rfl dX3_search_65 ?_
      refine lv_iload hx hb dX3_search_68 (lv_at hl 3 rfl) ?_
      refine lv_iload hx hb dX3_search_70 (lv_at hl 2 rfl) ?_
      refine z_iast hx hb hK hw 1 hm_ct hf_ct rfl (z_ix rfl (by omega)) dX3_search_72 (fun H locs hw => ?_)
      obtain ⟨f29, e_f29⟩ : ∃ z, z = va_up f17 ct (.inl (cy 1, 4, .inl (upd G23 r14.toNatClampNeg w15))) := ⟨_, rfl⟩
      rw [← e_f29] at hw
      have hf_oo : f29 oo = .inr (3, [.ref wk, .ref ln, .ref fi, .ref sp, .int om, .int OF18]) := (congrFun e_f29 oo).trans (z_up_ne (z_tne hf_oo hf_ct (m := 3) (n := 132) rfl rfl (by decide)) hf_oo)
      have hf_ln : f29 ln = .inl (cy 1, 6, .inl G19) := (congrFun e_f29 ln).trans (z_up_ne (z_tne hf_ln hf_ct (m := 148) (n := 132) rfl rfl (by decide)) hf_ln)
      have hf_fi : f29 fi = .inl (cy 1, 6, .inl G20) := (congrFun e_f29 fi).trans (z_up_ne (z_tne hf_fi hf_ct (m := 148) (n := 132) rfl rfl (by decide)) hf_fi)
      have hf_sp : f29 sp = .inl (cy 1, 12, .inl G21) := (congrFun e_f29 sp).trans (z_up_ne (z_tne hf_sp hf_ct (m := 196) (n := 132) rfl rfl (by decide)) hf_sp)
      have hf_wk : f29 wk = .inr (8, [.ref ks, .int w2_8, .ref ct, .ref se, .ref ow, .int WT22, .int wd, .int wp]) := (congrFun e_f29 wk).trans (z_up_ne (z_tne hf_wk hf_ct (m := 8) (n := 132) rfl rfl (by decide)) hf_wk)
      have hf_ks : f29 ks = .inl (cy 1, 13, .inl k2_10) := (congrFun e_f29 ks).trans (z_up_ne (z_tne hf_ks hf_ct (m := 204) (n := 132) rfl rfl (by decide)) hf_ks)
      have hf_se : f29 se = .inl (cy 1, 4, .inl G24) := (congrFun e_f29 se).trans (z_up_ne (Ne.symm ne_ct_se) hf_se)
      have hf_ow : f29 ow = .inl (cy 1, 5, .inl o2_13) := (congrFun e_f29 ow).trans (z_up_ne (z_tne hf_ow hf_ct (m := 140) (n := 132) rfl rfl (by decide)) hf_ow)
      have hf_mo : f29 mo = .inr (2, [.int v0, .int v1, .int v2, .int v3, .int v4, .int v5, .int v6, .ref la, .ref sa, .ref mi, .ref da]) := (congrFun e_f29 mo).trans (z_up_ne (z_tne hf_mo hf_ct (m := 2) (n := 132) rfl rfl (by decide)) hf_mo)
      have hf_la : f29 la = .inl (cy 1, 5, .inl gl) := (congrFun e_f29 la).trans (z_up_ne (z_tne hf_la hf_ct (m := 140) (n := 132) rfl rfl (by decide)) hf_la)
      have hf_sa : f29 sa = .inl (cy 1, 4, .inl gs) := (congrFun e_f29 sa).trans (z_up_ne (Ne.symm ne_ct_sa) hf_sa)
      have hf_mi : f29 mi = .inl (cy 1, 36, .inl gm) := (congrFun e_f29 mi).trans (z_up_ne (z_tne hf_mi hf_ct (m := 388) (n := 132) rfl rfl (by decide)) hf_mi)
      have hf_da : f29 da = .inl (cy 4, 13, .inr (.inr (.inr (.inr gd)))) := (congrFun e_f29 da).trans (z_up_ne (z_tne hf_da hf_ct (m := 206) (n := 132) rfl rfl (by decide)) hf_da)
      have hf_sl : f29 sl = .inr (6, [.ref nb, .ref wi, .ref si]) := (congrFun e_f29 sl).trans (z_up_ne (z_tne hf_sl hf_ct (m := 6) (n := 132) rfl rfl (by decide)) hf_sl)
      have hf_nb : f29 nb = .inl (cy 6, 4, .inr (.inr (.inr (.inr gb)))) := (congrFun e_f29 nb).trans (z_up_ne (z_tne hf_nb hf_ct (m := 134) (n := 132) rfl rfl (by decide)) hf_nb)
      have hf_si : f29 si = .inl (cy 1, 4, .inl gz) := (congrFun e_f29 si).trans (z_up_ne (Ne.symm ne_ct_si) hf_si)
      have hf_rr : f29 rr = .inl (cy 2, 60, .inr (.inl gr)) := (congrFun e_f29 rr).trans (z_up_ne (z_tne hf_rr hf_ct (m := 581) (n := 132) rfl rfl (by decide)) hf_rr)
      have hd_da : z_Drv L f29 dv 13 := z_Drv_up hd_da e_f29 hf_ct (m := 132) rfl (by decide)
      have hf_ct : f29 ct = .inl (cy 1, 4, .inl (upd G23 r14.toNatClampNeg w15)) := (congrFun e_f29 ct).trans z_up_self
      have hfr : ∀ b ∈ L, b ≠ wk → b ≠ ks → b ≠ ct → b ≠ se → b ≠ ow → b ≠ oo → b ≠ ln → b ≠ fi → b ≠ sp → f29 b = f b := fun b hb h0 h1 h2 h3 h4 h5 h6 h7 h8 => (congrFun e_f29 b).trans (z_up_ne h2 (hfr b hb h0 h1 h2 h3 h4 h5 h6 h7 h8))
      obtain ⟨g28, e_g28⟩ : ∃ z, z = (upd G23 r14.toNatClampNeg w15) := ⟨_, rfl⟩
      rw [← e_g28] at hf_ct
      have hcW := z_updPn hi0 e_g28 (show _ ∧ _ by omega)
      refine lv_aload_n hx hb dX3_search_73 rfl (lv_at hl 4 rfl) ?_
      refine z_get (C := RX3) (T := TX3) (N := 6) (ci := 3) (v := .ref wk) hx hb hT zin_X3 hown hK hw hm_oo hf_oo rfl 0 (by decide) (hT _ kw_435) rfl dX3_search_74 ?_
      refine z_get (C := RX8) (T := TX8) (N := 8) (ci := 8) (v := .ref se) hx hb hT zin_X8 hown hK hw hm_wk hf_wk rfl 3 (by decide) (hT _ kw_350) rfl dX3_search_77 ?_
      refine lv_iload_n hx hb dX3_search_80 rfl (lv_at hl 6 rfl) ?_
      refine lv_iconst (v := 0) hx hb dX3_search_81 (by decide) ?_
      refine z_iast hx hb hK hw 1 hm_se hf_se rfl (z_ix rfl (by omega)) dX3_search_82 (fun H locs hw => ?_)
      obtain ⟨f31, e_f31⟩ : ∃ z, z = va_up f29 se (.inl (cy 1, 4, .inl (upd G24 ga.toNatClampNeg 0))) := ⟨_, rfl⟩
      rw [← e_f31] at hw
      have hf_oo : f31 oo = .inr (3, [.ref wk, .ref ln, .ref fi, .ref sp, .int om, .int OF18]) := (congrFun e_f31 oo).trans (z_up_ne (z_tne hf_oo hf_se (m := 3) (n := 132) rfl rfl (by decide)) hf_oo)
      have hf_ln : f31 ln = .inl (cy 1, 6, .inl G19) := (congrFun e_f31 ln).trans (z_up_ne (z_tne hf_ln hf_se (m := 148) (n := 132) rfl rfl (by decide)) hf_ln)
      have hf_fi : f31 fi = .inl (cy 1, 6, .inl G20) := (congrFun e_f31 fi).trans (z_up_ne (z_tne hf_fi hf_se (m := 148) (n := 132) rfl rfl (by decide)) hf_fi)
      have hf_sp : f31 sp = .inl (cy 1, 12, .inl G21) := (congrFun e_f31 sp).trans (z_up_ne (z_tne hf_sp hf_se (m := 196) (n := 132) rfl rfl (by decide)) hf_sp)
      have hf_wk : f31 wk = .inr (8, [.ref ks, .int w2_8, .ref ct, .ref se, .ref ow, .int WT22, .int wd, .int wp]) := (congrFun e_f31 wk).trans (z_up_ne (z_tne hf_wk hf_se (m := 8) (n := 132) rfl rfl (by decide)) hf_wk)
      have hf_ks : f31 ks = .inl (cy 1, 13, .inl k2_10) := (congrFun e_f31 ks).trans (z_up_ne (z_tne hf_ks hf_se (m := 204) (n := 132) rfl rfl (by decide)) hf_ks)
      have hf_ct : f31 ct = .inl (cy 1, 4, .inl g28) := (congrFun e_f31 ct).trans (z_up_ne ne_ct_se hf_ct)
      have hf_ow : f31 ow = .inl (cy 1, 5, .inl o2_13) := (congrFun e_f31 ow).trans (z_up_ne (z_tne hf_ow hf_se (m := 140) (n := 132) rfl rfl (by decide)) hf_ow)
      have hf_mo : f31 mo = .inr (2, [.int v0, .int v1, .int v2, .int v3, .int v4, .int v5, .int v6, .ref la, .ref sa, .ref mi, .ref da]) := (congrFun e_f31 mo).trans (z_up_ne (z_tne hf_mo hf_se (m := 2) (n := 132) rfl rfl (by decide)) hf_mo)
      have hf_la : f31 la = .inl (cy 1, 5, .inl gl) := (congrFun e_f31 la).trans (z_up_ne (z_tne hf_la hf_se (m := 140) (n := 132) rfl rfl (by decide)) hf_la)
      have hf_sa : f31 sa = .inl (cy 1, 4, .inl gs) := (congrFun e_f31 sa).trans (z_up_ne (Ne.symm ne_se_sa) hf_sa)
      have hf_mi : f31 mi = .inl (cy 1, 36, .inl gm) := (congrFun e_f31 mi).trans (z_up_ne (z_tne hf_mi hf_se (m := 388) (n := 132) rfl rfl (by decide)) hf_mi)
      have hf_da : f31 da = .inl (cy 4, 13, .inr (.inr (.inr (.inr gd)))) := (congrFun e_f31 da).trans (z_up_ne (z_tne hf_da hf_se (m := 206) (n := 132) rfl rfl (by decide)) hf_da)
      have hf_sl : f31 sl = .inr (6, [.ref nb, .ref wi, .ref si]) := (congrFun e_f31 sl).trans (z_up_ne (z_tne hf_sl hf_se (m := 6) (n := 132) rfl rfl (by decide)) hf_sl)
      have hf_nb : f31 nb = .inl (cy 6, 4, .inr (.inr (.inr (.inr gb)))) := (congrFun e_f31 nb).trans (z_up_ne (z_tne hf_nb hf_se (m := 134) (n := 132) rfl rfl (by decide)) hf_nb)
      have hf_si : f31 si = .inl (cy 1, 4, .inl gz) := (congrFun e_f31 si).trans (z_up_ne (Ne.symm ne_se_si) hf_si)
      have hf_rr : f31 rr = .inl (cy 2, 60, .inr (.inl gr)) := (congrFun e_f31 rr).trans (z_up_ne (z_tne hf_rr hf_se (m := 581) (n := 132) rfl rfl (by decide)) hf_rr)
      have hd_da : z_Drv L f31 dv 13 := z_Drv_up hd_da e_f31 hf_se (m := 132) rfl (by decide)
      have hf_se : f31 se = .inl (cy 1, 4, .inl (upd G24 ga.toNatClampNeg 0)) := (congrFun e_f31 se).trans z_up_self
      have hfr : ∀ b ∈ L, b ≠ wk → b ≠ ks → b ≠ ct → b ≠ se → b ≠ ow → b ≠ oo → b ≠ ln → b ≠ fi → b ≠ sp → f31 b = f b := fun b hb h0 h1 h2 h3 h4 h5 h6 h7 h8 => (congrFun e_f31 b).trans (z_up_ne h3 (hfr b hb h0 h1 h2 h3 h4 h5 h6 h7 h8))
      obtain ⟨g30, e_g30⟩ : ∃ z, z = (upd G24 ga.toNatClampNeg 0) := ⟨_, rfl⟩
      rw [← e_g30] at hf_se
      have hqW := z_updPn hi1 e_g30 (z_upto_0 (by omega))
      refine lv_aload_n hx hb dX3_search_83 rfl (lv_at hl 4 rfl) ?_
      refine lv_aload_n hx hb dX3_search_84 rfl (lv_at hl 5 rfl) ?_
      refine lv_iload_n hx hb dX3_search_85 rfl (lv_at hl 7 rfl) ?_
      refine lv_aload hx hb dX3_search_86 (lv_at hl 8 rfl) ?_
      refine lv_iload hx hb dX3_search_88 (lv_at hl 9 rfl) ?_
      refine z_calliV (cells := 0) (slots := 0) (b := oo) (As := [.ref mo, .int dy, .ref sl, .int sn]) (rest := []) (ci := 3) (q0 := (RX3, TX3, 6)) ⟨hx, hb, hml, hown, hT⟩ (c_X3_explains l hm_oo hm_ln hm_wk hm_ct hm_se hm_mo hm_la hm_mi hm_da hm_sl hm_nb hm_si hm_rr hf_oo hf_ln hf_wk hf_ct hf_se hf_mo hf_la hf_mi hf_da hf_sl hf_nb hf_si hf_rr ne_ct_se ne_ct_si ne_se_si hg_da hd_da (by first | omega | decide | assumption) hi2 hgm hgl (by first | omega | decide | assumption) hgb hgz (by first | omega | decide | assumption) hcW hqW (by first | omega | decide | assumption)) (cwV 4 hT (z_goodV (fun _ h => h) kw_1025 kw_1027 kw_21 kw_94 kw_1028) rfl rfl rfl (by decide +kernel) ⟨by decide, by decide⟩) z_mv hKK hK hw hA hm_oo hf_oo rfl rfl rfl hl.1 rfl (Nat.le_of_ble_eq_true rfl) dX3_search_90 ⟨by decide, by decide⟩ (fun r32 u H locs hp hw => ?_)
      obtain ⟨L33, f34⟩ := u
      obtain ⟨hsb, hfm, t2_35, c2_36, q2_37, ha_0, ha_1, ha_2, hp⟩ := hp
      have hsb : L = L33 := hsb
      subst hsb
      have hsb : ∀ b ∈ L, b ∈ L := fun _ h => h
      have hw : z_H D vwCl (z_A L sz) s.heap L f34 H locs := hw
      have hfr : ∀ b ∈ L, b ≠ wk → b ≠ ks → b ≠ ct → b ≠ se → b ≠ ow → b ≠ oo → b ≠ ln → b ≠ fi → b ≠ sp → f34 b = f b := fun b hb h0 h1 h2 h3 h4 h5 h6 h7 h8 => (hfm b hb h0 h2 h3).trans (hfr b hb h0 h1 h2 h3 h4 h5 h6 h7 h8)
      have hd_da : z_Drv L f34 dv 13 := z_Drv_fr hd_da hsb (fun b hb ht => hfm b hb (z_t0 ht hf_wk (m := 8) rfl (by decide)) (z_t0 ht hf_ct (m := 132) rfl (by decide)) (z_t0 ht hf_se (m := 132) rfl (by decide)))
      have hf_oo : f34 oo = .inr (3, [.ref wk, .ref ln, .ref fi, .ref sp, .int om, .int OF18]) := (hfm oo hm_oo (z_tne hf_oo hf_wk (m := 3) (n := 8) rfl rfl (by decide)) (z_tne hf_oo hf_ct (m := 3) (n := 132) rfl rfl (by decide)) (z_tne hf_oo hf_se (m := 3) (n := 132) rfl rfl (by decide))).trans hf_oo
      have hf_ln : f34 ln = .inl (cy 1, 6, .inl G19) := (hfm ln hm_ln (z_tne hf_ln hf_wk (m := 148) (n := 8) rfl rfl (by decide)) (z_tne hf_ln hf_ct (m := 148) (n := 132) rfl rfl (by decide)) (z_tne hf_ln hf_se (m := 148) (n := 132) rfl rfl (by decide))).trans hf_ln
      have hf_fi : f34 fi = .inl (cy 1, 6, .inl G20) := (hfm fi hm_fi (z_tne hf_fi hf_wk (m := 148) (n := 8) rfl rfl (by decide)) (z_tne hf_fi hf_ct (m := 148) (n := 132) rfl rfl (by decide)) (z_tne hf_fi hf_se (m := 148) (n := 132) rfl rfl (by decide))).trans hf_fi
      have hf_sp : f34 sp = .inl (cy 1, 12, .inl G21) := (hfm sp hm_sp (z_tne hf_sp hf_wk (m := 196) (n := 8) rfl rfl (by decide)) (z_tne hf_sp hf_ct (m := 196) (n := 132) rfl rfl (by decide)) (z_tne hf_sp hf_se (m := 196) (n := 132) rfl rfl (by decide))).trans hf_sp
      have hf_ks : f34 ks = .inl (cy 1, 13, .inl k2_10) := (hfm ks hm_ks (z_tne hf_ks hf_wk (m := 204) (n := 8) rfl rfl (by decide)) (z_tne hf_ks hf_ct (m := 204) (n := 132) rfl rfl (by decide)) (z_tne hf_ks hf_se (m := 204) (n := 132) rfl rfl (by decide))).trans hf_ks
      have hf_ow : f34 ow = .inl (cy 1, 5, .inl o2_13) := (hfm ow hm_ow (z_tne hf_ow hf_wk (m := 140) (n := 8) rfl rfl (by decide)) (z_tne hf_ow hf_ct (m := 140) (n := 132) rfl rfl (by decide)) (z_tne hf_ow hf_se (m := 140) (n := 132) rfl rfl (by decide))).trans hf_ow
      have hf_mo : f34 mo = .inr (2, [.int v0, .int v1, .int v2, .int v3, .int v4, .int v5, .int v6, .ref la, .ref sa, .ref mi, .ref da]) := (hfm mo hm_mo (z_tne hf_mo hf_wk (m := 2) (n := 8) rfl rfl (by decide)) (z_tne hf_mo hf_ct (m := 2) (n := 132) rfl rfl (by decide)) (z_tne hf_mo hf_se (m := 2) (n := 132) rfl rfl (by decide))).trans hf_mo
      have hf_la : f34 la = .inl (cy 1, 5, .inl gl) := (hfm la hm_la (z_tne hf_la hf_wk (m := 140) (n := 8) rfl rfl (by decide)) (z_tne hf_la hf_ct (m := 140) (n := 132) rfl rfl (by decide)) (z_tne hf_la hf_se (m := 140) (n := 132) rfl rfl (by decide))).trans hf_la
      have hf_sa : f34 sa = .inl (cy 1, 4, .inl gs) := (hfm sa hm_sa (z_tne hf_sa hf_wk (m := 132) (n := 8) rfl rfl (by decide)) (Ne.symm ne_ct_sa) (Ne.symm ne_se_sa)).trans hf_sa
      have hf_mi : f34 mi = .inl (cy 1, 36, .inl gm) := (hfm mi hm_mi (z_tne hf_mi hf_wk (m := 388) (n := 8) rfl rfl (by decide)) (z_tne hf_mi hf_ct (m := 388) (n := 132) rfl rfl (by decide)) (z_tne hf_mi hf_se (m := 388) (n := 132) rfl rfl (by decide))).trans hf_mi
      have hf_da : f34 da = .inl (cy 4, 13, .inr (.inr (.inr (.inr gd)))) := (hfm da hm_da (z_tne hf_da hf_wk (m := 206) (n := 8) rfl rfl (by decide)) (z_tne hf_da hf_ct (m := 206) (n := 132) rfl rfl (by decide)) (z_tne hf_da hf_se (m := 206) (n := 132) rfl rfl (by decide))).trans hf_da
      have hf_sl : f34 sl = .inr (6, [.ref nb, .ref wi, .ref si]) := (hfm sl hm_sl (z_tne hf_sl hf_wk (m := 6) (n := 8) rfl rfl (by decide)) (z_tne hf_sl hf_ct (m := 6) (n := 132) rfl rfl (by decide)) (z_tne hf_sl hf_se (m := 6) (n := 132) rfl rfl (by decide))).trans hf_sl
      have hf_nb : f34 nb = .inl (cy 6, 4, .inr (.inr (.inr (.inr gb)))) := (hfm nb hm_nb (z_tne hf_nb hf_wk (m := 134) (n := 8) rfl rfl (by decide)) (z_tne hf_nb hf_ct (m := 134) (n := 132) rfl rfl (by decide)) (z_tne hf_nb hf_se (m := 134) (n := 132) rfl rfl (by decide))).trans hf_nb
      have hf_si : f34 si = .inl (cy 1, 4, .inl gz) := (hfm si hm_si (z_tne hf_si hf_wk (m := 132) (n := 8) rfl rfl (by decide)) (Ne.symm ne_ct_si) (Ne.symm ne_se_si)).trans hf_si
      have hf_rr : f34 rr = .inl (cy 2, 60, .inr (.inl gr)) := (hfm rr hm_rr (z_tne hf_rr hf_wk (m := 581) (n := 8) rfl rfl (by decide)) (z_tne hf_rr hf_ct (m := 581) (n := 132) rfl rfl (by decide)) (z_tne hf_rr hf_se (m := 581) (n := 132) rfl rfl (by decide))).trans hf_rr
      have hf_wk : f34 wk = .inr (8, [.ref ks, .int w2_8, .ref ct, .ref se, .ref ow, .int t2_35, .int wd, .int wp]) := ha_0
      have hf_ct : f34 ct = .inl (cy 1, 4, .inl c2_36) := ha_1
      have hf_se : f34 se = .inl (cy 1, 4, .inl q2_37) := ha_2
      have hce := hp.2
      have hp := hp.1
      rcases hp with ⟨rfl, h38⟩ | ⟨rfl, h38⟩
      · skip
        refine z_if_eq (tgt := 100) hx hb (show (1 : Int32).toInt = 1 by decide) dX3_search_93 (by decide) (fun h => absurd h (by decide)) (fun _ => ?_)
        refine lv_aload_n hx hb dX3_search_96 rfl (lv_at hl 4 rfl) ?_
        refine z_callvV (cells := 0) (slots := 0) (b := oo) (As := []) (rest := []) (ci := 3) (q0 := (RX3, TX3, 6)) ⟨hx, hb, hml, hown, hT⟩ (c_X3_note l hm_oo hm_ln hm_fi hm_sp hf_oo hf_ln hf_fi hf_sp ne_ln_fi (by first | omega | decide | assumption) hi2) (cwV 0 hT (z_goodV (fun _ h => h) kw_1031 kw_1033 kw_22 kw_94 kw_1034) rfl rfl rfl (by decide +kernel) ⟨by decide, by decide⟩) z_mv hKK hK hw hA hm_oo hf_oo rfl rfl rfl hl.1 rfl (Nat.le_of_ble_eq_true rfl) dX3_search_97 ⟨by decide, by decide⟩ (fun u H locs hp hw => ?_)
        obtain ⟨L39, f40⟩ := u
        obtain ⟨hsb, hfm, f2_41, g2_42, g3_43, ha_0, ha_1, ha_2, hp⟩ := hp
        have hsb : L = L39 := hsb
        subst hsb
        have hsb : ∀ b ∈ L, b ∈ L := fun _ h => h
        have hw : z_H D vwCl (z_A L sz) s.heap L f40 H locs := hw
        have hfr : ∀ b ∈ L, b ≠ wk → b ≠ ks → b ≠ ct → b ≠ se → b ≠ ow → b ≠ oo → b ≠ ln → b ≠ fi → b ≠ sp → f40 b = f b := fun b hb h0 h1 h2 h3 h4 h5 h6 h7 h8 => (hfm b hb h5 h7 h8).trans (hfr b hb h0 h1 h2 h3 h4 h5 h6 h7 h8)
        have hd_da : z_Drv L f40 dv 13 := z_Drv_fr hd_da hsb (fun b hb ht => hfm b hb (z_t0 ht hf_oo (m := 3) rfl (by decide)) (z_t0 ht hf_fi (m := 148) rfl (by decide)) (z_t0 ht hf_sp (m := 196) rfl (by decide)))
        have hf_ln : f40 ln = .inl (cy 1, 6, .inl G19) := (hfm ln hm_ln (z_tne hf_ln hf_oo (m := 148) (n := 3) rfl rfl (by decide)) ne_ln_fi (z_tne hf_ln hf_sp (m := 148) (n := 196) rfl rfl (by decide))).trans hf_ln
        have hf_wk : f40 wk = .inr (8, [.ref ks, .int w2_8, .ref ct, .ref se, .ref ow, .int t2_35, .int wd, .int wp]) := (hfm wk hm_wk (z_tne hf_wk hf_oo (m := 8) (n := 3) rfl rfl (by decide)) (z_tne hf_wk hf_fi (m := 8) (n := 148) rfl rfl (by decide)) (z_tne hf_wk hf_sp (m := 8) (n := 196) rfl rfl (by decide))).trans hf_wk
        have hf_ks : f40 ks = .inl (cy 1, 13, .inl k2_10) := (hfm ks hm_ks (z_tne hf_ks hf_oo (m := 204) (n := 3) rfl rfl (by decide)) (z_tne hf_ks hf_fi (m := 204) (n := 148) rfl rfl (by decide)) (z_tne hf_ks hf_sp (m := 204) (n := 196) rfl rfl (by decide))).trans hf_ks
        have hf_ct : f40 ct = .inl (cy 1, 4, .inl c2_36) := (hfm ct hm_ct (z_tne hf_ct hf_oo (m := 132) (n := 3) rfl rfl (by decide)) (z_tne hf_ct hf_fi (m := 132) (n := 148) rfl rfl (by decide)) (z_tne hf_ct hf_sp (m := 132) (n := 196) rfl rfl (by decide))).trans hf_ct
        have hf_se : f40 se = .inl (cy 1, 4, .inl q2_37) := (hfm se hm_se (z_tne hf_se hf_oo (m := 132) (n := 3) rfl rfl (by decide)) (z_tne hf_se hf_fi (m := 132) (n := 148) rfl rfl (by decide)) (z_tne hf_se hf_sp (m := 132) (n := 196) rfl rfl (by decide))).trans hf_se
        have hf_ow : f40 ow = .inl (cy 1, 5, .inl o2_13) := (hfm ow hm_ow (z_tne hf_ow hf_oo (m := 140) (n := 3) rfl rfl (by decide)) (z_tne hf_ow hf_fi (m := 140) (n := 148) rfl rfl (by decide)) (z_tne hf_ow hf_sp (m := 140) (n := 196) rfl rfl (by decide))).trans hf_ow
        have hf_mo : f40 mo = .inr (2, [.int v0, .int v1, .int v2, .int v3, .int v4, .int v5, .int v6, .ref la, .ref sa, .ref mi, .ref da]) := (hfm mo hm_mo (z_tne hf_mo hf_oo (m := 2) (n := 3) rfl rfl (by decide)) (z_tne hf_mo hf_fi (m := 2) (n := 148) rfl rfl (by decide)) (z_tne hf_mo hf_sp (m := 2) (n := 196) rfl rfl (by decide))).trans hf_mo
        have hf_la : f40 la = .inl (cy 1, 5, .inl gl) := (hfm la hm_la (z_tne hf_la hf_oo (m := 140) (n := 3) rfl rfl (by decide)) (z_tne hf_la hf_fi (m := 140) (n := 148) rfl rfl (by decide)) (z_tne hf_la hf_sp (m := 140) (n := 196) rfl rfl (by decide))).trans hf_la
        have hf_sa : f40 sa = .inl (cy 1, 4, .inl gs) := (hfm sa hm_sa (z_tne hf_sa hf_oo (m := 132) (n := 3) rfl rfl (by decide)) (z_tne hf_sa hf_fi (m := 132) (n := 148) rfl rfl (by decide)) (z_tne hf_sa hf_sp (m := 132) (n := 196) rfl rfl (by decide))).trans hf_sa
        have hf_mi : f40 mi = .inl (cy 1, 36, .inl gm) := (hfm mi hm_mi (z_tne hf_mi hf_oo (m := 388) (n := 3) rfl rfl (by decide)) (z_tne hf_mi hf_fi (m := 388) (n := 148) rfl rfl (by decide)) (z_tne hf_mi hf_sp (m := 388) (n := 196) rfl rfl (by decide))).trans hf_mi
        have hf_da : f40 da = .inl (cy 4, 13, .inr (.inr (.inr (.inr gd)))) := (hfm da hm_da (z_tne hf_da hf_oo (m := 206) (n := 3) rfl rfl (by decide)) (z_tne hf_da hf_fi (m := 206) (n := 148) rfl rfl (by decide)) (z_tne hf_da hf_sp (m := 206) (n := 196) rfl rfl (by decide))).trans hf_da
        have hf_sl : f40 sl = .inr (6, [.ref nb, .ref wi, .ref si]) := (hfm sl hm_sl (z_tne hf_sl hf_oo (m := 6) (n := 3) rfl rfl (by decide)) (z_tne hf_sl hf_fi (m := 6) (n := 148) rfl rfl (by decide)) (z_tne hf_sl hf_sp (m := 6) (n := 196) rfl rfl (by decide))).trans hf_sl
        have hf_nb : f40 nb = .inl (cy 6, 4, .inr (.inr (.inr (.inr gb)))) := (hfm nb hm_nb (z_tne hf_nb hf_oo (m := 134) (n := 3) rfl rfl (by decide)) (z_tne hf_nb hf_fi (m := 134) (n := 148) rfl rfl (by decide)) (z_tne hf_nb hf_sp (m := 134) (n := 196) rfl rfl (by decide))).trans hf_nb
        have hf_si : f40 si = .inl (cy 1, 4, .inl gz) := (hfm si hm_si (z_tne hf_si hf_oo (m := 132) (n := 3) rfl rfl (by decide)) (z_tne hf_si hf_fi (m := 132) (n := 148) rfl rfl (by decide)) (z_tne hf_si hf_sp (m := 132) (n := 196) rfl rfl (by decide))).trans hf_si
        have hf_rr : f40 rr = .inl (cy 2, 60, .inr (.inl gr)) := (hfm rr hm_rr (z_tne hf_rr hf_oo (m := 581) (n := 3) rfl rfl (by decide)) (z_tne hf_rr hf_fi (m := 581) (n := 148) rfl rfl (by decide)) (z_tne hf_rr hf_sp (m := 581) (n := 196) rfl rfl (by decide))).trans hf_rr
        have hf_oo : f40 oo = .inr (3, [.ref wk, .ref ln, .ref fi, .ref sp, .int om, .int f2_41]) := ha_0
        have hf_fi : f40 fi = .inl (cy 1, 6, .inl g2_42) := ha_1
        have hf_sp : f40 sp = .inl (cy 1, 12, .inl g3_43) := ha_2
        refine lv_aload_n hx hb dX3_search_100 rfl (lv_at hl 4 rfl) ?_
        refine z_calliV (cells := 0) (slots := 0) (b := oo) (As := []) (rest := []) (ci := 3) (q0 := (RX3, TX3, 6)) ⟨hx, hb, hml, hown, hT⟩ (c_X3_permute l hm_oo hm_ln hf_oo hf_ln (by first | omega | decide | assumption) hi2) (cwV 0 hT (z_goodV (fun _ h => h) kw_1035 kw_1037 kw_23 kw_94 kw_1038) rfl rfl rfl (by decide +kernel) ⟨by decide, by decide⟩) z_mv hKK hK hw hA hm_oo hf_oo rfl rfl rfl hl.1 rfl (Nat.le_of_ble_eq_true rfl) dX3_search_101 ⟨by decide, by decide⟩ (fun r44 u H locs hp hw => ?_)
        obtain ⟨L45, f46⟩ := u
        obtain ⟨hsb, hfm, g2_47, ha_0, hp⟩ := hp
        have hsb : L = L45 := hsb
        subst hsb
        have hsb : ∀ b ∈ L, b ∈ L := fun _ h => h
        have hw : z_H D vwCl (z_A L sz) s.heap L f46 H locs := hw
        have hfr : ∀ b ∈ L, b ≠ wk → b ≠ ks → b ≠ ct → b ≠ se → b ≠ ow → b ≠ oo → b ≠ ln → b ≠ fi → b ≠ sp → f46 b = f b := fun b hb h0 h1 h2 h3 h4 h5 h6 h7 h8 => (hfm b hb h6).trans (hfr b hb h0 h1 h2 h3 h4 h5 h6 h7 h8)
        have hd_da : z_Drv L f46 dv 13 := z_Drv_fr hd_da hsb (fun b hb ht => hfm b hb (z_t0 ht hf_ln (m := 148) rfl (by decide)))
        have hf_oo : f46 oo = .inr (3, [.ref wk, .ref ln, .ref fi, .ref sp, .int om, .int f2_41]) := (hfm oo hm_oo (z_tne hf_oo hf_ln (m := 3) (n := 148) rfl rfl (by decide))).trans hf_oo
        have hf_fi : f46 fi = .inl (cy 1, 6, .inl g2_42) := (hfm fi hm_fi (Ne.symm ne_ln_fi)).trans hf_fi
        have hf_sp : f46 sp = .inl (cy 1, 12, .inl g3_43) := (hfm sp hm_sp (z_tne hf_sp hf_ln (m := 196) (n := 148) rfl rfl (by decide))).trans hf_sp
        have hf_wk : f46 wk = .inr (8, [.ref ks, .int w2_8, .ref ct, .ref se, .ref ow, .int t2_35, .int wd, .int wp]) := (hfm wk hm_wk (z_tne hf_wk hf_ln (m := 8) (n := 148) rfl rfl (by decide))).trans hf_wk
        have hf_ks : f46 ks = .inl (cy 1, 13, .inl k2_10) := (hfm ks hm_ks (z_tne hf_ks hf_ln (m := 204) (n := 148) rfl rfl (by decide))).trans hf_ks
        have hf_ct : f46 ct = .inl (cy 1, 4, .inl c2_36) := (hfm ct hm_ct (z_tne hf_ct hf_ln (m := 132) (n := 148) rfl rfl (by decide))).trans hf_ct
        have hf_se : f46 se = .inl (cy 1, 4, .inl q2_37) := (hfm se hm_se (z_tne hf_se hf_ln (m := 132) (n := 148) rfl rfl (by decide))).trans hf_se
        have hf_ow : f46 ow = .inl (cy 1, 5, .inl o2_13) := (hfm ow hm_ow (z_tne hf_ow hf_ln (m := 140) (n := 148) rfl rfl (by decide))).trans hf_ow
        have hf_mo : f46 mo = .inr (2, [.int v0, .int v1, .int v2, .int v3, .int v4, .int v5, .int v6, .ref la, .ref sa, .ref mi, .ref da]) := (hfm mo hm_mo (z_tne hf_mo hf_ln (m := 2) (n := 148) rfl rfl (by decide))).trans hf_mo
        have hf_la : f46 la = .inl (cy 1, 5, .inl gl) := (hfm la hm_la (z_tne hf_la hf_ln (m := 140) (n := 148) rfl rfl (by decide))).trans hf_la
        have hf_sa : f46 sa = .inl (cy 1, 4, .inl gs) := (hfm sa hm_sa (z_tne hf_sa hf_ln (m := 132) (n := 148) rfl rfl (by decide))).trans hf_sa
        have hf_mi : f46 mi = .inl (cy 1, 36, .inl gm) := (hfm mi hm_mi (z_tne hf_mi hf_ln (m := 388) (n := 148) rfl rfl (by decide))).trans hf_mi
        have hf_da : f46 da = .inl (cy 4, 13, .inr (.inr (.inr (.inr gd)))) := (hfm da hm_da (z_tne hf_da hf_ln (m := 206) (n := 148) rfl rfl (by decide))).trans hf_da
        have hf_sl : f46 sl = .inr (6, [.ref nb, .ref wi, .ref si]) := (hfm sl hm_sl (z_tne hf_sl hf_ln (m := 6) (n := 148) rfl rfl (by decide))).trans hf_sl
        have hf_nb : f46 nb = .inl (cy 6, 4, .inr (.inr (.inr (.inr gb)))) := (hfm nb hm_nb (z_tne hf_nb hf_ln (m := 134) (n := 148) rfl rfl (by decide))).trans hf_nb
        have hf_si : f46 si = .inl (cy 1, 4, .inl gz) := (hfm si hm_si (z_tne hf_si hf_ln (m := 132) (n := 148) rfl rfl (by decide))).trans hf_si
        have hf_rr : f46 rr = .inl (cy 2, 60, .inr (.inl gr)) := (hfm rr hm_rr (z_tne hf_rr hf_ln (m := 581) (n := 148) rfl rfl (by decide))).trans hf_rr
        have hf_ln : f46 ln = .inl (cy 1, 6, .inl g2_47) := ha_0
        have hlp := hp.elim (fun h => h.2) (fun h => h.2)
        rcases hp with ⟨rfl, h48⟩ | ⟨rfl, h48⟩
        · skip
          refine lv_istore (lv' := [(8, .int 1), (9, .int K16), (7, .int w15), (6, .int r14), (0, .ref oo), (1, .ref mo), (2, .int ga), (3, .int dy), (4, .ref sl), (5, .int sn)]) hx hb dX3_search_104 hl (by decide) rfl (fun ls hl => ?_)
          obtain ⟨k49, e_k49⟩ : ∃ z : Int32, z = K16 + 1 := ⟨_, rfl⟩
          refine lv_iinc (v := k49) (lv' := [(9, .int k49), (8, .int 1), (7, .int w15), (6, .int r14), (0, .ref oo), (1, .ref mo), (2, .int ga), (3, .int dy), (4, .ref sl), (5, .int sn)]) hx hb dX3_search_106 hl (k := 1) rfl (by rw [e_k49]; rfl) (by decide) rfl (fun ls hl => ?_)
          have i_k49 : k49.toInt = (K16.toInt + 1) := z_add e_k49 rfl (by decide) (by omega)
          refine lv_goto (tgt := 48) hx hb dX3_search_109 (by decide) ?_
          exact ih_48 _ (by omega) _ _ _ ⟨k49, c2_36, q2_37, g2_47, g2_42, g3_43, f2_41, t2_35, 1, f46, rfl, (by first | decide | omega), (by first | decide | omega), (z_upto_mono (by omega) hce.1), (z_upto_mono (by omega) hce.2), hlp, hw, hf_oo, hf_ln, hf_fi, hf_sp, hf_wk, hf_ks, hf_ct, hf_se, hf_ow, hf_mo, hf_la, hf_sa, hf_mi, hf_da, hf_sl, hf_nb, hf_si, hf_rr, hfr, hd_da, (lv_sub hl [0, 1, 2, 3, 4, 5, 6, 7, 8, 9] rfl)⟩
        · skip
          refine lv_istore (lv' := [(8, .int 0), (9, .int K16), (7, .int w15), (6, .int r14), (0, .ref oo), (1, .ref mo), (2, .int ga), (3, .int dy), (4, .ref sl), (5, .int sn)]) hx hb dX3_search_104 hl (by decide) rfl (fun ls hl => ?_)
          obtain ⟨k50, e_k50⟩ : ∃ z : Int32, z = K16 + 1 := ⟨_, rfl⟩
          refine lv_iinc (v := k50) (lv' := [(9, .int k50), (8, .int 0), (7, .int w15), (6, .int r14), (0, .ref oo), (1, .ref mo), (2, .int ga), (3, .int dy), (4, .ref sl), (5, .int sn)]) hx hb dX3_search_106 hl (k := 1) rfl (by rw [e_k50]; rfl) (by decide) rfl (fun ls hl => ?_)
          have i_k50 : k50.toInt = (K16.toInt + 1) := z_add e_k50 rfl (by decide) (by omega)
          refine lv_goto (tgt := 48) hx hb dX3_search_109 (by decide) ?_
          exact ih_48 _ (by omega) _ _ _ ⟨k50, c2_36, q2_37, g2_47, g2_42, g3_43, f2_41, t2_35, 0, f46, rfl, (by first | decide | omega), (by first | decide | omega), (z_upto_mono (by omega) hce.1), (z_upto_mono (by omega) hce.2), hlp, hw, hf_oo, hf_ln, hf_fi, hf_sp, hf_wk, hf_ks, hf_ct, hf_se, hf_ow, hf_mo, hf_la, hf_sa, hf_mi, hf_da, hf_sl, hf_nb, hf_si, hf_rr, hfr, hd_da, (lv_sub hl [0, 1, 2, 3, 4, 5, 6, 7, 8, 9] rfl)⟩
      · skip
        refine z_if_eq (tgt := 100) hx hb (show (0 : Int32).toInt = 0 by decide) dX3_search_93 (by decide) (fun _ => ?_) (fun h => absurd h (by decide))
        refine lv_aload_n hx hb dX3_search_100 rfl (lv_at hl 4 rfl) ?_
        refine z_calliV (cells := 0) (slots := 0) (b := oo) (As := []) (rest := []) (ci := 3) (q0 := (RX3, TX3, 6)) ⟨hx, hb, hml, hown, hT⟩ (c_X3_permute l hm_oo hm_ln hf_oo hf_ln (by first | omega | decide | assumption) hi2) (cwV 0 hT (z_goodV (fun _ h => h) kw_1035 kw_1037 kw_23 kw_94 kw_1038) rfl rfl rfl (by decide +kernel) ⟨by decide, by decide⟩) z_mv hKK hK hw hA hm_oo hf_oo rfl rfl rfl hl.1 rfl (Nat.le_of_ble_eq_true rfl) dX3_search_101 ⟨by decide, by decide⟩ (fun r51 u H locs hp hw => ?_)
        obtain ⟨L52, f53⟩ := u
        obtain ⟨hsb, hfm, g2_54, ha_0, hp⟩ := hp
        have hsb : L = L52 := hsb
        subst hsb
        have hsb : ∀ b ∈ L, b ∈ L := fun _ h => h
        have hw : z_H D vwCl (z_A L sz) s.heap L f53 H locs := hw
        have hfr : ∀ b ∈ L, b ≠ wk → b ≠ ks → b ≠ ct → b ≠ se → b ≠ ow → b ≠ oo → b ≠ ln → b ≠ fi → b ≠ sp → f53 b = f b := fun b hb h0 h1 h2 h3 h4 h5 h6 h7 h8 => (hfm b hb h6).trans (hfr b hb h0 h1 h2 h3 h4 h5 h6 h7 h8)
        have hd_da : z_Drv L f53 dv 13 := z_Drv_fr hd_da hsb (fun b hb ht => hfm b hb (z_t0 ht hf_ln (m := 148) rfl (by decide)))
        have hf_oo : f53 oo = .inr (3, [.ref wk, .ref ln, .ref fi, .ref sp, .int om, .int OF18]) := (hfm oo hm_oo (z_tne hf_oo hf_ln (m := 3) (n := 148) rfl rfl (by decide))).trans hf_oo
        have hf_fi : f53 fi = .inl (cy 1, 6, .inl G20) := (hfm fi hm_fi (Ne.symm ne_ln_fi)).trans hf_fi
        have hf_sp : f53 sp = .inl (cy 1, 12, .inl G21) := (hfm sp hm_sp (z_tne hf_sp hf_ln (m := 196) (n := 148) rfl rfl (by decide))).trans hf_sp
        have hf_wk : f53 wk = .inr (8, [.ref ks, .int w2_8, .ref ct, .ref se, .ref ow, .int t2_35, .int wd, .int wp]) := (hfm wk hm_wk (z_tne hf_wk hf_ln (m := 8) (n := 148) rfl rfl (by decide))).trans hf_wk
        have hf_ks : f53 ks = .inl (cy 1, 13, .inl k2_10) := (hfm ks hm_ks (z_tne hf_ks hf_ln (m := 204) (n := 148) rfl rfl (by decide))).trans hf_ks
        have hf_ct : f53 ct = .inl (cy 1, 4, .inl c2_36) := (hfm ct hm_ct (z_tne hf_ct hf_ln (m := 132) (n := 148) rfl rfl (by decide))).trans hf_ct
        have hf_se : f53 se = .inl (cy 1, 4, .inl q2_37) := (hfm se hm_se (z_tne hf_se hf_ln (m := 132) (n := 148) rfl rfl (by decide))).trans hf_se
        have hf_ow : f53 ow = .inl (cy 1, 5, .inl o2_13) := (hfm ow hm_ow (z_tne hf_ow hf_ln (m := 140) (n := 148) rfl rfl (by decide))).trans hf_ow
        have hf_mo : f53 mo = .inr (2, [.int v0, .int v1, .int v2, .int v3, .int v4, .int v5, .int v6, .ref la, .ref sa, .ref mi, .ref da]) := (hfm mo hm_mo (z_tne hf_mo hf_ln (m := 2) (n := 148) rfl rfl (by decide))).trans hf_mo
        have hf_la : f53 la = .inl (cy 1, 5, .inl gl) := (hfm la hm_la (z_tne hf_la hf_ln (m := 140) (n := 148) rfl rfl (by decide))).trans hf_la
        have hf_sa : f53 sa = .inl (cy 1, 4, .inl gs) := (hfm sa hm_sa (z_tne hf_sa hf_ln (m := 132) (n := 148) rfl rfl (by decide))).trans hf_sa
        have hf_mi : f53 mi = .inl (cy 1, 36, .inl gm) := (hfm mi hm_mi (z_tne hf_mi hf_ln (m := 388) (n := 148) rfl rfl (by decide))).trans hf_mi
        have hf_da : f53 da = .inl (cy 4, 13, .inr (.inr (.inr (.inr gd)))) := (hfm da hm_da (z_tne hf_da hf_ln (m := 206) (n := 148) rfl rfl (by decide))).trans hf_da
        have hf_sl : f53 sl = .inr (6, [.ref nb, .ref wi, .ref si]) := (hfm sl hm_sl (z_tne hf_sl hf_ln (m := 6) (n := 148) rfl rfl (by decide))).trans hf_sl
        have hf_nb : f53 nb = .inl (cy 6, 4, .inr (.inr (.inr (.inr gb)))) := (hfm nb hm_nb (z_tne hf_nb hf_ln (m := 134) (n := 148) rfl rfl (by decide))).trans hf_nb
        have hf_si : f53 si = .inl (cy 1, 4, .inl gz) := (hfm si hm_si (z_tne hf_si hf_ln (m := 132) (n := 148) rfl rfl (by decide))).trans hf_si
        have hf_rr : f53 rr = .inl (cy 2, 60, .inr (.inl gr)) := (hfm rr hm_rr (z_tne hf_rr hf_ln (m := 581) (n := 148) rfl rfl (by decide))).trans hf_rr
        have hf_ln : f53 ln = .inl (cy 1, 6, .inl g2_54) := ha_0
        have hlp := hp.elim (fun h => h.2) (fun h => h.2)
        rcases hp with ⟨rfl, h55⟩ | ⟨rfl, h55⟩
        · skip
          refine lv_istore (lv' := [(8, .int 1), (9, .int K16), (7, .int w15), (6, .int r14), (0, .ref oo), (1, .ref mo), (2, .int ga), (3, .int dy), (4, .ref sl), (5, .int sn)]) hx hb dX3_search_104 hl (by decide) rfl (fun ls hl => ?_)
          obtain ⟨k56, e_k56⟩ : ∃ z : Int32, z = K16 + 1 := ⟨_, rfl⟩
          refine lv_iinc (v := k56) (lv' := [(9, .int k56), (8, .int 1), (7, .int w15), (6, .int r14), (0, .ref oo), (1, .ref mo), (2, .int ga), (3, .int dy), (4, .ref sl), (5, .int sn)]) hx hb dX3_search_106 hl (k := 1) rfl (by rw [e_k56]; rfl) (by decide) rfl (fun ls hl => ?_)
          have i_k56 : k56.toInt = (K16.toInt + 1) := z_add e_k56 rfl (by decide) (by omega)
          refine lv_goto (tgt := 48) hx hb dX3_search_109 (by decide) ?_
          exact ih_48 _ (by omega) _ _ _ ⟨k56, c2_36, q2_37, g2_54, G20, G21, OF18, t2_35, 1, f53, rfl, (by first | decide | omega), (by first | decide | omega), (z_upto_mono (by omega) hce.1), (z_upto_mono (by omega) hce.2), hlp, hw, hf_oo, hf_ln, hf_fi, hf_sp, hf_wk, hf_ks, hf_ct, hf_se, hf_ow, hf_mo, hf_la, hf_sa, hf_mi, hf_da, hf_sl, hf_nb, hf_si, hf_rr, hfr, hd_da, (lv_sub hl [0, 1, 2, 3, 4, 5, 6, 7, 8, 9] rfl)⟩
        · skip
          refine lv_istore (lv' := [(8, .int 0), (9, .int K16), (7, .int w15), (6, .int r14), (0, .ref oo), (1, .ref mo), (2, .int ga), (3, .int dy), (4, .ref sl), (5, .int sn)]) hx hb dX3_search_104 hl (by decide) rfl (fun ls hl => ?_)
          obtain ⟨k57, e_k57⟩ : ∃ z : Int32, z = K16 + 1 := ⟨_, rfl⟩
          refine lv_iinc (v := k57) (lv' := [(9, .int k57), (8, .int 0), (7, .int w15), (6, .int r14), (0, .ref oo), (1, .ref mo), (2, .int ga), (3, .int dy), (4, .ref sl), (5, .int sn)]) hx hb dX3_search_106 hl (k := 1) rfl (by rw [e_k57]; rfl) (by decide) rfl (fun ls hl => ?_)
          have i_k57 : k57.toInt = (K16.toInt + 1) := z_add e_k57 rfl (by decide) (by omega)
          refine lv_goto (tgt := 48) hx hb dX3_search_109 (by decide) ?_
          exact ih_48 _ (by omega) _ _ _ ⟨k57, c2_36, q2_37, g2_54, G20, G21, OF18, t2_35, 0, f53, rfl, (by first | decide | omega), (by first | decide | omega), (z_upto_mono (by omega) hce.1), (z_upto_mono (by omega) hce.2), hlp, hw, hf_oo, hf_ln, hf_fi, hf_sp, hf_wk, hf_ks, hf_ct, hf_se, hf_ow, hf_mo, hf_la, hf_sa, hf_mi, hf_da, hf_sl, hf_nb, hf_si, hf_rr, hfr, hd_da, (lv_sub hl [0, 1, 2, 3, 4, 5, 6, 7, 8, 9] rfl)⟩
