set_option maxHeartbeats 2000000 in
set_option maxRecDepth 100000 in
theorem c_X4_think (l : Launch) {D : va_G} {cy : Nat → ClassId} {L : List Nat} {f : Nat → va_E} {sz : Nat} {adK adV : Nat → Nat} {wk : Nat} {pl ot : Nat} {p3 p4 p5 p6 p7 p8 p9 p10 p11 : Int32}  {mo la sa mi da : Nat} {v0 v1 v2 v3 v4 v5 v6 : Int32} {gl gs gm : Nat → Int32} {gd : Nat → Option Nat} {dv : Nat → Nat} {xmo xla xsa xmi xda : Nat} {xv0 xv1 xv2 xv3 xv4 xv5 xv6 : Int32} {xgl xgs xgm : Nat → Int32} {xgd : Nat → Option Nat} {xdv : Nat → Nat} (hm_pl : pl ∈ L) (hm_mo : mo ∈ L) (hm_la : la ∈ L) (hm_sa : sa ∈ L) (hm_mi : mi ∈ L) (hm_da : da ∈ L) (hm_xmo : xmo ∈ L) (hm_xla : xla ∈ L) (hm_xsa : xsa ∈ L) (hm_xmi : xmi ∈ L) (hm_xda : xda ∈ L) (hf_pl : f pl = .inr (4, [.ref mo, .ref wk, .ref ot, .int p3, .int p4, .int p5, .int p6, .int p7, .int p8, .int p9, .int p10, .int p11])) (hf_mo : f mo = .inr (2, [.int v0, .int v1, .int v2, .int v3, .int v4, .int v5, .int v6, .ref la, .ref sa, .ref mi, .ref da])) (hf_la : f la = .inl (cy 1, 5, .inl gl)) (hf_sa : f sa = .inl (cy 1, 4, .inl gs)) (hf_mi : f mi = .inl (cy 1, 36, .inl gm)) (hf_da : f da = .inl (cy 4, 13, .inr (.inr (.inr (.inr gd))))) (hf_xmo : f xmo = .inr (2, [.int xv0, .int xv1, .int xv2, .int xv3, .int xv4, .int xv5, .int xv6, .ref xla, .ref xsa, .ref xmi, .ref xda])) (hf_xla : f xla = .inl (cy 1, 5, .inl xgl)) (hf_xsa : f xsa = .inl (cy 1, 4, .inl xgs)) (hf_xmi : f xmi = .inl (cy 1, 36, .inl xgm)) (hf_xda : f xda = .inl (cy 4, 13, .inr (.inr (.inr (.inr xgd))))) (ne_mo_xmo : mo ≠ xmo) (ne_la_xla : la ≠ xla) (ne_sa_xsa : sa ≠ xsa) (ne_mi_xmi : mi ≠ xmi) (ne_da_xda : da ≠ xda) (hg_da : ∀ i : Nat, i < 13 → gd i = some (dv i)) (hd_da : z_Drv L f dv 13) (hg_xda : ∀ i : Nat, i < 13 → xgd i = some (xdv i)) (hd_xda : z_Drv L f xdv 13) (hdd : ∀ i : Nat, i < 13 → dv i ≠ xdv i) (hv5 : 0 ≤ xv5.toInt ∧ xv5.toInt ≤ 13) : Met l yX4_think (z_ws yX4_think cX4_think 2 none) (z_R 3 0 0) (va_Pc [.ref pl, .ref xmo] (z_Pre D vwCl (z_KK D cy adK adV) L f sz)) (z_Qv D vwCl (fun u => L = u.1 ∧ (∀ b ∈ L, b ≠ mo → b ≠ la → b ≠ sa → b ≠ mi → (∀ i : Nat, i < 13 → b ≠ dv i) → u.2 b = f b) ∧ (∃ (h1 h2 h3 : Nat → Int32), (u.2 mo = .inr (2, [.int xv0, .int xv1, .int xv2, .int xv3, .int xv4, .int xv5, .int xv6, .ref la, .ref sa, .ref mi, .ref da])) ∧ (u.2 la = .inl (cy 1, 5, .inl h1)) ∧ (u.2 sa = .inl (cy 1, 4, .inl h2)) ∧ (u.2 mi = .inl (cy 1, 36, .inl h3)) ∧ (z_Drv u.1 u.2 dv 13) ∧ ((∀ j : Nat, j < 5 → h1 j = xgl j) ∧ (∀ j : Nat, j < 4 → h2 j = xgs j) ∧ ∀ j : Nat, j < 36 → h3 j = xgm j))) L sz) 0 0 (z_A L sz) := by
  refine z_met (cc := cX4_think) (maxL := 2) (ret := none) (lv := [(0, .ref pl), (1, .ref xmo)]) (by decide) rfl (Nat.le_of_ble_eq_true rfl) rfl ?_
  intro p e s m below meth c ls hx hb hr hlk hml hown hnm hts hKK hA hw hl
  have hK := hKK.1.1
  have hown : s.vm.findClass RX4 = some m.cls := hown
  have hT : ∀ w ∈ lw_all, w.before ([.ref pl, .ref xmo] : List Value).toArray s = true := fun w h => hts w (z_cons w h)
  have hsub : L = L := rfl
  have hfr : ∀ b ∈ L, b ≠ mo → b ≠ la → b ≠ sa → b ≠ mi → (∀ i : Nat, i < 13 → b ≠ dv i) → f b = f b := fun _ _ _ _ _ _ _ => rfl
  refine lv_aload_n hx hb dX4_think_0 rfl (lv_at hl 0 rfl) ?_
  refine z_get (C := RX4) (T := TX4) (N := 12) (ci := 4) (v := .ref mo) hx hb hT zin_X4 hown hK hw hm_pl hf_pl rfl 0 (by decide) (hT _ kw_384) rfl dX4_think_1 ?_
  refine lv_aload_n hx hb dX4_think_4 rfl (lv_at hl 1 rfl) ?_
  refine z_callvV (cells := 0) (slots := 0) (b := mo) (As := [.ref xmo]) (rest := []) (ci := 2) (q0 := (RX2, TX2, 11)) ⟨hx, hb, hml, hown, hT⟩ (c_X2_copy l hm_mo hm_la hm_sa hm_mi hm_da hm_xmo hm_xla hm_xsa hm_xmi hm_xda hf_mo hf_la hf_sa hf_mi hf_da hf_xmo hf_xla hf_xsa hf_xmi hf_xda ne_mo_xmo ne_la_xla ne_sa_xsa ne_mi_xmi ne_da_xda hg_da hd_da hg_xda hd_xda hdd (by first | omega | decide | assumption)) (cwV 1 hT (z_goodV (fun _ h => h) kw_903 kw_691 kw_692 kw_87 kw_693) rfl rfl rfl (by decide +kernel) ⟨by decide, by decide⟩) z_mv hKK hK hw hA hm_mo hf_mo rfl rfl rfl hl.1 rfl (Nat.le_of_ble_eq_true rfl) dX4_think_5 ⟨by decide, by decide⟩ (fun u H locs hp hw => ?_)
  obtain ⟨L1, f2⟩ := u
  obtain ⟨hsb, hfm, h1_3, h2_4, h3_5, ha_0, ha_1, ha_2, ha_3, hv_da, hp⟩ := hp
  have hsb : L = L1 := hsb
  subst hsb
  have hsb : ∀ b ∈ L, b ∈ L := fun _ h => h
  have hw : z_H D vwCl (z_A L sz) s.heap L f2 H locs := hw
  have hdo_da := hd_da
  have hfr : ∀ b ∈ L, b ≠ mo → b ≠ la → b ≠ sa → b ≠ mi → (∀ i : Nat, i < 13 → b ≠ dv i) → f2 b = f b := fun b hb h0 h1 h2 h3 hp0 => (hfm b hb h0 h1 h2 h3 hp0).trans (hfr b hb h0 h1 h2 h3 hp0)
  have hd_da : z_Drv L f2 dv 13 := hv_da
  have hd_xda : z_Drv L f2 xdv 13 := z_Drv_fr2 hd_xda hv_da hsb (fun b hb ht hq => hfm b hb (z_t0 ht hf_mo (m := 2) rfl (by decide)) (z_t0 ht hf_la (m := 140) rfl (by decide)) (z_t0 ht hf_sa (m := 132) rfl (by decide)) (z_t0 ht hf_mi (m := 388) rfl (by decide)) hq)
  have hf_pl : f2 pl = .inr (4, [.ref mo, .ref wk, .ref ot, .int p3, .int p4, .int p5, .int p6, .int p7, .int p8, .int p9, .int p10, .int p11]) := (hfm pl hm_pl (z_tne hf_pl hf_mo (m := 4) (n := 2) rfl rfl (by decide)) (z_tne hf_pl hf_la (m := 4) (n := 140) rfl rfl (by decide)) (z_tne hf_pl hf_sa (m := 4) (n := 132) rfl rfl (by decide)) (z_tne hf_pl hf_mi (m := 4) (n := 388) rfl rfl (by decide)) (z_Drv_ne hdo_da hf_pl (m := 4) rfl (by decide))).trans hf_pl
  have hf_da : f2 da = .inl (cy 4, 13, .inr (.inr (.inr (.inr gd)))) := (hfm da hm_da (z_tne hf_da hf_mo (m := 206) (n := 2) rfl rfl (by decide)) (z_tne hf_da hf_la (m := 206) (n := 140) rfl rfl (by decide)) (z_tne hf_da hf_sa (m := 206) (n := 132) rfl rfl (by decide)) (z_tne hf_da hf_mi (m := 206) (n := 388) rfl rfl (by decide)) (z_Drv_ne hdo_da hf_da (m := 206) rfl (by decide))).trans hf_da
  have hf_xmo : f2 xmo = .inr (2, [.int xv0, .int xv1, .int xv2, .int xv3, .int xv4, .int xv5, .int xv6, .ref xla, .ref xsa, .ref xmi, .ref xda]) := (hfm xmo hm_xmo (Ne.symm ne_mo_xmo) (z_tne hf_xmo hf_la (m := 2) (n := 140) rfl rfl (by decide)) (z_tne hf_xmo hf_sa (m := 2) (n := 132) rfl rfl (by decide)) (z_tne hf_xmo hf_mi (m := 2) (n := 388) rfl rfl (by decide)) (z_Drv_ne hdo_da hf_xmo (m := 2) rfl (by decide))).trans hf_xmo
  have hf_xla : f2 xla = .inl (cy 1, 5, .inl xgl) := (hfm xla hm_xla (z_tne hf_xla hf_mo (m := 140) (n := 2) rfl rfl (by decide)) (Ne.symm ne_la_xla) (z_tne hf_xla hf_sa (m := 140) (n := 132) rfl rfl (by decide)) (z_tne hf_xla hf_mi (m := 140) (n := 388) rfl rfl (by decide)) (z_Drv_ne hdo_da hf_xla (m := 140) rfl (by decide))).trans hf_xla
  have hf_xsa : f2 xsa = .inl (cy 1, 4, .inl xgs) := (hfm xsa hm_xsa (z_tne hf_xsa hf_mo (m := 132) (n := 2) rfl rfl (by decide)) (z_tne hf_xsa hf_la (m := 132) (n := 140) rfl rfl (by decide)) (Ne.symm ne_sa_xsa) (z_tne hf_xsa hf_mi (m := 132) (n := 388) rfl rfl (by decide)) (z_Drv_ne hdo_da hf_xsa (m := 132) rfl (by decide))).trans hf_xsa
  have hf_xmi : f2 xmi = .inl (cy 1, 36, .inl xgm) := (hfm xmi hm_xmi (z_tne hf_xmi hf_mo (m := 388) (n := 2) rfl rfl (by decide)) (z_tne hf_xmi hf_la (m := 388) (n := 140) rfl rfl (by decide)) (z_tne hf_xmi hf_sa (m := 388) (n := 132) rfl rfl (by decide)) (Ne.symm ne_mi_xmi) (z_Drv_ne hdo_da hf_xmi (m := 388) rfl (by decide))).trans hf_xmi
  have hf_xda : f2 xda = .inl (cy 4, 13, .inr (.inr (.inr (.inr xgd)))) := (hfm xda hm_xda (z_tne hf_xda hf_mo (m := 206) (n := 2) rfl rfl (by decide)) (z_tne hf_xda hf_la (m := 206) (n := 140) rfl rfl (by decide)) (z_tne hf_xda hf_sa (m := 206) (n := 132) rfl rfl (by decide)) (z_tne hf_xda hf_mi (m := 206) (n := 388) rfl rfl (by decide)) (z_Drv_ne hdo_da hf_xda (m := 206) rfl (by decide))).trans hf_xda
  have hf_mo : f2 mo = .inr (2, [.int xv0, .int xv1, .int xv2, .int xv3, .int xv4, .int xv5, .int xv6, .ref la, .ref sa, .ref mi, .ref da]) := ha_0
  have hf_la : f2 la = .inl (cy 1, 5, .inl h1_3) := ha_1
  have hf_sa : f2 sa = .inl (cy 1, 4, .inl h2_4) := ha_2
  have hf_mi : f2 mi = .inl (cy 1, 36, .inl h3_5) := ha_3
  have hcp := hp
  exact z_vret hx hb hr hlk (by decide) (by decide) hw (⟨hsub, hfr, h1_3, h2_4, h3_5, hf_mo, hf_la, hf_sa, hf_mi, hd_da, hcp⟩) dX4_think_8

set_option maxHeartbeats 2000000 in
set_option maxRecDepth 100000 in
theorem c_X4_settle (l : Launch) {D : va_G} {cy : Nat → ClassId} {L : List Nat} {f : Nat → va_E} {sz : Nat} {adK adV : Nat → Nat} {pl ot : Nat} {p3 p4 p5 p6 p7 p8 p9 p10 p11 : Int32} {gx : Nat → Int32} {wk ks ct se ow : Nat} {wn wt wd wp : Int32} {gk gc gq go : Nat → Int32} {mo la sa mi da : Nat} {v0 v1 v2 v3 v4 v5 v6 : Int32} {gl gs gm : Nat → Int32} {gd : Nat → Option Nat} {dv : Nat → Nat} {nn : Int32} (hm_pl : pl ∈ L) (hm_ot : ot ∈ L) (hm_wk : wk ∈ L) (hm_ks : ks ∈ L) (hm_ct : ct ∈ L) (hm_se : se ∈ L) (hm_ow : ow ∈ L) (hm_mo : mo ∈ L) (hm_la : la ∈ L) (hm_sa : sa ∈ L) (hm_mi : mi ∈ L) (hm_da : da ∈ L) (hf_pl : f pl = .inr (4, [.ref mo, .ref wk, .ref ot, .int p3, .int p4, .int p5, .int p6, .int p7, .int p8, .int p9, .int p10, .int p11])) (hf_ot : f ot = .inl (cy 1, 216, .inl gx)) (hf_wk : f wk = .inr (8, [.ref ks, .int wn, .ref ct, .ref se, .ref ow, .int wt, .int wd, .int wp])) (hf_ks : f ks = .inl (cy 1, 13, .inl gk)) (hf_ct : f ct = .inl (cy 1, 4, .inl gc)) (hf_se : f se = .inl (cy 1, 4, .inl gq)) (hf_ow : f ow = .inl (cy 1, 5, .inl go)) (hf_mo : f mo = .inr (2, [.int v0, .int v1, .int v2, .int v3, .int v4, .int v5, .int v6, .ref la, .ref sa, .ref mi, .ref da])) (hf_la : f la = .inl (cy 1, 5, .inl gl)) (hf_sa : f sa = .inl (cy 1, 4, .inl gs)) (hf_mi : f mi = .inl (cy 1, 36, .inl gm)) (hf_da : f da = .inl (cy 4, 13, .inr (.inr (.inr (.inr gd))))) (ne_ct_se : ct ≠ se) (ne_ct_sa : ct ≠ sa) (ne_se_sa : se ≠ sa) (ne_ow_la : ow ≠ la) (hg_da : ∀ i : Nat, i < 13 → gd i = some (dv i)) (hd_da : z_Drv L f dv 13) (hv2 : 0 ≤ v2.toInt ∧ v2.toInt ≤ 9) (hv5 : 0 ≤ v5.toInt ∧ v5.toInt ≤ 13) (hv1 : 0 ≤ v1.toInt ∧ v1.toInt ≤ 4) (hgk : ∀ j : Nat, z_key (gk j)) (hgm : ∀ j : Nat, 0 ≤ (gm j).toInt ∧ (gm j).toInt ≤ 9) (hp4 : 0 ≤ p4.toInt ∧ p4.toInt ≤ 3) (hp5 : 0 ≤ p5.toInt ∧ p5.toInt ≤ 23) (hwn : 0 ≤ wn.toInt ∧ wn.toInt ≤ 13) (hnn : 0 ≤ nn.toInt ∧ nn.toInt ≤ 999) : Met l yX4_settle (z_ws yX4_settle cX4_settle 4 (some .int)) (z_R 7 0 0) (va_Pc [.ref pl, .int nn] (z_Pre D vwCl (z_KK D cy adK adV) L f sz)) (z_Qi D vwCl (fun r u => L = u.1 ∧ (∀ b ∈ L, b ≠ pl → b ≠ ot → b ≠ wk → b ≠ ks → b ≠ ct → b ≠ se → b ≠ ow → (∀ i : Nat, i < 13 → b ≠ dv i) → u.2 b = f b) ∧ (∃ (w2 t2 q3 q4 q5 : Int32) (k2 c2 s2 o2 x2 : Nat → Int32), (u.2 pl = .inr (4, [.ref mo, .ref wk, .ref ot, .int q3, .int q4, .int q5, .int p6, .int p7, .int p8, .int p9, .int p10, .int p11])) ∧ (u.2 ot = .inl (cy 1, 216, .inl x2)) ∧ (u.2 wk = .inr (8, [.ref ks, .int w2, .ref ct, .ref se, .ref ow, .int t2, .int wd, .int wp])) ∧ (u.2 ks = .inl (cy 1, 13, .inl k2)) ∧ (u.2 ct = .inl (cy 1, 4, .inl c2)) ∧ (u.2 se = .inl (cy 1, 4, .inl s2)) ∧ (u.2 ow = .inl (cy 1, 5, .inl o2)) ∧ (z_Drv u.1 u.2 dv 13) ∧ ((0 ≤ w2.toInt ∧ w2.toInt ≤ 13) ∧ (0 ≤ q4.toInt ∧ q4.toInt ≤ 3) ∧ (0 ≤ q5.toInt ∧ q5.toInt ≤ 23) ∧ ∀ j : Nat, z_key (k2 j)))) L sz) 0 0 (z_A L sz) := by
  refine z_met (cc := cX4_settle) (maxL := 4) (ret := (some .int)) (lv := [(0, .ref pl), (1, .int nn)]) (by decide) rfl (Nat.le_of_ble_eq_true rfl) rfl ?_
  intro p e s m below meth c ls hx hb hr hlk hml hown hnm hts hKK hA hw hl
  have hK := hKK.1.1
  have hown : s.vm.findClass RX4 = some m.cls := hown
  have hT : ∀ w ∈ lw_all, w.before ([.ref pl, .int nn] : List Value).toArray s = true := fun w h => hts w (z_cons w h)
  have hsub : L = L := rfl
  have hfr : ∀ b ∈ L, b ≠ pl → b ≠ ot → b ≠ wk → b ≠ ks → b ≠ ct → b ≠ se → b ≠ ow → (∀ i : Nat, i < 13 → b ≠ dv i) → f b = f b := fun _ _ _ _ _ _ _ _ _ _ => rfl
  refine lv_iconst (v := 0) hx hb dX4_settle_0 (by decide) ?_
  refine lv_istore_n (lv' := [(2, .int 0), (0, .ref pl), (1, .int nn)]) hx hb dX4_settle_1 rfl hl (by decide) rfl (fun ls hl => ?_)
  have hzk : (0 : Int32).toInt = 0 := by decide
  refine z_loop (fun n H locs ls => ∃ (K1 : Int32) (G9 : Nat → Int32) (G10 : Nat → Int32) (G11 : Nat → Int32) (G12 : Nat → Int32) (G6 : Nat → Int32) (PA3 : Int32) (PG4 : Int32) (PH5 : Int32) (WN7 : Int32) (WT8 : Int32) (f2 : Nat → va_E), (n = (nn.toInt + 1 - K1.toInt).toNat) ∧ (0 ≤ K1.toInt) ∧ (K1.toInt ≤ nn.toInt + 1) ∧ (0 ≤ PG4.toInt ∧ PG4.toInt ≤ 3) ∧ (0 ≤ PH5.toInt ∧ PH5.toInt ≤ 23) ∧ (0 ≤ WN7.toInt ∧ WN7.toInt ≤ 13) ∧ (∀ j : Nat, z_key (G9 j)) ∧ (z_H D vwCl (z_A L sz) s.heap L f2 H locs) ∧ (f2 pl = .inr (4, [.ref mo, .ref wk, .ref ot, .int PA3, .int PG4, .int PH5, .int p6, .int p7, .int p8, .int p9, .int p10, .int p11])) ∧ (f2 ot = .inl (cy 1, 216, .inl G6)) ∧ (f2 wk = .inr (8, [.ref ks, .int WN7, .ref ct, .ref se, .ref ow, .int WT8, .int wd, .int wp])) ∧ (f2 ks = .inl (cy 1, 13, .inl G9)) ∧ (f2 ct = .inl (cy 1, 4, .inl G10)) ∧ (f2 se = .inl (cy 1, 4, .inl G11)) ∧ (f2 ow = .inl (cy 1, 5, .inl G12)) ∧ (f2 mo = .inr (2, [.int v0, .int v1, .int v2, .int v3, .int v4, .int v5, .int v6, .ref la, .ref sa, .ref mi, .ref da])) ∧ (f2 la = .inl (cy 1, 5, .inl gl)) ∧ (f2 sa = .inl (cy 1, 4, .inl gs)) ∧ (f2 mi = .inl (cy 1, 36, .inl gm)) ∧ (f2 da = .inl (cy 4, 13, .inr (.inr (.inr (.inr gd))))) ∧ (∀ b ∈ L, b ≠ pl → b ≠ ot → b ≠ wk → b ≠ ks → b ≠ ct → b ≠ se → b ≠ ow → (∀ i : Nat, i < 13 → b ≠ dv i) → f2 b = f b) ∧ (z_Drv L f2 dv 13) ∧ (lv_has ls 4 [(2, .int K1), (0, .ref pl), (1, .int nn)])) _ ⟨0, gk, gc, gq, go, gx, p3, p4, p5, wn, wt, f, rfl, (by first | decide | omega), (by first | decide | omega), (by omega), (by omega), (by omega), hgk, hw, hf_pl, hf_ot, hf_wk, hf_ks, hf_ct, hf_se, hf_ow, hf_mo, hf_la, hf_sa, hf_mi, hf_da, hfr, hd_da, (lv_sub hl [0, 1, 2] rfl)⟩ (fun n H locs ls hI ih_2 => ?_)
  obtain ⟨K1, G9, G10, G11, G12, G6, PA3, PG4, PH5, WN7, WT8, f2, hn, hk0, hk1, hi0, hi1, hi2, hi3, hw, hf_pl, hf_ot, hf_wk, hf_ks, hf_ct, hf_se, hf_ow, hf_mo, hf_la, hf_sa, hf_mi, hf_da, hfr, hd_da, hl⟩ := hI
  refine lv_iload_n hx hb dX4_settle_2 rfl (lv_at hl 0 rfl) ?_
  refine lv_iload_n hx hb dX4_settle_3 rfl (lv_at hl 2 rfl) ?_
  refine z_icmp_gt (tgt := 62) hx hb rfl rfl dX4_settle_4 (by decide) (fun c13 => ?_) (fun c13 => ?_)
  · skip
    refine lv_iconst (v := (-1)) hx hb dX4_settle_62 (by decide) ?_
    exact z_iret hx hb hr hlk (by decide) (by decide) hw (⟨hsub, hfr, WN7, WT8, PA3, PG4, PH5, G9, G10, G11, G12, G6, hf_pl, hf_ot, hf_wk, hf_ks, hf_ct, hf_se, hf_ow, hd_da, by omega, by omega, by omega, hi3⟩) dX4_settle_63
  · skip
    refine lv_aload_n hx hb dX4_settle_7 rfl (lv_at hl 1 rfl) ?_
    refine z_calliV (cells := 0) (slots := 0) (b := pl) (As := []) (rest := []) (ci := 4) (q0 := (RX4, TX4, 12)) ⟨hx, hb, hml, hown, hT⟩ (c_X4_restless l hm_pl hm_ot hm_wk hm_ks hm_ct hm_se hm_ow hm_mo hm_la hm_sa hm_mi hm_da hf_pl hf_ot hf_wk hf_ks hf_ct hf_se hf_ow hf_mo hf_la hf_sa hf_mi hf_da ne_ct_se ne_ct_sa ne_se_sa ne_ow_la hg_da hd_da (by first | omega | decide | assumption) (by first | omega | decide | assumption) (by first | omega | decide | assumption) hi3 hgm (by first | omega | decide | assumption) (by first | omega | decide | assumption) (by first | omega | decide | assumption)) (cwV 0 hT (z_goodV (fun _ h => h) kw_947 kw_935 kw_936 kw_93 kw_937) rfl rfl rfl (by decide +kernel) ⟨by decide, by decide⟩) z_mv hKK hK hw hA hm_pl hf_pl rfl rfl rfl hl.1 rfl (Nat.le_of_ble_eq_true rfl) dX4_settle_8 ⟨by decide, by decide⟩ (fun r14 u H locs hp hw => ?_)
    obtain ⟨L15, f16⟩ := u
    obtain ⟨hsb, hfm, w2_17, t2_18, q3_19, q4_20, q5_21, k2_22, c2_23, s2_24, o2_25, x2_26, ha_0, ha_1, ha_2, ha_3, ha_4, ha_5, ha_6, hv_da, hp⟩ := hp
    have hsb : L = L15 := hsb
    subst hsb
    have hsb : ∀ b ∈ L, b ∈ L := fun _ h => h
    have hw : z_H D vwCl (z_A L sz) s.heap L f16 H locs := hw
    have hdo_da := hd_da
    have hfr : ∀ b ∈ L, b ≠ pl → b ≠ ot → b ≠ wk → b ≠ ks → b ≠ ct → b ≠ se → b ≠ ow → (∀ i : Nat, i < 13 → b ≠ dv i) → f16 b = f b := fun b hb h0 h1 h2 h3 h4 h5 h6 hp0 => (hfm b hb h0 h1 h2 h3 h4 h5 h6 hp0).trans (hfr b hb h0 h1 h2 h3 h4 h5 h6 hp0)
    have hd_da : z_Drv L f16 dv 13 := hv_da
    have hf_mo : f16 mo = .inr (2, [.int v0, .int v1, .int v2, .int v3, .int v4, .int v5, .int v6, .ref la, .ref sa, .ref mi, .ref da]) := (hfm mo hm_mo (z_tne hf_mo hf_pl (m := 2) (n := 4) rfl rfl (by decide)) (z_tne hf_mo hf_ot (m := 2) (n := 1828) rfl rfl (by decide)) (z_tne hf_mo hf_wk (m := 2) (n := 8) rfl rfl (by decide)) (z_tne hf_mo hf_ks (m := 2) (n := 204) rfl rfl (by decide)) (z_tne hf_mo hf_ct (m := 2) (n := 132) rfl rfl (by decide)) (z_tne hf_mo hf_se (m := 2) (n := 132) rfl rfl (by decide)) (z_tne hf_mo hf_ow (m := 2) (n := 140) rfl rfl (by decide)) (z_Drv_ne hdo_da hf_mo (m := 2) rfl (by decide))).trans hf_mo
    have hf_la : f16 la = .inl (cy 1, 5, .inl gl) := (hfm la hm_la (z_tne hf_la hf_pl (m := 140) (n := 4) rfl rfl (by decide)) (z_tne hf_la hf_ot (m := 140) (n := 1828) rfl rfl (by decide)) (z_tne hf_la hf_wk (m := 140) (n := 8) rfl rfl (by decide)) (z_tne hf_la hf_ks (m := 140) (n := 204) rfl rfl (by decide)) (z_tne hf_la hf_ct (m := 140) (n := 132) rfl rfl (by decide)) (z_tne hf_la hf_se (m := 140) (n := 132) rfl rfl (by decide)) (Ne.symm ne_ow_la) (z_Drv_ne hdo_da hf_la (m := 140) rfl (by decide))).trans hf_la
    have hf_sa : f16 sa = .inl (cy 1, 4, .inl gs) := (hfm sa hm_sa (z_tne hf_sa hf_pl (m := 132) (n := 4) rfl rfl (by decide)) (z_tne hf_sa hf_ot (m := 132) (n := 1828) rfl rfl (by decide)) (z_tne hf_sa hf_wk (m := 132) (n := 8) rfl rfl (by decide)) (z_tne hf_sa hf_ks (m := 132) (n := 204) rfl rfl (by decide)) (Ne.symm ne_ct_sa) (Ne.symm ne_se_sa) (z_tne hf_sa hf_ow (m := 132) (n := 140) rfl rfl (by decide)) (z_Drv_ne hdo_da hf_sa (m := 132) rfl (by decide))).trans hf_sa
    have hf_mi : f16 mi = .inl (cy 1, 36, .inl gm) := (hfm mi hm_mi (z_tne hf_mi hf_pl (m := 388) (n := 4) rfl rfl (by decide)) (z_tne hf_mi hf_ot (m := 388) (n := 1828) rfl rfl (by decide)) (z_tne hf_mi hf_wk (m := 388) (n := 8) rfl rfl (by decide)) (z_tne hf_mi hf_ks (m := 388) (n := 204) rfl rfl (by decide)) (z_tne hf_mi hf_ct (m := 388) (n := 132) rfl rfl (by decide)) (z_tne hf_mi hf_se (m := 388) (n := 132) rfl rfl (by decide)) (z_tne hf_mi hf_ow (m := 388) (n := 140) rfl rfl (by decide)) (z_Drv_ne hdo_da hf_mi (m := 388) rfl (by decide))).trans hf_mi
    have hf_da : f16 da = .inl (cy 4, 13, .inr (.inr (.inr (.inr gd)))) := (hfm da hm_da (z_tne hf_da hf_pl (m := 206) (n := 4) rfl rfl (by decide)) (z_tne hf_da hf_ot (m := 206) (n := 1828) rfl rfl (by decide)) (z_tne hf_da hf_wk (m := 206) (n := 8) rfl rfl (by decide)) (z_tne hf_da hf_ks (m := 206) (n := 204) rfl rfl (by decide)) (z_tne hf_da hf_ct (m := 206) (n := 132) rfl rfl (by decide)) (z_tne hf_da hf_se (m := 206) (n := 132) rfl rfl (by decide)) (z_tne hf_da hf_ow (m := 206) (n := 140) rfl rfl (by decide)) (z_Drv_ne hdo_da hf_da (m := 206) rfl (by decide))).trans hf_da
    have hf_pl : f16 pl = .inr (4, [.ref mo, .ref wk, .ref ot, .int q3_19, .int q4_20, .int q5_21, .int p6, .int p7, .int p8, .int p9, .int p10, .int p11]) := ha_0
    have hf_ot : f16 ot = .inl (cy 1, 216, .inl x2_26) := ha_1
    have hf_wk : f16 wk = .inr (8, [.ref ks, .int w2_17, .ref ct, .ref se, .ref ow, .int t2_18, .int wd, .int wp]) := ha_2
    have hf_ks : f16 ks = .inl (cy 1, 13, .inl k2_22) := ha_3
    have hf_ct : f16 ct = .inl (cy 1, 4, .inl c2_23) := ha_4
    have hf_se : f16 se = .inl (cy 1, 4, .inl s2_24) := ha_5
    have hf_ow : f16 ow = .inl (cy 1, 5, .inl o2_25) := ha_6
    have hbg27 := hp
    refine lv_istore_n (lv' := [(3, .int r14), (2, .int K1), (0, .ref pl), (1, .int nn)]) hx hb dX4_settle_11 rfl hl (by decide) rfl (fun ls hl => ?_)
    refine lv_iload_n hx hb dX4_settle_12 rfl (lv_at hl 0 rfl) ?_
    refine lv_iconst (v := (-1)) hx hb dX4_settle_13 (by decide) ?_
    refine z_icmp_ne (tgt := 19) hx hb rfl (show ((-1) : Int32).toInt = (-1) by decide) dX4_settle_14 (by decide) (fun c28 => ?_) (fun c28 => ?_)
    · skip
      refine lv_iload_n hx hb dX4_settle_19 rfl (lv_at hl 1 rfl) ?_
      refine lv_iload_n hx hb dX4_settle_20 rfl (lv_at hl 3 rfl) ?_
      refine z_icmp_ge (tgt := 56) hx hb rfl rfl dX4_settle_21 (by decide) (fun c29 => ?_) (fun c29 => ?_)
      · skip
        obtain ⟨k30, e_k30⟩ : ∃ z : Int32, z = K1 + 1 := ⟨_, rfl⟩
        refine lv_iinc (v := k30) (lv' := [(2, .int k30), (3, .int r14), (0, .ref pl), (1, .int nn)]) hx hb dX4_settle_56 hl (k := 1) rfl (by rw [e_k30]; rfl) (by decide) rfl (fun ls hl => ?_)
        have i_k30 : k30.toInt = (K1.toInt + 1) := z_add e_k30 rfl (by decide) (by omega)
        refine lv_goto (tgt := 2) hx hb dX4_settle_59 (by decide) ?_
        exact ih_2 _ (by omega) _ _ _ ⟨k30, k2_22, c2_23, s2_24, o2_25, x2_26, q3_19, q4_20, q5_21, w2_17, t2_18, f16, rfl, (by first | decide | omega), (by first | decide | omega), (by omega), (by omega), (by omega), hbg27.2.2.2.2, hw, hf_pl, hf_ot, hf_wk, hf_ks, hf_ct, hf_se, hf_ow, hf_mo, hf_la, hf_sa, hf_mi, hf_da, hfr, hd_da, (lv_sub hl [0, 2, 3] rfl)⟩
      · skip
        refine lv_aload_n hx hb dX4_settle_24 rfl (lv_at hl 2 rfl) ?_
        refine z_get (C := RX4) (T := TX4) (N := 12) (ci := 4) (v := .ref mo) hx hb hT zin_X4 hown hK hw hm_pl hf_pl rfl 0 (by decide) (hT _ kw_384) rfl dX4_settle_25 ?_
        refine z_get (C := RX2) (T := TX2) (N := 11) (ci := 2) (v := .ref da) hx hb hT zin_X2 hown hK hw hm_mo hf_mo rfl 10 (by decide) (hT _ kw_243) rfl dX4_settle_28 ?_
        refine lv_iload_n hx hb dX4_settle_31 rfl (lv_at hl 0 rfl) ?_
        obtain ⟨dq31, e_dq31⟩ : ∃ z, z = dv r14.toNatClampNeg := ⟨_, rfl⟩
        have hi_dq31 : r14.toNatClampNeg < 13 := z_clI rfl (by omega)
        refine z_aald (b := dq31) hx hb hK hw 4 hm_da hf_da rfl (z_ix rfl (by omega)) (by rw [e_dq31]; exact hg_da _ hi_dq31) dX4_settle_32 ?_
        obtain ⟨hm_dq31, do32, dg33, dd34, dh35, ds36, dl37, dp38, dm39, hf_dq31, hr_do32, hr_dg33, hr_dd34, hr_dh35, hr_ds36, hr_dl37, hr_dp38, hr_dm39⟩ := hd_da _ hi_dq31
        rw [← e_dq31] at hm_dq31 hf_dq31
        refine lv_aload_n hx hb dX4_settle_33 rfl (lv_at hl 2 rfl) ?_
        refine z_get (C := RX4) (T := TX4) (N := 12) (ci := 4) (v := .int q4_20) hx hb hT zin_X4 hown hK hw hm_pl hf_pl rfl 4 (by decide) (hT _ kw_390) rfl dX4_settle_34 ?_
        refine z_put (C := RX0) (T := TX0) (N := 8) (ci := 0) (v := .int q4_20) (fs' := [.int do32, .int q4_20, .int dd34, .int dh35, .int ds36, .int dl37, .int dp38, .int dm39]) hx hb hT zin_X0 tyX0_ok nmX0 hown hK hw hm_dq31 hf_dq31 rfl 1 (by decide) (hT _ kw_146) rfl rfl rfl (Nat.le_of_ble_eq_true rfl) rfl dX4_settle_37 (fun H locs hw => ?_)
        obtain ⟨f40, e_f40⟩ : ∃ z, z = va_up f16 dq31 (.inr (0, [.int do32, .int q4_20, .int dd34, .int dh35, .int ds36, .int dl37, .int dp38, .int dm39])) := ⟨_, rfl⟩
        rw [← e_f40] at hw
        have hf_pl : f40 pl = .inr (4, [.ref mo, .ref wk, .ref ot, .int q3_19, .int q4_20, .int q5_21, .int p6, .int p7, .int p8, .int p9, .int p10, .int p11]) := (congrFun e_f40 pl).trans (z_up_ne (z_tne hf_pl hf_dq31 (m := 4) (n := 0) rfl rfl (by decide)) hf_pl)
        have hf_ot : f40 ot = .inl (cy 1, 216, .inl x2_26) := (congrFun e_f40 ot).trans (z_up_ne (z_tne hf_ot hf_dq31 (m := 1828) (n := 0) rfl rfl (by decide)) hf_ot)
        have hf_wk : f40 wk = .inr (8, [.ref ks, .int w2_17, .ref ct, .ref se, .ref ow, .int t2_18, .int wd, .int wp]) := (congrFun e_f40 wk).trans (z_up_ne (z_tne hf_wk hf_dq31 (m := 8) (n := 0) rfl rfl (by decide)) hf_wk)
        have hf_ks : f40 ks = .inl (cy 1, 13, .inl k2_22) := (congrFun e_f40 ks).trans (z_up_ne (z_tne hf_ks hf_dq31 (m := 204) (n := 0) rfl rfl (by decide)) hf_ks)
        have hf_ct : f40 ct = .inl (cy 1, 4, .inl c2_23) := (congrFun e_f40 ct).trans (z_up_ne (z_tne hf_ct hf_dq31 (m := 132) (n := 0) rfl rfl (by decide)) hf_ct)
        have hf_se : f40 se = .inl (cy 1, 4, .inl s2_24) := (congrFun e_f40 se).trans (z_up_ne (z_tne hf_se hf_dq31 (m := 132) (n := 0) rfl rfl (by decide)) hf_se)
        have hf_ow : f40 ow = .inl (cy 1, 5, .inl o2_25) := (congrFun e_f40 ow).trans (z_up_ne (z_tne hf_ow hf_dq31 (m := 140) (n := 0) rfl rfl (by decide)) hf_ow)
        have hf_mo : f40 mo = .inr (2, [.int v0, .int v1, .int v2, .int v3, .int v4, .int v5, .int v6, .ref la, .ref sa, .ref mi, .ref da]) := (congrFun e_f40 mo).trans (z_up_ne (z_tne hf_mo hf_dq31 (m := 2) (n := 0) rfl rfl (by decide)) hf_mo)
        have hf_la : f40 la = .inl (cy 1, 5, .inl gl) := (congrFun e_f40 la).trans (z_up_ne (z_tne hf_la hf_dq31 (m := 140) (n := 0) rfl rfl (by decide)) hf_la)
        have hf_sa : f40 sa = .inl (cy 1, 4, .inl gs) := (congrFun e_f40 sa).trans (z_up_ne (z_tne hf_sa hf_dq31 (m := 132) (n := 0) rfl rfl (by decide)) hf_sa)
        have hf_mi : f40 mi = .inl (cy 1, 36, .inl gm) := (congrFun e_f40 mi).trans (z_up_ne (z_tne hf_mi hf_dq31 (m := 388) (n := 0) rfl rfl (by decide)) hf_mi)
        have hf_da : f40 da = .inl (cy 4, 13, .inr (.inr (.inr (.inr gd)))) := (congrFun e_f40 da).trans (z_up_ne (z_tne hf_da hf_dq31 (m := 206) (n := 0) rfl rfl (by decide)) hf_da)
        have hd_da : z_Drv L f40 dv 13 := z_Drv_set hd_da e_f40 ⟨_, _, _, _, _, _, _, _, rfl, by first | omega | decide, by first | omega | decide, by first | omega | decide, by first | omega | decide, by first | omega | decide, by first | omega | decide, by first | omega | decide, by first | omega | decide⟩
        have hf_dq31 : f40 dq31 = .inr (0, [.int do32, .int q4_20, .int dd34, .int dh35, .int ds36, .int dl37, .int dp38, .int dm39]) := (congrFun e_f40 dq31).trans z_up_self
        have hfr : ∀ b ∈ L, b ≠ pl → b ≠ ot → b ≠ wk → b ≠ ks → b ≠ ct → b ≠ se → b ≠ ow → (∀ i : Nat, i < 13 → b ≠ dv i) → f40 b = f b := fun b hb h0 h1 h2 h3 h4 h5 h6 hp0 => (congrFun e_f40 b).trans (z_up_ne (by rw [e_dq31]; exact hp0 _ hi_dq31) (hfr b hb h0 h1 h2 h3 h4 h5 h6 hp0))
        refine lv_aload_n hx hb dX4_settle_40 rfl (lv_at hl 2 rfl) ?_
        refine z_get (C := RX4) (T := TX4) (N := 12) (ci := 4) (v := .ref mo) hx hb hT zin_X4 hown hK hw hm_pl hf_pl rfl 0 (by decide) (hT _ kw_384) rfl dX4_settle_41 ?_
        refine z_get (C := RX2) (T := TX2) (N := 11) (ci := 2) (v := .ref da) hx hb hT zin_X2 hown hK hw hm_mo hf_mo rfl 10 (by decide) (hT _ kw_243) rfl dX4_settle_44 ?_
        refine lv_iload_n hx hb dX4_settle_47 rfl (lv_at hl 0 rfl) ?_
        obtain ⟨dq41, e_dq41⟩ : ∃ z, z = dv r14.toNatClampNeg := ⟨_, rfl⟩
        have hi_dq41 : r14.toNatClampNeg < 13 := z_clI rfl (by omega)
        refine z_aald (b := dq41) hx hb hK hw 4 hm_da hf_da rfl (z_ix rfl (by omega)) (by rw [e_dq41]; exact hg_da _ hi_dq41) dX4_settle_48 ?_
        obtain ⟨hm_dq41, do42, dg43, dd44, dh45, ds46, dl47, dp48, dm49, hf_dq41, hr_do42, hr_dg43, hr_dd44, hr_dh45, hr_ds46, hr_dl47, hr_dp48, hr_dm49⟩ := hd_da _ hi_dq41
        rw [← e_dq41] at hm_dq41 hf_dq41
        refine lv_aload_n hx hb dX4_settle_49 rfl (lv_at hl 2 rfl) ?_
        refine z_get (C := RX4) (T := TX4) (N := 12) (ci := 4) (v := .int q5_21) hx hb hT zin_X4 hown hK hw hm_pl hf_pl rfl 5 (by decide) (hT _ kw_392) rfl dX4_settle_50 ?_
        refine z_put (C := RX0) (T := TX0) (N := 8) (ci := 0) (v := .int q5_21) (fs' := [.int do42, .int dg43, .int dd44, .int q5_21, .int ds46, .int dl47, .int dp48, .int dm49]) hx hb hT zin_X0 tyX0_ok nmX0 hown hK hw hm_dq41 hf_dq41 rfl 3 (by decide) (hT _ kw_158) rfl rfl rfl (Nat.le_of_ble_eq_true rfl) rfl dX4_settle_53 (fun H locs hw => ?_)
        obtain ⟨f50, e_f50⟩ : ∃ z, z = va_up f40 dq41 (.inr (0, [.int do42, .int dg43, .int dd44, .int q5_21, .int ds46, .int dl47, .int dp48, .int dm49])) := ⟨_, rfl⟩
        rw [← e_f50] at hw
        have hf_pl : f50 pl = .inr (4, [.ref mo, .ref wk, .ref ot, .int q3_19, .int q4_20, .int q5_21, .int p6, .int p7, .int p8, .int p9, .int p10, .int p11]) := (congrFun e_f50 pl).trans (z_up_ne (z_tne hf_pl hf_dq41 (m := 4) (n := 0) rfl rfl (by decide)) hf_pl)
        have hf_ot : f50 ot = .inl (cy 1, 216, .inl x2_26) := (congrFun e_f50 ot).trans (z_up_ne (z_tne hf_ot hf_dq41 (m := 1828) (n := 0) rfl rfl (by decide)) hf_ot)
        have hf_wk : f50 wk = .inr (8, [.ref ks, .int w2_17, .ref ct, .ref se, .ref ow, .int t2_18, .int wd, .int wp]) := (congrFun e_f50 wk).trans (z_up_ne (z_tne hf_wk hf_dq41 (m := 8) (n := 0) rfl rfl (by decide)) hf_wk)
        have hf_ks : f50 ks = .inl (cy 1, 13, .inl k2_22) := (congrFun e_f50 ks).trans (z_up_ne (z_tne hf_ks hf_dq41 (m := 204) (n := 0) rfl rfl (by decide)) hf_ks)
        have hf_ct : f50 ct = .inl (cy 1, 4, .inl c2_23) := (congrFun e_f50 ct).trans (z_up_ne (z_tne hf_ct hf_dq41 (m := 132) (n := 0) rfl rfl (by decide)) hf_ct)
        have hf_se : f50 se = .inl (cy 1, 4, .inl s2_24) := (congrFun e_f50 se).trans (z_up_ne (z_tne hf_se hf_dq41 (m := 132) (n := 0) rfl rfl (by decide)) hf_se)
        have hf_ow : f50 ow = .inl (cy 1, 5, .inl o2_25) := (congrFun e_f50 ow).trans (z_up_ne (z_tne hf_ow hf_dq41 (m := 140) (n := 0) rfl rfl (by decide)) hf_ow)
        have hf_mo : f50 mo = .inr (2, [.int v0, .int v1, .int v2, .int v3, .int v4, .int v5, .int v6, .ref la, .ref sa, .ref mi, .ref da]) := (congrFun e_f50 mo).trans (z_up_ne (z_tne hf_mo hf_dq41 (m := 2) (n := 0) rfl rfl (by decide)) hf_mo)
        have hf_la : f50 la = .inl (cy 1, 5, .inl gl) := (congrFun e_f50 la).trans (z_up_ne (z_tne hf_la hf_dq41 (m := 140) (n := 0) rfl rfl (by decide)) hf_la)
        have hf_sa : f50 sa = .inl (cy 1, 4, .inl gs) := (congrFun e_f50 sa).trans (z_up_ne (z_tne hf_sa hf_dq41 (m := 132) (n := 0) rfl rfl (by decide)) hf_sa)
        have hf_mi : f50 mi = .inl (cy 1, 36, .inl gm) := (congrFun e_f50 mi).trans (z_up_ne (z_tne hf_mi hf_dq41 (m := 388) (n := 0) rfl rfl (by decide)) hf_mi)
        have hf_da : f50 da = .inl (cy 4, 13, .inr (.inr (.inr (.inr gd)))) := (congrFun e_f50 da).trans (z_up_ne (z_tne hf_da hf_dq41 (m := 206) (n := 0) rfl rfl (by decide)) hf_da)
        have hd_da : z_Drv L f50 dv 13 := z_Drv_set hd_da e_f50 ⟨_, _, _, _, _, _, _, _, rfl, by first | omega | decide, by first | omega | decide, by first | omega | decide, by first | omega | decide, by first | omega | decide, by first | omega | decide, by first | omega | decide, by first | omega | decide⟩
        have hf_dq41 : f50 dq41 = .inr (0, [.int do42, .int dg43, .int dd44, .int q5_21, .int ds46, .int dl47, .int dp48, .int dm49]) := (congrFun e_f50 dq41).trans z_up_self
        have hfr : ∀ b ∈ L, b ≠ pl → b ≠ ot → b ≠ wk → b ≠ ks → b ≠ ct → b ≠ se → b ≠ ow → (∀ i : Nat, i < 13 → b ≠ dv i) → f50 b = f b := fun b hb h0 h1 h2 h3 h4 h5 h6 hp0 => (congrFun e_f50 b).trans (z_up_ne (by rw [e_dq41]; exact hp0 _ hi_dq41) (hfr b hb h0 h1 h2 h3 h4 h5 h6 hp0))
        obtain ⟨k51, e_k51⟩ : ∃ z : Int32, z = K1 + 1 := ⟨_, rfl⟩
        refine lv_iinc (v := k51) (lv' := [(2, .int k51), (3, .int r14), (0, .ref pl), (1, .int nn)]) hx hb dX4_settle_56 hl (k := 1) rfl (by rw [e_k51]; rfl) (by decide) rfl (fun ls hl => ?_)
        have i_k51 : k51.toInt = (K1.toInt + 1) := z_add e_k51 rfl (by decide) (by omega)
        refine lv_goto (tgt := 2) hx hb dX4_settle_59 (by decide) ?_
        exact ih_2 _ (by omega) _ _ _ ⟨k51, k2_22, c2_23, s2_24, o2_25, x2_26, q3_19, q4_20, q5_21, w2_17, t2_18, f50, rfl, (by first | decide | omega), (by first | decide | omega), (by omega), (by omega), (by omega), hbg27.2.2.2.2, hw, hf_pl, hf_ot, hf_wk, hf_ks, hf_ct, hf_se, hf_ow, hf_mo, hf_la, hf_sa, hf_mi, hf_da, hfr, hd_da, (lv_sub hl [0, 2, 3] rfl)⟩
    · skip
      refine lv_iload_n hx hb dX4_settle_17 rfl (lv_at hl 1 rfl) ?_
      exact z_iret hx hb hr hlk (by decide) (by decide) hw (⟨hsub, hfr, w2_17, t2_18, q3_19, q4_20, q5_21, k2_22, c2_23, s2_24, o2_25, x2_26, hf_pl, hf_ot, hf_wk, hf_ks, hf_ct, hf_se, hf_ow, hd_da, by omega, by omega, by omega, hbg27.2.2.2.2⟩) dX4_settle_18

set_option maxHeartbeats 2000000 in
set_option maxRecDepth 100000 in
theorem c_X4_tellEwe (l : Launch) {D : va_G} {cy : Nat → ClassId} {L : List Nat} {f : Nat → va_E} {sz : Nat} {adK adV : Nat → Nat} {pl ot : Nat} {p3 p4 p5 p6 p7 p8 p9 p10 p11 : Int32}  {wk ks ct se ow : Nat} {wn wt wd wp : Int32} {gk gc gq go : Nat → Int32} {mo la sa mi da : Nat} {v0 v1 v2 v3 v4 v5 v6 : Int32} {gl gs gm : Nat → Int32} {gd : Nat → Option Nat} {dv : Nat → Nat} {on ga dy : Int32} (hm_pl : pl ∈ L) (hm_wk : wk ∈ L) (hm_ks : ks ∈ L) (hm_ct : ct ∈ L) (hm_se : se ∈ L) (hm_ow : ow ∈ L) (hm_mo : mo ∈ L) (hm_la : la ∈ L) (hm_sa : sa ∈ L) (hm_mi : mi ∈ L) (hm_da : da ∈ L) (hf_pl : f pl = .inr (4, [.ref mo, .ref wk, .ref ot, .int p3, .int p4, .int p5, .int p6, .int p7, .int p8, .int p9, .int p10, .int p11])) (hf_wk : f wk = .inr (8, [.ref ks, .int wn, .ref ct, .ref se, .ref ow, .int wt, .int wd, .int wp])) (hf_ks : f ks = .inl (cy 1, 13, .inl gk)) (hf_ct : f ct = .inl (cy 1, 4, .inl gc)) (hf_se : f se = .inl (cy 1, 4, .inl gq)) (hf_ow : f ow = .inl (cy 1, 5, .inl go)) (hf_mo : f mo = .inr (2, [.int v0, .int v1, .int v2, .int v3, .int v4, .int v5, .int v6, .ref la, .ref sa, .ref mi, .ref da])) (hf_la : f la = .inl (cy 1, 5, .inl gl)) (hf_sa : f sa = .inl (cy 1, 4, .inl gs)) (hf_mi : f mi = .inl (cy 1, 36, .inl gm)) (hf_da : f da = .inl (cy 4, 13, .inr (.inr (.inr (.inr gd))))) (ne_ct_se : ct ≠ se) (ne_ct_sa : ct ≠ sa) (ne_se_sa : se ≠ sa) (ne_ow_la : ow ≠ la) (hg_da : ∀ i : Nat, i < 13 → gd i = some (dv i)) (hd_da : z_Drv L f dv 13) (hv2 : 0 ≤ v2.toInt ∧ v2.toInt ≤ 9) (hv5 : 0 ≤ v5.toInt ∧ v5.toInt ≤ 12) (hgk : ∀ j : Nat, z_key (gk j)) (hgm : ∀ j : Nat, 0 ≤ (gm j).toInt ∧ (gm j).toInt ≤ 9) (hon : 0 ≤ on.toInt ∧ on.toInt ≤ 4) (hga : 0 ≤ ga.toInt ∧ ga.toInt ≤ 3) (hdy : 0 ≤ dy.toInt ∧ dy.toInt ≤ 8) : Met l yX4_tellEwe (z_ws yX4_tellEwe cX4_tellEwe 5 none) (z_R 6 0 0) (va_Pc [.ref pl, .int on, .int ga, .int dy] (z_Pre D vwCl (z_KK D cy adK adV) L f sz)) (z_Qv D vwCl (fun u => L = u.1 ∧ (∀ b ∈ L, b ≠ pl → b ≠ mo → b ≠ wk → b ≠ ks → b ≠ ct → b ≠ se → b ≠ ow → (∀ i : Nat, i < 13 → b ≠ dv i) → u.2 b = f b) ∧ (∃ (q11 y5 : Int32) (w2 t2 : Int32) (k2 c2 s2 o2 : Nat → Int32), (u.2 pl = .inr (4, [.ref mo, .ref wk, .ref ot, .int p3, .int p4, .int p5, .int p6, .int p7, .int p8, .int p9, .int on, .int q11])) ∧ (u.2 mo = .inr (2, [.int v0, .int v1, .int v2, .int v3, .int v4, .int y5, .int v6, .ref la, .ref sa, .ref mi, .ref da])) ∧ (u.2 wk = .inr (8, [.ref ks, .int w2, .ref ct, .ref se, .ref ow, .int t2, .int wd, .int wp])) ∧ (u.2 ks = .inl (cy 1, 13, .inl k2)) ∧ (u.2 ct = .inl (cy 1, 4, .inl c2)) ∧ (u.2 se = .inl (cy 1, 4, .inl s2)) ∧ (u.2 ow = .inl (cy 1, 5, .inl o2)) ∧ (z_Drv u.1 u.2 dv 13) ∧ (y5.toInt = v5.toInt + 1 ∧ (0 ≤ w2.toInt ∧ w2.toInt ≤ 13) ∧ ∀ j : Nat, z_key (k2 j)))) L sz) 0 0 (z_A L sz) := by
  refine z_met (cc := cX4_tellEwe) (maxL := 5) (ret := none) (lv := [(0, .ref pl), (1, .int on), (2, .int ga), (3, .int dy)]) (by decide) rfl (Nat.le_of_ble_eq_true rfl) rfl ?_
  intro p e s m below meth c ls hx hb hr hlk hml hown hnm hts hKK hA hw hl
  have hK := hKK.1.1
  have hown : s.vm.findClass RX4 = some m.cls := hown
  have hT : ∀ w ∈ lw_all, w.before ([.ref pl, .int on, .int ga, .int dy] : List Value).toArray s = true := fun w h => hts w (z_cons w h)
  have hsub : L = L := rfl
  have hfr : ∀ b ∈ L, b ≠ pl → b ≠ mo → b ≠ wk → b ≠ ks → b ≠ ct → b ≠ se → b ≠ ow → (∀ i : Nat, i < 13 → b ≠ dv i) → f b = f b := fun _ _ _ _ _ _ _ _ _ _ => rfl
  refine lv_aload_n hx hb dX4_tellEwe_0 rfl (lv_at hl 0 rfl) ?_
  refine lv_iload_n hx hb dX4_tellEwe_1 rfl (lv_at hl 1 rfl) ?_
  refine z_put (C := RX4) (T := TX4) (N := 12) (ci := 4) (v := .int on) (fs' := [.ref mo, .ref wk, .ref ot, .int p3, .int p4, .int p5, .int p6, .int p7, .int p8, .int p9, .int on, .int p11]) hx hb hT zin_X4 tyX4_ok nmX4 hown hK hw hm_pl hf_pl rfl 10 (by decide) (hT _ kw_402) rfl rfl rfl (Nat.le_of_ble_eq_true rfl) rfl dX4_tellEwe_2 (fun H locs hw => ?_)
  obtain ⟨f1, e_f1⟩ : ∃ z, z = va_up f pl (.inr (4, [.ref mo, .ref wk, .ref ot, .int p3, .int p4, .int p5, .int p6, .int p7, .int p8, .int p9, .int on, .int p11])) := ⟨_, rfl⟩
  rw [← e_f1] at hw
  have hf_wk : f1 wk = .inr (8, [.ref ks, .int wn, .ref ct, .ref se, .ref ow, .int wt, .int wd, .int wp]) := (congrFun e_f1 wk).trans (z_up_ne (z_tne hf_wk hf_pl (m := 8) (n := 4) rfl rfl (by decide)) hf_wk)
  have hf_ks : f1 ks = .inl (cy 1, 13, .inl gk) := (congrFun e_f1 ks).trans (z_up_ne (z_tne hf_ks hf_pl (m := 204) (n := 4) rfl rfl (by decide)) hf_ks)
  have hf_ct : f1 ct = .inl (cy 1, 4, .inl gc) := (congrFun e_f1 ct).trans (z_up_ne (z_tne hf_ct hf_pl (m := 132) (n := 4) rfl rfl (by decide)) hf_ct)
  have hf_se : f1 se = .inl (cy 1, 4, .inl gq) := (congrFun e_f1 se).trans (z_up_ne (z_tne hf_se hf_pl (m := 132) (n := 4) rfl rfl (by decide)) hf_se)
  have hf_ow : f1 ow = .inl (cy 1, 5, .inl go) := (congrFun e_f1 ow).trans (z_up_ne (z_tne hf_ow hf_pl (m := 140) (n := 4) rfl rfl (by decide)) hf_ow)
  have hf_mo : f1 mo = .inr (2, [.int v0, .int v1, .int v2, .int v3, .int v4, .int v5, .int v6, .ref la, .ref sa, .ref mi, .ref da]) := (congrFun e_f1 mo).trans (z_up_ne (z_tne hf_mo hf_pl (m := 2) (n := 4) rfl rfl (by decide)) hf_mo)
  have hf_la : f1 la = .inl (cy 1, 5, .inl gl) := (congrFun e_f1 la).trans (z_up_ne (z_tne hf_la hf_pl (m := 140) (n := 4) rfl rfl (by decide)) hf_la)
  have hf_sa : f1 sa = .inl (cy 1, 4, .inl gs) := (congrFun e_f1 sa).trans (z_up_ne (z_tne hf_sa hf_pl (m := 132) (n := 4) rfl rfl (by decide)) hf_sa)
  have hf_mi : f1 mi = .inl (cy 1, 36, .inl gm) := (congrFun e_f1 mi).trans (z_up_ne (z_tne hf_mi hf_pl (m := 388) (n := 4) rfl rfl (by decide)) hf_mi)
  have hf_da : f1 da = .inl (cy 4, 13, .inr (.inr (.inr (.inr gd)))) := (congrFun e_f1 da).trans (z_up_ne (z_tne hf_da hf_pl (m := 206) (n := 4) rfl rfl (by decide)) hf_da)
  have hd_da : z_Drv L f1 dv 13 := z_Drv_up hd_da e_f1 hf_pl (m := 4) rfl (by decide)
  have hf_pl : f1 pl = .inr (4, [.ref mo, .ref wk, .ref ot, .int p3, .int p4, .int p5, .int p6, .int p7, .int p8, .int p9, .int on, .int p11]) := (congrFun e_f1 pl).trans z_up_self
  have hfr : ∀ b ∈ L, b ≠ pl → b ≠ mo → b ≠ wk → b ≠ ks → b ≠ ct → b ≠ se → b ≠ ow → (∀ i : Nat, i < 13 → b ≠ dv i) → f1 b = f b := fun b hb h0 h1 h2 h3 h4 h5 h6 hp0 => (congrFun e_f1 b).trans (z_up_ne h0 (hfr b hb h0 h1 h2 h3 h4 h5 h6 hp0))
  refine lv_aload_n hx hb dX4_tellEwe_5 rfl (lv_at hl 0 rfl) ?_
  refine lv_aload_n hx hb dX4_tellEwe_6 rfl (lv_at hl 0 rfl) ?_
  refine z_get (C := RX4) (T := TX4) (N := 12) (ci := 4) (v := .ref wk) hx hb hT zin_X4 hown hK hw hm_pl hf_pl rfl 1 (by decide) (hT _ kw_386) rfl dX4_tellEwe_7 ?_
  refine lv_aload_n hx hb dX4_tellEwe_10 rfl (lv_at hl 0 rfl) ?_
  refine z_get (C := RX4) (T := TX4) (N := 12) (ci := 4) (v := .ref mo) hx hb hT zin_X4 hown hK hw hm_pl hf_pl rfl 0 (by decide) (hT _ kw_384) rfl dX4_tellEwe_11 ?_
  refine lv_iload_n hx hb dX4_tellEwe_14 rfl (lv_at hl 1 rfl) ?_
  refine z_calliV (cells := 0) (slots := 0) (b := wk) (As := [.ref mo, .int on]) (rest := [.ref pl]) (ci := 8) (q0 := (RX8, TX8, 8)) ⟨hx, hb, hml, hown, hT⟩ (c_X8_sumOfOthers l hm_wk hm_ks hm_ct hm_se hm_ow hm_mo hm_la hm_sa hm_mi hm_da hf_wk hf_ks hf_ct hf_se hf_ow hf_mo hf_la hf_sa hf_mi hf_da ne_ct_se ne_ct_sa ne_se_sa ne_ow_la hg_da hd_da (by first | omega | decide | assumption) (by first | omega | decide | assumption) hgk hgm (by first | omega | decide | assumption)) (cwV 2 hT (z_goodV (fun _ h => h) kw_968 kw_957 kw_958 kw_92 kw_959) rfl rfl rfl (by decide +kernel) ⟨by decide, by decide⟩) z_mv hKK hK hw hA hm_wk hf_wk rfl rfl rfl hl.1 rfl (Nat.le_of_ble_eq_true rfl) dX4_tellEwe_15 ⟨by decide, by decide⟩ (fun r2 u H locs hp hw => ?_)
  obtain ⟨L3, f4⟩ := u
  obtain ⟨hsb, hfm, w2_5, t2_6, k2_7, c2_8, q2_9, o2_10, ha_0, ha_1, ha_2, ha_3, ha_4, hp⟩ := hp
  have hsb : L = L3 := hsb
  subst hsb
  have hsb : ∀ b ∈ L, b ∈ L := fun _ h => h
  have hw : z_H D vwCl (z_A L sz) s.heap L f4 H locs := hw
  have hfr : ∀ b ∈ L, b ≠ pl → b ≠ mo → b ≠ wk → b ≠ ks → b ≠ ct → b ≠ se → b ≠ ow → (∀ i : Nat, i < 13 → b ≠ dv i) → f4 b = f b := fun b hb h0 h1 h2 h3 h4 h5 h6 hp0 => (hfm b hb h2 h3 h4 h5 h6).trans (hfr b hb h0 h1 h2 h3 h4 h5 h6 hp0)
  have hd_da : z_Drv L f4 dv 13 := z_Drv_fr hd_da hsb (fun b hb ht => hfm b hb (z_t0 ht hf_wk (m := 8) rfl (by decide)) (z_t0 ht hf_ks (m := 204) rfl (by decide)) (z_t0 ht hf_ct (m := 132) rfl (by decide)) (z_t0 ht hf_se (m := 132) rfl (by decide)) (z_t0 ht hf_ow (m := 140) rfl (by decide)))
  have hf_pl : f4 pl = .inr (4, [.ref mo, .ref wk, .ref ot, .int p3, .int p4, .int p5, .int p6, .int p7, .int p8, .int p9, .int on, .int p11]) := (hfm pl hm_pl (z_tne hf_pl hf_wk (m := 4) (n := 8) rfl rfl (by decide)) (z_tne hf_pl hf_ks (m := 4) (n := 204) rfl rfl (by decide)) (z_tne hf_pl hf_ct (m := 4) (n := 132) rfl rfl (by decide)) (z_tne hf_pl hf_se (m := 4) (n := 132) rfl rfl (by decide)) (z_tne hf_pl hf_ow (m := 4) (n := 140) rfl rfl (by decide))).trans hf_pl
  have hf_mo : f4 mo = .inr (2, [.int v0, .int v1, .int v2, .int v3, .int v4, .int v5, .int v6, .ref la, .ref sa, .ref mi, .ref da]) := (hfm mo hm_mo (z_tne hf_mo hf_wk (m := 2) (n := 8) rfl rfl (by decide)) (z_tne hf_mo hf_ks (m := 2) (n := 204) rfl rfl (by decide)) (z_tne hf_mo hf_ct (m := 2) (n := 132) rfl rfl (by decide)) (z_tne hf_mo hf_se (m := 2) (n := 132) rfl rfl (by decide)) (z_tne hf_mo hf_ow (m := 2) (n := 140) rfl rfl (by decide))).trans hf_mo
  have hf_la : f4 la = .inl (cy 1, 5, .inl gl) := (hfm la hm_la (z_tne hf_la hf_wk (m := 140) (n := 8) rfl rfl (by decide)) (z_tne hf_la hf_ks (m := 140) (n := 204) rfl rfl (by decide)) (z_tne hf_la hf_ct (m := 140) (n := 132) rfl rfl (by decide)) (z_tne hf_la hf_se (m := 140) (n := 132) rfl rfl (by decide)) (Ne.symm ne_ow_la)).trans hf_la
  have hf_sa : f4 sa = .inl (cy 1, 4, .inl gs) := (hfm sa hm_sa (z_tne hf_sa hf_wk (m := 132) (n := 8) rfl rfl (by decide)) (z_tne hf_sa hf_ks (m := 132) (n := 204) rfl rfl (by decide)) (Ne.symm ne_ct_sa) (Ne.symm ne_se_sa) (z_tne hf_sa hf_ow (m := 132) (n := 140) rfl rfl (by decide))).trans hf_sa
  have hf_mi : f4 mi = .inl (cy 1, 36, .inl gm) := (hfm mi hm_mi (z_tne hf_mi hf_wk (m := 388) (n := 8) rfl rfl (by decide)) (z_tne hf_mi hf_ks (m := 388) (n := 204) rfl rfl (by decide)) (z_tne hf_mi hf_ct (m := 388) (n := 132) rfl rfl (by decide)) (z_tne hf_mi hf_se (m := 388) (n := 132) rfl rfl (by decide)) (z_tne hf_mi hf_ow (m := 388) (n := 140) rfl rfl (by decide))).trans hf_mi
  have hf_da : f4 da = .inl (cy 4, 13, .inr (.inr (.inr (.inr gd)))) := (hfm da hm_da (z_tne hf_da hf_wk (m := 206) (n := 8) rfl rfl (by decide)) (z_tne hf_da hf_ks (m := 206) (n := 204) rfl rfl (by decide)) (z_tne hf_da hf_ct (m := 206) (n := 132) rfl rfl (by decide)) (z_tne hf_da hf_se (m := 206) (n := 132) rfl rfl (by decide)) (z_tne hf_da hf_ow (m := 206) (n := 140) rfl rfl (by decide))).trans hf_da
  have hf_wk : f4 wk = .inr (8, [.ref ks, .int w2_5, .ref ct, .ref se, .ref ow, .int t2_6, .int wd, .int wp]) := ha_0
  have hf_ks : f4 ks = .inl (cy 1, 13, .inl k2_7) := ha_1
  have hf_ct : f4 ct = .inl (cy 1, 4, .inl c2_8) := ha_2
  have hf_se : f4 se = .inl (cy 1, 4, .inl q2_9) := ha_3
  have hf_ow : f4 ow = .inl (cy 1, 5, .inl o2_10) := ha_4
  have hbg11 := hp
  refine z_put (C := RX4) (T := TX4) (N := 12) (ci := 4) (v := .int r2) (fs' := [.ref mo, .ref wk, .ref ot, .int p3, .int p4, .int p5, .int p6, .int p7, .int p8, .int p9, .int on, .int r2]) hx hb hT zin_X4 tyX4_ok nmX4 hown hK hw hm_pl hf_pl rfl 11 (by decide) (hT _ kw_403) rfl rfl rfl (Nat.le_of_ble_eq_true rfl) rfl dX4_tellEwe_18 (fun H locs hw => ?_)
  obtain ⟨f12, e_f12⟩ : ∃ z, z = va_up f4 pl (.inr (4, [.ref mo, .ref wk, .ref ot, .int p3, .int p4, .int p5, .int p6, .int p7, .int p8, .int p9, .int on, .int r2])) := ⟨_, rfl⟩
  rw [← e_f12] at hw
  have hf_wk : f12 wk = .inr (8, [.ref ks, .int w2_5, .ref ct, .ref se, .ref ow, .int t2_6, .int wd, .int wp]) := (congrFun e_f12 wk).trans (z_up_ne (z_tne hf_wk hf_pl (m := 8) (n := 4) rfl rfl (by decide)) hf_wk)
  have hf_ks : f12 ks = .inl (cy 1, 13, .inl k2_7) := (congrFun e_f12 ks).trans (z_up_ne (z_tne hf_ks hf_pl (m := 204) (n := 4) rfl rfl (by decide)) hf_ks)
  have hf_ct : f12 ct = .inl (cy 1, 4, .inl c2_8) := (congrFun e_f12 ct).trans (z_up_ne (z_tne hf_ct hf_pl (m := 132) (n := 4) rfl rfl (by decide)) hf_ct)
  have hf_se : f12 se = .inl (cy 1, 4, .inl q2_9) := (congrFun e_f12 se).trans (z_up_ne (z_tne hf_se hf_pl (m := 132) (n := 4) rfl rfl (by decide)) hf_se)
  have hf_ow : f12 ow = .inl (cy 1, 5, .inl o2_10) := (congrFun e_f12 ow).trans (z_up_ne (z_tne hf_ow hf_pl (m := 140) (n := 4) rfl rfl (by decide)) hf_ow)
  have hf_mo : f12 mo = .inr (2, [.int v0, .int v1, .int v2, .int v3, .int v4, .int v5, .int v6, .ref la, .ref sa, .ref mi, .ref da]) := (congrFun e_f12 mo).trans (z_up_ne (z_tne hf_mo hf_pl (m := 2) (n := 4) rfl rfl (by decide)) hf_mo)
  have hf_la : f12 la = .inl (cy 1, 5, .inl gl) := (congrFun e_f12 la).trans (z_up_ne (z_tne hf_la hf_pl (m := 140) (n := 4) rfl rfl (by decide)) hf_la)
  have hf_sa : f12 sa = .inl (cy 1, 4, .inl gs) := (congrFun e_f12 sa).trans (z_up_ne (z_tne hf_sa hf_pl (m := 132) (n := 4) rfl rfl (by decide)) hf_sa)
  have hf_mi : f12 mi = .inl (cy 1, 36, .inl gm) := (congrFun e_f12 mi).trans (z_up_ne (z_tne hf_mi hf_pl (m := 388) (n := 4) rfl rfl (by decide)) hf_mi)
  have hf_da : f12 da = .inl (cy 4, 13, .inr (.inr (.inr (.inr gd)))) := (congrFun e_f12 da).trans (z_up_ne (z_tne hf_da hf_pl (m := 206) (n := 4) rfl rfl (by decide)) hf_da)
  have hd_da : z_Drv L f12 dv 13 := z_Drv_up hd_da e_f12 hf_pl (m := 4) rfl (by decide)
  have hf_pl : f12 pl = .inr (4, [.ref mo, .ref wk, .ref ot, .int p3, .int p4, .int p5, .int p6, .int p7, .int p8, .int p9, .int on, .int r2]) := (congrFun e_f12 pl).trans z_up_self
  have hfr : ∀ b ∈ L, b ≠ pl → b ≠ mo → b ≠ wk → b ≠ ks → b ≠ ct → b ≠ se → b ≠ ow → (∀ i : Nat, i < 13 → b ≠ dv i) → f12 b = f b := fun b hb h0 h1 h2 h3 h4 h5 h6 hp0 => (congrFun e_f12 b).trans (z_up_ne h0 (hfr b hb h0 h1 h2 h3 h4 h5 h6 hp0))
  refine lv_aload_n hx hb dX4_tellEwe_21 rfl (lv_at hl 0 rfl) ?_
  refine z_get (C := RX4) (T := TX4) (N := 12) (ci := 4) (v := .ref mo) hx hb hT zin_X4 hown hK hw hm_pl hf_pl rfl 0 (by decide) (hT _ kw_384) rfl dX4_tellEwe_22 ?_
  refine z_get (C := RX2) (T := TX2) (N := 11) (ci := 2) (v := .ref da) hx hb hT zin_X2 hown hK hw hm_mo hf_mo rfl 10 (by decide) (hT _ kw_243) rfl dX4_tellEwe_25 ?_
  refine lv_aload_n hx hb dX4_tellEwe_28 rfl (lv_at hl 0 rfl) ?_
  refine z_get (C := RX4) (T := TX4) (N := 12) (ci := 4) (v := .ref mo) hx hb hT zin_X4 hown hK hw hm_pl hf_pl rfl 0 (by decide) (hT _ kw_384) rfl dX4_tellEwe_29 ?_
  refine z_get (C := RX2) (T := TX2) (N := 11) (ci := 2) (v := .int v5) hx hb hT zin_X2 hown hK hw hm_mo hf_mo rfl 5 (by decide) (hT _ kw_223) rfl dX4_tellEwe_32 ?_
  obtain ⟨dq13, e_dq13⟩ : ∃ z, z = dv v5.toNatClampNeg := ⟨_, rfl⟩
  have hi_dq13 : v5.toNatClampNeg < 13 := z_clI rfl (by omega)
  refine z_aald (b := dq13) hx hb hK hw 4 hm_da hf_da rfl (z_ix rfl (by omega)) (by rw [e_dq13]; exact hg_da _ hi_dq13) dX4_tellEwe_35 ?_
  obtain ⟨hm_dq13, do14, dg15, dd16, dh17, ds18, dl19, dp20, dm21, hf_dq13, hr_do14, hr_dg15, hr_dd16, hr_dh17, hr_ds18, hr_dl19, hr_dp20, hr_dm21⟩ := hd_da _ hi_dq13
  rw [← e_dq13] at hm_dq13 hf_dq13
  refine lv_astore (lv' := [(4, .ref dq13), (0, .ref pl), (1, .int on), (2, .int ga), (3, .int dy)]) hx hb dX4_tellEwe_36 hl (by decide) rfl (fun ls hl => ?_)
  refine lv_aload hx hb dX4_tellEwe_38 (lv_at hl 0 rfl) ?_
  refine lv_iload_n hx hb dX4_tellEwe_40 rfl (lv_at hl 2 rfl) ?_
  refine z_put (C := RX0) (T := TX0) (N := 8) (ci := 0) (v := .int on) (fs' := [.int on, .int dg15, .int dd16, .int dh17, .int ds18, .int dl19, .int dp20, .int dm21]) hx hb hT zin_X0 tyX0_ok nmX0 hown hK hw hm_dq13 hf_dq13 rfl 0 (by decide) (hT _ kw_142) rfl rfl rfl (Nat.le_of_ble_eq_true rfl) rfl dX4_tellEwe_41 (fun H locs hw => ?_)
  obtain ⟨f22, e_f22⟩ : ∃ z, z = va_up f12 dq13 (.inr (0, [.int on, .int dg15, .int dd16, .int dh17, .int ds18, .int dl19, .int dp20, .int dm21])) := ⟨_, rfl⟩
  rw [← e_f22] at hw
  have hf_pl : f22 pl = .inr (4, [.ref mo, .ref wk, .ref ot, .int p3, .int p4, .int p5, .int p6, .int p7, .int p8, .int p9, .int on, .int r2]) := (congrFun e_f22 pl).trans (z_up_ne (z_tne hf_pl hf_dq13 (m := 4) (n := 0) rfl rfl (by decide)) hf_pl)
  have hf_wk : f22 wk = .inr (8, [.ref ks, .int w2_5, .ref ct, .ref se, .ref ow, .int t2_6, .int wd, .int wp]) := (congrFun e_f22 wk).trans (z_up_ne (z_tne hf_wk hf_dq13 (m := 8) (n := 0) rfl rfl (by decide)) hf_wk)
  have hf_ks : f22 ks = .inl (cy 1, 13, .inl k2_7) := (congrFun e_f22 ks).trans (z_up_ne (z_tne hf_ks hf_dq13 (m := 204) (n := 0) rfl rfl (by decide)) hf_ks)
  have hf_ct : f22 ct = .inl (cy 1, 4, .inl c2_8) := (congrFun e_f22 ct).trans (z_up_ne (z_tne hf_ct hf_dq13 (m := 132) (n := 0) rfl rfl (by decide)) hf_ct)
  have hf_se : f22 se = .inl (cy 1, 4, .inl q2_9) := (congrFun e_f22 se).trans (z_up_ne (z_tne hf_se hf_dq13 (m := 132) (n := 0) rfl rfl (by decide)) hf_se)
  have hf_ow : f22 ow = .inl (cy 1, 5, .inl o2_10) := (congrFun e_f22 ow).trans (z_up_ne (z_tne hf_ow hf_dq13 (m := 140) (n := 0) rfl rfl (by decide)) hf_ow)
  have hf_mo : f22 mo = .inr (2, [.int v0, .int v1, .int v2, .int v3, .int v4, .int v5, .int v6, .ref la, .ref sa, .ref mi, .ref da]) := (congrFun e_f22 mo).trans (z_up_ne (z_tne hf_mo hf_dq13 (m := 2) (n := 0) rfl rfl (by decide)) hf_mo)
  have hf_la : f22 la = .inl (cy 1, 5, .inl gl) := (congrFun e_f22 la).trans (z_up_ne (z_tne hf_la hf_dq13 (m := 140) (n := 0) rfl rfl (by decide)) hf_la)
  have hf_sa : f22 sa = .inl (cy 1, 4, .inl gs) := (congrFun e_f22 sa).trans (z_up_ne (z_tne hf_sa hf_dq13 (m := 132) (n := 0) rfl rfl (by decide)) hf_sa)
  have hf_mi : f22 mi = .inl (cy 1, 36, .inl gm) := (congrFun e_f22 mi).trans (z_up_ne (z_tne hf_mi hf_dq13 (m := 388) (n := 0) rfl rfl (by decide)) hf_mi)
  have hf_da : f22 da = .inl (cy 4, 13, .inr (.inr (.inr (.inr gd)))) := (congrFun e_f22 da).trans (z_up_ne (z_tne hf_da hf_dq13 (m := 206) (n := 0) rfl rfl (by decide)) hf_da)
  have hd_da : z_Drv L f22 dv 13 := z_Drv_set hd_da e_f22 ⟨_, _, _, _, _, _, _, _, rfl, by first | omega | decide, by first | omega | decide, by first | omega | decide, by first | omega | decide, by first | omega | decide, by first | omega | decide, by first | omega | decide, by first | omega | decide⟩
  have hf_dq13 : f22 dq13 = .inr (0, [.int on, .int dg15, .int dd16, .int dh17, .int ds18, .int dl19, .int dp20, .int dm21]) := (congrFun e_f22 dq13).trans z_up_self
  have hfr : ∀ b ∈ L, b ≠ pl → b ≠ mo → b ≠ wk → b ≠ ks → b ≠ ct → b ≠ se → b ≠ ow → (∀ i : Nat, i < 13 → b ≠ dv i) → f22 b = f b := fun b hb h0 h1 h2 h3 h4 h5 h6 hp0 => (congrFun e_f22 b).trans (z_up_ne (by rw [e_dq13]; exact hp0 _ hi_dq13) (hfr b hb h0 h1 h2 h3 h4 h5 h6 hp0))
  refine lv_aload hx hb dX4_tellEwe_44 (lv_at hl 0 rfl) ?_
  refine lv_iload_n hx hb dX4_tellEwe_46 rfl (lv_at hl 2 rfl) ?_
  refine z_put (C := RX0) (T := TX0) (N := 8) (ci := 0) (v := .int on) (fs' := [.int on, .int dg15, .int dd16, .int dh17, .int ds18, .int dl19, .int on, .int dm21]) hx hb hT zin_X0 tyX0_ok nmX0 hown hK hw hm_dq13 hf_dq13 rfl 6 (by decide) (hT _ kw_178) rfl rfl rfl (Nat.le_of_ble_eq_true rfl) rfl dX4_tellEwe_47 (fun H locs hw => ?_)
  obtain ⟨f23, e_f23⟩ : ∃ z, z = va_up f22 dq13 (.inr (0, [.int on, .int dg15, .int dd16, .int dh17, .int ds18, .int dl19, .int on, .int dm21])) := ⟨_, rfl⟩
  rw [← e_f23] at hw
  have hf_pl : f23 pl = .inr (4, [.ref mo, .ref wk, .ref ot, .int p3, .int p4, .int p5, .int p6, .int p7, .int p8, .int p9, .int on, .int r2]) := (congrFun e_f23 pl).trans (z_up_ne (z_tne hf_pl hf_dq13 (m := 4) (n := 0) rfl rfl (by decide)) hf_pl)
  have hf_wk : f23 wk = .inr (8, [.ref ks, .int w2_5, .ref ct, .ref se, .ref ow, .int t2_6, .int wd, .int wp]) := (congrFun e_f23 wk).trans (z_up_ne (z_tne hf_wk hf_dq13 (m := 8) (n := 0) rfl rfl (by decide)) hf_wk)
  have hf_ks : f23 ks = .inl (cy 1, 13, .inl k2_7) := (congrFun e_f23 ks).trans (z_up_ne (z_tne hf_ks hf_dq13 (m := 204) (n := 0) rfl rfl (by decide)) hf_ks)
  have hf_ct : f23 ct = .inl (cy 1, 4, .inl c2_8) := (congrFun e_f23 ct).trans (z_up_ne (z_tne hf_ct hf_dq13 (m := 132) (n := 0) rfl rfl (by decide)) hf_ct)
  have hf_se : f23 se = .inl (cy 1, 4, .inl q2_9) := (congrFun e_f23 se).trans (z_up_ne (z_tne hf_se hf_dq13 (m := 132) (n := 0) rfl rfl (by decide)) hf_se)
  have hf_ow : f23 ow = .inl (cy 1, 5, .inl o2_10) := (congrFun e_f23 ow).trans (z_up_ne (z_tne hf_ow hf_dq13 (m := 140) (n := 0) rfl rfl (by decide)) hf_ow)
  have hf_mo : f23 mo = .inr (2, [.int v0, .int v1, .int v2, .int v3, .int v4, .int v5, .int v6, .ref la, .ref sa, .ref mi, .ref da]) := (congrFun e_f23 mo).trans (z_up_ne (z_tne hf_mo hf_dq13 (m := 2) (n := 0) rfl rfl (by decide)) hf_mo)
  have hf_la : f23 la = .inl (cy 1, 5, .inl gl) := (congrFun e_f23 la).trans (z_up_ne (z_tne hf_la hf_dq13 (m := 140) (n := 0) rfl rfl (by decide)) hf_la)
  have hf_sa : f23 sa = .inl (cy 1, 4, .inl gs) := (congrFun e_f23 sa).trans (z_up_ne (z_tne hf_sa hf_dq13 (m := 132) (n := 0) rfl rfl (by decide)) hf_sa)
  have hf_mi : f23 mi = .inl (cy 1, 36, .inl gm) := (congrFun e_f23 mi).trans (z_up_ne (z_tne hf_mi hf_dq13 (m := 388) (n := 0) rfl rfl (by decide)) hf_mi)
  have hf_da : f23 da = .inl (cy 4, 13, .inr (.inr (.inr (.inr gd)))) := (congrFun e_f23 da).trans (z_up_ne (z_tne hf_da hf_dq13 (m := 206) (n := 0) rfl rfl (by decide)) hf_da)
  have hd_da : z_Drv L f23 dv 13 := z_Drv_set hd_da e_f23 ⟨_, _, _, _, _, _, _, _, rfl, by first | omega | decide, by first | omega | decide, by first | omega | decide, by first | omega | decide, by first | omega | decide, by first | omega | decide, by first | omega | decide, by first | omega | decide⟩
  have hf_dq13 : f23 dq13 = .inr (0, [.int on, .int dg15, .int dd16, .int dh17, .int ds18, .int dl19, .int on, .int dm21]) := (congrFun e_f23 dq13).trans z_up_self
  have hfr : ∀ b ∈ L, b ≠ pl → b ≠ mo → b ≠ wk → b ≠ ks → b ≠ ct → b ≠ se → b ≠ ow → (∀ i : Nat, i < 13 → b ≠ dv i) → f23 b = f b := fun b hb h0 h1 h2 h3 h4 h5 h6 hp0 => (congrFun e_f23 b).trans (z_up_ne (by rw [e_dq13]; exact hp0 _ hi_dq13) (hfr b hb h0 h1 h2 h3 h4 h5 h6 hp0))
  refine lv_aload hx hb dX4_tellEwe_50 (lv_at hl 0 rfl) ?_
  refine lv_iload_n hx hb dX4_tellEwe_52 rfl (lv_at hl 3 rfl) ?_
  refine z_put (C := RX0) (T := TX0) (N := 8) (ci := 0) (v := .int ga) (fs' := [.int on, .int ga, .int dd16, .int dh17, .int ds18, .int dl19, .int on, .int dm21]) hx hb hT zin_X0 tyX0_ok nmX0 hown hK hw hm_dq13 hf_dq13 rfl 1 (by decide) (hT _ kw_146) rfl rfl rfl (Nat.le_of_ble_eq_true rfl) rfl dX4_tellEwe_53 (fun H locs hw => ?_)
  obtain ⟨f24, e_f24⟩ : ∃ z, z = va_up f23 dq13 (.inr (0, [.int on, .int ga, .int dd16, .int dh17, .int ds18, .int dl19, .int on, .int dm21])) := ⟨_, rfl⟩
  rw [← e_f24] at hw
  have hf_pl : f24 pl = .inr (4, [.ref mo, .ref wk, .ref ot, .int p3, .int p4, .int p5, .int p6, .int p7, .int p8, .int p9, .int on, .int r2]) := (congrFun e_f24 pl).trans (z_up_ne (z_tne hf_pl hf_dq13 (m := 4) (n := 0) rfl rfl (by decide)) hf_pl)
  have hf_wk : f24 wk = .inr (8, [.ref ks, .int w2_5, .ref ct, .ref se, .ref ow, .int t2_6, .int wd, .int wp]) := (congrFun e_f24 wk).trans (z_up_ne (z_tne hf_wk hf_dq13 (m := 8) (n := 0) rfl rfl (by decide)) hf_wk)
  have hf_ks : f24 ks = .inl (cy 1, 13, .inl k2_7) := (congrFun e_f24 ks).trans (z_up_ne (z_tne hf_ks hf_dq13 (m := 204) (n := 0) rfl rfl (by decide)) hf_ks)
  have hf_ct : f24 ct = .inl (cy 1, 4, .inl c2_8) := (congrFun e_f24 ct).trans (z_up_ne (z_tne hf_ct hf_dq13 (m := 132) (n := 0) rfl rfl (by decide)) hf_ct)
  have hf_se : f24 se = .inl (cy 1, 4, .inl q2_9) := (congrFun e_f24 se).trans (z_up_ne (z_tne hf_se hf_dq13 (m := 132) (n := 0) rfl rfl (by decide)) hf_se)
  have hf_ow : f24 ow = .inl (cy 1, 5, .inl o2_10) := (congrFun e_f24 ow).trans (z_up_ne (z_tne hf_ow hf_dq13 (m := 140) (n := 0) rfl rfl (by decide)) hf_ow)
  have hf_mo : f24 mo = .inr (2, [.int v0, .int v1, .int v2, .int v3, .int v4, .int v5, .int v6, .ref la, .ref sa, .ref mi, .ref da]) := (congrFun e_f24 mo).trans (z_up_ne (z_tne hf_mo hf_dq13 (m := 2) (n := 0) rfl rfl (by decide)) hf_mo)
  have hf_la : f24 la = .inl (cy 1, 5, .inl gl) := (congrFun e_f24 la).trans (z_up_ne (z_tne hf_la hf_dq13 (m := 140) (n := 0) rfl rfl (by decide)) hf_la)
  have hf_sa : f24 sa = .inl (cy 1, 4, .inl gs) := (congrFun e_f24 sa).trans (z_up_ne (z_tne hf_sa hf_dq13 (m := 132) (n := 0) rfl rfl (by decide)) hf_sa)
  have hf_mi : f24 mi = .inl (cy 1, 36, .inl gm) := (congrFun e_f24 mi).trans (z_up_ne (z_tne hf_mi hf_dq13 (m := 388) (n := 0) rfl rfl (by decide)) hf_mi)
  have hf_da : f24 da = .inl (cy 4, 13, .inr (.inr (.inr (.inr gd)))) := (congrFun e_f24 da).trans (z_up_ne (z_tne hf_da hf_dq13 (m := 206) (n := 0) rfl rfl (by decide)) hf_da)
  have hd_da : z_Drv L f24 dv 13 := z_Drv_set hd_da e_f24 ⟨_, _, _, _, _, _, _, _, rfl, by first | omega | decide, by first | omega | decide, by first | omega | decide, by first | omega | decide, by first | omega | decide, by first | omega | decide, by first | omega | decide, by first | omega | decide⟩
  have hf_dq13 : f24 dq13 = .inr (0, [.int on, .int ga, .int dd16, .int dh17, .int ds18, .int dl19, .int on, .int dm21]) := (congrFun e_f24 dq13).trans z_up_self
  have hfr : ∀ b ∈ L, b ≠ pl → b ≠ mo → b ≠ wk → b ≠ ks → b ≠ ct → b ≠ se → b ≠ ow → (∀ i : Nat, i < 13 → b ≠ dv i) → f24 b = f b := fun b hb h0 h1 h2 h3 h4 h5 h6 hp0 => (congrFun e_f24 b).trans (z_up_ne (by rw [e_dq13]; exact hp0 _ hi_dq13) (hfr b hb h0 h1 h2 h3 h4 h5 h6 hp0))
  refine lv_aload hx hb dX4_tellEwe_56 (lv_at hl 0 rfl) ?_
  refine lv_iload_n hx hb dX4_tellEwe_58 rfl (lv_at hl 4 rfl) ?_
  refine z_put (C := RX0) (T := TX0) (N := 8) (ci := 0) (v := .int dy) (fs' := [.int on, .int ga, .int dy, .int dh17, .int ds18, .int dl19, .int on, .int dm21]) hx hb hT zin_X0 tyX0_ok nmX0 hown hK hw hm_dq13 hf_dq13 rfl 2 (by decide) (hT _ kw_154) rfl rfl rfl (Nat.le_of_ble_eq_true rfl) rfl dX4_tellEwe_59 (fun H locs hw => ?_)
  obtain ⟨f25, e_f25⟩ : ∃ z, z = va_up f24 dq13 (.inr (0, [.int on, .int ga, .int dy, .int dh17, .int ds18, .int dl19, .int on, .int dm21])) := ⟨_, rfl⟩
  rw [← e_f25] at hw
  have hf_pl : f25 pl = .inr (4, [.ref mo, .ref wk, .ref ot, .int p3, .int p4, .int p5, .int p6, .int p7, .int p8, .int p9, .int on, .int r2]) := (congrFun e_f25 pl).trans (z_up_ne (z_tne hf_pl hf_dq13 (m := 4) (n := 0) rfl rfl (by decide)) hf_pl)
  have hf_wk : f25 wk = .inr (8, [.ref ks, .int w2_5, .ref ct, .ref se, .ref ow, .int t2_6, .int wd, .int wp]) := (congrFun e_f25 wk).trans (z_up_ne (z_tne hf_wk hf_dq13 (m := 8) (n := 0) rfl rfl (by decide)) hf_wk)
  have hf_ks : f25 ks = .inl (cy 1, 13, .inl k2_7) := (congrFun e_f25 ks).trans (z_up_ne (z_tne hf_ks hf_dq13 (m := 204) (n := 0) rfl rfl (by decide)) hf_ks)
  have hf_ct : f25 ct = .inl (cy 1, 4, .inl c2_8) := (congrFun e_f25 ct).trans (z_up_ne (z_tne hf_ct hf_dq13 (m := 132) (n := 0) rfl rfl (by decide)) hf_ct)
  have hf_se : f25 se = .inl (cy 1, 4, .inl q2_9) := (congrFun e_f25 se).trans (z_up_ne (z_tne hf_se hf_dq13 (m := 132) (n := 0) rfl rfl (by decide)) hf_se)
  have hf_ow : f25 ow = .inl (cy 1, 5, .inl o2_10) := (congrFun e_f25 ow).trans (z_up_ne (z_tne hf_ow hf_dq13 (m := 140) (n := 0) rfl rfl (by decide)) hf_ow)
  have hf_mo : f25 mo = .inr (2, [.int v0, .int v1, .int v2, .int v3, .int v4, .int v5, .int v6, .ref la, .ref sa, .ref mi, .ref da]) := (congrFun e_f25 mo).trans (z_up_ne (z_tne hf_mo hf_dq13 (m := 2) (n := 0) rfl rfl (by decide)) hf_mo)
  have hf_la : f25 la = .inl (cy 1, 5, .inl gl) := (congrFun e_f25 la).trans (z_up_ne (z_tne hf_la hf_dq13 (m := 140) (n := 0) rfl rfl (by decide)) hf_la)
  have hf_sa : f25 sa = .inl (cy 1, 4, .inl gs) := (congrFun e_f25 sa).trans (z_up_ne (z_tne hf_sa hf_dq13 (m := 132) (n := 0) rfl rfl (by decide)) hf_sa)
  have hf_mi : f25 mi = .inl (cy 1, 36, .inl gm) := (congrFun e_f25 mi).trans (z_up_ne (z_tne hf_mi hf_dq13 (m := 388) (n := 0) rfl rfl (by decide)) hf_mi)
  have hf_da : f25 da = .inl (cy 4, 13, .inr (.inr (.inr (.inr gd)))) := (congrFun e_f25 da).trans (z_up_ne (z_tne hf_da hf_dq13 (m := 206) (n := 0) rfl rfl (by decide)) hf_da)
  have hd_da : z_Drv L f25 dv 13 := z_Drv_set hd_da e_f25 ⟨_, _, _, _, _, _, _, _, rfl, by first | omega | decide, by first | omega | decide, by first | omega | decide, by first | omega | decide, by first | omega | decide, by first | omega | decide, by first | omega | decide, by first | omega | decide⟩
  have hf_dq13 : f25 dq13 = .inr (0, [.int on, .int ga, .int dy, .int dh17, .int ds18, .int dl19, .int on, .int dm21]) := (congrFun e_f25 dq13).trans z_up_self
  have hfr : ∀ b ∈ L, b ≠ pl → b ≠ mo → b ≠ wk → b ≠ ks → b ≠ ct → b ≠ se → b ≠ ow → (∀ i : Nat, i < 13 → b ≠ dv i) → f25 b = f b := fun b hb h0 h1 h2 h3 h4 h5 h6 hp0 => (congrFun e_f25 b).trans (z_up_ne (by rw [e_dq13]; exact hp0 _ hi_dq13) (hfr b hb h0 h1 h2 h3 h4 h5 h6 hp0))
  refine lv_aload hx hb dX4_tellEwe_62 (lv_at hl 0 rfl) ?_
  refine lv_iconst (v := 1) hx hb dX4_tellEwe_64 (by decide) ?_
  refine z_put (C := RX0) (T := TX0) (N := 8) (ci := 0) (v := .int 1) (fs' := [.int on, .int ga, .int dy, .int dh17, .int 1, .int dl19, .int on, .int dm21]) hx hb hT zin_X0 tyX0_ok nmX0 hown hK hw hm_dq13 hf_dq13 rfl 4 (by decide) (hT _ kw_164) rfl rfl rfl (Nat.le_of_ble_eq_true rfl) rfl dX4_tellEwe_65 (fun H locs hw => ?_)
  obtain ⟨f26, e_f26⟩ : ∃ z, z = va_up f25 dq13 (.inr (0, [.int on, .int ga, .int dy, .int dh17, .int 1, .int dl19, .int on, .int dm21])) := ⟨_, rfl⟩
  rw [← e_f26] at hw
  have hf_pl : f26 pl = .inr (4, [.ref mo, .ref wk, .ref ot, .int p3, .int p4, .int p5, .int p6, .int p7, .int p8, .int p9, .int on, .int r2]) := (congrFun e_f26 pl).trans (z_up_ne (z_tne hf_pl hf_dq13 (m := 4) (n := 0) rfl rfl (by decide)) hf_pl)
  have hf_wk : f26 wk = .inr (8, [.ref ks, .int w2_5, .ref ct, .ref se, .ref ow, .int t2_6, .int wd, .int wp]) := (congrFun e_f26 wk).trans (z_up_ne (z_tne hf_wk hf_dq13 (m := 8) (n := 0) rfl rfl (by decide)) hf_wk)
  have hf_ks : f26 ks = .inl (cy 1, 13, .inl k2_7) := (congrFun e_f26 ks).trans (z_up_ne (z_tne hf_ks hf_dq13 (m := 204) (n := 0) rfl rfl (by decide)) hf_ks)
  have hf_ct : f26 ct = .inl (cy 1, 4, .inl c2_8) := (congrFun e_f26 ct).trans (z_up_ne (z_tne hf_ct hf_dq13 (m := 132) (n := 0) rfl rfl (by decide)) hf_ct)
  have hf_se : f26 se = .inl (cy 1, 4, .inl q2_9) := (congrFun e_f26 se).trans (z_up_ne (z_tne hf_se hf_dq13 (m := 132) (n := 0) rfl rfl (by decide)) hf_se)
  have hf_ow : f26 ow = .inl (cy 1, 5, .inl o2_10) := (congrFun e_f26 ow).trans (z_up_ne (z_tne hf_ow hf_dq13 (m := 140) (n := 0) rfl rfl (by decide)) hf_ow)
  have hf_mo : f26 mo = .inr (2, [.int v0, .int v1, .int v2, .int v3, .int v4, .int v5, .int v6, .ref la, .ref sa, .ref mi, .ref da]) := (congrFun e_f26 mo).trans (z_up_ne (z_tne hf_mo hf_dq13 (m := 2) (n := 0) rfl rfl (by decide)) hf_mo)
  have hf_la : f26 la = .inl (cy 1, 5, .inl gl) := (congrFun e_f26 la).trans (z_up_ne (z_tne hf_la hf_dq13 (m := 140) (n := 0) rfl rfl (by decide)) hf_la)
  have hf_sa : f26 sa = .inl (cy 1, 4, .inl gs) := (congrFun e_f26 sa).trans (z_up_ne (z_tne hf_sa hf_dq13 (m := 132) (n := 0) rfl rfl (by decide)) hf_sa)
  have hf_mi : f26 mi = .inl (cy 1, 36, .inl gm) := (congrFun e_f26 mi).trans (z_up_ne (z_tne hf_mi hf_dq13 (m := 388) (n := 0) rfl rfl (by decide)) hf_mi)
  have hf_da : f26 da = .inl (cy 4, 13, .inr (.inr (.inr (.inr gd)))) := (congrFun e_f26 da).trans (z_up_ne (z_tne hf_da hf_dq13 (m := 206) (n := 0) rfl rfl (by decide)) hf_da)
  have hd_da : z_Drv L f26 dv 13 := z_Drv_set hd_da e_f26 ⟨_, _, _, _, _, _, _, _, rfl, by first | omega | decide, by first | omega | decide, by first | omega | decide, by first | omega | decide, by first | omega | decide, by first | omega | decide, by first | omega | decide, by first | omega | decide⟩
  have hf_dq13 : f26 dq13 = .inr (0, [.int on, .int ga, .int dy, .int dh17, .int 1, .int dl19, .int on, .int dm21]) := (congrFun e_f26 dq13).trans z_up_self
  have hfr : ∀ b ∈ L, b ≠ pl → b ≠ mo → b ≠ wk → b ≠ ks → b ≠ ct → b ≠ se → b ≠ ow → (∀ i : Nat, i < 13 → b ≠ dv i) → f26 b = f b := fun b hb h0 h1 h2 h3 h4 h5 h6 hp0 => (congrFun e_f26 b).trans (z_up_ne (by rw [e_dq13]; exact hp0 _ hi_dq13) (hfr b hb h0 h1 h2 h3 h4 h5 h6 hp0))
  refine lv_aload hx hb dX4_tellEwe_68 (lv_at hl 0 rfl) ?_
  refine lv_iconst (v := 0) hx hb dX4_tellEwe_70 (by decide) ?_
  refine z_put (C := RX0) (T := TX0) (N := 8) (ci := 0) (v := .int 0) (fs' := [.int on, .int ga, .int dy, .int dh17, .int 1, .int 0, .int on, .int dm21]) hx hb hT zin_X0 tyX0_ok nmX0 hown hK hw hm_dq13 hf_dq13 rfl 5 (by decide) (hT _ kw_170) rfl rfl rfl (Nat.le_of_ble_eq_true rfl) rfl dX4_tellEwe_71 (fun H locs hw => ?_)
  obtain ⟨f27, e_f27⟩ : ∃ z, z = va_up f26 dq13 (.inr (0, [.int on, .int ga, .int dy, .int dh17, .int 1, .int 0, .int on, .int dm21])) := ⟨_, rfl⟩
  rw [← e_f27] at hw
  have hf_pl : f27 pl = .inr (4, [.ref mo, .ref wk, .ref ot, .int p3, .int p4, .int p5, .int p6, .int p7, .int p8, .int p9, .int on, .int r2]) := (congrFun e_f27 pl).trans (z_up_ne (z_tne hf_pl hf_dq13 (m := 4) (n := 0) rfl rfl (by decide)) hf_pl)
  have hf_wk : f27 wk = .inr (8, [.ref ks, .int w2_5, .ref ct, .ref se, .ref ow, .int t2_6, .int wd, .int wp]) := (congrFun e_f27 wk).trans (z_up_ne (z_tne hf_wk hf_dq13 (m := 8) (n := 0) rfl rfl (by decide)) hf_wk)
  have hf_ks : f27 ks = .inl (cy 1, 13, .inl k2_7) := (congrFun e_f27 ks).trans (z_up_ne (z_tne hf_ks hf_dq13 (m := 204) (n := 0) rfl rfl (by decide)) hf_ks)
  have hf_ct : f27 ct = .inl (cy 1, 4, .inl c2_8) := (congrFun e_f27 ct).trans (z_up_ne (z_tne hf_ct hf_dq13 (m := 132) (n := 0) rfl rfl (by decide)) hf_ct)
  have hf_se : f27 se = .inl (cy 1, 4, .inl q2_9) := (congrFun e_f27 se).trans (z_up_ne (z_tne hf_se hf_dq13 (m := 132) (n := 0) rfl rfl (by decide)) hf_se)
  have hf_ow : f27 ow = .inl (cy 1, 5, .inl o2_10) := (congrFun e_f27 ow).trans (z_up_ne (z_tne hf_ow hf_dq13 (m := 140) (n := 0) rfl rfl (by decide)) hf_ow)
  have hf_mo : f27 mo = .inr (2, [.int v0, .int v1, .int v2, .int v3, .int v4, .int v5, .int v6, .ref la, .ref sa, .ref mi, .ref da]) := (congrFun e_f27 mo).trans (z_up_ne (z_tne hf_mo hf_dq13 (m := 2) (n := 0) rfl rfl (by decide)) hf_mo)
  have hf_la : f27 la = .inl (cy 1, 5, .inl gl) := (congrFun e_f27 la).trans (z_up_ne (z_tne hf_la hf_dq13 (m := 140) (n := 0) rfl rfl (by decide)) hf_la)
  have hf_sa : f27 sa = .inl (cy 1, 4, .inl gs) := (congrFun e_f27 sa).trans (z_up_ne (z_tne hf_sa hf_dq13 (m := 132) (n := 0) rfl rfl (by decide)) hf_sa)
  have hf_mi : f27 mi = .inl (cy 1, 36, .inl gm) := (congrFun e_f27 mi).trans (z_up_ne (z_tne hf_mi hf_dq13 (m := 388) (n := 0) rfl rfl (by decide)) hf_mi)
  have hf_da : f27 da = .inl (cy 4, 13, .inr (.inr (.inr (.inr gd)))) := (congrFun e_f27 da).trans (z_up_ne (z_tne hf_da hf_dq13 (m := 206) (n := 0) rfl rfl (by decide)) hf_da)
  have hd_da : z_Drv L f27 dv 13 := z_Drv_set hd_da e_f27 ⟨_, _, _, _, _, _, _, _, rfl, by first | omega | decide, by first | omega | decide, by first | omega | decide, by first | omega | decide, by first | omega | decide, by first | omega | decide, by first | omega | decide, by first | omega | decide⟩
  have hf_dq13 : f27 dq13 = .inr (0, [.int on, .int ga, .int dy, .int dh17, .int 1, .int 0, .int on, .int dm21]) := (congrFun e_f27 dq13).trans z_up_self
  have hfr : ∀ b ∈ L, b ≠ pl → b ≠ mo → b ≠ wk → b ≠ ks → b ≠ ct → b ≠ se → b ≠ ow → (∀ i : Nat, i < 13 → b ≠ dv i) → f27 b = f b := fun b hb h0 h1 h2 h3 h4 h5 h6 hp0 => (congrFun e_f27 b).trans (z_up_ne (by rw [e_dq13]; exact hp0 _ hi_dq13) (hfr b hb h0 h1 h2 h3 h4 h5 h6 hp0))
  refine lv_aload hx hb dX4_tellEwe_74 (lv_at hl 0 rfl) ?_
  refine lv_iconst (v := 0) hx hb dX4_tellEwe_76 (by decide) ?_
  refine z_put (C := RX0) (T := TX0) (N := 8) (ci := 0) (v := .int 0) (fs' := [.int on, .int ga, .int dy, .int dh17, .int 1, .int 0, .int on, .int 0]) hx hb hT zin_X0 tyX0_ok nmX0 hown hK hw hm_dq13 hf_dq13 rfl 7 (by decide) (hT _ kw_183) rfl rfl rfl (Nat.le_of_ble_eq_true rfl) rfl dX4_tellEwe_77 (fun H locs hw => ?_)
  obtain ⟨f28, e_f28⟩ : ∃ z, z = va_up f27 dq13 (.inr (0, [.int on, .int ga, .int dy, .int dh17, .int 1, .int 0, .int on, .int 0])) := ⟨_, rfl⟩
  rw [← e_f28] at hw
  have hf_pl : f28 pl = .inr (4, [.ref mo, .ref wk, .ref ot, .int p3, .int p4, .int p5, .int p6, .int p7, .int p8, .int p9, .int on, .int r2]) := (congrFun e_f28 pl).trans (z_up_ne (z_tne hf_pl hf_dq13 (m := 4) (n := 0) rfl rfl (by decide)) hf_pl)
  have hf_wk : f28 wk = .inr (8, [.ref ks, .int w2_5, .ref ct, .ref se, .ref ow, .int t2_6, .int wd, .int wp]) := (congrFun e_f28 wk).trans (z_up_ne (z_tne hf_wk hf_dq13 (m := 8) (n := 0) rfl rfl (by decide)) hf_wk)
  have hf_ks : f28 ks = .inl (cy 1, 13, .inl k2_7) := (congrFun e_f28 ks).trans (z_up_ne (z_tne hf_ks hf_dq13 (m := 204) (n := 0) rfl rfl (by decide)) hf_ks)
  have hf_ct : f28 ct = .inl (cy 1, 4, .inl c2_8) := (congrFun e_f28 ct).trans (z_up_ne (z_tne hf_ct hf_dq13 (m := 132) (n := 0) rfl rfl (by decide)) hf_ct)
  have hf_se : f28 se = .inl (cy 1, 4, .inl q2_9) := (congrFun e_f28 se).trans (z_up_ne (z_tne hf_se hf_dq13 (m := 132) (n := 0) rfl rfl (by decide)) hf_se)
  have hf_ow : f28 ow = .inl (cy 1, 5, .inl o2_10) := (congrFun e_f28 ow).trans (z_up_ne (z_tne hf_ow hf_dq13 (m := 140) (n := 0) rfl rfl (by decide)) hf_ow)
  have hf_mo : f28 mo = .inr (2, [.int v0, .int v1, .int v2, .int v3, .int v4, .int v5, .int v6, .ref la, .ref sa, .ref mi, .ref da]) := (congrFun e_f28 mo).trans (z_up_ne (z_tne hf_mo hf_dq13 (m := 2) (n := 0) rfl rfl (by decide)) hf_mo)
  have hf_la : f28 la = .inl (cy 1, 5, .inl gl) := (congrFun e_f28 la).trans (z_up_ne (z_tne hf_la hf_dq13 (m := 140) (n := 0) rfl rfl (by decide)) hf_la)
  have hf_sa : f28 sa = .inl (cy 1, 4, .inl gs) := (congrFun e_f28 sa).trans (z_up_ne (z_tne hf_sa hf_dq13 (m := 132) (n := 0) rfl rfl (by decide)) hf_sa)
  have hf_mi : f28 mi = .inl (cy 1, 36, .inl gm) := (congrFun e_f28 mi).trans (z_up_ne (z_tne hf_mi hf_dq13 (m := 388) (n := 0) rfl rfl (by decide)) hf_mi)
  have hf_da : f28 da = .inl (cy 4, 13, .inr (.inr (.inr (.inr gd)))) := (congrFun e_f28 da).trans (z_up_ne (z_tne hf_da hf_dq13 (m := 206) (n := 0) rfl rfl (by decide)) hf_da)
  have hd_da : z_Drv L f28 dv 13 := z_Drv_set hd_da e_f28 ⟨_, _, _, _, _, _, _, _, rfl, by first | omega | decide, by first | omega | decide, by first | omega | decide, by first | omega | decide, by first | omega | decide, by first | omega | decide, by first | omega | decide, by first | omega | decide⟩
  have hf_dq13 : f28 dq13 = .inr (0, [.int on, .int ga, .int dy, .int dh17, .int 1, .int 0, .int on, .int 0]) := (congrFun e_f28 dq13).trans z_up_self
  have hfr : ∀ b ∈ L, b ≠ pl → b ≠ mo → b ≠ wk → b ≠ ks → b ≠ ct → b ≠ se → b ≠ ow → (∀ i : Nat, i < 13 → b ≠ dv i) → f28 b = f b := fun b hb h0 h1 h2 h3 h4 h5 h6 hp0 => (congrFun e_f28 b).trans (z_up_ne (by rw [e_dq13]; exact hp0 _ hi_dq13) (hfr b hb h0 h1 h2 h3 h4 h5 h6 hp0))
  refine lv_aload_n hx hb dX4_tellEwe_80 rfl (lv_at hl 1 rfl) ?_
  refine z_get (C := RX4) (T := TX4) (N := 12) (ci := 4) (v := .ref mo) hx hb hT zin_X4 hown hK hw hm_pl hf_pl rfl 0 (by decide) (hT _ kw_384) rfl dX4_tellEwe_81 ?_
  refine lv_dup hx hb dX4_tellEwe_84 rfl ?_
  refine z_get (C := RX2) (T := TX2) (N := 11) (ci := 2) (v := .int v5) hx hb hT zin_X2 hown hK hw hm_mo hf_mo rfl 5 (by decide) (hT _ kw_223) rfl dX4_tellEwe_85 ?_
  refine lv_iconst (v := 1) hx hb dX4_tellEwe_88 (by decide) ?_
  refine lv_iadd hx hb dX4_tellEwe_89 ?_
  refine lv_topi (fun w29 e_w29 => ?_)
  have i_w29 : w29.toInt = (v5.toInt + 1) := z_add e_w29 rfl (show (1 : Int32).toInt = 1 by decide) (by omega)
  refine z_put (C := RX2) (T := TX2) (N := 11) (ci := 2) (v := .int w29) (fs' := [.int v0, .int v1, .int v2, .int v3, .int v4, .int w29, .int v6, .ref la, .ref sa, .ref mi, .ref da]) hx hb hT zin_X2 tyX2_ok nmX2 hown hK hw hm_mo hf_mo rfl 5 (by decide) (hT _ kw_223) rfl rfl rfl (Nat.le_of_ble_eq_true rfl) rfl dX4_tellEwe_90 (fun H locs hw => ?_)
  obtain ⟨f30, e_f30⟩ : ∃ z, z = va_up f28 mo (.inr (2, [.int v0, .int v1, .int v2, .int v3, .int v4, .int w29, .int v6, .ref la, .ref sa, .ref mi, .ref da])) := ⟨_, rfl⟩
  rw [← e_f30] at hw
  have hf_pl : f30 pl = .inr (4, [.ref mo, .ref wk, .ref ot, .int p3, .int p4, .int p5, .int p6, .int p7, .int p8, .int p9, .int on, .int r2]) := (congrFun e_f30 pl).trans (z_up_ne (z_tne hf_pl hf_mo (m := 4) (n := 2) rfl rfl (by decide)) hf_pl)
  have hf_wk : f30 wk = .inr (8, [.ref ks, .int w2_5, .ref ct, .ref se, .ref ow, .int t2_6, .int wd, .int wp]) := (congrFun e_f30 wk).trans (z_up_ne (z_tne hf_wk hf_mo (m := 8) (n := 2) rfl rfl (by decide)) hf_wk)
  have hf_ks : f30 ks = .inl (cy 1, 13, .inl k2_7) := (congrFun e_f30 ks).trans (z_up_ne (z_tne hf_ks hf_mo (m := 204) (n := 2) rfl rfl (by decide)) hf_ks)
  have hf_ct : f30 ct = .inl (cy 1, 4, .inl c2_8) := (congrFun e_f30 ct).trans (z_up_ne (z_tne hf_ct hf_mo (m := 132) (n := 2) rfl rfl (by decide)) hf_ct)
  have hf_se : f30 se = .inl (cy 1, 4, .inl q2_9) := (congrFun e_f30 se).trans (z_up_ne (z_tne hf_se hf_mo (m := 132) (n := 2) rfl rfl (by decide)) hf_se)
  have hf_ow : f30 ow = .inl (cy 1, 5, .inl o2_10) := (congrFun e_f30 ow).trans (z_up_ne (z_tne hf_ow hf_mo (m := 140) (n := 2) rfl rfl (by decide)) hf_ow)
  have hf_la : f30 la = .inl (cy 1, 5, .inl gl) := (congrFun e_f30 la).trans (z_up_ne (z_tne hf_la hf_mo (m := 140) (n := 2) rfl rfl (by decide)) hf_la)
  have hf_sa : f30 sa = .inl (cy 1, 4, .inl gs) := (congrFun e_f30 sa).trans (z_up_ne (z_tne hf_sa hf_mo (m := 132) (n := 2) rfl rfl (by decide)) hf_sa)
  have hf_mi : f30 mi = .inl (cy 1, 36, .inl gm) := (congrFun e_f30 mi).trans (z_up_ne (z_tne hf_mi hf_mo (m := 388) (n := 2) rfl rfl (by decide)) hf_mi)
  have hf_da : f30 da = .inl (cy 4, 13, .inr (.inr (.inr (.inr gd)))) := (congrFun e_f30 da).trans (z_up_ne (z_tne hf_da hf_mo (m := 206) (n := 2) rfl rfl (by decide)) hf_da)
  have hf_dq13 : f30 dq13 = .inr (0, [.int on, .int ga, .int dy, .int dh17, .int 1, .int 0, .int on, .int 0]) := (congrFun e_f30 dq13).trans (z_up_ne (z_tne hf_dq13 hf_mo (m := 0) (n := 2) rfl rfl (by decide)) hf_dq13)
  have hd_da : z_Drv L f30 dv 13 := z_Drv_up hd_da e_f30 hf_mo (m := 2) rfl (by decide)
  have hf_mo : f30 mo = .inr (2, [.int v0, .int v1, .int v2, .int v3, .int v4, .int w29, .int v6, .ref la, .ref sa, .ref mi, .ref da]) := (congrFun e_f30 mo).trans z_up_self
  have hfr : ∀ b ∈ L, b ≠ pl → b ≠ mo → b ≠ wk → b ≠ ks → b ≠ ct → b ≠ se → b ≠ ow → (∀ i : Nat, i < 13 → b ≠ dv i) → f30 b = f b := fun b hb h0 h1 h2 h3 h4 h5 h6 hp0 => (congrFun e_f30 b).trans (z_up_ne h1 (hfr b hb h0 h1 h2 h3 h4 h5 h6 hp0))
  exact z_vret hx hb hr hlk (by decide) (by decide) hw (⟨hsub, hfr, r2, w29, w2_5, t2_6, k2_7, c2_8, q2_9, o2_10, hf_pl, hf_mo, hf_wk, hf_ks, hf_ct, hf_se, hf_ow, hd_da, by omega, by omega, hbg11.2⟩) dX4_tellEwe_93

set_option maxHeartbeats 2000000 in
set_option maxRecDepth 100000 in
theorem c_X4_worthAt (l : Launch) {D : va_G} {cy : Nat → ClassId} {L : List Nat} {f : Nat → va_E} {sz : Nat} {adK adV : Nat → Nat} {pl ot : Nat} {p3 p4 p5 p6 p7 p8 p9 p10 p11 : Int32}  {wk ks ct se ow : Nat} {wn wt wd wp : Int32} {gk gc gq go : Nat → Int32} {mo la sa mi da : Nat} {v0 v1 v2 v3 v4 v5 v6 : Int32} {gl gs gm : Nat → Int32} {gd : Nat → Option Nat} {dv : Nat → Nat} {ho : Int32} (hm_pl : pl ∈ L) (hm_wk : wk ∈ L) (hm_ks : ks ∈ L) (hm_ct : ct ∈ L) (hm_se : se ∈ L) (hm_ow : ow ∈ L) (hm_mo : mo ∈ L) (hm_la : la ∈ L) (hm_sa : sa ∈ L) (hm_mi : mi ∈ L) (hm_da : da ∈ L) (hf_pl : f pl = .inr (4, [.ref mo, .ref wk, .ref ot, .int p3, .int p4, .int p5, .int p6, .int p7, .int p8, .int p9, .int p10, .int p11])) (hf_wk : f wk = .inr (8, [.ref ks, .int wn, .ref ct, .ref se, .ref ow, .int wt, .int wd, .int wp])) (hf_ks : f ks = .inl (cy 1, 13, .inl gk)) (hf_ct : f ct = .inl (cy 1, 4, .inl gc)) (hf_se : f se = .inl (cy 1, 4, .inl gq)) (hf_ow : f ow = .inl (cy 1, 5, .inl go)) (hf_mo : f mo = .inr (2, [.int v0, .int v1, .int v2, .int v3, .int v4, .int v5, .int v6, .ref la, .ref sa, .ref mi, .ref da])) (hf_la : f la = .inl (cy 1, 5, .inl gl)) (hf_sa : f sa = .inl (cy 1, 4, .inl gs)) (hf_mi : f mi = .inl (cy 1, 36, .inl gm)) (hf_da : f da = .inl (cy 4, 13, .inr (.inr (.inr (.inr gd))))) (ne_ct_se : ct ≠ se) (ne_ct_sa : ct ≠ sa) (ne_se_sa : se ≠ sa) (ne_ow_la : ow ≠ la) (hg_da : ∀ i : Nat, i < 13 → gd i = some (dv i)) (hd_da : z_Drv L f dv 13) (hv2 : 0 ≤ v2.toInt ∧ v2.toInt ≤ 9) (hv5 : 1 ≤ v5.toInt ∧ v5.toInt ≤ 13) (hgk : ∀ j : Nat, z_key (gk j)) (hgm : ∀ j : Nat, 0 ≤ (gm j).toInt ∧ (gm j).toInt ≤ 9) (hp10 : 0 ≤ p10.toInt ∧ p10.toInt ≤ 4) (hho : 0 ≤ ho.toInt ∧ ho.toInt ≤ 23) : Met l yX4_worthAt (z_ws yX4_worthAt cX4_worthAt 2 (some .int)) (z_R 6 0 0) (va_Pc [.ref pl, .int ho] (z_Pre D vwCl (z_KK D cy adK adV) L f sz)) (z_Qi D vwCl (fun r u => L = u.1 ∧ (∀ b ∈ L, b ≠ wk → b ≠ ks → b ≠ ct → b ≠ se → b ≠ ow → (∀ i : Nat, i < 13 → b ≠ dv i) → u.2 b = f b) ∧ (∃ (w2 t2 : Int32) (k2 c2 s2 o2 : Nat → Int32), (u.2 wk = .inr (8, [.ref ks, .int w2, .ref ct, .ref se, .ref ow, .int t2, .int wd, .int wp])) ∧ (u.2 ks = .inl (cy 1, 13, .inl k2)) ∧ (u.2 ct = .inl (cy 1, 4, .inl c2)) ∧ (u.2 se = .inl (cy 1, 4, .inl s2)) ∧ (u.2 ow = .inl (cy 1, 5, .inl o2)) ∧ (z_Drv u.1 u.2 dv 13) ∧ ((0 ≤ w2.toInt ∧ w2.toInt ≤ 13) ∧ ∀ j : Nat, z_key (k2 j)))) L sz) 0 0 (z_A L sz) := by
  refine z_met (cc := cX4_worthAt) (maxL := 2) (ret := (some .int)) (lv := [(0, .ref pl), (1, .int ho)]) (by decide) rfl (Nat.le_of_ble_eq_true rfl) rfl ?_
  intro p e s m below meth c ls hx hb hr hlk hml hown hnm hts hKK hA hw hl
  have hK := hKK.1.1
  have hown : s.vm.findClass RX4 = some m.cls := hown
  have hT : ∀ w ∈ lw_all, w.before ([.ref pl, .int ho] : List Value).toArray s = true := fun w h => hts w (z_cons w h)
  have hsub : L = L := rfl
  have hfr : ∀ b ∈ L, b ≠ wk → b ≠ ks → b ≠ ct → b ≠ se → b ≠ ow → (∀ i : Nat, i < 13 → b ≠ dv i) → f b = f b := fun _ _ _ _ _ _ _ _ => rfl
  refine lv_aload_n hx hb dX4_worthAt_0 rfl (lv_at hl 0 rfl) ?_
  refine z_get (C := RX4) (T := TX4) (N := 12) (ci := 4) (v := .ref mo) hx hb hT zin_X4 hown hK hw hm_pl hf_pl rfl 0 (by decide) (hT _ kw_384) rfl dX4_worthAt_1 ?_
  refine z_get (C := RX2) (T := TX2) (N := 11) (ci := 2) (v := .ref da) hx hb hT zin_X2 hown hK hw hm_mo hf_mo rfl 10 (by decide) (hT _ kw_243) rfl dX4_worthAt_4 ?_
  refine lv_aload_n hx hb dX4_worthAt_7 rfl (lv_at hl 0 rfl) ?_
  refine z_get (C := RX4) (T := TX4) (N := 12) (ci := 4) (v := .ref mo) hx hb hT zin_X4 hown hK hw hm_pl hf_pl rfl 0 (by decide) (hT _ kw_384) rfl dX4_worthAt_8 ?_
  refine z_get (C := RX2) (T := TX2) (N := 11) (ci := 2) (v := .int v5) hx hb hT zin_X2 hown hK hw hm_mo hf_mo rfl 5 (by decide) (hT _ kw_223) rfl dX4_worthAt_11 ?_
  refine lv_iconst (v := 1) hx hb dX4_worthAt_14 (by decide) ?_
  refine lv_isub hx hb dX4_worthAt_15 ?_
  refine lv_topi (fun w1 e_w1 => ?_)
  have i_w1 : w1.toInt = (v5.toInt - 1) := z_subI e_w1 rfl (show (1 : Int32).toInt = 1 by decide) (by omega)
  obtain ⟨dq2, e_dq2⟩ : ∃ z, z = dv w1.toNatClampNeg := ⟨_, rfl⟩
  have hi_dq2 : w1.toNatClampNeg < 13 := z_clI i_w1 (by omega)
  refine z_aald (b := dq2) hx hb hK hw 4 hm_da hf_da rfl (z_ix i_w1 (by omega)) (by rw [e_dq2]; exact hg_da _ hi_dq2) dX4_worthAt_16 ?_
  obtain ⟨hm_dq2, do3, dg4, dd5, dh6, ds7, dl8, dp9, dm10, hf_dq2, hr_do3, hr_dg4, hr_dd5, hr_dh6, hr_ds7, hr_dl8, hr_dp9, hr_dm10⟩ := hd_da _ hi_dq2
  rw [← e_dq2] at hm_dq2 hf_dq2
  refine lv_iload_n hx hb dX4_worthAt_17 rfl (lv_at hl 1 rfl) ?_
  refine z_put (C := RX0) (T := TX0) (N := 8) (ci := 0) (v := .int ho) (fs' := [.int do3, .int dg4, .int dd5, .int ho, .int ds7, .int dl8, .int dp9, .int dm10]) hx hb hT zin_X0 tyX0_ok nmX0 hown hK hw hm_dq2 hf_dq2 rfl 3 (by decide) (hT _ kw_158) rfl rfl rfl (Nat.le_of_ble_eq_true rfl) rfl dX4_worthAt_18 (fun H locs hw => ?_)
  obtain ⟨f11, e_f11⟩ : ∃ z, z = va_up f dq2 (.inr (0, [.int do3, .int dg4, .int dd5, .int ho, .int ds7, .int dl8, .int dp9, .int dm10])) := ⟨_, rfl⟩
  rw [← e_f11] at hw
  have hf_pl : f11 pl = .inr (4, [.ref mo, .ref wk, .ref ot, .int p3, .int p4, .int p5, .int p6, .int p7, .int p8, .int p9, .int p10, .int p11]) := (congrFun e_f11 pl).trans (z_up_ne (z_tne hf_pl hf_dq2 (m := 4) (n := 0) rfl rfl (by decide)) hf_pl)
  have hf_wk : f11 wk = .inr (8, [.ref ks, .int wn, .ref ct, .ref se, .ref ow, .int wt, .int wd, .int wp]) := (congrFun e_f11 wk).trans (z_up_ne (z_tne hf_wk hf_dq2 (m := 8) (n := 0) rfl rfl (by decide)) hf_wk)
  have hf_ks : f11 ks = .inl (cy 1, 13, .inl gk) := (congrFun e_f11 ks).trans (z_up_ne (z_tne hf_ks hf_dq2 (m := 204) (n := 0) rfl rfl (by decide)) hf_ks)
  have hf_ct : f11 ct = .inl (cy 1, 4, .inl gc) := (congrFun e_f11 ct).trans (z_up_ne (z_tne hf_ct hf_dq2 (m := 132) (n := 0) rfl rfl (by decide)) hf_ct)
  have hf_se : f11 se = .inl (cy 1, 4, .inl gq) := (congrFun e_f11 se).trans (z_up_ne (z_tne hf_se hf_dq2 (m := 132) (n := 0) rfl rfl (by decide)) hf_se)
  have hf_ow : f11 ow = .inl (cy 1, 5, .inl go) := (congrFun e_f11 ow).trans (z_up_ne (z_tne hf_ow hf_dq2 (m := 140) (n := 0) rfl rfl (by decide)) hf_ow)
  have hf_mo : f11 mo = .inr (2, [.int v0, .int v1, .int v2, .int v3, .int v4, .int v5, .int v6, .ref la, .ref sa, .ref mi, .ref da]) := (congrFun e_f11 mo).trans (z_up_ne (z_tne hf_mo hf_dq2 (m := 2) (n := 0) rfl rfl (by decide)) hf_mo)
  have hf_la : f11 la = .inl (cy 1, 5, .inl gl) := (congrFun e_f11 la).trans (z_up_ne (z_tne hf_la hf_dq2 (m := 140) (n := 0) rfl rfl (by decide)) hf_la)
  have hf_sa : f11 sa = .inl (cy 1, 4, .inl gs) := (congrFun e_f11 sa).trans (z_up_ne (z_tne hf_sa hf_dq2 (m := 132) (n := 0) rfl rfl (by decide)) hf_sa)
  have hf_mi : f11 mi = .inl (cy 1, 36, .inl gm) := (congrFun e_f11 mi).trans (z_up_ne (z_tne hf_mi hf_dq2 (m := 388) (n := 0) rfl rfl (by decide)) hf_mi)
  have hf_da : f11 da = .inl (cy 4, 13, .inr (.inr (.inr (.inr gd)))) := (congrFun e_f11 da).trans (z_up_ne (z_tne hf_da hf_dq2 (m := 206) (n := 0) rfl rfl (by decide)) hf_da)
  have hd_da : z_Drv L f11 dv 13 := z_Drv_set hd_da e_f11 ⟨_, _, _, _, _, _, _, _, rfl, by first | omega | decide, by first | omega | decide, by first | omega | decide, by first | omega | decide, by first | omega | decide, by first | omega | decide, by first | omega | decide, by first | omega | decide⟩
  have hf_dq2 : f11 dq2 = .inr (0, [.int do3, .int dg4, .int dd5, .int ho, .int ds7, .int dl8, .int dp9, .int dm10]) := (congrFun e_f11 dq2).trans z_up_self
  have hfr : ∀ b ∈ L, b ≠ wk → b ≠ ks → b ≠ ct → b ≠ se → b ≠ ow → (∀ i : Nat, i < 13 → b ≠ dv i) → f11 b = f b := fun b hb h0 h1 h2 h3 h4 hp0 => (congrFun e_f11 b).trans (z_up_ne (by rw [e_dq2]; exact hp0 _ hi_dq2) (hfr b hb h0 h1 h2 h3 h4 hp0))
  refine lv_aload_n hx hb dX4_worthAt_21 rfl (lv_at hl 0 rfl) ?_
  refine z_get (C := RX4) (T := TX4) (N := 12) (ci := 4) (v := .ref wk) hx hb hT zin_X4 hown hK hw hm_pl hf_pl rfl 1 (by decide) (hT _ kw_386) rfl dX4_worthAt_22 ?_
  refine lv_aload_n hx hb dX4_worthAt_25 rfl (lv_at hl 0 rfl) ?_
  refine z_get (C := RX4) (T := TX4) (N := 12) (ci := 4) (v := .ref mo) hx hb hT zin_X4 hown hK hw hm_pl hf_pl rfl 0 (by decide) (hT _ kw_384) rfl dX4_worthAt_26 ?_
  refine lv_aload_n hx hb dX4_worthAt_29 rfl (lv_at hl 0 rfl) ?_
  refine z_get (C := RX4) (T := TX4) (N := 12) (ci := 4) (v := .int p10) hx hb hT zin_X4 hown hK hw hm_pl hf_pl rfl 10 (by decide) (hT _ kw_402) rfl dX4_worthAt_30 ?_
  refine z_calliV (cells := 0) (slots := 0) (b := wk) (As := [.ref mo, .int p10]) (rest := []) (ci := 8) (q0 := (RX8, TX8, 8)) ⟨hx, hb, hml, hown, hT⟩ (c_X8_sumOfOthers l hm_wk hm_ks hm_ct hm_se hm_ow hm_mo hm_la hm_sa hm_mi hm_da hf_wk hf_ks hf_ct hf_se hf_ow hf_mo hf_la hf_sa hf_mi hf_da ne_ct_se ne_ct_sa ne_se_sa ne_ow_la hg_da hd_da (by first | omega | decide | assumption) (by first | omega | decide | assumption) hgk hgm (by first | omega | decide | assumption)) (cwV 2 hT (z_goodV (fun _ h => h) kw_968 kw_957 kw_958 kw_92 kw_959) rfl rfl rfl (by decide +kernel) ⟨by decide, by decide⟩) z_mv hKK hK hw hA hm_wk hf_wk rfl rfl rfl hl.1 rfl (Nat.le_of_ble_eq_true rfl) dX4_worthAt_33 ⟨by decide, by decide⟩ (fun r12 u H locs hp hw => ?_)
  obtain ⟨L13, f14⟩ := u
  obtain ⟨hsb, hfm, w2_15, t2_16, k2_17, c2_18, q2_19, o2_20, ha_0, ha_1, ha_2, ha_3, ha_4, hp⟩ := hp
  have hsb : L = L13 := hsb
  subst hsb
  have hsb : ∀ b ∈ L, b ∈ L := fun _ h => h
  have hw : z_H D vwCl (z_A L sz) s.heap L f14 H locs := hw
  have hfr : ∀ b ∈ L, b ≠ wk → b ≠ ks → b ≠ ct → b ≠ se → b ≠ ow → (∀ i : Nat, i < 13 → b ≠ dv i) → f14 b = f b := fun b hb h0 h1 h2 h3 h4 hp0 => (hfm b hb h0 h1 h2 h3 h4).trans (hfr b hb h0 h1 h2 h3 h4 hp0)
  have hd_da : z_Drv L f14 dv 13 := z_Drv_fr hd_da hsb (fun b hb ht => hfm b hb (z_t0 ht hf_wk (m := 8) rfl (by decide)) (z_t0 ht hf_ks (m := 204) rfl (by decide)) (z_t0 ht hf_ct (m := 132) rfl (by decide)) (z_t0 ht hf_se (m := 132) rfl (by decide)) (z_t0 ht hf_ow (m := 140) rfl (by decide)))
  have hf_pl : f14 pl = .inr (4, [.ref mo, .ref wk, .ref ot, .int p3, .int p4, .int p5, .int p6, .int p7, .int p8, .int p9, .int p10, .int p11]) := (hfm pl hm_pl (z_tne hf_pl hf_wk (m := 4) (n := 8) rfl rfl (by decide)) (z_tne hf_pl hf_ks (m := 4) (n := 204) rfl rfl (by decide)) (z_tne hf_pl hf_ct (m := 4) (n := 132) rfl rfl (by decide)) (z_tne hf_pl hf_se (m := 4) (n := 132) rfl rfl (by decide)) (z_tne hf_pl hf_ow (m := 4) (n := 140) rfl rfl (by decide))).trans hf_pl
  have hf_mo : f14 mo = .inr (2, [.int v0, .int v1, .int v2, .int v3, .int v4, .int v5, .int v6, .ref la, .ref sa, .ref mi, .ref da]) := (hfm mo hm_mo (z_tne hf_mo hf_wk (m := 2) (n := 8) rfl rfl (by decide)) (z_tne hf_mo hf_ks (m := 2) (n := 204) rfl rfl (by decide)) (z_tne hf_mo hf_ct (m := 2) (n := 132) rfl rfl (by decide)) (z_tne hf_mo hf_se (m := 2) (n := 132) rfl rfl (by decide)) (z_tne hf_mo hf_ow (m := 2) (n := 140) rfl rfl (by decide))).trans hf_mo
  have hf_la : f14 la = .inl (cy 1, 5, .inl gl) := (hfm la hm_la (z_tne hf_la hf_wk (m := 140) (n := 8) rfl rfl (by decide)) (z_tne hf_la hf_ks (m := 140) (n := 204) rfl rfl (by decide)) (z_tne hf_la hf_ct (m := 140) (n := 132) rfl rfl (by decide)) (z_tne hf_la hf_se (m := 140) (n := 132) rfl rfl (by decide)) (Ne.symm ne_ow_la)).trans hf_la
  have hf_sa : f14 sa = .inl (cy 1, 4, .inl gs) := (hfm sa hm_sa (z_tne hf_sa hf_wk (m := 132) (n := 8) rfl rfl (by decide)) (z_tne hf_sa hf_ks (m := 132) (n := 204) rfl rfl (by decide)) (Ne.symm ne_ct_sa) (Ne.symm ne_se_sa) (z_tne hf_sa hf_ow (m := 132) (n := 140) rfl rfl (by decide))).trans hf_sa
  have hf_mi : f14 mi = .inl (cy 1, 36, .inl gm) := (hfm mi hm_mi (z_tne hf_mi hf_wk (m := 388) (n := 8) rfl rfl (by decide)) (z_tne hf_mi hf_ks (m := 388) (n := 204) rfl rfl (by decide)) (z_tne hf_mi hf_ct (m := 388) (n := 132) rfl rfl (by decide)) (z_tne hf_mi hf_se (m := 388) (n := 132) rfl rfl (by decide)) (z_tne hf_mi hf_ow (m := 388) (n := 140) rfl rfl (by decide))).trans hf_mi
  have hf_da : f14 da = .inl (cy 4, 13, .inr (.inr (.inr (.inr gd)))) := (hfm da hm_da (z_tne hf_da hf_wk (m := 206) (n := 8) rfl rfl (by decide)) (z_tne hf_da hf_ks (m := 206) (n := 204) rfl rfl (by decide)) (z_tne hf_da hf_ct (m := 206) (n := 132) rfl rfl (by decide)) (z_tne hf_da hf_se (m := 206) (n := 132) rfl rfl (by decide)) (z_tne hf_da hf_ow (m := 206) (n := 140) rfl rfl (by decide))).trans hf_da
  have hf_dq2 : f14 dq2 = .inr (0, [.int do3, .int dg4, .int dd5, .int ho, .int ds7, .int dl8, .int dp9, .int dm10]) := (hfm dq2 hm_dq2 (z_tne hf_dq2 hf_wk (m := 0) (n := 8) rfl rfl (by decide)) (z_tne hf_dq2 hf_ks (m := 0) (n := 204) rfl rfl (by decide)) (z_tne hf_dq2 hf_ct (m := 0) (n := 132) rfl rfl (by decide)) (z_tne hf_dq2 hf_se (m := 0) (n := 132) rfl rfl (by decide)) (z_tne hf_dq2 hf_ow (m := 0) (n := 140) rfl rfl (by decide))).trans hf_dq2
  have hf_wk : f14 wk = .inr (8, [.ref ks, .int w2_15, .ref ct, .ref se, .ref ow, .int t2_16, .int wd, .int wp]) := ha_0
  have hf_ks : f14 ks = .inl (cy 1, 13, .inl k2_17) := ha_1
  have hf_ct : f14 ct = .inl (cy 1, 4, .inl c2_18) := ha_2
  have hf_se : f14 se = .inl (cy 1, 4, .inl q2_19) := ha_3
  have hf_ow : f14 ow = .inl (cy 1, 5, .inl o2_20) := ha_4
  have hbg21 := hp
  refine lv_aload_n hx hb dX4_worthAt_36 rfl (lv_at hl 0 rfl) ?_
  refine z_get (C := RX4) (T := TX4) (N := 12) (ci := 4) (v := .int p11) hx hb hT zin_X4 hown hK hw hm_pl hf_pl rfl 11 (by decide) (hT _ kw_403) rfl dX4_worthAt_37 ?_
  refine lv_isub hx hb dX4_worthAt_40 ?_
  refine lv_topi (fun w22 e_w22 => ?_)
  exact z_iret hx hb hr hlk (by decide) (by decide) hw (⟨hsub, hfr, w2_15, t2_16, k2_17, c2_18, q2_19, o2_20, hf_wk, hf_ks, hf_ct, hf_se, hf_ow, hd_da, by omega, hbg21.2⟩) dX4_worthAt_41

set_option maxHeartbeats 2000000 in
set_option maxRecDepth 100000 in
theorem c_X4_seekSplit (l : Launch) {D : va_G} {cy : Nat → ClassId} {L : List Nat} {f : Nat → va_E} {sz : Nat} {adK adV : Nat → Nat} {pl ot : Nat} {p3 p4 p5 p6 p7 p8 p9 p10 p11 : Int32} {gx : Nat → Int32} {wk ks ct se ow : Nat} {wn wt wd wp : Int32} {gk gc gq go : Nat → Int32} {mo la sa mi da : Nat} {v0 v1 v2 v3 v4 v5 v6 : Int32} {gl gs gm : Nat → Int32} {gd : Nat → Option Nat} {dv : Nat → Nat} {nu : Int32} (hm_pl : pl ∈ L) (hm_ot : ot ∈ L) (hm_wk : wk ∈ L) (hm_ks : ks ∈ L) (hm_ct : ct ∈ L) (hm_se : se ∈ L) (hm_ow : ow ∈ L) (hm_mo : mo ∈ L) (hm_la : la ∈ L) (hm_sa : sa ∈ L) (hm_mi : mi ∈ L) (hm_da : da ∈ L) (hf_pl : f pl = .inr (4, [.ref mo, .ref wk, .ref ot, .int p3, .int p4, .int p5, .int p6, .int p7, .int p8, .int p9, .int p10, .int p11])) (hf_ot : f ot = .inl (cy 1, 216, .inl gx)) (hf_wk : f wk = .inr (8, [.ref ks, .int wn, .ref ct, .ref se, .ref ow, .int wt, .int wd, .int wp])) (hf_ks : f ks = .inl (cy 1, 13, .inl gk)) (hf_ct : f ct = .inl (cy 1, 4, .inl gc)) (hf_se : f se = .inl (cy 1, 4, .inl gq)) (hf_ow : f ow = .inl (cy 1, 5, .inl go)) (hf_mo : f mo = .inr (2, [.int v0, .int v1, .int v2, .int v3, .int v4, .int v5, .int v6, .ref la, .ref sa, .ref mi, .ref da])) (hf_la : f la = .inl (cy 1, 5, .inl gl)) (hf_sa : f sa = .inl (cy 1, 4, .inl gs)) (hf_mi : f mi = .inl (cy 1, 36, .inl gm)) (hf_da : f da = .inl (cy 4, 13, .inr (.inr (.inr (.inr gd))))) (ne_ct_se : ct ≠ se) (ne_ct_sa : ct ≠ sa) (ne_se_sa : se ≠ sa) (ne_ow_la : ow ≠ la) (hg_da : ∀ i : Nat, i < 13 → gd i = some (dv i)) (hd_da : z_Drv L f dv 13) (hv2 : 0 ≤ v2.toInt ∧ v2.toInt ≤ 9) (hv5 : 0 ≤ v5.toInt ∧ v5.toInt ≤ 12) (hnu : 0 ≤ nu.toInt ∧ nu.toInt < v5.toInt) (hv1 : 0 ≤ v1.toInt ∧ v1.toInt ≤ 4) (hgk : ∀ j : Nat, z_key (gk j)) (hgm : ∀ j : Nat, 0 ≤ (gm j).toInt ∧ (gm j).toInt ≤ 9) (hdj : ∀ i j : Nat, i < 13 → j < 13 → i ≠ j → dv i ≠ dv j) (hp4 : 0 ≤ p4.toInt ∧ p4.toInt ≤ 3) (hp5 : 0 ≤ p5.toInt ∧ p5.toInt ≤ 23) (hwn : 0 ≤ wn.toInt ∧ wn.toInt ≤ 13) (hnum : v5.toNatClampNeg ≠ nu.toNatClampNeg) : Met l yX4_seekSplit (z_ws yX4_seekSplit cX4_seekSplit 6 none) (z_R 6 0 0) (va_Pc [.ref pl, .int nu] (z_Pre D vwCl (z_KK D cy adK adV) L f sz)) (z_Qv D vwCl (fun u => L = u.1 ∧ (∀ b ∈ L, b ≠ pl → b ≠ ot → b ≠ mo → b ≠ wk → b ≠ ks → b ≠ ct → b ≠ se → b ≠ ow → (∀ i : Nat, i < 13 → b ≠ dv i) → u.2 b = f b) ∧ (∃ (w2 t2 y5 q3 q4 q5 q6 q7 q8 q9 : Int32) (k2 c2 s2 o2 x2 : Nat → Int32), (u.2 pl = .inr (4, [.ref mo, .ref wk, .ref ot, .int q3, .int q4, .int q5, .int q6, .int q7, .int q8, .int q9, .int p10, .int p11])) ∧ (u.2 ot = .inl (cy 1, 216, .inl x2)) ∧ (u.2 mo = .inr (2, [.int v0, .int v1, .int v2, .int v3, .int v4, .int y5, .int v6, .ref la, .ref sa, .ref mi, .ref da])) ∧ (u.2 wk = .inr (8, [.ref ks, .int w2, .ref ct, .ref se, .ref ow, .int t2, .int wd, .int wp])) ∧ (u.2 ks = .inl (cy 1, 13, .inl k2)) ∧ (u.2 ct = .inl (cy 1, 4, .inl c2)) ∧ (u.2 se = .inl (cy 1, 4, .inl s2)) ∧ (u.2 ow = .inl (cy 1, 5, .inl o2)) ∧ (z_Drv u.1 u.2 dv 13) ∧ ((0 ≤ y5.toInt ∧ y5.toInt ≤ 13) ∧ (0 ≤ w2.toInt ∧ w2.toInt ≤ 13) ∧ (0 ≤ q4.toInt ∧ q4.toInt ≤ 3) ∧ (0 ≤ q5.toInt ∧ q5.toInt ≤ 23) ∧ ∀ j : Nat, z_key (k2 j)))) L sz) 0 0 (z_A L sz) := by
  refine z_met (cc := cX4_seekSplit) (maxL := 6) (ret := none) (lv := [(0, .ref pl), (1, .int nu)]) (by decide) rfl (Nat.le_of_ble_eq_true rfl) rfl ?_
  intro p e s m below meth c ls hx hb hr hlk hml hown hnm hts hKK hA hw hl
  have hK := hKK.1.1
  have hown : s.vm.findClass RX4 = some m.cls := hown
  have hT : ∀ w ∈ lw_all, w.before ([.ref pl, .int nu] : List Value).toArray s = true := fun w h => hts w (z_cons w h)
  have hsub : L = L := rfl
  have hfr : ∀ b ∈ L, b ≠ pl → b ≠ ot → b ≠ mo → b ≠ wk → b ≠ ks → b ≠ ct → b ≠ se → b ≠ ow → (∀ i : Nat, i < 13 → b ≠ dv i) → f b = f b := fun _ _ _ _ _ _ _ _ _ _ _ => rfl
  refine lv_aload_n hx hb dX4_seekSplit_0 rfl (lv_at hl 0 rfl) ?_
  refine z_get (C := RX4) (T := TX4) (N := 12) (ci := 4) (v := .ref mo) hx hb hT zin_X4 hown hK hw hm_pl hf_pl rfl 0 (by decide) (hT _ kw_384) rfl dX4_seekSplit_1 ?_
  refine z_get (C := RX2) (T := TX2) (N := 11) (ci := 2) (v := .ref da) hx hb hT zin_X2 hown hK hw hm_mo hf_mo rfl 10 (by decide) (hT _ kw_243) rfl dX4_seekSplit_4 ?_
  refine lv_iload_n hx hb dX4_seekSplit_7 rfl (lv_at hl 1 rfl) ?_
  obtain ⟨dq1, e_dq1⟩ : ∃ z, z = dv nu.toNatClampNeg := ⟨_, rfl⟩
  have hi_dq1 : nu.toNatClampNeg < 13 := z_clI rfl (by omega)
  refine z_aald (b := dq1) hx hb hK hw 4 hm_da hf_da rfl (z_ix rfl (by omega)) (by rw [e_dq1]; exact hg_da _ hi_dq1) dX4_seekSplit_8 ?_
  obtain ⟨hm_dq1, do2, dg3, dd4, dh5, ds6, dl7, dp8, dm9, hf_dq1, hr_do2, hr_dg3, hr_dd4, hr_dh5, hr_ds6, hr_dl7, hr_dp8, hr_dm9⟩ := hd_da _ hi_dq1
  rw [← e_dq1] at hm_dq1 hf_dq1
  refine lv_astore_n (lv' := [(2, .ref dq1), (0, .ref pl), (1, .int nu)]) hx hb dX4_seekSplit_9 rfl hl (by decide) rfl (fun ls hl => ?_)
  refine lv_aload_n hx hb dX4_seekSplit_10 rfl (lv_at hl 1 rfl) ?_
  refine z_get (C := RX4) (T := TX4) (N := 12) (ci := 4) (v := .ref mo) hx hb hT zin_X4 hown hK hw hm_pl hf_pl rfl 0 (by decide) (hT _ kw_384) rfl dX4_seekSplit_11 ?_
  refine z_get (C := RX2) (T := TX2) (N := 11) (ci := 2) (v := .int v5) hx hb hT zin_X2 hown hK hw hm_mo hf_mo rfl 5 (by decide) (hT _ kw_223) rfl dX4_seekSplit_14 ?_
  refine lv_istore_n (lv' := [(3, .int v5), (2, .ref dq1), (0, .ref pl), (1, .int nu)]) hx hb dX4_seekSplit_17 rfl hl (by decide) rfl (fun ls hl => ?_)
  refine lv_aload_n hx hb dX4_seekSplit_18 rfl (lv_at hl 1 rfl) ?_
  refine z_get (C := RX0) (T := TX0) (N := 8) (ci := 0) (v := .int ds6) hx hb hT zin_X0 hown hK hw hm_dq1 hf_dq1 rfl 4 (by decide) (hT _ kw_164) rfl dX4_seekSplit_19 ?_
  refine lv_istore (lv' := [(4, .int ds6), (3, .int v5), (2, .ref dq1), (0, .ref pl), (1, .int nu)]) hx hb dX4_seekSplit_22 hl (by decide) rfl (fun ls hl => ?_)
  refine lv_aload_n hx hb dX4_seekSplit_24 rfl (lv_at hl 3 rfl) ?_
  refine z_get (C := RX4) (T := TX4) (N := 12) (ci := 4) (v := .ref mo) hx hb hT zin_X4 hown hK hw hm_pl hf_pl rfl 0 (by decide) (hT _ kw_384) rfl dX4_seekSplit_25 ?_
  refine z_get (C := RX2) (T := TX2) (N := 11) (ci := 2) (v := .ref da) hx hb hT zin_X2 hown hK hw hm_mo hf_mo rfl 10 (by decide) (hT _ kw_243) rfl dX4_seekSplit_28 ?_
  refine lv_iload_n hx hb dX4_seekSplit_31 rfl (lv_at hl 1 rfl) ?_
  obtain ⟨dq10, e_dq10⟩ : ∃ z, z = dv v5.toNatClampNeg := ⟨_, rfl⟩
  have hi_dq10 : v5.toNatClampNeg < 13 := z_clI rfl (by omega)
  refine z_aald (b := dq10) hx hb hK hw 4 hm_da hf_da rfl (z_ix rfl (by omega)) (by rw [e_dq10]; exact hg_da _ hi_dq10) dX4_seekSplit_32 ?_
  obtain ⟨hm_dq10, do11, dg12, dd13, dh14, ds15, dl16, dp17, dm18, hf_dq10, hr_do11, hr_dg12, hr_dd13, hr_dh14, hr_ds15, hr_dl16, hr_dp17, hr_dm18⟩ := hd_da _ hi_dq10
  rw [← e_dq10] at hm_dq10 hf_dq10
  refine lv_aload_n hx hb dX4_seekSplit_33 rfl (lv_at hl 2 rfl) ?_
  have ne_dq10_dq1 : dq10 ≠ dq1 := by rw [e_dq10, e_dq1]; exact hdj _ _ hi_dq10 hi_dq1 hnum
  refine z_callvV (cells := 0) (slots := 0) (b := dq10) (As := [.ref dq1]) (rest := []) (ci := 0) (q0 := (RX0, TX0, 8)) ⟨hx, hb, hml, hown, hT⟩ (c_X0_copy l hm_dq10 hm_dq1 hf_dq10 hf_dq1 ne_dq10_dq1) (cwV 1 hT (z_goodV (fun _ h => h) kw_928 kw_698 kw_699 kw_88 kw_700) rfl rfl rfl (by decide +kernel) ⟨by decide, by decide⟩) z_mv hKK hK hw hA hm_dq10 hf_dq10 rfl rfl rfl hl.1 rfl (Nat.le_of_ble_eq_true rfl) dX4_seekSplit_34 ⟨by decide, by decide⟩ (fun u H locs hp hw => ?_)
  obtain ⟨L19, f20⟩ := u
  obtain ⟨hsb, hfm, ha_0, hp⟩ := hp
  have hsb : L = L19 := hsb
  subst hsb
  have hsb : ∀ b ∈ L, b ∈ L := fun _ h => h
  have hw : z_H D vwCl (z_A L sz) s.heap L f20 H locs := hw
  have hfr : ∀ b ∈ L, b ≠ pl → b ≠ ot → b ≠ mo → b ≠ wk → b ≠ ks → b ≠ ct → b ≠ se → b ≠ ow → (∀ i : Nat, i < 13 → b ≠ dv i) → f20 b = f b := fun b hb h0 h1 h2 h3 h4 h5 h6 h7 hp0 => (hfm b hb (by rw [e_dq10]; exact hp0 _ hi_dq10)).trans (hfr b hb h0 h1 h2 h3 h4 h5 h6 h7 hp0)
  have hd_da : z_Drv L f20 dv 13 := z_Drv_one hd_da hsb ha_0 ⟨_, _, _, _, _, _, _, _, rfl, by first | omega | decide, by first | omega | decide, by first | omega | decide, by first | omega | decide, by first | omega | decide, by first | omega | decide, by first | omega | decide, by first | omega | decide⟩ hfm
  have hf_pl : f20 pl = .inr (4, [.ref mo, .ref wk, .ref ot, .int p3, .int p4, .int p5, .int p6, .int p7, .int p8, .int p9, .int p10, .int p11]) := (hfm pl hm_pl (z_tne hf_pl hf_dq10 (m := 4) (n := 0) rfl rfl (by decide))).trans hf_pl
  have hf_ot : f20 ot = .inl (cy 1, 216, .inl gx) := (hfm ot hm_ot (z_tne hf_ot hf_dq10 (m := 1828) (n := 0) rfl rfl (by decide))).trans hf_ot
  have hf_wk : f20 wk = .inr (8, [.ref ks, .int wn, .ref ct, .ref se, .ref ow, .int wt, .int wd, .int wp]) := (hfm wk hm_wk (z_tne hf_wk hf_dq10 (m := 8) (n := 0) rfl rfl (by decide))).trans hf_wk
  have hf_ks : f20 ks = .inl (cy 1, 13, .inl gk) := (hfm ks hm_ks (z_tne hf_ks hf_dq10 (m := 204) (n := 0) rfl rfl (by decide))).trans hf_ks
  have hf_ct : f20 ct = .inl (cy 1, 4, .inl gc) := (hfm ct hm_ct (z_tne hf_ct hf_dq10 (m := 132) (n := 0) rfl rfl (by decide))).trans hf_ct
  have hf_se : f20 se = .inl (cy 1, 4, .inl gq) := (hfm se hm_se (z_tne hf_se hf_dq10 (m := 132) (n := 0) rfl rfl (by decide))).trans hf_se
  have hf_ow : f20 ow = .inl (cy 1, 5, .inl go) := (hfm ow hm_ow (z_tne hf_ow hf_dq10 (m := 140) (n := 0) rfl rfl (by decide))).trans hf_ow
  have hf_mo : f20 mo = .inr (2, [.int v0, .int v1, .int v2, .int v3, .int v4, .int v5, .int v6, .ref la, .ref sa, .ref mi, .ref da]) := (hfm mo hm_mo (z_tne hf_mo hf_dq10 (m := 2) (n := 0) rfl rfl (by decide))).trans hf_mo
  have hf_la : f20 la = .inl (cy 1, 5, .inl gl) := (hfm la hm_la (z_tne hf_la hf_dq10 (m := 140) (n := 0) rfl rfl (by decide))).trans hf_la
  have hf_sa : f20 sa = .inl (cy 1, 4, .inl gs) := (hfm sa hm_sa (z_tne hf_sa hf_dq10 (m := 132) (n := 0) rfl rfl (by decide))).trans hf_sa
  have hf_mi : f20 mi = .inl (cy 1, 36, .inl gm) := (hfm mi hm_mi (z_tne hf_mi hf_dq10 (m := 388) (n := 0) rfl rfl (by decide))).trans hf_mi
  have hf_da : f20 da = .inl (cy 4, 13, .inr (.inr (.inr (.inr gd)))) := (hfm da hm_da (z_tne hf_da hf_dq10 (m := 206) (n := 0) rfl rfl (by decide))).trans hf_da
  have hf_dq1 : f20 dq1 = .inr (0, [.int do2, .int dg3, .int dd4, .int dh5, .int ds6, .int dl7, .int dp8, .int dm9]) := (hfm dq1 hm_dq1 (Ne.symm ne_dq10_dq1)).trans hf_dq1
  have hf_dq10 : f20 dq10 = .inr (0, [.int do2, .int dg3, .int dd4, .int dh5, .int ds6, .int dl7, .int dp8, .int dm9]) := ha_0
  refine lv_aload_n hx hb dX4_seekSplit_37 rfl (lv_at hl 3 rfl) ?_
  refine z_get (C := RX4) (T := TX4) (N := 12) (ci := 4) (v := .ref mo) hx hb hT zin_X4 hown hK hw hm_pl hf_pl rfl 0 (by decide) (hT _ kw_384) rfl dX4_seekSplit_38 ?_
  refine lv_iload_n hx hb dX4_seekSplit_41 rfl (lv_at hl 1 rfl) ?_
  refine lv_iconst (v := 1) hx hb dX4_seekSplit_42 (by decide) ?_
  refine lv_iadd hx hb dX4_seekSplit_43 ?_
  refine lv_topi (fun w21 e_w21 => ?_)
  have i_w21 : w21.toInt = (v5.toInt + 1) := z_add e_w21 rfl (show (1 : Int32).toInt = 1 by decide) (by omega)
  refine z_put (C := RX2) (T := TX2) (N := 11) (ci := 2) (v := .int w21) (fs' := [.int v0, .int v1, .int v2, .int v3, .int v4, .int w21, .int v6, .ref la, .ref sa, .ref mi, .ref da]) hx hb hT zin_X2 tyX2_ok nmX2 hown hK hw hm_mo hf_mo rfl 5 (by decide) (hT _ kw_223) rfl rfl rfl (Nat.le_of_ble_eq_true rfl) rfl dX4_seekSplit_44 (fun H locs hw => ?_)
  obtain ⟨f22, e_f22⟩ : ∃ z, z = va_up f20 mo (.inr (2, [.int v0, .int v1, .int v2, .int v3, .int v4, .int w21, .int v6, .ref la, .ref sa, .ref mi, .ref da])) := ⟨_, rfl⟩
  rw [← e_f22] at hw
  have hf_pl : f22 pl = .inr (4, [.ref mo, .ref wk, .ref ot, .int p3, .int p4, .int p5, .int p6, .int p7, .int p8, .int p9, .int p10, .int p11]) := (congrFun e_f22 pl).trans (z_up_ne (z_tne hf_pl hf_mo (m := 4) (n := 2) rfl rfl (by decide)) hf_pl)
  have hf_ot : f22 ot = .inl (cy 1, 216, .inl gx) := (congrFun e_f22 ot).trans (z_up_ne (z_tne hf_ot hf_mo (m := 1828) (n := 2) rfl rfl (by decide)) hf_ot)
  have hf_wk : f22 wk = .inr (8, [.ref ks, .int wn, .ref ct, .ref se, .ref ow, .int wt, .int wd, .int wp]) := (congrFun e_f22 wk).trans (z_up_ne (z_tne hf_wk hf_mo (m := 8) (n := 2) rfl rfl (by decide)) hf_wk)
  have hf_ks : f22 ks = .inl (cy 1, 13, .inl gk) := (congrFun e_f22 ks).trans (z_up_ne (z_tne hf_ks hf_mo (m := 204) (n := 2) rfl rfl (by decide)) hf_ks)
  have hf_ct : f22 ct = .inl (cy 1, 4, .inl gc) := (congrFun e_f22 ct).trans (z_up_ne (z_tne hf_ct hf_mo (m := 132) (n := 2) rfl rfl (by decide)) hf_ct)
  have hf_se : f22 se = .inl (cy 1, 4, .inl gq) := (congrFun e_f22 se).trans (z_up_ne (z_tne hf_se hf_mo (m := 132) (n := 2) rfl rfl (by decide)) hf_se)
  have hf_ow : f22 ow = .inl (cy 1, 5, .inl go) := (congrFun e_f22 ow).trans (z_up_ne (z_tne hf_ow hf_mo (m := 140) (n := 2) rfl rfl (by decide)) hf_ow)
  have hf_la : f22 la = .inl (cy 1, 5, .inl gl) := (congrFun e_f22 la).trans (z_up_ne (z_tne hf_la hf_mo (m := 140) (n := 2) rfl rfl (by decide)) hf_la)
  have hf_sa : f22 sa = .inl (cy 1, 4, .inl gs) := (congrFun e_f22 sa).trans (z_up_ne (z_tne hf_sa hf_mo (m := 132) (n := 2) rfl rfl (by decide)) hf_sa)
  have hf_mi : f22 mi = .inl (cy 1, 36, .inl gm) := (congrFun e_f22 mi).trans (z_up_ne (z_tne hf_mi hf_mo (m := 388) (n := 2) rfl rfl (by decide)) hf_mi)
  have hf_da : f22 da = .inl (cy 4, 13, .inr (.inr (.inr (.inr gd)))) := (congrFun e_f22 da).trans (z_up_ne (z_tne hf_da hf_mo (m := 206) (n := 2) rfl rfl (by decide)) hf_da)
  have hf_dq1 : f22 dq1 = .inr (0, [.int do2, .int dg3, .int dd4, .int dh5, .int ds6, .int dl7, .int dp8, .int dm9]) := (congrFun e_f22 dq1).trans (z_up_ne (z_tne hf_dq1 hf_mo (m := 0) (n := 2) rfl rfl (by decide)) hf_dq1)
  have hf_dq10 : f22 dq10 = .inr (0, [.int do2, .int dg3, .int dd4, .int dh5, .int ds6, .int dl7, .int dp8, .int dm9]) := (congrFun e_f22 dq10).trans (z_up_ne (z_tne hf_dq10 hf_mo (m := 0) (n := 2) rfl rfl (by decide)) hf_dq10)
  have hd_da : z_Drv L f22 dv 13 := z_Drv_up hd_da e_f22 hf_mo (m := 2) rfl (by decide)
  have hf_mo : f22 mo = .inr (2, [.int v0, .int v1, .int v2, .int v3, .int v4, .int w21, .int v6, .ref la, .ref sa, .ref mi, .ref da]) := (congrFun e_f22 mo).trans z_up_self
  have hfr : ∀ b ∈ L, b ≠ pl → b ≠ ot → b ≠ mo → b ≠ wk → b ≠ ks → b ≠ ct → b ≠ se → b ≠ ow → (∀ i : Nat, i < 13 → b ≠ dv i) → f22 b = f b := fun b hb h0 h1 h2 h3 h4 h5 h6 h7 hp0 => (congrFun e_f22 b).trans (z_up_ne h2 (hfr b hb h0 h1 h2 h3 h4 h5 h6 h7 hp0))
  refine lv_aload_n hx hb dX4_seekSplit_47 rfl (lv_at hl 2 rfl) ?_
  refine lv_iconst (v := 0) hx hb dX4_seekSplit_48 (by decide) ?_
  refine z_put (C := RX0) (T := TX0) (N := 8) (ci := 0) (v := .int 0) (fs' := [.int do2, .int dg3, .int dd4, .int dh5, .int ds6, .int 0, .int dp8, .int dm9]) hx hb hT zin_X0 tyX0_ok nmX0 hown hK hw hm_dq1 hf_dq1 rfl 5 (by decide) (hT _ kw_170) rfl rfl rfl (Nat.le_of_ble_eq_true rfl) rfl dX4_seekSplit_49 (fun H locs hw => ?_)
  obtain ⟨f23, e_f23⟩ : ∃ z, z = va_up f22 dq1 (.inr (0, [.int do2, .int dg3, .int dd4, .int dh5, .int ds6, .int 0, .int dp8, .int dm9])) := ⟨_, rfl⟩
  rw [← e_f23] at hw
  have hf_pl : f23 pl = .inr (4, [.ref mo, .ref wk, .ref ot, .int p3, .int p4, .int p5, .int p6, .int p7, .int p8, .int p9, .int p10, .int p11]) := (congrFun e_f23 pl).trans (z_up_ne (z_tne hf_pl hf_dq1 (m := 4) (n := 0) rfl rfl (by decide)) hf_pl)
  have hf_ot : f23 ot = .inl (cy 1, 216, .inl gx) := (congrFun e_f23 ot).trans (z_up_ne (z_tne hf_ot hf_dq1 (m := 1828) (n := 0) rfl rfl (by decide)) hf_ot)
  have hf_wk : f23 wk = .inr (8, [.ref ks, .int wn, .ref ct, .ref se, .ref ow, .int wt, .int wd, .int wp]) := (congrFun e_f23 wk).trans (z_up_ne (z_tne hf_wk hf_dq1 (m := 8) (n := 0) rfl rfl (by decide)) hf_wk)
  have hf_ks : f23 ks = .inl (cy 1, 13, .inl gk) := (congrFun e_f23 ks).trans (z_up_ne (z_tne hf_ks hf_dq1 (m := 204) (n := 0) rfl rfl (by decide)) hf_ks)
  have hf_ct : f23 ct = .inl (cy 1, 4, .inl gc) := (congrFun e_f23 ct).trans (z_up_ne (z_tne hf_ct hf_dq1 (m := 132) (n := 0) rfl rfl (by decide)) hf_ct)
  have hf_se : f23 se = .inl (cy 1, 4, .inl gq) := (congrFun e_f23 se).trans (z_up_ne (z_tne hf_se hf_dq1 (m := 132) (n := 0) rfl rfl (by decide)) hf_se)
  have hf_ow : f23 ow = .inl (cy 1, 5, .inl go) := (congrFun e_f23 ow).trans (z_up_ne (z_tne hf_ow hf_dq1 (m := 140) (n := 0) rfl rfl (by decide)) hf_ow)
  have hf_mo : f23 mo = .inr (2, [.int v0, .int v1, .int v2, .int v3, .int v4, .int w21, .int v6, .ref la, .ref sa, .ref mi, .ref da]) := (congrFun e_f23 mo).trans (z_up_ne (z_tne hf_mo hf_dq1 (m := 2) (n := 0) rfl rfl (by decide)) hf_mo)
  have hf_la : f23 la = .inl (cy 1, 5, .inl gl) := (congrFun e_f23 la).trans (z_up_ne (z_tne hf_la hf_dq1 (m := 140) (n := 0) rfl rfl (by decide)) hf_la)
  have hf_sa : f23 sa = .inl (cy 1, 4, .inl gs) := (congrFun e_f23 sa).trans (z_up_ne (z_tne hf_sa hf_dq1 (m := 132) (n := 0) rfl rfl (by decide)) hf_sa)
  have hf_mi : f23 mi = .inl (cy 1, 36, .inl gm) := (congrFun e_f23 mi).trans (z_up_ne (z_tne hf_mi hf_dq1 (m := 388) (n := 0) rfl rfl (by decide)) hf_mi)
  have hf_da : f23 da = .inl (cy 4, 13, .inr (.inr (.inr (.inr gd)))) := (congrFun e_f23 da).trans (z_up_ne (z_tne hf_da hf_dq1 (m := 206) (n := 0) rfl rfl (by decide)) hf_da)
  have hd_da : z_Drv L f23 dv 13 := z_Drv_set hd_da e_f23 ⟨_, _, _, _, _, _, _, _, rfl, by first | omega | decide, by first | omega | decide, by first | omega | decide, by first | omega | decide, by first | omega | decide, by first | omega | decide, by first | omega | decide, by first | omega | decide⟩
  have hf_dq1 : f23 dq1 = .inr (0, [.int do2, .int dg3, .int dd4, .int dh5, .int ds6, .int 0, .int dp8, .int dm9]) := (congrFun e_f23 dq1).trans z_up_self
  have hfr : ∀ b ∈ L, b ≠ pl → b ≠ ot → b ≠ mo → b ≠ wk → b ≠ ks → b ≠ ct → b ≠ se → b ≠ ow → (∀ i : Nat, i < 13 → b ≠ dv i) → f23 b = f b := fun b hb h0 h1 h2 h3 h4 h5 h6 h7 hp0 => (congrFun e_f23 b).trans (z_up_ne (by rw [e_dq1]; exact hp0 _ hi_dq1) (hfr b hb h0 h1 h2 h3 h4 h5 h6 h7 hp0))
  refine lv_aload_n hx hb dX4_seekSplit_52 rfl (lv_at hl 3 rfl) ?_
  refine lv_ldc (v := 1000000000) hx hb hown (hT _ kw_914) dX4_seekSplit_53 ?_
  refine z_put (C := RX4) (T := TX4) (N := 12) (ci := 4) (v := .int 1000000000) (fs' := [.ref mo, .ref wk, .ref ot, .int p3, .int p4, .int p5, .int 1000000000, .int p7, .int p8, .int p9, .int p10, .int p11]) hx hb hT zin_X4 tyX4_ok nmX4 hown hK hw hm_pl hf_pl rfl 6 (by decide) (hT _ kw_394) rfl rfl rfl (Nat.le_of_ble_eq_true rfl) rfl dX4_seekSplit_55 (fun H locs hw => ?_)
  obtain ⟨f24, e_f24⟩ : ∃ z, z = va_up f23 pl (.inr (4, [.ref mo, .ref wk, .ref ot, .int p3, .int p4, .int p5, .int 1000000000, .int p7, .int p8, .int p9, .int p10, .int p11])) := ⟨_, rfl⟩
  rw [← e_f24] at hw
  have hf_ot : f24 ot = .inl (cy 1, 216, .inl gx) := (congrFun e_f24 ot).trans (z_up_ne (z_tne hf_ot hf_pl (m := 1828) (n := 4) rfl rfl (by decide)) hf_ot)
  have hf_wk : f24 wk = .inr (8, [.ref ks, .int wn, .ref ct, .ref se, .ref ow, .int wt, .int wd, .int wp]) := (congrFun e_f24 wk).trans (z_up_ne (z_tne hf_wk hf_pl (m := 8) (n := 4) rfl rfl (by decide)) hf_wk)
  have hf_ks : f24 ks = .inl (cy 1, 13, .inl gk) := (congrFun e_f24 ks).trans (z_up_ne (z_tne hf_ks hf_pl (m := 204) (n := 4) rfl rfl (by decide)) hf_ks)
  have hf_ct : f24 ct = .inl (cy 1, 4, .inl gc) := (congrFun e_f24 ct).trans (z_up_ne (z_tne hf_ct hf_pl (m := 132) (n := 4) rfl rfl (by decide)) hf_ct)
  have hf_se : f24 se = .inl (cy 1, 4, .inl gq) := (congrFun e_f24 se).trans (z_up_ne (z_tne hf_se hf_pl (m := 132) (n := 4) rfl rfl (by decide)) hf_se)
  have hf_ow : f24 ow = .inl (cy 1, 5, .inl go) := (congrFun e_f24 ow).trans (z_up_ne (z_tne hf_ow hf_pl (m := 140) (n := 4) rfl rfl (by decide)) hf_ow)
  have hf_mo : f24 mo = .inr (2, [.int v0, .int v1, .int v2, .int v3, .int v4, .int w21, .int v6, .ref la, .ref sa, .ref mi, .ref da]) := (congrFun e_f24 mo).trans (z_up_ne (z_tne hf_mo hf_pl (m := 2) (n := 4) rfl rfl (by decide)) hf_mo)
  have hf_la : f24 la = .inl (cy 1, 5, .inl gl) := (congrFun e_f24 la).trans (z_up_ne (z_tne hf_la hf_pl (m := 140) (n := 4) rfl rfl (by decide)) hf_la)
  have hf_sa : f24 sa = .inl (cy 1, 4, .inl gs) := (congrFun e_f24 sa).trans (z_up_ne (z_tne hf_sa hf_pl (m := 132) (n := 4) rfl rfl (by decide)) hf_sa)
  have hf_mi : f24 mi = .inl (cy 1, 36, .inl gm) := (congrFun e_f24 mi).trans (z_up_ne (z_tne hf_mi hf_pl (m := 388) (n := 4) rfl rfl (by decide)) hf_mi)
  have hf_da : f24 da = .inl (cy 4, 13, .inr (.inr (.inr (.inr gd)))) := (congrFun e_f24 da).trans (z_up_ne (z_tne hf_da hf_pl (m := 206) (n := 4) rfl rfl (by decide)) hf_da)
  have hf_dq1 : f24 dq1 = .inr (0, [.int do2, .int dg3, .int dd4, .int dh5, .int ds6, .int 0, .int dp8, .int dm9]) := (congrFun e_f24 dq1).trans (z_up_ne (z_tne hf_dq1 hf_pl (m := 0) (n := 4) rfl rfl (by decide)) hf_dq1)
  have hd_da : z_Drv L f24 dv 13 := z_Drv_up hd_da e_f24 hf_pl (m := 4) rfl (by decide)
  have hf_pl : f24 pl = .inr (4, [.ref mo, .ref wk, .ref ot, .int p3, .int p4, .int p5, .int 1000000000, .int p7, .int p8, .int p9, .int p10, .int p11]) := (congrFun e_f24 pl).trans z_up_self
  have hfr : ∀ b ∈ L, b ≠ pl → b ≠ ot → b ≠ mo → b ≠ wk → b ≠ ks → b ≠ ct → b ≠ se → b ≠ ow → (∀ i : Nat, i < 13 → b ≠ dv i) → f24 b = f b := fun b hb h0 h1 h2 h3 h4 h5 h6 h7 hp0 => (congrFun e_f24 b).trans (z_up_ne h0 (hfr b hb h0 h1 h2 h3 h4 h5 h6 h7 hp0))
  refine lv_iconst (v := 1) hx hb dX4_seekSplit_58 (by decide) ?_
  refine lv_istore (lv' := [(5, .int 1), (4, .int ds6), (3, .int v5), (2, .ref dq1), (0, .ref pl), (1, .int nu)]) hx hb dX4_seekSplit_59 hl (by decide) rfl (fun ls hl => ?_)
  have hzk : (1 : Int32).toInt = 1 := by decide
  refine z_loop (fun n H locs ls => ∃ (K25 : Int32) (G37 : Nat → Int32) (G38 : Nat → Int32) (G39 : Nat → Int32) (G40 : Nat → Int32) (G34 : Nat → Int32) (PA27 : Int32) (PG28 : Int32) (PH29 : Int32) (PS30 : Int32) (PT31 : Int32) (PU32 : Int32) (PW33 : Int32) (WN35 : Int32) (WT36 : Int32) (f26 : Nat → va_E), (n = (99 - K25.toInt).toNat) ∧ (0 ≤ K25.toInt) ∧ (K25.toInt ≤ 99) ∧ (0 ≤ PG28.toInt ∧ PG28.toInt ≤ 3) ∧ (0 ≤ PH29.toInt ∧ PH29.toInt ≤ 23) ∧ (0 ≤ WN35.toInt ∧ WN35.toInt ≤ 13) ∧ (∀ j : Nat, z_key (G37 j)) ∧ (z_H D vwCl (z_A L sz) s.heap L f26 H locs) ∧ (f26 pl = .inr (4, [.ref mo, .ref wk, .ref ot, .int PA27, .int PG28, .int PH29, .int PS30, .int PT31, .int PU32, .int PW33, .int p10, .int p11])) ∧ (f26 ot = .inl (cy 1, 216, .inl G34)) ∧ (f26 wk = .inr (8, [.ref ks, .int WN35, .ref ct, .ref se, .ref ow, .int WT36, .int wd, .int wp])) ∧ (f26 ks = .inl (cy 1, 13, .inl G37)) ∧ (f26 ct = .inl (cy 1, 4, .inl G38)) ∧ (f26 se = .inl (cy 1, 4, .inl G39)) ∧ (f26 ow = .inl (cy 1, 5, .inl G40)) ∧ (f26 mo = .inr (2, [.int v0, .int v1, .int v2, .int v3, .int v4, .int w21, .int v6, .ref la, .ref sa, .ref mi, .ref da])) ∧ (f26 la = .inl (cy 1, 5, .inl gl)) ∧ (f26 sa = .inl (cy 1, 4, .inl gs)) ∧ (f26 mi = .inl (cy 1, 36, .inl gm)) ∧ (f26 da = .inl (cy 4, 13, .inr (.inr (.inr (.inr gd))))) ∧ (∀ b ∈ L, b ≠ pl → b ≠ ot → b ≠ mo → b ≠ wk → b ≠ ks → b ≠ ct → b ≠ se → b ≠ ow → (∀ i : Nat, i < 13 → b ≠ dv i) → f26 b = f b) ∧ (z_Drv L f26 dv 13) ∧ (lv_has ls 6 [(5, .int K25), (4, .int ds6), (3, .int v5), (2, .ref dq1), (0, .ref pl), (1, .int nu)])) _ ⟨1, gk, gc, gq, go, gx, p3, p4, p5, 1000000000, p7, p8, p9, wn, wt, f24, rfl, (by first | decide | omega), (by first | decide | omega), (by omega), (by omega), (by omega), hgk, hw, hf_pl, hf_ot, hf_wk, hf_ks, hf_ct, hf_se, hf_ow, hf_mo, hf_la, hf_sa, hf_mi, hf_da, hfr, hd_da, (lv_sub hl [0, 1, 2, 3, 4, 5] rfl)⟩ (fun n H locs ls hI ih_61 => ?_)
  obtain ⟨K25, G37, G38, G39, G40, G34, PA27, PG28, PH29, PS30, PT31, PU32, PW33, WN35, WT36, f26, hn, hk0, hk1, hi0, hi1, hi2, hi3, hw, hf_pl, hf_ot, hf_wk, hf_ks, hf_ct, hf_se, hf_ow, hf_mo, hf_la, hf_sa, hf_mi, hf_da, hfr, hd_da, hl⟩ := hI
  refine lv_iload hx hb dX4_seekSplit_61 (lv_at hl 0 rfl) ?_
  refine lv_iload hx hb dX4_seekSplit_63 (lv_at hl 1 rfl) ?_
  refine z_icmp_ge (tgt := 150) hx hb rfl rfl dX4_seekSplit_65 (by decide) (fun c41 => ?_) (fun c41 => ?_)
  · skip
    exact z_vret hx hb hr hlk (by decide) (by decide) hw (⟨hsub, hfr, WN35, WT36, w21, PA27, PG28, PH29, PS30, PT31, PU32, PW33, G37, G38, G39, G40, G34, hf_pl, hf_ot, hf_mo, hf_wk, hf_ks, hf_ct, hf_se, hf_ow, hd_da, by omega, by omega, by omega, by omega, hi3⟩) dX4_seekSplit_150
  · skip
    refine lv_aload_n hx hb dX4_seekSplit_68 rfl (lv_at hl 4 rfl) ?_
    refine z_get (C := RX4) (T := TX4) (N := 12) (ci := 4) (v := .int PS30) hx hb hT zin_X4 hown hK hw hm_pl hf_pl rfl 6 (by decide) (hT _ kw_394) rfl dX4_seekSplit_69 ?_
    refine z_if_le (tgt := 150) hx hb rfl dX4_seekSplit_72 (by decide) (fun c42 => ?_) (fun c42 => ?_)
    · skip
      exact z_vret hx hb hr hlk (by decide) (by decide) hw (⟨hsub, hfr, WN35, WT36, w21, PA27, PG28, PH29, PS30, PT31, PU32, PW33, G37, G38, G39, G40, G34, hf_pl, hf_ot, hf_mo, hf_wk, hf_ks, hf_ct, hf_se, hf_ow, hd_da, by omega, by omega, by omega, by omega, hi3⟩) dX4_seekSplit_150
    · skip
      refine lv_aload_n hx hb dX4_seekSplit_75 rfl (lv_at hl 3 rfl) ?_
      refine lv_iload hx hb dX4_seekSplit_76 (lv_at hl 0 rfl) ?_
      obtain ⟨hm_dq1, do43, dg44, dd45, dh46, ds47, dl48, dp49, dm50, hf_dq1, hr_do43, hr_dg44, hr_dd45, hr_dh46, hr_ds47, hr_dl48, hr_dp49, hr_dm50⟩ := hd_da _ hi_dq1
      rw [← e_dq1] at hm_dq1 hf_dq1
      refine z_put (C := RX0) (T := TX0) (N := 8) (ci := 0) (v := .int K25) (fs' := [.int do43, .int dg44, .int dd45, .int dh46, .int K25, .int dl48, .int dp49, .int dm50]) hx hb hT zin_X0 tyX0_ok nmX0 hown hK hw hm_dq1 hf_dq1 rfl 4 (by decide) (hT _ kw_164) rfl rfl rfl (Nat.le_of_ble_eq_true rfl) rfl dX4_seekSplit_78 (fun H locs hw => ?_)
      obtain ⟨f51, e_f51⟩ : ∃ z, z = va_up f26 dq1 (.inr (0, [.int do43, .int dg44, .int dd45, .int dh46, .int K25, .int dl48, .int dp49, .int dm50])) := ⟨_, rfl⟩
      rw [← e_f51] at hw
      have hf_pl : f51 pl = .inr (4, [.ref mo, .ref wk, .ref ot, .int PA27, .int PG28, .int PH29, .int PS30, .int PT31, .int PU32, .int PW33, .int p10, .int p11]) := (congrFun e_f51 pl).trans (z_up_ne (z_tne hf_pl hf_dq1 (m := 4) (n := 0) rfl rfl (by decide)) hf_pl)
      have hf_ot : f51 ot = .inl (cy 1, 216, .inl G34) := (congrFun e_f51 ot).trans (z_up_ne (z_tne hf_ot hf_dq1 (m := 1828) (n := 0) rfl rfl (by decide)) hf_ot)
      have hf_wk : f51 wk = .inr (8, [.ref ks, .int WN35, .ref ct, .ref se, .ref ow, .int WT36, .int wd, .int wp]) := (congrFun e_f51 wk).trans (z_up_ne (z_tne hf_wk hf_dq1 (m := 8) (n := 0) rfl rfl (by decide)) hf_wk)
      have hf_ks : f51 ks = .inl (cy 1, 13, .inl G37) := (congrFun e_f51 ks).trans (z_up_ne (z_tne hf_ks hf_dq1 (m := 204) (n := 0) rfl rfl (by decide)) hf_ks)
      have hf_ct : f51 ct = .inl (cy 1, 4, .inl G38) := (congrFun e_f51 ct).trans (z_up_ne (z_tne hf_ct hf_dq1 (m := 132) (n := 0) rfl rfl (by decide)) hf_ct)
      have hf_se : f51 se = .inl (cy 1, 4, .inl G39) := (congrFun e_f51 se).trans (z_up_ne (z_tne hf_se hf_dq1 (m := 132) (n := 0) rfl rfl (by decide)) hf_se)
      have hf_ow : f51 ow = .inl (cy 1, 5, .inl G40) := (congrFun e_f51 ow).trans (z_up_ne (z_tne hf_ow hf_dq1 (m := 140) (n := 0) rfl rfl (by decide)) hf_ow)
      have hf_mo : f51 mo = .inr (2, [.int v0, .int v1, .int v2, .int v3, .int v4, .int w21, .int v6, .ref la, .ref sa, .ref mi, .ref da]) := (congrFun e_f51 mo).trans (z_up_ne (z_tne hf_mo hf_dq1 (m := 2) (n := 0) rfl rfl (by decide)) hf_mo)
      have hf_la : f51 la = .inl (cy 1, 5, .inl gl) := (congrFun e_f51 la).trans (z_up_ne (z_tne hf_la hf_dq1 (m := 140) (n := 0) rfl rfl (by decide)) hf_la)
      have hf_sa : f51 sa = .inl (cy 1, 4, .inl gs) := (congrFun e_f51 sa).trans (z_up_ne (z_tne hf_sa hf_dq1 (m := 132) (n := 0) rfl rfl (by decide)) hf_sa)
      have hf_mi : f51 mi = .inl (cy 1, 36, .inl gm) := (congrFun e_f51 mi).trans (z_up_ne (z_tne hf_mi hf_dq1 (m := 388) (n := 0) rfl rfl (by decide)) hf_mi)
      have hf_da : f51 da = .inl (cy 4, 13, .inr (.inr (.inr (.inr gd)))) := (congrFun e_f51 da).trans (z_up_ne (z_tne hf_da hf_dq1 (m := 206) (n := 0) rfl rfl (by decide)) hf_da)
      have hd_da : z_Drv L f51 dv 13 := z_Drv_set hd_da e_f51 ⟨_, _, _, _, _, _, _, _, rfl, by first | omega | decide, by first | omega | decide, by first | omega | decide, by first | omega | decide, by first | omega | decide, by first | omega | decide, by first | omega | decide, by first | omega | decide⟩
      have hf_dq1 : f51 dq1 = .inr (0, [.int do43, .int dg44, .int dd45, .int dh46, .int K25, .int dl48, .int dp49, .int dm50]) := (congrFun e_f51 dq1).trans z_up_self
      have hfr : ∀ b ∈ L, b ≠ pl → b ≠ ot → b ≠ mo → b ≠ wk → b ≠ ks → b ≠ ct → b ≠ se → b ≠ ow → (∀ i : Nat, i < 13 → b ≠ dv i) → f51 b = f b := fun b hb h0 h1 h2 h3 h4 h5 h6 h7 hp0 => (congrFun e_f51 b).trans (z_up_ne (by rw [e_dq1]; exact hp0 _ hi_dq1) (hfr b hb h0 h1 h2 h3 h4 h5 h6 h7 hp0))
      refine lv_aload_n hx hb dX4_seekSplit_81 rfl (lv_at hl 4 rfl) ?_
      refine z_get (C := RX4) (T := TX4) (N := 12) (ci := 4) (v := .ref mo) hx hb hT zin_X4 hown hK hw hm_pl hf_pl rfl 0 (by decide) (hT _ kw_384) rfl dX4_seekSplit_82 ?_
      refine z_get (C := RX2) (T := TX2) (N := 11) (ci := 2) (v := .ref da) hx hb hT zin_X2 hown hK hw hm_mo hf_mo rfl 10 (by decide) (hT _ kw_243) rfl dX4_seekSplit_85 ?_
      refine lv_iload_n hx hb dX4_seekSplit_88 rfl (lv_at hl 2 rfl) ?_
      obtain ⟨dq52, e_dq52⟩ : ∃ z, z = dv v5.toNatClampNeg := ⟨_, rfl⟩
      have hi_dq52 : v5.toNatClampNeg < 13 := z_clI rfl (by omega)
      refine z_aald (b := dq52) hx hb hK hw 4 hm_da hf_da rfl (z_ix rfl (by omega)) (by rw [e_dq52]; exact hg_da _ hi_dq52) dX4_seekSplit_89 ?_
      obtain ⟨hm_dq52, do53, dg54, dd55, dh56, ds57, dl58, dp59, dm60, hf_dq52, hr_do53, hr_dg54, hr_dd55, hr_dh56, hr_ds57, hr_dl58, hr_dp59, hr_dm60⟩ := hd_da _ hi_dq52
      rw [← e_dq52] at hm_dq52 hf_dq52
      refine lv_iload hx hb dX4_seekSplit_90 (lv_at hl 1 rfl) ?_
      refine lv_iload hx hb dX4_seekSplit_92 (lv_at hl 0 rfl) ?_
      refine lv_isub hx hb dX4_seekSplit_94 ?_
      refine lv_topi (fun w61 e_w61 => ?_)
      have i_w61 : w61.toInt = (ds6.toInt - K25.toInt) := z_subI e_w61 rfl rfl (by omega)
      refine z_put (C := RX0) (T := TX0) (N := 8) (ci := 0) (v := .int w61) (fs' := [.int do53, .int dg54, .int dd55, .int dh56, .int w61, .int dl58, .int dp59, .int dm60]) hx hb hT zin_X0 tyX0_ok nmX0 hown hK hw hm_dq52 hf_dq52 rfl 4 (by decide) (hT _ kw_164) rfl rfl rfl (Nat.le_of_ble_eq_true rfl) rfl dX4_seekSplit_95 (fun H locs hw => ?_)
      obtain ⟨f62, e_f62⟩ : ∃ z, z = va_up f51 dq52 (.inr (0, [.int do53, .int dg54, .int dd55, .int dh56, .int w61, .int dl58, .int dp59, .int dm60])) := ⟨_, rfl⟩
      rw [← e_f62] at hw
      have hf_pl : f62 pl = .inr (4, [.ref mo, .ref wk, .ref ot, .int PA27, .int PG28, .int PH29, .int PS30, .int PT31, .int PU32, .int PW33, .int p10, .int p11]) := (congrFun e_f62 pl).trans (z_up_ne (z_tne hf_pl hf_dq52 (m := 4) (n := 0) rfl rfl (by decide)) hf_pl)
      have hf_ot : f62 ot = .inl (cy 1, 216, .inl G34) := (congrFun e_f62 ot).trans (z_up_ne (z_tne hf_ot hf_dq52 (m := 1828) (n := 0) rfl rfl (by decide)) hf_ot)
      have hf_wk : f62 wk = .inr (8, [.ref ks, .int WN35, .ref ct, .ref se, .ref ow, .int WT36, .int wd, .int wp]) := (congrFun e_f62 wk).trans (z_up_ne (z_tne hf_wk hf_dq52 (m := 8) (n := 0) rfl rfl (by decide)) hf_wk)
      have hf_ks : f62 ks = .inl (cy 1, 13, .inl G37) := (congrFun e_f62 ks).trans (z_up_ne (z_tne hf_ks hf_dq52 (m := 204) (n := 0) rfl rfl (by decide)) hf_ks)
      have hf_ct : f62 ct = .inl (cy 1, 4, .inl G38) := (congrFun e_f62 ct).trans (z_up_ne (z_tne hf_ct hf_dq52 (m := 132) (n := 0) rfl rfl (by decide)) hf_ct)
      have hf_se : f62 se = .inl (cy 1, 4, .inl G39) := (congrFun e_f62 se).trans (z_up_ne (z_tne hf_se hf_dq52 (m := 132) (n := 0) rfl rfl (by decide)) hf_se)
      have hf_ow : f62 ow = .inl (cy 1, 5, .inl G40) := (congrFun e_f62 ow).trans (z_up_ne (z_tne hf_ow hf_dq52 (m := 140) (n := 0) rfl rfl (by decide)) hf_ow)
      have hf_mo : f62 mo = .inr (2, [.int v0, .int v1, .int v2, .int v3, .int v4, .int w21, .int v6, .ref la, .ref sa, .ref mi, .ref da]) := (congrFun e_f62 mo).trans (z_up_ne (z_tne hf_mo hf_dq52 (m := 2) (n := 0) rfl rfl (by decide)) hf_mo)
      have hf_la : f62 la = .inl (cy 1, 5, .inl gl) := (congrFun e_f62 la).trans (z_up_ne (z_tne hf_la hf_dq52 (m := 140) (n := 0) rfl rfl (by decide)) hf_la)
      have hf_sa : f62 sa = .inl (cy 1, 4, .inl gs) := (congrFun e_f62 sa).trans (z_up_ne (z_tne hf_sa hf_dq52 (m := 132) (n := 0) rfl rfl (by decide)) hf_sa)
      have hf_mi : f62 mi = .inl (cy 1, 36, .inl gm) := (congrFun e_f62 mi).trans (z_up_ne (z_tne hf_mi hf_dq52 (m := 388) (n := 0) rfl rfl (by decide)) hf_mi)
      have hf_da : f62 da = .inl (cy 4, 13, .inr (.inr (.inr (.inr gd)))) := (congrFun e_f62 da).trans (z_up_ne (z_tne hf_da hf_dq52 (m := 206) (n := 0) rfl rfl (by decide)) hf_da)
      have hd_da : z_Drv L f62 dv 13 := z_Drv_set hd_da e_f62 ⟨_, _, _, _, _, _, _, _, rfl, by first | omega | decide, by first | omega | decide, by first | omega | decide, by first | omega | decide, by first | omega | decide, by first | omega | decide, by first | omega | decide, by first | omega | decide⟩
      have hf_dq52 : f62 dq52 = .inr (0, [.int do53, .int dg54, .int dd55, .int dh56, .int w61, .int dl58, .int dp59, .int dm60]) := (congrFun e_f62 dq52).trans z_up_self
      have hfr : ∀ b ∈ L, b ≠ pl → b ≠ ot → b ≠ mo → b ≠ wk → b ≠ ks → b ≠ ct → b ≠ se → b ≠ ow → (∀ i : Nat, i < 13 → b ≠ dv i) → f62 b = f b := fun b hb h0 h1 h2 h3 h4 h5 h6 h7 hp0 => (congrFun e_f62 b).trans (z_up_ne (by rw [e_dq52]; exact hp0 _ hi_dq52) (hfr b hb h0 h1 h2 h3 h4 h5 h6 h7 hp0))
      refine lv_aload_n hx hb dX4_seekSplit_98 rfl (lv_at hl 4 rfl) ?_
      refine lv_iload_n hx hb dX4_seekSplit_99 rfl (lv_at hl 2 rfl) ?_
      refine z_callvV (cells := 0) (slots := 0) (b := pl) (As := [.int v5]) (rest := []) (ci := 4) (q0 := (RX4, TX4, 12)) ⟨hx, hb, hml, hown, hT⟩ (c_X4_seekBest l hm_pl hm_ot hm_wk hm_ks hm_ct hm_se hm_ow hm_mo hm_la hm_sa hm_mi hm_da hf_pl hf_ot hf_wk hf_ks hf_ct hf_se hf_ow hf_mo hf_la hf_sa hf_mi hf_da ne_ct_se ne_ct_sa ne_se_sa ne_ow_la hg_da hd_da (by first | omega | decide | assumption) (by first | omega | decide | assumption) (by first | omega | decide | assumption) (by first | omega | decide | assumption) hi3 hgm (by first | omega | decide | assumption) (by first | omega | decide | assumption) (by first | omega | decide | assumption)) (cwV 1 hT (z_goodV (fun _ h => h) kw_929 kw_905 kw_906 kw_93 kw_907) rfl rfl rfl (by decide +kernel) ⟨by decide, by decide⟩) z_mv hKK hK hw hA hm_pl hf_pl rfl rfl rfl hl.1 rfl (Nat.le_of_ble_eq_true rfl) dX4_seekSplit_100 ⟨by decide, by decide⟩ (fun u H locs hp hw => ?_)
      obtain ⟨L63, f64⟩ := u
      obtain ⟨hsb, hfm, w2_65, t2_66, q3_67, q4_68, q5_69, k2_70, c2_71, s2_72, o2_73, x2_74, ha_0, ha_1, ha_2, ha_3, ha_4, ha_5, ha_6, hv_da, hp⟩ := hp
      have hsb : L = L63 := hsb
      subst hsb
      have hsb : ∀ b ∈ L, b ∈ L := fun _ h => h
      have hw : z_H D vwCl (z_A L sz) s.heap L f64 H locs := hw
      have hdo_da := hd_da
      have hfr : ∀ b ∈ L, b ≠ pl → b ≠ ot → b ≠ mo → b ≠ wk → b ≠ ks → b ≠ ct → b ≠ se → b ≠ ow → (∀ i : Nat, i < 13 → b ≠ dv i) → f64 b = f b := fun b hb h0 h1 h2 h3 h4 h5 h6 h7 hp0 => (hfm b hb h0 h1 h3 h4 h5 h6 h7 hp0).trans (hfr b hb h0 h1 h2 h3 h4 h5 h6 h7 hp0)
      have hd_da : z_Drv L f64 dv 13 := hv_da
      have hf_mo : f64 mo = .inr (2, [.int v0, .int v1, .int v2, .int v3, .int v4, .int w21, .int v6, .ref la, .ref sa, .ref mi, .ref da]) := (hfm mo hm_mo (z_tne hf_mo hf_pl (m := 2) (n := 4) rfl rfl (by decide)) (z_tne hf_mo hf_ot (m := 2) (n := 1828) rfl rfl (by decide)) (z_tne hf_mo hf_wk (m := 2) (n := 8) rfl rfl (by decide)) (z_tne hf_mo hf_ks (m := 2) (n := 204) rfl rfl (by decide)) (z_tne hf_mo hf_ct (m := 2) (n := 132) rfl rfl (by decide)) (z_tne hf_mo hf_se (m := 2) (n := 132) rfl rfl (by decide)) (z_tne hf_mo hf_ow (m := 2) (n := 140) rfl rfl (by decide)) (z_Drv_ne hdo_da hf_mo (m := 2) rfl (by decide))).trans hf_mo
      have hf_la : f64 la = .inl (cy 1, 5, .inl gl) := (hfm la hm_la (z_tne hf_la hf_pl (m := 140) (n := 4) rfl rfl (by decide)) (z_tne hf_la hf_ot (m := 140) (n := 1828) rfl rfl (by decide)) (z_tne hf_la hf_wk (m := 140) (n := 8) rfl rfl (by decide)) (z_tne hf_la hf_ks (m := 140) (n := 204) rfl rfl (by decide)) (z_tne hf_la hf_ct (m := 140) (n := 132) rfl rfl (by decide)) (z_tne hf_la hf_se (m := 140) (n := 132) rfl rfl (by decide)) (Ne.symm ne_ow_la) (z_Drv_ne hdo_da hf_la (m := 140) rfl (by decide))).trans hf_la
      have hf_sa : f64 sa = .inl (cy 1, 4, .inl gs) := (hfm sa hm_sa (z_tne hf_sa hf_pl (m := 132) (n := 4) rfl rfl (by decide)) (z_tne hf_sa hf_ot (m := 132) (n := 1828) rfl rfl (by decide)) (z_tne hf_sa hf_wk (m := 132) (n := 8) rfl rfl (by decide)) (z_tne hf_sa hf_ks (m := 132) (n := 204) rfl rfl (by decide)) (Ne.symm ne_ct_sa) (Ne.symm ne_se_sa) (z_tne hf_sa hf_ow (m := 132) (n := 140) rfl rfl (by decide)) (z_Drv_ne hdo_da hf_sa (m := 132) rfl (by decide))).trans hf_sa
      have hf_mi : f64 mi = .inl (cy 1, 36, .inl gm) := (hfm mi hm_mi (z_tne hf_mi hf_pl (m := 388) (n := 4) rfl rfl (by decide)) (z_tne hf_mi hf_ot (m := 388) (n := 1828) rfl rfl (by decide)) (z_tne hf_mi hf_wk (m := 388) (n := 8) rfl rfl (by decide)) (z_tne hf_mi hf_ks (m := 388) (n := 204) rfl rfl (by decide)) (z_tne hf_mi hf_ct (m := 388) (n := 132) rfl rfl (by decide)) (z_tne hf_mi hf_se (m := 388) (n := 132) rfl rfl (by decide)) (z_tne hf_mi hf_ow (m := 388) (n := 140) rfl rfl (by decide)) (z_Drv_ne hdo_da hf_mi (m := 388) rfl (by decide))).trans hf_mi
      have hf_da : f64 da = .inl (cy 4, 13, .inr (.inr (.inr (.inr gd)))) := (hfm da hm_da (z_tne hf_da hf_pl (m := 206) (n := 4) rfl rfl (by decide)) (z_tne hf_da hf_ot (m := 206) (n := 1828) rfl rfl (by decide)) (z_tne hf_da hf_wk (m := 206) (n := 8) rfl rfl (by decide)) (z_tne hf_da hf_ks (m := 206) (n := 204) rfl rfl (by decide)) (z_tne hf_da hf_ct (m := 206) (n := 132) rfl rfl (by decide)) (z_tne hf_da hf_se (m := 206) (n := 132) rfl rfl (by decide)) (z_tne hf_da hf_ow (m := 206) (n := 140) rfl rfl (by decide)) (z_Drv_ne hdo_da hf_da (m := 206) rfl (by decide))).trans hf_da
      have hf_pl : f64 pl = .inr (4, [.ref mo, .ref wk, .ref ot, .int q3_67, .int q4_68, .int q5_69, .int PS30, .int PT31, .int PU32, .int PW33, .int p10, .int p11]) := ha_0
      have hf_ot : f64 ot = .inl (cy 1, 216, .inl x2_74) := ha_1
      have hf_wk : f64 wk = .inr (8, [.ref ks, .int w2_65, .ref ct, .ref se, .ref ow, .int t2_66, .int wd, .int wp]) := ha_2
      have hf_ks : f64 ks = .inl (cy 1, 13, .inl k2_70) := ha_3
      have hf_ct : f64 ct = .inl (cy 1, 4, .inl c2_71) := ha_4
      have hf_se : f64 se = .inl (cy 1, 4, .inl s2_72) := ha_5
      have hf_ow : f64 ow = .inl (cy 1, 5, .inl o2_73) := ha_6
      have hbg75 := hp
      refine lv_aload_n hx hb dX4_seekSplit_103 rfl (lv_at hl 4 rfl) ?_
      refine z_get (C := RX4) (T := TX4) (N := 12) (ci := 4) (v := .int q3_67) hx hb hT zin_X4 hown hK hw hm_pl hf_pl rfl 3 (by decide) (hT _ kw_388) rfl dX4_seekSplit_104 ?_
      refine lv_aload_n hx hb dX4_seekSplit_107 rfl (lv_at hl 4 rfl) ?_
      refine z_get (C := RX4) (T := TX4) (N := 12) (ci := 4) (v := .int PS30) hx hb hT zin_X4 hown hK hw hm_pl hf_pl rfl 6 (by decide) (hT _ kw_394) rfl dX4_seekSplit_108 ?_
      refine z_icmp_ge (tgt := 144) hx hb rfl rfl dX4_seekSplit_111 (by decide) (fun c76 => ?_) (fun c76 => ?_)
      · skip
        obtain ⟨k77, e_k77⟩ : ∃ z : Int32, z = K25 + 1 := ⟨_, rfl⟩
        refine lv_iinc (v := k77) (lv' := [(5, .int k77), (4, .int ds6), (3, .int v5), (2, .ref dq1), (0, .ref pl), (1, .int nu)]) hx hb dX4_seekSplit_144 hl (k := 0) rfl (by rw [e_k77]; rfl) (by decide) rfl (fun ls hl => ?_)
        have i_k77 : k77.toInt = (K25.toInt + 1) := z_add e_k77 rfl (by decide) (by omega)
        refine lv_goto (tgt := 61) hx hb dX4_seekSplit_147 (by decide) ?_
        exact ih_61 _ (by omega) _ _ _ ⟨k77, k2_70, c2_71, s2_72, o2_73, x2_74, q3_67, q4_68, q5_69, PS30, PT31, PU32, PW33, w2_65, t2_66, f64, rfl, (by first | decide | omega), (by first | decide | omega), (by omega), (by omega), (by omega), hbg75.2.2.2, hw, hf_pl, hf_ot, hf_wk, hf_ks, hf_ct, hf_se, hf_ow, hf_mo, hf_la, hf_sa, hf_mi, hf_da, hfr, hd_da, (lv_sub hl [0, 1, 2, 3, 4, 5] rfl)⟩
      · skip
        refine lv_aload_n hx hb dX4_seekSplit_114 rfl (lv_at hl 4 rfl) ?_
        refine lv_aload_n hx hb dX4_seekSplit_115 rfl (lv_at hl 4 rfl) ?_
        refine z_get (C := RX4) (T := TX4) (N := 12) (ci := 4) (v := .int q3_67) hx hb hT zin_X4 hown hK hw hm_pl hf_pl rfl 3 (by decide) (hT _ kw_388) rfl dX4_seekSplit_116 ?_
        refine z_put (C := RX4) (T := TX4) (N := 12) (ci := 4) (v := .int q3_67) (fs' := [.ref mo, .ref wk, .ref ot, .int q3_67, .int q4_68, .int q5_69, .int q3_67, .int PT31, .int PU32, .int PW33, .int p10, .int p11]) hx hb hT zin_X4 tyX4_ok nmX4 hown hK hw hm_pl hf_pl rfl 6 (by decide) (hT _ kw_394) rfl rfl rfl (Nat.le_of_ble_eq_true rfl) rfl dX4_seekSplit_119 (fun H locs hw => ?_)
        obtain ⟨f78, e_f78⟩ : ∃ z, z = va_up f64 pl (.inr (4, [.ref mo, .ref wk, .ref ot, .int q3_67, .int q4_68, .int q5_69, .int q3_67, .int PT31, .int PU32, .int PW33, .int p10, .int p11])) := ⟨_, rfl⟩
        rw [← e_f78] at hw
        have hf_ot : f78 ot = .inl (cy 1, 216, .inl x2_74) := (congrFun e_f78 ot).trans (z_up_ne (z_tne hf_ot hf_pl (m := 1828) (n := 4) rfl rfl (by decide)) hf_ot)
        have hf_wk : f78 wk = .inr (8, [.ref ks, .int w2_65, .ref ct, .ref se, .ref ow, .int t2_66, .int wd, .int wp]) := (congrFun e_f78 wk).trans (z_up_ne (z_tne hf_wk hf_pl (m := 8) (n := 4) rfl rfl (by decide)) hf_wk)
        have hf_ks : f78 ks = .inl (cy 1, 13, .inl k2_70) := (congrFun e_f78 ks).trans (z_up_ne (z_tne hf_ks hf_pl (m := 204) (n := 4) rfl rfl (by decide)) hf_ks)
        have hf_ct : f78 ct = .inl (cy 1, 4, .inl c2_71) := (congrFun e_f78 ct).trans (z_up_ne (z_tne hf_ct hf_pl (m := 132) (n := 4) rfl rfl (by decide)) hf_ct)
        have hf_se : f78 se = .inl (cy 1, 4, .inl s2_72) := (congrFun e_f78 se).trans (z_up_ne (z_tne hf_se hf_pl (m := 132) (n := 4) rfl rfl (by decide)) hf_se)
        have hf_ow : f78 ow = .inl (cy 1, 5, .inl o2_73) := (congrFun e_f78 ow).trans (z_up_ne (z_tne hf_ow hf_pl (m := 140) (n := 4) rfl rfl (by decide)) hf_ow)
        have hf_mo : f78 mo = .inr (2, [.int v0, .int v1, .int v2, .int v3, .int v4, .int w21, .int v6, .ref la, .ref sa, .ref mi, .ref da]) := (congrFun e_f78 mo).trans (z_up_ne (z_tne hf_mo hf_pl (m := 2) (n := 4) rfl rfl (by decide)) hf_mo)
        have hf_la : f78 la = .inl (cy 1, 5, .inl gl) := (congrFun e_f78 la).trans (z_up_ne (z_tne hf_la hf_pl (m := 140) (n := 4) rfl rfl (by decide)) hf_la)
        have hf_sa : f78 sa = .inl (cy 1, 4, .inl gs) := (congrFun e_f78 sa).trans (z_up_ne (z_tne hf_sa hf_pl (m := 132) (n := 4) rfl rfl (by decide)) hf_sa)
        have hf_mi : f78 mi = .inl (cy 1, 36, .inl gm) := (congrFun e_f78 mi).trans (z_up_ne (z_tne hf_mi hf_pl (m := 388) (n := 4) rfl rfl (by decide)) hf_mi)
        have hf_da : f78 da = .inl (cy 4, 13, .inr (.inr (.inr (.inr gd)))) := (congrFun e_f78 da).trans (z_up_ne (z_tne hf_da hf_pl (m := 206) (n := 4) rfl rfl (by decide)) hf_da)
        have hd_da : z_Drv L f78 dv 13 := z_Drv_up hd_da e_f78 hf_pl (m := 4) rfl (by decide)
        have hf_pl : f78 pl = .inr (4, [.ref mo, .ref wk, .ref ot, .int q3_67, .int q4_68, .int q5_69, .int q3_67, .int PT31, .int PU32, .int PW33, .int p10, .int p11]) := (congrFun e_f78 pl).trans z_up_self
        have hfr : ∀ b ∈ L, b ≠ pl → b ≠ ot → b ≠ mo → b ≠ wk → b ≠ ks → b ≠ ct → b ≠ se → b ≠ ow → (∀ i : Nat, i < 13 → b ≠ dv i) → f78 b = f b := fun b hb h0 h1 h2 h3 h4 h5 h6 h7 hp0 => (congrFun e_f78 b).trans (z_up_ne h0 (hfr b hb h0 h1 h2 h3 h4 h5 h6 h7 hp0))
        refine lv_aload_n hx hb dX4_seekSplit_122 rfl (lv_at hl 4 rfl) ?_
        refine lv_iload hx hb dX4_seekSplit_123 (lv_at hl 0 rfl) ?_
        refine z_put (C := RX4) (T := TX4) (N := 12) (ci := 4) (v := .int K25) (fs' := [.ref mo, .ref wk, .ref ot, .int q3_67, .int q4_68, .int q5_69, .int q3_67, .int K25, .int PU32, .int PW33, .int p10, .int p11]) hx hb hT zin_X4 tyX4_ok nmX4 hown hK hw hm_pl hf_pl rfl 7 (by decide) (hT _ kw_396) rfl rfl rfl (Nat.le_of_ble_eq_true rfl) rfl dX4_seekSplit_125 (fun H locs hw => ?_)
        obtain ⟨f79, e_f79⟩ : ∃ z, z = va_up f78 pl (.inr (4, [.ref mo, .ref wk, .ref ot, .int q3_67, .int q4_68, .int q5_69, .int q3_67, .int K25, .int PU32, .int PW33, .int p10, .int p11])) := ⟨_, rfl⟩
        rw [← e_f79] at hw
        have hf_ot : f79 ot = .inl (cy 1, 216, .inl x2_74) := (congrFun e_f79 ot).trans (z_up_ne (z_tne hf_ot hf_pl (m := 1828) (n := 4) rfl rfl (by decide)) hf_ot)
        have hf_wk : f79 wk = .inr (8, [.ref ks, .int w2_65, .ref ct, .ref se, .ref ow, .int t2_66, .int wd, .int wp]) := (congrFun e_f79 wk).trans (z_up_ne (z_tne hf_wk hf_pl (m := 8) (n := 4) rfl rfl (by decide)) hf_wk)
        have hf_ks : f79 ks = .inl (cy 1, 13, .inl k2_70) := (congrFun e_f79 ks).trans (z_up_ne (z_tne hf_ks hf_pl (m := 204) (n := 4) rfl rfl (by decide)) hf_ks)
        have hf_ct : f79 ct = .inl (cy 1, 4, .inl c2_71) := (congrFun e_f79 ct).trans (z_up_ne (z_tne hf_ct hf_pl (m := 132) (n := 4) rfl rfl (by decide)) hf_ct)
        have hf_se : f79 se = .inl (cy 1, 4, .inl s2_72) := (congrFun e_f79 se).trans (z_up_ne (z_tne hf_se hf_pl (m := 132) (n := 4) rfl rfl (by decide)) hf_se)
        have hf_ow : f79 ow = .inl (cy 1, 5, .inl o2_73) := (congrFun e_f79 ow).trans (z_up_ne (z_tne hf_ow hf_pl (m := 140) (n := 4) rfl rfl (by decide)) hf_ow)
        have hf_mo : f79 mo = .inr (2, [.int v0, .int v1, .int v2, .int v3, .int v4, .int w21, .int v6, .ref la, .ref sa, .ref mi, .ref da]) := (congrFun e_f79 mo).trans (z_up_ne (z_tne hf_mo hf_pl (m := 2) (n := 4) rfl rfl (by decide)) hf_mo)
        have hf_la : f79 la = .inl (cy 1, 5, .inl gl) := (congrFun e_f79 la).trans (z_up_ne (z_tne hf_la hf_pl (m := 140) (n := 4) rfl rfl (by decide)) hf_la)
        have hf_sa : f79 sa = .inl (cy 1, 4, .inl gs) := (congrFun e_f79 sa).trans (z_up_ne (z_tne hf_sa hf_pl (m := 132) (n := 4) rfl rfl (by decide)) hf_sa)
        have hf_mi : f79 mi = .inl (cy 1, 36, .inl gm) := (congrFun e_f79 mi).trans (z_up_ne (z_tne hf_mi hf_pl (m := 388) (n := 4) rfl rfl (by decide)) hf_mi)
        have hf_da : f79 da = .inl (cy 4, 13, .inr (.inr (.inr (.inr gd)))) := (congrFun e_f79 da).trans (z_up_ne (z_tne hf_da hf_pl (m := 206) (n := 4) rfl rfl (by decide)) hf_da)
        have hd_da : z_Drv L f79 dv 13 := z_Drv_up hd_da e_f79 hf_pl (m := 4) rfl (by decide)
        have hf_pl : f79 pl = .inr (4, [.ref mo, .ref wk, .ref ot, .int q3_67, .int q4_68, .int q5_69, .int q3_67, .int K25, .int PU32, .int PW33, .int p10, .int p11]) := (congrFun e_f79 pl).trans z_up_self
        have hfr : ∀ b ∈ L, b ≠ pl → b ≠ ot → b ≠ mo → b ≠ wk → b ≠ ks → b ≠ ct → b ≠ se → b ≠ ow → (∀ i : Nat, i < 13 → b ≠ dv i) → f79 b = f b := fun b hb h0 h1 h2 h3 h4 h5 h6 h7 hp0 => (congrFun e_f79 b).trans (z_up_ne h0 (hfr b hb h0 h1 h2 h3 h4 h5 h6 h7 hp0))
        refine lv_aload_n hx hb dX4_seekSplit_128 rfl (lv_at hl 4 rfl) ?_
        refine lv_aload_n hx hb dX4_seekSplit_129 rfl (lv_at hl 4 rfl) ?_
        refine z_get (C := RX4) (T := TX4) (N := 12) (ci := 4) (v := .int q4_68) hx hb hT zin_X4 hown hK hw hm_pl hf_pl rfl 4 (by decide) (hT _ kw_390) rfl dX4_seekSplit_130 ?_
        refine z_put (C := RX4) (T := TX4) (N := 12) (ci := 4) (v := .int q4_68) (fs' := [.ref mo, .ref wk, .ref ot, .int q3_67, .int q4_68, .int q5_69, .int q3_67, .int K25, .int q4_68, .int PW33, .int p10, .int p11]) hx hb hT zin_X4 tyX4_ok nmX4 hown hK hw hm_pl hf_pl rfl 8 (by decide) (hT _ kw_398) rfl rfl rfl (Nat.le_of_ble_eq_true rfl) rfl dX4_seekSplit_133 (fun H locs hw => ?_)
        obtain ⟨f80, e_f80⟩ : ∃ z, z = va_up f79 pl (.inr (4, [.ref mo, .ref wk, .ref ot, .int q3_67, .int q4_68, .int q5_69, .int q3_67, .int K25, .int q4_68, .int PW33, .int p10, .int p11])) := ⟨_, rfl⟩
        rw [← e_f80] at hw
        have hf_ot : f80 ot = .inl (cy 1, 216, .inl x2_74) := (congrFun e_f80 ot).trans (z_up_ne (z_tne hf_ot hf_pl (m := 1828) (n := 4) rfl rfl (by decide)) hf_ot)
        have hf_wk : f80 wk = .inr (8, [.ref ks, .int w2_65, .ref ct, .ref se, .ref ow, .int t2_66, .int wd, .int wp]) := (congrFun e_f80 wk).trans (z_up_ne (z_tne hf_wk hf_pl (m := 8) (n := 4) rfl rfl (by decide)) hf_wk)
        have hf_ks : f80 ks = .inl (cy 1, 13, .inl k2_70) := (congrFun e_f80 ks).trans (z_up_ne (z_tne hf_ks hf_pl (m := 204) (n := 4) rfl rfl (by decide)) hf_ks)
        have hf_ct : f80 ct = .inl (cy 1, 4, .inl c2_71) := (congrFun e_f80 ct).trans (z_up_ne (z_tne hf_ct hf_pl (m := 132) (n := 4) rfl rfl (by decide)) hf_ct)
        have hf_se : f80 se = .inl (cy 1, 4, .inl s2_72) := (congrFun e_f80 se).trans (z_up_ne (z_tne hf_se hf_pl (m := 132) (n := 4) rfl rfl (by decide)) hf_se)
        have hf_ow : f80 ow = .inl (cy 1, 5, .inl o2_73) := (congrFun e_f80 ow).trans (z_up_ne (z_tne hf_ow hf_pl (m := 140) (n := 4) rfl rfl (by decide)) hf_ow)
        have hf_mo : f80 mo = .inr (2, [.int v0, .int v1, .int v2, .int v3, .int v4, .int w21, .int v6, .ref la, .ref sa, .ref mi, .ref da]) := (congrFun e_f80 mo).trans (z_up_ne (z_tne hf_mo hf_pl (m := 2) (n := 4) rfl rfl (by decide)) hf_mo)
        have hf_la : f80 la = .inl (cy 1, 5, .inl gl) := (congrFun e_f80 la).trans (z_up_ne (z_tne hf_la hf_pl (m := 140) (n := 4) rfl rfl (by decide)) hf_la)
        have hf_sa : f80 sa = .inl (cy 1, 4, .inl gs) := (congrFun e_f80 sa).trans (z_up_ne (z_tne hf_sa hf_pl (m := 132) (n := 4) rfl rfl (by decide)) hf_sa)
        have hf_mi : f80 mi = .inl (cy 1, 36, .inl gm) := (congrFun e_f80 mi).trans (z_up_ne (z_tne hf_mi hf_pl (m := 388) (n := 4) rfl rfl (by decide)) hf_mi)
        have hf_da : f80 da = .inl (cy 4, 13, .inr (.inr (.inr (.inr gd)))) := (congrFun e_f80 da).trans (z_up_ne (z_tne hf_da hf_pl (m := 206) (n := 4) rfl rfl (by decide)) hf_da)
        have hd_da : z_Drv L f80 dv 13 := z_Drv_up hd_da e_f80 hf_pl (m := 4) rfl (by decide)
        have hf_pl : f80 pl = .inr (4, [.ref mo, .ref wk, .ref ot, .int q3_67, .int q4_68, .int q5_69, .int q3_67, .int K25, .int q4_68, .int PW33, .int p10, .int p11]) := (congrFun e_f80 pl).trans z_up_self
        have hfr : ∀ b ∈ L, b ≠ pl → b ≠ ot → b ≠ mo → b ≠ wk → b ≠ ks → b ≠ ct → b ≠ se → b ≠ ow → (∀ i : Nat, i < 13 → b ≠ dv i) → f80 b = f b := fun b hb h0 h1 h2 h3 h4 h5 h6 h7 hp0 => (congrFun e_f80 b).trans (z_up_ne h0 (hfr b hb h0 h1 h2 h3 h4 h5 h6 h7 hp0))
        refine lv_aload_n hx hb dX4_seekSplit_136 rfl (lv_at hl 4 rfl) ?_
        refine lv_aload_n hx hb dX4_seekSplit_137 rfl (lv_at hl 4 rfl) ?_
        refine z_get (C := RX4) (T := TX4) (N := 12) (ci := 4) (v := .int q5_69) hx hb hT zin_X4 hown hK hw hm_pl hf_pl rfl 5 (by decide) (hT _ kw_392) rfl dX4_seekSplit_138 ?_
        refine z_put (C := RX4) (T := TX4) (N := 12) (ci := 4) (v := .int q5_69) (fs' := [.ref mo, .ref wk, .ref ot, .int q3_67, .int q4_68, .int q5_69, .int q3_67, .int K25, .int q4_68, .int q5_69, .int p10, .int p11]) hx hb hT zin_X4 tyX4_ok nmX4 hown hK hw hm_pl hf_pl rfl 9 (by decide) (hT _ kw_400) rfl rfl rfl (Nat.le_of_ble_eq_true rfl) rfl dX4_seekSplit_141 (fun H locs hw => ?_)
        obtain ⟨f81, e_f81⟩ : ∃ z, z = va_up f80 pl (.inr (4, [.ref mo, .ref wk, .ref ot, .int q3_67, .int q4_68, .int q5_69, .int q3_67, .int K25, .int q4_68, .int q5_69, .int p10, .int p11])) := ⟨_, rfl⟩
        rw [← e_f81] at hw
        have hf_ot : f81 ot = .inl (cy 1, 216, .inl x2_74) := (congrFun e_f81 ot).trans (z_up_ne (z_tne hf_ot hf_pl (m := 1828) (n := 4) rfl rfl (by decide)) hf_ot)
        have hf_wk : f81 wk = .inr (8, [.ref ks, .int w2_65, .ref ct, .ref se, .ref ow, .int t2_66, .int wd, .int wp]) := (congrFun e_f81 wk).trans (z_up_ne (z_tne hf_wk hf_pl (m := 8) (n := 4) rfl rfl (by decide)) hf_wk)
        have hf_ks : f81 ks = .inl (cy 1, 13, .inl k2_70) := (congrFun e_f81 ks).trans (z_up_ne (z_tne hf_ks hf_pl (m := 204) (n := 4) rfl rfl (by decide)) hf_ks)
        have hf_ct : f81 ct = .inl (cy 1, 4, .inl c2_71) := (congrFun e_f81 ct).trans (z_up_ne (z_tne hf_ct hf_pl (m := 132) (n := 4) rfl rfl (by decide)) hf_ct)
        have hf_se : f81 se = .inl (cy 1, 4, .inl s2_72) := (congrFun e_f81 se).trans (z_up_ne (z_tne hf_se hf_pl (m := 132) (n := 4) rfl rfl (by decide)) hf_se)
        have hf_ow : f81 ow = .inl (cy 1, 5, .inl o2_73) := (congrFun e_f81 ow).trans (z_up_ne (z_tne hf_ow hf_pl (m := 140) (n := 4) rfl rfl (by decide)) hf_ow)
        have hf_mo : f81 mo = .inr (2, [.int v0, .int v1, .int v2, .int v3, .int v4, .int w21, .int v6, .ref la, .ref sa, .ref mi, .ref da]) := (congrFun e_f81 mo).trans (z_up_ne (z_tne hf_mo hf_pl (m := 2) (n := 4) rfl rfl (by decide)) hf_mo)
        have hf_la : f81 la = .inl (cy 1, 5, .inl gl) := (congrFun e_f81 la).trans (z_up_ne (z_tne hf_la hf_pl (m := 140) (n := 4) rfl rfl (by decide)) hf_la)
        have hf_sa : f81 sa = .inl (cy 1, 4, .inl gs) := (congrFun e_f81 sa).trans (z_up_ne (z_tne hf_sa hf_pl (m := 132) (n := 4) rfl rfl (by decide)) hf_sa)
        have hf_mi : f81 mi = .inl (cy 1, 36, .inl gm) := (congrFun e_f81 mi).trans (z_up_ne (z_tne hf_mi hf_pl (m := 388) (n := 4) rfl rfl (by decide)) hf_mi)
        have hf_da : f81 da = .inl (cy 4, 13, .inr (.inr (.inr (.inr gd)))) := (congrFun e_f81 da).trans (z_up_ne (z_tne hf_da hf_pl (m := 206) (n := 4) rfl rfl (by decide)) hf_da)
        have hd_da : z_Drv L f81 dv 13 := z_Drv_up hd_da e_f81 hf_pl (m := 4) rfl (by decide)
        have hf_pl : f81 pl = .inr (4, [.ref mo, .ref wk, .ref ot, .int q3_67, .int q4_68, .int q5_69, .int q3_67, .int K25, .int q4_68, .int q5_69, .int p10, .int p11]) := (congrFun e_f81 pl).trans z_up_self
        have hfr : ∀ b ∈ L, b ≠ pl → b ≠ ot → b ≠ mo → b ≠ wk → b ≠ ks → b ≠ ct → b ≠ se → b ≠ ow → (∀ i : Nat, i < 13 → b ≠ dv i) → f81 b = f b := fun b hb h0 h1 h2 h3 h4 h5 h6 h7 hp0 => (congrFun e_f81 b).trans (z_up_ne h0 (hfr b hb h0 h1 h2 h3 h4 h5 h6 h7 hp0))
        obtain ⟨k82, e_k82⟩ : ∃ z : Int32, z = K25 + 1 := ⟨_, rfl⟩
        refine lv_iinc (v := k82) (lv' := [(5, .int k82), (4, .int ds6), (3, .int v5), (2, .ref dq1), (0, .ref pl), (1, .int nu)]) hx hb dX4_seekSplit_144 hl (k := 0) rfl (by rw [e_k82]; rfl) (by decide) rfl (fun ls hl => ?_)
        have i_k82 : k82.toInt = (K25.toInt + 1) := z_add e_k82 rfl (by decide) (by omega)
        refine lv_goto (tgt := 61) hx hb dX4_seekSplit_147 (by decide) ?_
        exact ih_61 _ (by omega) _ _ _ ⟨k82, k2_70, c2_71, s2_72, o2_73, x2_74, q3_67, q4_68, q5_69, q3_67, K25, q4_68, q5_69, w2_65, t2_66, f81, rfl, (by first | decide | omega), (by first | decide | omega), (by omega), (by omega), (by omega), hbg75.2.2.2, hw, hf_pl, hf_ot, hf_wk, hf_ks, hf_ct, hf_se, hf_ow, hf_mo, hf_la, hf_sa, hf_mi, hf_da, hfr, hd_da, (lv_sub hl [0, 1, 2, 3, 4, 5] rfl)⟩
