set_option maxHeartbeats 2000000 in
set_option maxRecDepth 100000 in
theorem c_X9_moor (l : Launch) {D : va_G} {cy : Nat → ClassId} {L : List Nat} {f : Nat → va_E} {sz : Nat} {adK adV : Nat → Nat} {xo tp rd mo im kp sl wk pl oo mx : Nat} {tb : Nat} {fa fp ot_ ki ra rn rv : Int32} {tl : Int32} {gt : Nat → Int32} {la sa mi da : Nat} {v0 v1 v2 v3 v4 v5 v6 : Int32} {gl gs gm : Nat → Int32} {gd : Nat → Option Nat} {dv : Nat → Nat} {xmo xla xsa xmi xda : Nat} {xv0 xv1 xv2 xv3 xv4 xv5 xv6 : Int32} {xgl xgs xgm : Nat → Int32} {xgd : Nat → Option Nat} {xdv : Nat → Nat} (hm_xo : xo ∈ L) (hm_rd : rd ∈ L) (hm_tp : tp ∈ L) (hm_tb : tb ∈ L) (hm_mo : mo ∈ L) (hm_la : la ∈ L) (hm_sa : sa ∈ L) (hm_mi : mi ∈ L) (hm_da : da ∈ L) (hm_xmo : xmo ∈ L) (hm_xla : xla ∈ L) (hm_xsa : xsa ∈ L) (hm_xmi : xmi ∈ L) (hm_xda : xda ∈ L) (hf_xo : f xo = .inr (9, [.ref tp, .ref rd, .ref mo, .ref xmo, .ref im, .ref kp, .ref sl, .ref wk, .ref pl, .ref oo, .ref mx])) (hf_rd : f rd = .inr (5, [.int fa, .int fp, .ref tp, .ref xmo, .int ot_, .int ki, .int ra, .int rn, .int rv])) (hf_tp : f tp = .inr (7, [.ref tb, .int tl])) (hf_tb : f tb = .inl (cy 0, 1600, .inl gt)) (hf_mo : f mo = .inr (2, [.int v0, .int v1, .int v2, .int v3, .int v4, .int v5, .int v6, .ref la, .ref sa, .ref mi, .ref da])) (hf_la : f la = .inl (cy 1, 5, .inl gl)) (hf_sa : f sa = .inl (cy 1, 4, .inl gs)) (hf_mi : f mi = .inl (cy 1, 36, .inl gm)) (hf_da : f da = .inl (cy 4, 13, .inr (.inr (.inr (.inr gd))))) (hf_xmo : f xmo = .inr (2, [.int xv0, .int xv1, .int xv2, .int xv3, .int xv4, .int xv5, .int xv6, .ref xla, .ref xsa, .ref xmi, .ref xda])) (hf_xla : f xla = .inl (cy 1, 5, .inl xgl)) (hf_xsa : f xsa = .inl (cy 1, 4, .inl xgs)) (hf_xmi : f xmi = .inl (cy 1, 36, .inl xgm)) (hf_xda : f xda = .inl (cy 4, 13, .inr (.inr (.inr (.inr xgd))))) (ne_mo_xmo : mo ≠ xmo) (ne_la_xla : la ≠ xla) (ne_sa_xsa : sa ≠ xsa) (ne_mi_xmi : mi ≠ xmi) (ne_da_xda : da ≠ xda) (hg_da : ∀ i : Nat, i < 13 → gd i = some (dv i)) (hd_da : z_Drv L f dv 13) (htl : 0 ≤ tl.toInt ∧ tl.toInt ≤ 1600) (hrr : (0 ≤ ra.toInt ∧ ra.toInt ≤ 1600) ∧ (0 ≤ rn.toInt ∧ rn.toInt ≤ 1600)) (hv1 : 0 ≤ v1.toInt ∧ v1.toInt ≤ 4) (hv2 : 0 ≤ v2.toInt ∧ v2.toInt ≤ 9) (hv3 : 0 ≤ v3.toInt ∧ v3.toInt ≤ 5) (hv5 : 0 ≤ v5.toInt ∧ v5.toInt ≤ 12) (hgl : ∀ j : Nat, 0 ≤ (gl j).toInt ∧ (gl j).toInt ≤ 999) (hgs : ∀ j : Nat, 0 ≤ (gs j).toInt ∧ (gs j).toInt ≤ 999) (hgm : ∀ j : Nat, 0 ≤ (gm j).toInt ∧ (gm j).toInt ≤ 9) (hg_xda : ∀ i : Nat, i < 13 → xgd i = some (xdv i)) (hD8 : z_D8 L f xdv) (hxj : ∀ i j : Nat, i < 13 → j < 13 → i ≠ j → xdv i ≠ xdv j) (hdx : ∀ i j : Nat, i < 13 → j < 13 → dv i ≠ xdv j) : Met l yX9_moor (z_ws yX9_moor cX9_moor 2 (some .int)) (z_R 10 0 0) (va_Pc [.ref xo] (z_Pre D vwCl (z_KK D cy adK adV) L f sz)) (z_Qi D vwCl (fun r u => L = u.1 ∧ (∀ b ∈ L, b ≠ rd → b ≠ tp → b ≠ xmo → b ≠ xla → b ≠ xsa → b ≠ xmi → b ≠ mo → b ≠ la → b ≠ sa → b ≠ mi → (∀ i : Nat, i < 13 → b ≠ dv i) → (∀ i : Nat, i < 13 → b ≠ xdv i) → u.2 b = f b) ∧ (∃ (f2 p2 t2 k2 a2 n2 z2 l2 u0 u1 u2 u3 u4 u5 u6 y0 y1 y2 y3 y4 y5 y6 : Int32) (i1 i2 i3 h1 h2 h3 : Nat → Int32), (u.2 rd = .inr (5, [.int f2, .int p2, .ref tp, .ref xmo, .int t2, .int k2, .int a2, .int n2, .int z2])) ∧ (u.2 tp = .inr (7, [.ref tb, .int l2])) ∧ (u.2 xmo = .inr (2, [.int u0, .int u1, .int u2, .int u3, .int u4, .int u5, .int u6, .ref xla, .ref xsa, .ref xmi, .ref xda])) ∧ (u.2 xla = .inl (cy 1, 5, .inl i1)) ∧ (u.2 xsa = .inl (cy 1, 4, .inl i2)) ∧ (u.2 xmi = .inl (cy 1, 36, .inl i3)) ∧ (u.2 mo = .inr (2, [.int y0, .int y1, .int y2, .int y3, .int y4, .int y5, .int y6, .ref la, .ref sa, .ref mi, .ref da])) ∧ (u.2 la = .inl (cy 1, 5, .inl h1)) ∧ (u.2 sa = .inl (cy 1, 4, .inl h2)) ∧ (u.2 mi = .inl (cy 1, 36, .inl h3)) ∧ (z_Drv u.1 u.2 dv 13) ∧ (((0 ≤ a2.toInt ∧ a2.toInt ≤ 1600) ∧ (0 ≤ n2.toInt ∧ n2.toInt ≤ 1600)) ∧ (0 ≤ l2.toInt ∧ l2.toInt ≤ 1600) ∧ z_D8 L u.2 xdv ∧ (0 ≤ y1.toInt ∧ y1.toInt ≤ 4) ∧ (0 ≤ y2.toInt ∧ y2.toInt ≤ 9) ∧ (0 ≤ y3.toInt ∧ y3.toInt ≤ 5) ∧ (0 ≤ y5.toInt ∧ y5.toInt ≤ 12) ∧ (∀ j : Nat, 0 ≤ (h1 j).toInt ∧ (h1 j).toInt ≤ 999) ∧ (∀ j : Nat, 0 ≤ (h2 j).toInt ∧ (h2 j).toInt ≤ 999) ∧ (∀ j : Nat, 0 ≤ (h3 j).toInt ∧ (h3 j).toInt ≤ 9)))) L sz) 0 0 (z_A L sz) := by
  refine z_met (cc := cX9_moor) (maxL := 2) (ret := (some .int)) (lv := [(0, .ref xo)]) (by decide) rfl (Nat.le_of_ble_eq_true rfl) rfl ?_
  intro p e s m below meth c ls hx hb hr hlk hml hown hnm hts hKK hA hw hl
  have hK := hKK.1.1
  have hown : s.vm.findClass RX9 = some m.cls := hown
  have hT : ∀ w ∈ lw_all, w.before ([.ref xo] : List Value).toArray s = true := fun w h => hts w (z_cons w h)
  have hsub : L = L := rfl
  have hfr : ∀ b ∈ L, b ≠ rd → b ≠ tp → b ≠ xmo → b ≠ xla → b ≠ xsa → b ≠ xmi → b ≠ mo → b ≠ la → b ≠ sa → b ≠ mi → (∀ i : Nat, i < 13 → b ≠ dv i) → (∀ i : Nat, i < 13 → b ≠ xdv i) → f b = f b := fun _ _ _ _ _ _ _ _ _ _ _ _ _ _ => rfl
  have hf0_rd := hf_rd
  have hf0_xmo := hf_xmo
  have hf0_xla := hf_xla
  have hf0_xsa := hf_xsa
  have hf0_xmi := hf_xmi
  refine lv_aload_n hx hb dX9_moor_0 rfl (lv_at hl 0 rfl) ?_
  refine z_get (C := RX9) (T := TX9) (N := 11) (ci := 9) (v := .ref rd) hx hb hT zin_X9 hown hK hw hm_xo hf_xo rfl 1 (by decide) (hT _ kw_478) rfl dX9_moor_1 ?_
  refine z_callvV (cells := 0) (slots := 0) (b := rd) (As := []) (rest := []) (ci := 5) (q0 := (RX5, TX5, 9)) ⟨hx, hb, hml, hown, hT⟩ (c_X5_begin l hm_rd hm_tp hm_tb hm_xmo hm_xla hm_xsa hm_xmi hf_rd hf_tp hf_tb hf_xmo hf_xla hf_xsa hf_xmi (by first | omega | decide | assumption) (by first | omega | decide | assumption)) (cwV 0 hT (z_goodV (fun _ h => h) kw_527 kw_528 kw_529 kw_89 kw_530) rfl rfl rfl (by decide +kernel) ⟨by decide, by decide⟩) z_mv hKK hK hw hA hm_rd hf_rd rfl rfl rfl hl.1 rfl (Nat.le_of_ble_eq_true rfl) dX9_moor_4 ⟨by decide, by decide⟩ (fun u H locs hp hw => ?_)
  obtain ⟨L1, f2⟩ := u
  obtain ⟨hsb, hfm, k2_3, a2_4, n2_5, z2_6, ha_0, ha_1, ha_2, ha_3, ha_4, hp⟩ := hp
  have hsb : L = L1 := hsb
  subst hsb
  have hsb : ∀ b ∈ L, b ∈ L := fun _ h => h
  have hw : z_H D vwCl (z_A L sz) s.heap L f2 H locs := hw
  have hfr : ∀ b ∈ L, b ≠ rd → b ≠ tp → b ≠ xmo → b ≠ xla → b ≠ xsa → b ≠ xmi → b ≠ mo → b ≠ la → b ≠ sa → b ≠ mi → (∀ i : Nat, i < 13 → b ≠ dv i) → (∀ i : Nat, i < 13 → b ≠ xdv i) → f2 b = f b := fun b hb h0 h1 h2 h3 h4 h5 h6 h7 h8 h9 hp0 hp1 => (hfm b hb h0 h2 h3 h4 h5).trans (hfr b hb h0 h1 h2 h3 h4 h5 h6 h7 h8 h9 hp0 hp1)
  have hd_da : z_Drv L f2 dv 13 := z_Drv_fr hd_da hsb (fun b hb ht => hfm b hb (z_t0 ht hf_rd (m := 5) rfl (by decide)) (z_t0 ht hf_xmo (m := 2) rfl (by decide)) (z_t0 ht hf_xla (m := 140) rfl (by decide)) (z_t0 ht hf_xsa (m := 132) rfl (by decide)) (z_t0 ht hf_xmi (m := 388) rfl (by decide)))
  have hf_xo : f2 xo = .inr (9, [.ref tp, .ref rd, .ref mo, .ref xmo, .ref im, .ref kp, .ref sl, .ref wk, .ref pl, .ref oo, .ref mx]) := (hfm xo hm_xo (z_tne hf_xo hf_rd (m := 9) (n := 5) rfl rfl (by decide)) (z_tne hf_xo hf_xmo (m := 9) (n := 2) rfl rfl (by decide)) (z_tne hf_xo hf_xla (m := 9) (n := 140) rfl rfl (by decide)) (z_tne hf_xo hf_xsa (m := 9) (n := 132) rfl rfl (by decide)) (z_tne hf_xo hf_xmi (m := 9) (n := 388) rfl rfl (by decide))).trans hf_xo
  have hf_tp : f2 tp = .inr (7, [.ref tb, .int tl]) := (hfm tp hm_tp (z_tne hf_tp hf_rd (m := 7) (n := 5) rfl rfl (by decide)) (z_tne hf_tp hf_xmo (m := 7) (n := 2) rfl rfl (by decide)) (z_tne hf_tp hf_xla (m := 7) (n := 140) rfl rfl (by decide)) (z_tne hf_tp hf_xsa (m := 7) (n := 132) rfl rfl (by decide)) (z_tne hf_tp hf_xmi (m := 7) (n := 388) rfl rfl (by decide))).trans hf_tp
  have hf_tb : f2 tb = .inl (cy 0, 1600, .inl gt) := (hfm tb hm_tb (z_tne hf_tb hf_rd (m := 12900) (n := 5) rfl rfl (by decide)) (z_tne hf_tb hf_xmo (m := 12900) (n := 2) rfl rfl (by decide)) (z_tne hf_tb hf_xla (m := 12900) (n := 140) rfl rfl (by decide)) (z_tne hf_tb hf_xsa (m := 12900) (n := 132) rfl rfl (by decide)) (z_tne hf_tb hf_xmi (m := 12900) (n := 388) rfl rfl (by decide))).trans hf_tb
  have hf_mo : f2 mo = .inr (2, [.int v0, .int v1, .int v2, .int v3, .int v4, .int v5, .int v6, .ref la, .ref sa, .ref mi, .ref da]) := (hfm mo hm_mo (z_tne hf_mo hf_rd (m := 2) (n := 5) rfl rfl (by decide)) ne_mo_xmo (z_tne hf_mo hf_xla (m := 2) (n := 140) rfl rfl (by decide)) (z_tne hf_mo hf_xsa (m := 2) (n := 132) rfl rfl (by decide)) (z_tne hf_mo hf_xmi (m := 2) (n := 388) rfl rfl (by decide))).trans hf_mo
  have hf_la : f2 la = .inl (cy 1, 5, .inl gl) := (hfm la hm_la (z_tne hf_la hf_rd (m := 140) (n := 5) rfl rfl (by decide)) (z_tne hf_la hf_xmo (m := 140) (n := 2) rfl rfl (by decide)) ne_la_xla (z_tne hf_la hf_xsa (m := 140) (n := 132) rfl rfl (by decide)) (z_tne hf_la hf_xmi (m := 140) (n := 388) rfl rfl (by decide))).trans hf_la
  have hf_sa : f2 sa = .inl (cy 1, 4, .inl gs) := (hfm sa hm_sa (z_tne hf_sa hf_rd (m := 132) (n := 5) rfl rfl (by decide)) (z_tne hf_sa hf_xmo (m := 132) (n := 2) rfl rfl (by decide)) (z_tne hf_sa hf_xla (m := 132) (n := 140) rfl rfl (by decide)) ne_sa_xsa (z_tne hf_sa hf_xmi (m := 132) (n := 388) rfl rfl (by decide))).trans hf_sa
  have hf_mi : f2 mi = .inl (cy 1, 36, .inl gm) := (hfm mi hm_mi (z_tne hf_mi hf_rd (m := 388) (n := 5) rfl rfl (by decide)) (z_tne hf_mi hf_xmo (m := 388) (n := 2) rfl rfl (by decide)) (z_tne hf_mi hf_xla (m := 388) (n := 140) rfl rfl (by decide)) (z_tne hf_mi hf_xsa (m := 388) (n := 132) rfl rfl (by decide)) ne_mi_xmi).trans hf_mi
  have hf_da : f2 da = .inl (cy 4, 13, .inr (.inr (.inr (.inr gd)))) := (hfm da hm_da (z_tne hf_da hf_rd (m := 206) (n := 5) rfl rfl (by decide)) (z_tne hf_da hf_xmo (m := 206) (n := 2) rfl rfl (by decide)) (z_tne hf_da hf_xla (m := 206) (n := 140) rfl rfl (by decide)) (z_tne hf_da hf_xsa (m := 206) (n := 132) rfl rfl (by decide)) (z_tne hf_da hf_xmi (m := 206) (n := 388) rfl rfl (by decide))).trans hf_da
  have hf_xda : f2 xda = .inl (cy 4, 13, .inr (.inr (.inr (.inr xgd)))) := (hfm xda hm_xda (z_tne hf_xda hf_rd (m := 206) (n := 5) rfl rfl (by decide)) (z_tne hf_xda hf_xmo (m := 206) (n := 2) rfl rfl (by decide)) (z_tne hf_xda hf_xla (m := 206) (n := 140) rfl rfl (by decide)) (z_tne hf_xda hf_xsa (m := 206) (n := 132) rfl rfl (by decide)) (z_tne hf_xda hf_xmi (m := 206) (n := 388) rfl rfl (by decide))).trans hf_xda
  have hf_rd : f2 rd = .inr (5, [.int 0, .int (-1), .ref tp, .ref xmo, .int 0, .int k2_3, .int a2_4, .int n2_5, .int z2_6]) := ha_0
  have hf_xmo : f2 xmo = .inr (2, [.int 0, .int 0, .int 0, .int 0, .int 0, .int 0, .int 0, .ref xla, .ref xsa, .ref xmi, .ref xda]) := ha_1
  have hf_xla : f2 xla = .inl (cy 1, 5, .inl (fun _ => 0)) := ha_2
  have hf_xsa : f2 xsa = .inl (cy 1, 4, .inl (fun _ => 0)) := ha_3
  have hf_xmi : f2 xmi = .inl (cy 1, 36, .inl (fun _ => 0)) := ha_4
  have hD8 : z_D8 L f2 xdv := z_D8_fr hD8 hsb (fun i b hi e hb ht => hfm b hb (z_t0 ht hf0_rd (m := 5) rfl (by decide)) (z_t0 ht hf0_xmo (m := 2) rfl (by decide)) (z_t0 ht hf0_xla (m := 140) rfl (by decide)) (z_t0 ht hf0_xsa (m := 132) rfl (by decide)) (z_t0 ht hf0_xmi (m := 388) rfl (by decide)))
  refine lv_iconst (v := 0) hx hb dX9_moor_7 (by decide) ?_
  refine lv_istore_n (lv' := [(1, .int 0), (0, .ref xo)]) hx hb dX9_moor_8 rfl hl (by decide) rfl (fun ls hl => ?_)
  have hzk : (0 : Int32).toInt = 0 := by decide
  refine z_loop (fun n H locs ls => ∃ (K7 : Int32) (G23 : Nat → Int32) (G24 : Nat → Int32) (G25 : Nat → Int32) (FA9 : Int32) (FP10 : Int32) (OT11 : Int32) (KI12 : Int32) (RA13 : Int32) (RN14 : Int32) (RV15 : Int32) (XV0_16 : Int32) (XV1_17 : Int32) (XV2_18 : Int32) (XV3_19 : Int32) (XV4_20 : Int32) (XV5_21 : Int32) (XV6_22 : Int32) (f8 : Nat → va_E), (n = (1601 - K7.toInt).toNat) ∧ (0 ≤ K7.toInt) ∧ (K7.toInt ≤ 1601) ∧ ((0 ≤ RA13.toInt ∧ RA13.toInt ≤ 1600) ∧ (0 ≤ RN14.toInt ∧ RN14.toInt ≤ 1600)) ∧ ((-1 ≤ XV1_17.toInt ∧ XV1_17.toInt ≤ 4) ∧ (-1 ≤ XV2_18.toInt ∧ XV2_18.toInt ≤ 9) ∧ (-1 ≤ XV3_19.toInt ∧ XV3_19.toInt ≤ 5) ∧ (0 ≤ XV5_21.toInt ∧ XV5_21.toInt ≤ 12)) ∧ (FA9.toInt ≠ 0 ∨ (0 ≤ XV1_17.toInt ∧ 0 ≤ XV2_18.toInt ∧ 0 ≤ XV3_19.toInt)) ∧ (∀ j : Nat, z_lw FA9 (G23 j)) ∧ (∀ j : Nat, 0 ≤ (G24 j).toInt ∧ (G24 j).toInt ≤ 999) ∧ (∀ j : Nat, 0 ≤ (G25 j).toInt ∧ (G25 j).toInt ≤ 9) ∧ (z_DD L f8 xdv FA9 XV5_21) ∧ (z_H D vwCl (z_A L sz) s.heap L f8 H locs) ∧ (f8 xo = .inr (9, [.ref tp, .ref rd, .ref mo, .ref xmo, .ref im, .ref kp, .ref sl, .ref wk, .ref pl, .ref oo, .ref mx])) ∧ (f8 rd = .inr (5, [.int FA9, .int FP10, .ref tp, .ref xmo, .int OT11, .int KI12, .int RA13, .int RN14, .int RV15])) ∧ (f8 tp = .inr (7, [.ref tb, .int tl])) ∧ (f8 tb = .inl (cy 0, 1600, .inl gt)) ∧ (f8 mo = .inr (2, [.int v0, .int v1, .int v2, .int v3, .int v4, .int v5, .int v6, .ref la, .ref sa, .ref mi, .ref da])) ∧ (f8 la = .inl (cy 1, 5, .inl gl)) ∧ (f8 sa = .inl (cy 1, 4, .inl gs)) ∧ (f8 mi = .inl (cy 1, 36, .inl gm)) ∧ (f8 da = .inl (cy 4, 13, .inr (.inr (.inr (.inr gd))))) ∧ (f8 xmo = .inr (2, [.int XV0_16, .int XV1_17, .int XV2_18, .int XV3_19, .int XV4_20, .int XV5_21, .int XV6_22, .ref xla, .ref xsa, .ref xmi, .ref xda])) ∧ (f8 xla = .inl (cy 1, 5, .inl G23)) ∧ (f8 xsa = .inl (cy 1, 4, .inl G24)) ∧ (f8 xmi = .inl (cy 1, 36, .inl G25)) ∧ (f8 xda = .inl (cy 4, 13, .inr (.inr (.inr (.inr xgd))))) ∧ (∀ b ∈ L, b ≠ rd → b ≠ tp → b ≠ xmo → b ≠ xla → b ≠ xsa → b ≠ xmi → b ≠ mo → b ≠ la → b ≠ sa → b ≠ mi → (∀ i : Nat, i < 13 → b ≠ dv i) → (∀ i : Nat, i < 13 → b ≠ xdv i) → f8 b = f b) ∧ (z_Drv L f8 dv 13) ∧ (lv_has ls 2 [(1, .int K7), (0, .ref xo)])) _ ⟨0, (fun _ => 0), (fun _ => 0), (fun _ => 0), 0, (-1), 0, k2_3, a2_4, n2_5, z2_6, 0, 0, 0, 0, 0, 0, 0, f2, rfl, (by first | decide | omega), (by first | decide | omega), (by omega), (by decide), (Or.inr (by decide)), (fun _ => by show -1 ≤ (0 : Int32).toInt ∧ (0 : Int32).toInt ≤ 999 ∧ ((0 : Int32).toInt ≠ 0 ∨ 0 ≤ (0 : Int32).toInt); decide), (fun _ => by show 0 ≤ (0 : Int32).toInt ∧ (0 : Int32).toInt ≤ 999; decide), (fun _ => by show 0 ≤ (0 : Int32).toInt ∧ (0 : Int32).toInt ≤ 9; decide), (z_DD_0 hD8 (by decide)), hw, hf_xo, hf_rd, hf_tp, hf_tb, hf_mo, hf_la, hf_sa, hf_mi, hf_da, hf_xmo, hf_xla, hf_xsa, hf_xmi, hf_xda, hfr, hd_da, (lv_sub hl [0, 1] rfl)⟩ (fun n H locs ls hI ih_9 => ?_)
  obtain ⟨K7, G23, G24, G25, FA9, FP10, OT11, KI12, RA13, RN14, RV15, XV0_16, XV1_17, XV2_18, XV3_19, XV4_20, XV5_21, XV6_22, f8, hn, hk0, hk1, hi0, hi1, hi2, hi3, hi4, hi5, hi6, hw, hf_xo, hf_rd, hf_tp, hf_tb, hf_mo, hf_la, hf_sa, hf_mi, hf_da, hf_xmo, hf_xla, hf_xsa, hf_xmi, hf_xda, hfr, hd_da, hl⟩ := hI
  refine lv_iload_n hx hb dX9_moor_9 rfl (lv_at hl 0 rfl) ?_
  refine lv_sipush (v := 1600) hx hb dX9_moor_10 (by decide) ?_
  refine z_icmp_gt (tgt := 39) hx hb rfl (show (1600 : Int32).toInt = 1600 by decide) dX9_moor_13 (by decide) (fun c26 => ?_) (fun c26 => ?_)
  · skip
    have hD9 := z_DD_8 hi6
    refine lv_aload_n hx hb dX9_moor_39 rfl (lv_at hl 1 rfl) ?_
    refine z_get (C := RX9) (T := TX9) (N := 11) (ci := 9) (v := .ref rd) hx hb hT zin_X9 hown hK hw hm_xo hf_xo rfl 1 (by decide) (hT _ kw_478) rfl dX9_moor_40 ?_
    refine z_get (C := RX5) (T := TX5) (N := 9) (ci := 5) (v := .int FA9) hx hb hT zin_X5 hown hK hw hm_rd hf_rd rfl 0 (by decide) (hT _ kw_278) rfl dX9_moor_43 ?_
    refine z_if_eq (tgt := 52) hx hb rfl dX9_moor_46 (by decide) (fun c27 => ?_) (fun c27 => ?_)
    · skip
      have hfa_ : FA9.toInt = 0 := by omega
      have hd_xda := z_DD_Drv hi6 hfa_ (by omega)
      have hf0_tp := hf_tp
      refine lv_aload_n hx hb dX9_moor_52 rfl (lv_at hl 1 rfl) ?_
      refine z_get (C := RX9) (T := TX9) (N := 11) (ci := 9) (v := .ref tp) hx hb hT zin_X9 hown hK hw hm_xo hf_xo rfl 0 (by decide) (hT _ kw_477) rfl dX9_moor_53 ?_
      refine lv_iconst (v := 0) hx hb dX9_moor_56 (by decide) ?_
      refine z_put (C := RX7) (T := TX7) (N := 2) (ci := 7) (v := .int 0) (fs' := [.ref tb, .int 0]) hx hb hT zin_X7 tyX7_ok nmX7 hown hK hw hm_tp hf_tp rfl 1 (by decide) (hT _ kw_119) rfl rfl rfl (Nat.le_of_ble_eq_true rfl) rfl dX9_moor_57 (fun H locs hw => ?_)
      obtain ⟨f28, e_f28⟩ : ∃ z, z = va_up f8 tp (.inr (7, [.ref tb, .int 0])) := ⟨_, rfl⟩
      rw [← e_f28] at hw
      have hf_xo : f28 xo = .inr (9, [.ref tp, .ref rd, .ref mo, .ref xmo, .ref im, .ref kp, .ref sl, .ref wk, .ref pl, .ref oo, .ref mx]) := (congrFun e_f28 xo).trans (z_up_ne (z_tne hf_xo hf_tp (m := 9) (n := 7) rfl rfl (by decide)) hf_xo)
      have hf_rd : f28 rd = .inr (5, [.int FA9, .int FP10, .ref tp, .ref xmo, .int OT11, .int KI12, .int RA13, .int RN14, .int RV15]) := (congrFun e_f28 rd).trans (z_up_ne (z_tne hf_rd hf_tp (m := 5) (n := 7) rfl rfl (by decide)) hf_rd)
      have hf_tb : f28 tb = .inl (cy 0, 1600, .inl gt) := (congrFun e_f28 tb).trans (z_up_ne (z_tne hf_tb hf_tp (m := 12900) (n := 7) rfl rfl (by decide)) hf_tb)
      have hf_mo : f28 mo = .inr (2, [.int v0, .int v1, .int v2, .int v3, .int v4, .int v5, .int v6, .ref la, .ref sa, .ref mi, .ref da]) := (congrFun e_f28 mo).trans (z_up_ne (z_tne hf_mo hf_tp (m := 2) (n := 7) rfl rfl (by decide)) hf_mo)
      have hf_la : f28 la = .inl (cy 1, 5, .inl gl) := (congrFun e_f28 la).trans (z_up_ne (z_tne hf_la hf_tp (m := 140) (n := 7) rfl rfl (by decide)) hf_la)
      have hf_sa : f28 sa = .inl (cy 1, 4, .inl gs) := (congrFun e_f28 sa).trans (z_up_ne (z_tne hf_sa hf_tp (m := 132) (n := 7) rfl rfl (by decide)) hf_sa)
      have hf_mi : f28 mi = .inl (cy 1, 36, .inl gm) := (congrFun e_f28 mi).trans (z_up_ne (z_tne hf_mi hf_tp (m := 388) (n := 7) rfl rfl (by decide)) hf_mi)
      have hf_da : f28 da = .inl (cy 4, 13, .inr (.inr (.inr (.inr gd)))) := (congrFun e_f28 da).trans (z_up_ne (z_tne hf_da hf_tp (m := 206) (n := 7) rfl rfl (by decide)) hf_da)
      have hf_xmo : f28 xmo = .inr (2, [.int XV0_16, .int XV1_17, .int XV2_18, .int XV3_19, .int XV4_20, .int XV5_21, .int XV6_22, .ref xla, .ref xsa, .ref xmi, .ref xda]) := (congrFun e_f28 xmo).trans (z_up_ne (z_tne hf_xmo hf_tp (m := 2) (n := 7) rfl rfl (by decide)) hf_xmo)
      have hf_xla : f28 xla = .inl (cy 1, 5, .inl G23) := (congrFun e_f28 xla).trans (z_up_ne (z_tne hf_xla hf_tp (m := 140) (n := 7) rfl rfl (by decide)) hf_xla)
      have hf_xsa : f28 xsa = .inl (cy 1, 4, .inl G24) := (congrFun e_f28 xsa).trans (z_up_ne (z_tne hf_xsa hf_tp (m := 132) (n := 7) rfl rfl (by decide)) hf_xsa)
      have hf_xmi : f28 xmi = .inl (cy 1, 36, .inl G25) := (congrFun e_f28 xmi).trans (z_up_ne (z_tne hf_xmi hf_tp (m := 388) (n := 7) rfl rfl (by decide)) hf_xmi)
      have hf_xda : f28 xda = .inl (cy 4, 13, .inr (.inr (.inr (.inr xgd)))) := (congrFun e_f28 xda).trans (z_up_ne (z_tne hf_xda hf_tp (m := 206) (n := 7) rfl rfl (by decide)) hf_xda)
      have hd_da : z_Drv L f28 dv 13 := z_Drv_up hd_da e_f28 hf_tp (m := 7) rfl (by decide)
      have hf_tp : f28 tp = .inr (7, [.ref tb, .int 0]) := (congrFun e_f28 tp).trans z_up_self
      have hfr : ∀ b ∈ L, b ≠ rd → b ≠ tp → b ≠ xmo → b ≠ xla → b ≠ xsa → b ≠ xmi → b ≠ mo → b ≠ la → b ≠ sa → b ≠ mi → (∀ i : Nat, i < 13 → b ≠ dv i) → (∀ i : Nat, i < 13 → b ≠ xdv i) → f28 b = f b := fun b hb h0 h1 h2 h3 h4 h5 h6 h7 h8 h9 hp0 hp1 => (congrFun e_f28 b).trans (z_up_ne h1 (hfr b hb h0 h1 h2 h3 h4 h5 h6 h7 h8 h9 hp0 hp1))
      have hd_xda := z_Drv_up hd_xda e_f28 hf0_tp (m := 7) rfl (by decide)
      have hD9 : z_D8 L f28 xdv := z_D8_fr hD9 (fun _ h => h) (fun i b hi e hb ht => (congrFun e_f28 b).trans (va_up_ne _ _ (z_t0 ht hf0_tp (m := 7) rfl (by decide))))
      have hf0_mo := hf_mo
      have hf0_la := hf_la
      have hf0_sa := hf_sa
      have hf0_mi := hf_mi
      refine lv_aload_n hx hb dX9_moor_60 rfl (lv_at hl 1 rfl) ?_
      refine z_get (C := RX9) (T := TX9) (N := 11) (ci := 9) (v := .ref mo) hx hb hT zin_X9 hown hK hw hm_xo hf_xo rfl 2 (by decide) (hT _ kw_479) rfl dX9_moor_61 ?_
      refine lv_aload_n hx hb dX9_moor_64 rfl (lv_at hl 1 rfl) ?_
      refine z_get (C := RX9) (T := TX9) (N := 11) (ci := 9) (v := .ref xmo) hx hb hT zin_X9 hown hK hw hm_xo hf_xo rfl 3 (by decide) (hT _ kw_480) rfl dX9_moor_65 ?_
      refine z_callvV (cells := 0) (slots := 0) (b := mo) (As := [.ref xmo]) (rest := []) (ci := 2) (q0 := (RX2, TX2, 11)) ⟨hx, hb, hml, hown, hT⟩ (c_X2_copyD l hm_mo hm_la hm_sa hm_mi hm_da hm_xmo hm_xla hm_xsa hm_xmi hm_xda hf_mo hf_la hf_sa hf_mi hf_da hf_xmo hf_xla hf_xsa hf_xmi hf_xda ne_mo_xmo ne_la_xla ne_sa_xsa ne_mi_xmi ne_da_xda hg_da hd_da hg_xda hd_xda (fun i hi => hdx i i hi hi) (by first | omega | decide | assumption)) (cwV 1 hT (z_goodV (fun _ h => h) kw_690 kw_691 kw_692 kw_87 kw_693) rfl rfl rfl (by decide +kernel) ⟨by decide, by decide⟩) z_mv hKK hK hw hA hm_mo hf_mo rfl rfl rfl hl.1 rfl (Nat.le_of_ble_eq_true rfl) dX9_moor_68 ⟨by decide, by decide⟩ (fun u H locs hp hw => ?_)
      obtain ⟨L29, f30⟩ := u
      obtain ⟨hsb, hfm, ha_0, ha_1, ha_2, ha_3, hv_da, hp⟩ := hp
      have hsb : L = L29 := hsb
      subst hsb
      have hsb : ∀ b ∈ L, b ∈ L := fun _ h => h
      have hw : z_H D vwCl (z_A L sz) s.heap L f30 H locs := hw
      have hdo_da := hd_da
      have hfr : ∀ b ∈ L, b ≠ rd → b ≠ tp → b ≠ xmo → b ≠ xla → b ≠ xsa → b ≠ xmi → b ≠ mo → b ≠ la → b ≠ sa → b ≠ mi → (∀ i : Nat, i < 13 → b ≠ dv i) → (∀ i : Nat, i < 13 → b ≠ xdv i) → f30 b = f b := fun b hb h0 h1 h2 h3 h4 h5 h6 h7 h8 h9 hp0 hp1 => (hfm b hb h6 h7 h8 h9 hp0).trans (hfr b hb h0 h1 h2 h3 h4 h5 h6 h7 h8 h9 hp0 hp1)
      have hd_da : z_Drv L f30 dv 13 := hv_da
      have hf_xo : f30 xo = .inr (9, [.ref tp, .ref rd, .ref mo, .ref xmo, .ref im, .ref kp, .ref sl, .ref wk, .ref pl, .ref oo, .ref mx]) := (hfm xo hm_xo (z_tne hf_xo hf_mo (m := 9) (n := 2) rfl rfl (by decide)) (z_tne hf_xo hf_la (m := 9) (n := 140) rfl rfl (by decide)) (z_tne hf_xo hf_sa (m := 9) (n := 132) rfl rfl (by decide)) (z_tne hf_xo hf_mi (m := 9) (n := 388) rfl rfl (by decide)) (z_Drv_ne hdo_da hf_xo (m := 9) rfl (by decide))).trans hf_xo
      have hf_rd : f30 rd = .inr (5, [.int FA9, .int FP10, .ref tp, .ref xmo, .int OT11, .int KI12, .int RA13, .int RN14, .int RV15]) := (hfm rd hm_rd (z_tne hf_rd hf_mo (m := 5) (n := 2) rfl rfl (by decide)) (z_tne hf_rd hf_la (m := 5) (n := 140) rfl rfl (by decide)) (z_tne hf_rd hf_sa (m := 5) (n := 132) rfl rfl (by decide)) (z_tne hf_rd hf_mi (m := 5) (n := 388) rfl rfl (by decide)) (z_Drv_ne hdo_da hf_rd (m := 5) rfl (by decide))).trans hf_rd
      have hf_tp : f30 tp = .inr (7, [.ref tb, .int 0]) := (hfm tp hm_tp (z_tne hf_tp hf_mo (m := 7) (n := 2) rfl rfl (by decide)) (z_tne hf_tp hf_la (m := 7) (n := 140) rfl rfl (by decide)) (z_tne hf_tp hf_sa (m := 7) (n := 132) rfl rfl (by decide)) (z_tne hf_tp hf_mi (m := 7) (n := 388) rfl rfl (by decide)) (z_Drv_ne hdo_da hf_tp (m := 7) rfl (by decide))).trans hf_tp
      have hf_tb : f30 tb = .inl (cy 0, 1600, .inl gt) := (hfm tb hm_tb (z_tne hf_tb hf_mo (m := 12900) (n := 2) rfl rfl (by decide)) (z_tne hf_tb hf_la (m := 12900) (n := 140) rfl rfl (by decide)) (z_tne hf_tb hf_sa (m := 12900) (n := 132) rfl rfl (by decide)) (z_tne hf_tb hf_mi (m := 12900) (n := 388) rfl rfl (by decide)) (z_Drv_ne hdo_da hf_tb (m := 12900) rfl (by decide))).trans hf_tb
      have hf_da : f30 da = .inl (cy 4, 13, .inr (.inr (.inr (.inr gd)))) := (hfm da hm_da (z_tne hf_da hf_mo (m := 206) (n := 2) rfl rfl (by decide)) (z_tne hf_da hf_la (m := 206) (n := 140) rfl rfl (by decide)) (z_tne hf_da hf_sa (m := 206) (n := 132) rfl rfl (by decide)) (z_tne hf_da hf_mi (m := 206) (n := 388) rfl rfl (by decide)) (z_Drv_ne hdo_da hf_da (m := 206) rfl (by decide))).trans hf_da
      have hf_xmo : f30 xmo = .inr (2, [.int XV0_16, .int XV1_17, .int XV2_18, .int XV3_19, .int XV4_20, .int XV5_21, .int XV6_22, .ref xla, .ref xsa, .ref xmi, .ref xda]) := (hfm xmo hm_xmo (Ne.symm ne_mo_xmo) (z_tne hf_xmo hf_la (m := 2) (n := 140) rfl rfl (by decide)) (z_tne hf_xmo hf_sa (m := 2) (n := 132) rfl rfl (by decide)) (z_tne hf_xmo hf_mi (m := 2) (n := 388) rfl rfl (by decide)) (z_Drv_ne hdo_da hf_xmo (m := 2) rfl (by decide))).trans hf_xmo
      have hf_xla : f30 xla = .inl (cy 1, 5, .inl G23) := (hfm xla hm_xla (z_tne hf_xla hf_mo (m := 140) (n := 2) rfl rfl (by decide)) (Ne.symm ne_la_xla) (z_tne hf_xla hf_sa (m := 140) (n := 132) rfl rfl (by decide)) (z_tne hf_xla hf_mi (m := 140) (n := 388) rfl rfl (by decide)) (z_Drv_ne hdo_da hf_xla (m := 140) rfl (by decide))).trans hf_xla
      have hf_xsa : f30 xsa = .inl (cy 1, 4, .inl G24) := (hfm xsa hm_xsa (z_tne hf_xsa hf_mo (m := 132) (n := 2) rfl rfl (by decide)) (z_tne hf_xsa hf_la (m := 132) (n := 140) rfl rfl (by decide)) (Ne.symm ne_sa_xsa) (z_tne hf_xsa hf_mi (m := 132) (n := 388) rfl rfl (by decide)) (z_Drv_ne hdo_da hf_xsa (m := 132) rfl (by decide))).trans hf_xsa
      have hf_xmi : f30 xmi = .inl (cy 1, 36, .inl G25) := (hfm xmi hm_xmi (z_tne hf_xmi hf_mo (m := 388) (n := 2) rfl rfl (by decide)) (z_tne hf_xmi hf_la (m := 388) (n := 140) rfl rfl (by decide)) (z_tne hf_xmi hf_sa (m := 388) (n := 132) rfl rfl (by decide)) (Ne.symm ne_mi_xmi) (z_Drv_ne hdo_da hf_xmi (m := 388) rfl (by decide))).trans hf_xmi
      have hf_xda : f30 xda = .inl (cy 4, 13, .inr (.inr (.inr (.inr xgd)))) := (hfm xda hm_xda (z_tne hf_xda hf_mo (m := 206) (n := 2) rfl rfl (by decide)) (z_tne hf_xda hf_la (m := 206) (n := 140) rfl rfl (by decide)) (z_tne hf_xda hf_sa (m := 206) (n := 132) rfl rfl (by decide)) (z_tne hf_xda hf_mi (m := 206) (n := 388) rfl rfl (by decide)) (z_Drv_ne hdo_da hf_xda (m := 206) rfl (by decide))).trans hf_xda
      have hf_mo : f30 mo = .inr (2, [.int XV0_16, .int XV1_17, .int XV2_18, .int XV3_19, .int XV4_20, .int XV5_21, .int XV6_22, .ref la, .ref sa, .ref mi, .ref da]) := ha_0
      have hf_la : f30 la = .inl (cy 1, 5, .inl G23) := ha_1
      have hf_sa : f30 sa = .inl (cy 1, 4, .inl G24) := ha_2
      have hf_mi : f30 mi = .inl (cy 1, 36, .inl G25) := ha_3
      have hD9 : z_D8 L f30 xdv := z_D8_fr hD9 hsb (fun i b hi e hb ht => hfm b hb (z_t0 ht hf0_mo (m := 2) rfl (by decide)) (z_t0 ht hf0_la (m := 140) rfl (by decide)) (z_t0 ht hf0_sa (m := 132) rfl (by decide)) (z_t0 ht hf0_mi (m := 388) rfl (by decide)) (fun j hj => by rw [e]; exact (hdx j i hj hi).symm))
      refine lv_aload_n hx hb dX9_moor_71 rfl (lv_at hl 1 rfl) ?_
      refine z_get (C := RX9) (T := TX9) (N := 11) (ci := 9) (v := .ref mo) hx hb hT zin_X9 hown hK hw hm_xo hf_xo rfl 2 (by decide) (hT _ kw_479) rfl dX9_moor_72 ?_
      refine z_get (C := RX2) (T := TX2) (N := 11) (ci := 2) (v := .int XV0_16) hx hb hT zin_X2 hown hK hw hm_mo hf_mo rfl 0 (by decide) (hT _ kw_205) rfl dX9_moor_75 ?_
      exact z_iret hx hb hr hlk (by decide) (by decide) hw (⟨hsub, hfr, FA9, FP10, OT11, KI12, RA13, RN14, RV15, 0, XV0_16, XV1_17, XV2_18, XV3_19, XV4_20, XV5_21, XV6_22, XV0_16, XV1_17, XV2_18, XV3_19, XV4_20, XV5_21, XV6_22, G23, G24, G25, G23, G24, G25, hf_rd, hf_tp, hf_xmo, hf_xla, hf_xsa, hf_xmi, hf_mo, hf_la, hf_sa, hf_mi, hd_da, by omega, by first | omega | decide, hD9, by omega, by omega, by omega, by omega, (fun j => by have h := hi3 j; unfold z_lw at h; omega), hi4, hi5⟩) dX9_moor_78
    · skip
      refine lv_bipush (v := (-4)) hx hb dX9_moor_49 (by decide) ?_
      exact z_iret hx hb hr hlk (by decide) (by decide) hw (⟨hsub, hfr, FA9, FP10, OT11, KI12, RA13, RN14, RV15, tl, XV0_16, XV1_17, XV2_18, XV3_19, XV4_20, XV5_21, XV6_22, v0, v1, v2, v3, v4, v5, v6, G23, G24, G25, gl, gs, gm, hf_rd, hf_tp, hf_xmo, hf_xla, hf_xsa, hf_xmi, hf_mo, hf_la, hf_sa, hf_mi, hd_da, by omega, by first | omega | decide, hD9, by omega, by omega, by omega, by omega, hgl, hgs, hgm⟩) dX9_moor_51
  · skip
    refine lv_aload_n hx hb dX9_moor_16 rfl (lv_at hl 1 rfl) ?_
    refine z_get (C := RX9) (T := TX9) (N := 11) (ci := 9) (v := .ref rd) hx hb hT zin_X9 hown hK hw hm_xo hf_xo rfl 1 (by decide) (hT _ kw_478) rfl dX9_moor_17 ?_
    refine z_calliV (cells := 0) (slots := 0) (b := rd) (As := []) (rest := []) (ci := 5) (q0 := (RX5, TX5, 9)) ⟨hx, hb, hml, hown, hT⟩ (c_X5_hasMore l hm_rd hf_rd) (cwV 0 hT (z_goodV (fun _ h => h) kw_553 kw_554 kw_555 kw_89 kw_556) rfl rfl rfl (by decide +kernel) ⟨by decide, by decide⟩) z_mv hKK hK hw hA hm_rd hf_rd rfl rfl rfl hl.1 rfl (Nat.le_of_ble_eq_true rfl) dX9_moor_20 ⟨by decide, by decide⟩ (fun r31 u H locs hp hw => ?_)
    obtain ⟨rfl, hp⟩ := hp
    have hw : z_H D vwCl (z_A L sz) s.heap L f8 H locs := hw
    rcases hp with ⟨rfl, h32⟩ | ⟨rfl, h32⟩
    · skip
      refine z_if_eq (tgt := 39) hx hb (show (1 : Int32).toInt = 1 by decide) dX9_moor_23 (by decide) (fun h => absurd h (by decide)) (fun _ => ?_)
      refine lv_aload_n hx hb dX9_moor_26 rfl (lv_at hl 1 rfl) ?_
      refine z_get (C := RX9) (T := TX9) (N := 11) (ci := 9) (v := .ref rd) hx hb hT zin_X9 hown hK hw hm_xo hf_xo rfl 1 (by decide) (hT _ kw_478) rfl dX9_moor_27 ?_
      obtain ⟨dq, e_dq⟩ : ∃ z, z = xdv XV5_21.toNatClampNeg := ⟨_, rfl⟩
      have hi_dq : XV5_21.toNatClampNeg < 13 := z_clI rfl (by omega)
      obtain ⟨hm_dq, ⟨dz0, dz1, dz2, dz3, dz4, dz5, dz6, dz7, hf_dq⟩, -⟩ := hi6 _ hi_dq
      rw [← e_dq] at hm_dq hf_dq
      have hf0_rd := hf_rd
      have hf0_xmo := hf_xmo
      have hf0_xla := hf_xla
      have hf0_xsa := hf_xsa
      have hf0_xmi := hf_xmi
      have hfa_ : FA9.toInt = 0 := by omega
      refine z_callvV (cells := 0) (slots := 0) (b := rd) (As := []) (rest := []) (ci := 5) (q0 := (RX5, TX5, 9)) ⟨hx, hb, hml, hown, hT⟩ (c_X5_readLine l hm_rd hm_tp hm_tb hm_xmo hm_xla hm_xsa hm_xmi hm_xda hm_dq hf_rd hf_tp hf_tb hf_xmo hf_xla hf_xsa hf_xmi hf_xda hf_dq (by first | omega | decide | assumption) (by first | omega | decide | assumption) (by first | omega | decide | assumption) (by first | omega | decide | assumption) (by first | omega | decide | assumption) (by first | omega | decide | assumption) hi3 hi4 hi5 (by first | omega | decide | assumption) (by rw [e_dq]; exact hg_xda _ hi_dq)) (cwV 0 hT (z_goodV (fun _ h => h) kw_557 kw_558 kw_559 kw_89 kw_560) rfl rfl rfl (by decide +kernel) ⟨by decide, by decide⟩) z_mv hKK hK hw hA hm_rd hf_rd rfl rfl rfl hl.1 rfl (Nat.le_of_ble_eq_true rfl) dX9_moor_30 ⟨by decide, by decide⟩ (fun u H locs hp hw => ?_)
      obtain ⟨L33, f34⟩ := u
      obtain ⟨hsb, hfm, f2_35, p2_36, k2_37, a2_38, n2_39, z2_40, t2_41, w0_42, w1_43, w2_44, w3_45, w4_46, w5_47, w6_48, e1_49, e2_50, e3_51, e4_52, e5_53, e6_54, e7_55, e8_56, g1_57, g2_58, g3_59, ha_0, ha_1, ha_2, ha_3, ha_4, ha_5, hp⟩ := hp
      have hsb : L = L33 := hsb
      subst hsb
      have hsb : ∀ b ∈ L, b ∈ L := fun _ h => h
      have hw : z_H D vwCl (z_A L sz) s.heap L f34 H locs := hw
      have hfr : ∀ b ∈ L, b ≠ rd → b ≠ tp → b ≠ xmo → b ≠ xla → b ≠ xsa → b ≠ xmi → b ≠ mo → b ≠ la → b ≠ sa → b ≠ mi → (∀ i : Nat, i < 13 → b ≠ dv i) → (∀ i : Nat, i < 13 → b ≠ xdv i) → f34 b = f b := fun b hb h0 h1 h2 h3 h4 h5 h6 h7 h8 h9 hp0 hp1 => (hfm b hb h0 h2 h3 h4 h5 (by rw [e_dq]; exact hp1 _ hi_dq)).trans (hfr b hb h0 h1 h2 h3 h4 h5 h6 h7 h8 h9 hp0 hp1)
      have hd_da : z_Drv L f34 dv 13 := z_Drv_fr3 hd_da hsb (fun i hi => by rw [e_dq]; exact hdx i _ hi hi_dq) (fun b hb ht hq => hfm b hb (z_t0 ht hf_rd (m := 5) rfl (by decide)) (z_t0 ht hf_xmo (m := 2) rfl (by decide)) (z_t0 ht hf_xla (m := 140) rfl (by decide)) (z_t0 ht hf_xsa (m := 132) rfl (by decide)) (z_t0 ht hf_xmi (m := 388) rfl (by decide)) hq)
      have hf_xo : f34 xo = .inr (9, [.ref tp, .ref rd, .ref mo, .ref xmo, .ref im, .ref kp, .ref sl, .ref wk, .ref pl, .ref oo, .ref mx]) := (hfm xo hm_xo (z_tne hf_xo hf_rd (m := 9) (n := 5) rfl rfl (by decide)) (z_tne hf_xo hf_xmo (m := 9) (n := 2) rfl rfl (by decide)) (z_tne hf_xo hf_xla (m := 9) (n := 140) rfl rfl (by decide)) (z_tne hf_xo hf_xsa (m := 9) (n := 132) rfl rfl (by decide)) (z_tne hf_xo hf_xmi (m := 9) (n := 388) rfl rfl (by decide)) (z_tne hf_xo hf_dq (m := 9) (n := 0) rfl rfl (by decide))).trans hf_xo
      have hf_tp : f34 tp = .inr (7, [.ref tb, .int tl]) := (hfm tp hm_tp (z_tne hf_tp hf_rd (m := 7) (n := 5) rfl rfl (by decide)) (z_tne hf_tp hf_xmo (m := 7) (n := 2) rfl rfl (by decide)) (z_tne hf_tp hf_xla (m := 7) (n := 140) rfl rfl (by decide)) (z_tne hf_tp hf_xsa (m := 7) (n := 132) rfl rfl (by decide)) (z_tne hf_tp hf_xmi (m := 7) (n := 388) rfl rfl (by decide)) (z_tne hf_tp hf_dq (m := 7) (n := 0) rfl rfl (by decide))).trans hf_tp
      have hf_tb : f34 tb = .inl (cy 0, 1600, .inl gt) := (hfm tb hm_tb (z_tne hf_tb hf_rd (m := 12900) (n := 5) rfl rfl (by decide)) (z_tne hf_tb hf_xmo (m := 12900) (n := 2) rfl rfl (by decide)) (z_tne hf_tb hf_xla (m := 12900) (n := 140) rfl rfl (by decide)) (z_tne hf_tb hf_xsa (m := 12900) (n := 132) rfl rfl (by decide)) (z_tne hf_tb hf_xmi (m := 12900) (n := 388) rfl rfl (by decide)) (z_tne hf_tb hf_dq (m := 12900) (n := 0) rfl rfl (by decide))).trans hf_tb
      have hf_mo : f34 mo = .inr (2, [.int v0, .int v1, .int v2, .int v3, .int v4, .int v5, .int v6, .ref la, .ref sa, .ref mi, .ref da]) := (hfm mo hm_mo (z_tne hf_mo hf_rd (m := 2) (n := 5) rfl rfl (by decide)) ne_mo_xmo (z_tne hf_mo hf_xla (m := 2) (n := 140) rfl rfl (by decide)) (z_tne hf_mo hf_xsa (m := 2) (n := 132) rfl rfl (by decide)) (z_tne hf_mo hf_xmi (m := 2) (n := 388) rfl rfl (by decide)) (z_tne hf_mo hf_dq (m := 2) (n := 0) rfl rfl (by decide))).trans hf_mo
      have hf_la : f34 la = .inl (cy 1, 5, .inl gl) := (hfm la hm_la (z_tne hf_la hf_rd (m := 140) (n := 5) rfl rfl (by decide)) (z_tne hf_la hf_xmo (m := 140) (n := 2) rfl rfl (by decide)) ne_la_xla (z_tne hf_la hf_xsa (m := 140) (n := 132) rfl rfl (by decide)) (z_tne hf_la hf_xmi (m := 140) (n := 388) rfl rfl (by decide)) (z_tne hf_la hf_dq (m := 140) (n := 0) rfl rfl (by decide))).trans hf_la
      have hf_sa : f34 sa = .inl (cy 1, 4, .inl gs) := (hfm sa hm_sa (z_tne hf_sa hf_rd (m := 132) (n := 5) rfl rfl (by decide)) (z_tne hf_sa hf_xmo (m := 132) (n := 2) rfl rfl (by decide)) (z_tne hf_sa hf_xla (m := 132) (n := 140) rfl rfl (by decide)) ne_sa_xsa (z_tne hf_sa hf_xmi (m := 132) (n := 388) rfl rfl (by decide)) (z_tne hf_sa hf_dq (m := 132) (n := 0) rfl rfl (by decide))).trans hf_sa
      have hf_mi : f34 mi = .inl (cy 1, 36, .inl gm) := (hfm mi hm_mi (z_tne hf_mi hf_rd (m := 388) (n := 5) rfl rfl (by decide)) (z_tne hf_mi hf_xmo (m := 388) (n := 2) rfl rfl (by decide)) (z_tne hf_mi hf_xla (m := 388) (n := 140) rfl rfl (by decide)) (z_tne hf_mi hf_xsa (m := 388) (n := 132) rfl rfl (by decide)) ne_mi_xmi (z_tne hf_mi hf_dq (m := 388) (n := 0) rfl rfl (by decide))).trans hf_mi
      have hf_da : f34 da = .inl (cy 4, 13, .inr (.inr (.inr (.inr gd)))) := (hfm da hm_da (z_tne hf_da hf_rd (m := 206) (n := 5) rfl rfl (by decide)) (z_tne hf_da hf_xmo (m := 206) (n := 2) rfl rfl (by decide)) (z_tne hf_da hf_xla (m := 206) (n := 140) rfl rfl (by decide)) (z_tne hf_da hf_xsa (m := 206) (n := 132) rfl rfl (by decide)) (z_tne hf_da hf_xmi (m := 206) (n := 388) rfl rfl (by decide)) (z_tne hf_da hf_dq (m := 206) (n := 0) rfl rfl (by decide))).trans hf_da
      have hf_xda : f34 xda = .inl (cy 4, 13, .inr (.inr (.inr (.inr xgd)))) := (hfm xda hm_xda (z_tne hf_xda hf_rd (m := 206) (n := 5) rfl rfl (by decide)) (z_tne hf_xda hf_xmo (m := 206) (n := 2) rfl rfl (by decide)) (z_tne hf_xda hf_xla (m := 206) (n := 140) rfl rfl (by decide)) (z_tne hf_xda hf_xsa (m := 206) (n := 132) rfl rfl (by decide)) (z_tne hf_xda hf_xmi (m := 206) (n := 388) rfl rfl (by decide)) (z_tne hf_xda hf_dq (m := 206) (n := 0) rfl rfl (by decide))).trans hf_xda
      have hf_rd : f34 rd = .inr (5, [.int f2_35, .int p2_36, .ref tp, .ref xmo, .int t2_41, .int k2_37, .int a2_38, .int n2_39, .int z2_40]) := ha_0
      have hf_xmo : f34 xmo = .inr (2, [.int w0_42, .int w1_43, .int w2_44, .int w3_45, .int w4_46, .int w5_47, .int w6_48, .ref xla, .ref xsa, .ref xmi, .ref xda]) := ha_1
      have hf_xla : f34 xla = .inl (cy 1, 5, .inl g1_57) := ha_2
      have hf_xsa : f34 xsa = .inl (cy 1, 4, .inl g2_58) := ha_3
      have hf_xmi : f34 xmi = .inl (cy 1, 36, .inl g3_59) := ha_4
      have hf_dq : f34 dq = .inr (0, [.int e1_49, .int e2_50, .int e3_51, .int e4_52, .int e5_53, .int e6_54, .int e7_55, .int e8_56]) := ha_5
      have hrl := hp
      have hDDn : z_DD L f34 xdv f2_35 w5_47 := z_DD_step hi6 hfa_ hxj (by omega) e_dq hf_dq hrl.2.2.2.2.2.2.2.1 (fun b hb ht hq => hfm b hb (z_t0 ht hf0_rd (m := 5) rfl (by decide)) (z_t0 ht hf0_xmo (m := 2) rfl (by decide)) (z_t0 ht hf0_xla (m := 140) rfl (by decide)) (z_t0 ht hf0_xsa (m := 132) rfl (by decide)) (z_t0 ht hf0_xmi (m := 388) rfl (by decide)) hq)
      obtain ⟨k60, e_k60⟩ : ∃ z : Int32, z = K7 + 1 := ⟨_, rfl⟩
      refine lv_iinc (v := k60) (lv' := [(1, .int k60), (0, .ref xo)]) hx hb dX9_moor_33 hl (k := 0) rfl (by rw [e_k60]; rfl) (by decide) rfl (fun ls hl => ?_)
      have i_k60 : k60.toInt = (K7.toInt + 1) := z_add e_k60 rfl (by decide) (by omega)
      refine lv_goto (tgt := 9) hx hb dX9_moor_36 (by decide) ?_
      exact ih_9 _ (by omega) _ _ _ ⟨k60, g1_57, g2_58, g3_59, f2_35, p2_36, t2_41, k2_37, a2_38, n2_39, z2_40, w0_42, w1_43, w2_44, w3_45, w4_46, w5_47, w6_48, f34, rfl, (by first | decide | omega), (by first | decide | omega), (by omega), (by omega), (by omega), hrl.2.2.2.2.2.2.2.2.1, hrl.2.2.2.2.2.2.2.2.2.1, hrl.2.2.2.2.2.2.2.2.2.2, hDDn, hw, hf_xo, hf_rd, hf_tp, hf_tb, hf_mo, hf_la, hf_sa, hf_mi, hf_da, hf_xmo, hf_xla, hf_xsa, hf_xmi, hf_xda, hfr, hd_da, (lv_sub hl [0, 1] rfl)⟩
    · skip
      refine z_if_eq (tgt := 39) hx hb (show (0 : Int32).toInt = 0 by decide) dX9_moor_23 (by decide) (fun _ => ?_) (fun h => absurd h (by decide))
      have hD9 := z_DD_8 hi6
      refine lv_aload_n hx hb dX9_moor_39 rfl (lv_at hl 1 rfl) ?_
      refine z_get (C := RX9) (T := TX9) (N := 11) (ci := 9) (v := .ref rd) hx hb hT zin_X9 hown hK hw hm_xo hf_xo rfl 1 (by decide) (hT _ kw_478) rfl dX9_moor_40 ?_
      refine z_get (C := RX5) (T := TX5) (N := 9) (ci := 5) (v := .int FA9) hx hb hT zin_X5 hown hK hw hm_rd hf_rd rfl 0 (by decide) (hT _ kw_278) rfl dX9_moor_43 ?_
      refine z_if_eq (tgt := 52) hx hb rfl dX9_moor_46 (by decide) (fun c61 => ?_) (fun c61 => ?_)
      · skip
        have hfa_ : FA9.toInt = 0 := by omega
        have hd_xda := z_DD_Drv hi6 hfa_ (by omega)
        have hf0_tp := hf_tp
        refine lv_aload_n hx hb dX9_moor_52 rfl (lv_at hl 1 rfl) ?_
        refine z_get (C := RX9) (T := TX9) (N := 11) (ci := 9) (v := .ref tp) hx hb hT zin_X9 hown hK hw hm_xo hf_xo rfl 0 (by decide) (hT _ kw_477) rfl dX9_moor_53 ?_
        refine lv_iconst (v := 0) hx hb dX9_moor_56 (by decide) ?_
        refine z_put (C := RX7) (T := TX7) (N := 2) (ci := 7) (v := .int 0) (fs' := [.ref tb, .int 0]) hx hb hT zin_X7 tyX7_ok nmX7 hown hK hw hm_tp hf_tp rfl 1 (by decide) (hT _ kw_119) rfl rfl rfl (Nat.le_of_ble_eq_true rfl) rfl dX9_moor_57 (fun H locs hw => ?_)
        obtain ⟨f62, e_f62⟩ : ∃ z, z = va_up f8 tp (.inr (7, [.ref tb, .int 0])) := ⟨_, rfl⟩
        rw [← e_f62] at hw
        have hf_xo : f62 xo = .inr (9, [.ref tp, .ref rd, .ref mo, .ref xmo, .ref im, .ref kp, .ref sl, .ref wk, .ref pl, .ref oo, .ref mx]) := (congrFun e_f62 xo).trans (z_up_ne (z_tne hf_xo hf_tp (m := 9) (n := 7) rfl rfl (by decide)) hf_xo)
        have hf_rd : f62 rd = .inr (5, [.int FA9, .int FP10, .ref tp, .ref xmo, .int OT11, .int KI12, .int RA13, .int RN14, .int RV15]) := (congrFun e_f62 rd).trans (z_up_ne (z_tne hf_rd hf_tp (m := 5) (n := 7) rfl rfl (by decide)) hf_rd)
        have hf_tb : f62 tb = .inl (cy 0, 1600, .inl gt) := (congrFun e_f62 tb).trans (z_up_ne (z_tne hf_tb hf_tp (m := 12900) (n := 7) rfl rfl (by decide)) hf_tb)
        have hf_mo : f62 mo = .inr (2, [.int v0, .int v1, .int v2, .int v3, .int v4, .int v5, .int v6, .ref la, .ref sa, .ref mi, .ref da]) := (congrFun e_f62 mo).trans (z_up_ne (z_tne hf_mo hf_tp (m := 2) (n := 7) rfl rfl (by decide)) hf_mo)
        have hf_la : f62 la = .inl (cy 1, 5, .inl gl) := (congrFun e_f62 la).trans (z_up_ne (z_tne hf_la hf_tp (m := 140) (n := 7) rfl rfl (by decide)) hf_la)
        have hf_sa : f62 sa = .inl (cy 1, 4, .inl gs) := (congrFun e_f62 sa).trans (z_up_ne (z_tne hf_sa hf_tp (m := 132) (n := 7) rfl rfl (by decide)) hf_sa)
        have hf_mi : f62 mi = .inl (cy 1, 36, .inl gm) := (congrFun e_f62 mi).trans (z_up_ne (z_tne hf_mi hf_tp (m := 388) (n := 7) rfl rfl (by decide)) hf_mi)
        have hf_da : f62 da = .inl (cy 4, 13, .inr (.inr (.inr (.inr gd)))) := (congrFun e_f62 da).trans (z_up_ne (z_tne hf_da hf_tp (m := 206) (n := 7) rfl rfl (by decide)) hf_da)
        have hf_xmo : f62 xmo = .inr (2, [.int XV0_16, .int XV1_17, .int XV2_18, .int XV3_19, .int XV4_20, .int XV5_21, .int XV6_22, .ref xla, .ref xsa, .ref xmi, .ref xda]) := (congrFun e_f62 xmo).trans (z_up_ne (z_tne hf_xmo hf_tp (m := 2) (n := 7) rfl rfl (by decide)) hf_xmo)
        have hf_xla : f62 xla = .inl (cy 1, 5, .inl G23) := (congrFun e_f62 xla).trans (z_up_ne (z_tne hf_xla hf_tp (m := 140) (n := 7) rfl rfl (by decide)) hf_xla)
        have hf_xsa : f62 xsa = .inl (cy 1, 4, .inl G24) := (congrFun e_f62 xsa).trans (z_up_ne (z_tne hf_xsa hf_tp (m := 132) (n := 7) rfl rfl (by decide)) hf_xsa)
        have hf_xmi : f62 xmi = .inl (cy 1, 36, .inl G25) := (congrFun e_f62 xmi).trans (z_up_ne (z_tne hf_xmi hf_tp (m := 388) (n := 7) rfl rfl (by decide)) hf_xmi)
        have hf_xda : f62 xda = .inl (cy 4, 13, .inr (.inr (.inr (.inr xgd)))) := (congrFun e_f62 xda).trans (z_up_ne (z_tne hf_xda hf_tp (m := 206) (n := 7) rfl rfl (by decide)) hf_xda)
        have hd_da : z_Drv L f62 dv 13 := z_Drv_up hd_da e_f62 hf_tp (m := 7) rfl (by decide)
        have hf_tp : f62 tp = .inr (7, [.ref tb, .int 0]) := (congrFun e_f62 tp).trans z_up_self
        have hfr : ∀ b ∈ L, b ≠ rd → b ≠ tp → b ≠ xmo → b ≠ xla → b ≠ xsa → b ≠ xmi → b ≠ mo → b ≠ la → b ≠ sa → b ≠ mi → (∀ i : Nat, i < 13 → b ≠ dv i) → (∀ i : Nat, i < 13 → b ≠ xdv i) → f62 b = f b := fun b hb h0 h1 h2 h3 h4 h5 h6 h7 h8 h9 hp0 hp1 => (congrFun e_f62 b).trans (z_up_ne h1 (hfr b hb h0 h1 h2 h3 h4 h5 h6 h7 h8 h9 hp0 hp1))
        have hd_xda := z_Drv_up hd_xda e_f62 hf0_tp (m := 7) rfl (by decide)
        have hD9 : z_D8 L f62 xdv := z_D8_fr hD9 (fun _ h => h) (fun i b hi e hb ht => (congrFun e_f62 b).trans (va_up_ne _ _ (z_t0 ht hf0_tp (m := 7) rfl (by decide))))
        have hf0_mo := hf_mo
        have hf0_la := hf_la
        have hf0_sa := hf_sa
        have hf0_mi := hf_mi
        refine lv_aload_n hx hb dX9_moor_60 rfl (lv_at hl 1 rfl) ?_
        refine z_get (C := RX9) (T := TX9) (N := 11) (ci := 9) (v := .ref mo) hx hb hT zin_X9 hown hK hw hm_xo hf_xo rfl 2 (by decide) (hT _ kw_479) rfl dX9_moor_61 ?_
        refine lv_aload_n hx hb dX9_moor_64 rfl (lv_at hl 1 rfl) ?_
        refine z_get (C := RX9) (T := TX9) (N := 11) (ci := 9) (v := .ref xmo) hx hb hT zin_X9 hown hK hw hm_xo hf_xo rfl 3 (by decide) (hT _ kw_480) rfl dX9_moor_65 ?_
        refine z_callvV (cells := 0) (slots := 0) (b := mo) (As := [.ref xmo]) (rest := []) (ci := 2) (q0 := (RX2, TX2, 11)) ⟨hx, hb, hml, hown, hT⟩ (c_X2_copyD l hm_mo hm_la hm_sa hm_mi hm_da hm_xmo hm_xla hm_xsa hm_xmi hm_xda hf_mo hf_la hf_sa hf_mi hf_da hf_xmo hf_xla hf_xsa hf_xmi hf_xda ne_mo_xmo ne_la_xla ne_sa_xsa ne_mi_xmi ne_da_xda hg_da hd_da hg_xda hd_xda (fun i hi => hdx i i hi hi) (by first | omega | decide | assumption)) (cwV 1 hT (z_goodV (fun _ h => h) kw_690 kw_691 kw_692 kw_87 kw_693) rfl rfl rfl (by decide +kernel) ⟨by decide, by decide⟩) z_mv hKK hK hw hA hm_mo hf_mo rfl rfl rfl hl.1 rfl (Nat.le_of_ble_eq_true rfl) dX9_moor_68 ⟨by decide, by decide⟩ (fun u H locs hp hw => ?_)
        obtain ⟨L63, f64⟩ := u
        obtain ⟨hsb, hfm, ha_0, ha_1, ha_2, ha_3, hv_da, hp⟩ := hp
        have hsb : L = L63 := hsb
        subst hsb
        have hsb : ∀ b ∈ L, b ∈ L := fun _ h => h
        have hw : z_H D vwCl (z_A L sz) s.heap L f64 H locs := hw
        have hdo_da := hd_da
        have hfr : ∀ b ∈ L, b ≠ rd → b ≠ tp → b ≠ xmo → b ≠ xla → b ≠ xsa → b ≠ xmi → b ≠ mo → b ≠ la → b ≠ sa → b ≠ mi → (∀ i : Nat, i < 13 → b ≠ dv i) → (∀ i : Nat, i < 13 → b ≠ xdv i) → f64 b = f b := fun b hb h0 h1 h2 h3 h4 h5 h6 h7 h8 h9 hp0 hp1 => (hfm b hb h6 h7 h8 h9 hp0).trans (hfr b hb h0 h1 h2 h3 h4 h5 h6 h7 h8 h9 hp0 hp1)
        have hd_da : z_Drv L f64 dv 13 := hv_da
        have hf_xo : f64 xo = .inr (9, [.ref tp, .ref rd, .ref mo, .ref xmo, .ref im, .ref kp, .ref sl, .ref wk, .ref pl, .ref oo, .ref mx]) := (hfm xo hm_xo (z_tne hf_xo hf_mo (m := 9) (n := 2) rfl rfl (by decide)) (z_tne hf_xo hf_la (m := 9) (n := 140) rfl rfl (by decide)) (z_tne hf_xo hf_sa (m := 9) (n := 132) rfl rfl (by decide)) (z_tne hf_xo hf_mi (m := 9) (n := 388) rfl rfl (by decide)) (z_Drv_ne hdo_da hf_xo (m := 9) rfl (by decide))).trans hf_xo
        have hf_rd : f64 rd = .inr (5, [.int FA9, .int FP10, .ref tp, .ref xmo, .int OT11, .int KI12, .int RA13, .int RN14, .int RV15]) := (hfm rd hm_rd (z_tne hf_rd hf_mo (m := 5) (n := 2) rfl rfl (by decide)) (z_tne hf_rd hf_la (m := 5) (n := 140) rfl rfl (by decide)) (z_tne hf_rd hf_sa (m := 5) (n := 132) rfl rfl (by decide)) (z_tne hf_rd hf_mi (m := 5) (n := 388) rfl rfl (by decide)) (z_Drv_ne hdo_da hf_rd (m := 5) rfl (by decide))).trans hf_rd
        have hf_tp : f64 tp = .inr (7, [.ref tb, .int 0]) := (hfm tp hm_tp (z_tne hf_tp hf_mo (m := 7) (n := 2) rfl rfl (by decide)) (z_tne hf_tp hf_la (m := 7) (n := 140) rfl rfl (by decide)) (z_tne hf_tp hf_sa (m := 7) (n := 132) rfl rfl (by decide)) (z_tne hf_tp hf_mi (m := 7) (n := 388) rfl rfl (by decide)) (z_Drv_ne hdo_da hf_tp (m := 7) rfl (by decide))).trans hf_tp
        have hf_tb : f64 tb = .inl (cy 0, 1600, .inl gt) := (hfm tb hm_tb (z_tne hf_tb hf_mo (m := 12900) (n := 2) rfl rfl (by decide)) (z_tne hf_tb hf_la (m := 12900) (n := 140) rfl rfl (by decide)) (z_tne hf_tb hf_sa (m := 12900) (n := 132) rfl rfl (by decide)) (z_tne hf_tb hf_mi (m := 12900) (n := 388) rfl rfl (by decide)) (z_Drv_ne hdo_da hf_tb (m := 12900) rfl (by decide))).trans hf_tb
        have hf_da : f64 da = .inl (cy 4, 13, .inr (.inr (.inr (.inr gd)))) := (hfm da hm_da (z_tne hf_da hf_mo (m := 206) (n := 2) rfl rfl (by decide)) (z_tne hf_da hf_la (m := 206) (n := 140) rfl rfl (by decide)) (z_tne hf_da hf_sa (m := 206) (n := 132) rfl rfl (by decide)) (z_tne hf_da hf_mi (m := 206) (n := 388) rfl rfl (by decide)) (z_Drv_ne hdo_da hf_da (m := 206) rfl (by decide))).trans hf_da
        have hf_xmo : f64 xmo = .inr (2, [.int XV0_16, .int XV1_17, .int XV2_18, .int XV3_19, .int XV4_20, .int XV5_21, .int XV6_22, .ref xla, .ref xsa, .ref xmi, .ref xda]) := (hfm xmo hm_xmo (Ne.symm ne_mo_xmo) (z_tne hf_xmo hf_la (m := 2) (n := 140) rfl rfl (by decide)) (z_tne hf_xmo hf_sa (m := 2) (n := 132) rfl rfl (by decide)) (z_tne hf_xmo hf_mi (m := 2) (n := 388) rfl rfl (by decide)) (z_Drv_ne hdo_da hf_xmo (m := 2) rfl (by decide))).trans hf_xmo
        have hf_xla : f64 xla = .inl (cy 1, 5, .inl G23) := (hfm xla hm_xla (z_tne hf_xla hf_mo (m := 140) (n := 2) rfl rfl (by decide)) (Ne.symm ne_la_xla) (z_tne hf_xla hf_sa (m := 140) (n := 132) rfl rfl (by decide)) (z_tne hf_xla hf_mi (m := 140) (n := 388) rfl rfl (by decide)) (z_Drv_ne hdo_da hf_xla (m := 140) rfl (by decide))).trans hf_xla
        have hf_xsa : f64 xsa = .inl (cy 1, 4, .inl G24) := (hfm xsa hm_xsa (z_tne hf_xsa hf_mo (m := 132) (n := 2) rfl rfl (by decide)) (z_tne hf_xsa hf_la (m := 132) (n := 140) rfl rfl (by decide)) (Ne.symm ne_sa_xsa) (z_tne hf_xsa hf_mi (m := 132) (n := 388) rfl rfl (by decide)) (z_Drv_ne hdo_da hf_xsa (m := 132) rfl (by decide))).trans hf_xsa
        have hf_xmi : f64 xmi = .inl (cy 1, 36, .inl G25) := (hfm xmi hm_xmi (z_tne hf_xmi hf_mo (m := 388) (n := 2) rfl rfl (by decide)) (z_tne hf_xmi hf_la (m := 388) (n := 140) rfl rfl (by decide)) (z_tne hf_xmi hf_sa (m := 388) (n := 132) rfl rfl (by decide)) (Ne.symm ne_mi_xmi) (z_Drv_ne hdo_da hf_xmi (m := 388) rfl (by decide))).trans hf_xmi
        have hf_xda : f64 xda = .inl (cy 4, 13, .inr (.inr (.inr (.inr xgd)))) := (hfm xda hm_xda (z_tne hf_xda hf_mo (m := 206) (n := 2) rfl rfl (by decide)) (z_tne hf_xda hf_la (m := 206) (n := 140) rfl rfl (by decide)) (z_tne hf_xda hf_sa (m := 206) (n := 132) rfl rfl (by decide)) (z_tne hf_xda hf_mi (m := 206) (n := 388) rfl rfl (by decide)) (z_Drv_ne hdo_da hf_xda (m := 206) rfl (by decide))).trans hf_xda
        have hf_mo : f64 mo = .inr (2, [.int XV0_16, .int XV1_17, .int XV2_18, .int XV3_19, .int XV4_20, .int XV5_21, .int XV6_22, .ref la, .ref sa, .ref mi, .ref da]) := ha_0
        have hf_la : f64 la = .inl (cy 1, 5, .inl G23) := ha_1
        have hf_sa : f64 sa = .inl (cy 1, 4, .inl G24) := ha_2
        have hf_mi : f64 mi = .inl (cy 1, 36, .inl G25) := ha_3
        have hD9 : z_D8 L f64 xdv := z_D8_fr hD9 hsb (fun i b hi e hb ht => hfm b hb (z_t0 ht hf0_mo (m := 2) rfl (by decide)) (z_t0 ht hf0_la (m := 140) rfl (by decide)) (z_t0 ht hf0_sa (m := 132) rfl (by decide)) (z_t0 ht hf0_mi (m := 388) rfl (by decide)) (fun j hj => by rw [e]; exact (hdx j i hj hi).symm))
        refine lv_aload_n hx hb dX9_moor_71 rfl (lv_at hl 1 rfl) ?_
        refine z_get (C := RX9) (T := TX9) (N := 11) (ci := 9) (v := .ref mo) hx hb hT zin_X9 hown hK hw hm_xo hf_xo rfl 2 (by decide) (hT _ kw_479) rfl dX9_moor_72 ?_
        refine z_get (C := RX2) (T := TX2) (N := 11) (ci := 2) (v := .int XV0_16) hx hb hT zin_X2 hown hK hw hm_mo hf_mo rfl 0 (by decide) (hT _ kw_205) rfl dX9_moor_75 ?_
        exact z_iret hx hb hr hlk (by decide) (by decide) hw (⟨hsub, hfr, FA9, FP10, OT11, KI12, RA13, RN14, RV15, 0, XV0_16, XV1_17, XV2_18, XV3_19, XV4_20, XV5_21, XV6_22, XV0_16, XV1_17, XV2_18, XV3_19, XV4_20, XV5_21, XV6_22, G23, G24, G25, G23, G24, G25, hf_rd, hf_tp, hf_xmo, hf_xla, hf_xsa, hf_xmi, hf_mo, hf_la, hf_sa, hf_mi, hd_da, by omega, by first | omega | decide, hD9, by omega, by omega, by omega, by omega, (fun j => by have h := hi3 j; unfold z_lw at h; omega), hi4, hi5⟩) dX9_moor_78
      · skip
        refine lv_bipush (v := (-4)) hx hb dX9_moor_49 (by decide) ?_
        exact z_iret hx hb hr hlk (by decide) (by decide) hw (⟨hsub, hfr, FA9, FP10, OT11, KI12, RA13, RN14, RV15, tl, XV0_16, XV1_17, XV2_18, XV3_19, XV4_20, XV5_21, XV6_22, v0, v1, v2, v3, v4, v5, v6, G23, G24, G25, gl, gs, gm, hf_rd, hf_tp, hf_xmo, hf_xla, hf_xsa, hf_xmi, hf_mo, hf_la, hf_sa, hf_mi, hd_da, by omega, by first | omega | decide, hD9, by omega, by omega, by omega, by omega, hgl, hgs, hgm⟩) dX9_moor_51
