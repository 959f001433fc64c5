set_option maxHeartbeats 2000000 in
set_option maxRecDepth 100000 in
theorem c_X5_hasMore (l : Launch) {D : va_G} {cy : Nat → ClassId} {L : List Nat} {f : Nat → va_E} {sz : Nat} {adK adV : Nat → Nat} {rd tp mo : Nat} {fa fp ot_ ki ra rn rv : Int32}   (hm_rd : rd ∈ L) (hf_rd : f rd = .inr (5, [.int fa, .int fp, .ref tp, .ref mo, .int ot_, .int ki, .int ra, .int rn, .int rv])) : Met l yX5_hasMore (z_ws yX5_hasMore cX5_hasMore 1 (some .boolean)) (z_R 1 0 0) (va_Pc [.ref rd] (z_Pre D vwCl (z_KK D cy adK adV) L f sz)) (z_Qi D vwCl (fun r u => u = (L, f) ∧ ((r = 1 ∧ fa.toInt = 0) ∨ (r = 0 ∧ True))) L sz) 0 0 (z_A L sz) := by
  refine z_met (cc := cX5_hasMore) (maxL := 1) (ret := (some .boolean)) (lv := [(0, .ref rd)]) (by decide) rfl (Nat.le_of_ble_eq_true rfl) rfl ?_
  intro p e s m below meth c ls hx hb hr hlk hml hown hnm hts hKK hA hw hl
  have hK := hKK.1.1
  have hown : s.vm.findClass RX5 = some m.cls := hown
  have hT : ∀ w ∈ lw_all, w.before ([.ref rd] : List Value).toArray s = true := fun w h => hts w (z_cons w h)
  refine lv_aload_n hx hb dX5_hasMore_0 rfl (lv_at hl 0 rfl) ?_
  refine z_get (C := RX5) (T := TX5) (N := 9) (ci := 5) (v := .int fa) hx hb hT zin_X5 hown hK hw hm_rd hf_rd rfl 0 (by decide) (hT _ kw_277) rfl dX5_hasMore_1 ?_
  refine z_if_ne (tgt := 18) hx hb rfl dX5_hasMore_4 (by decide) (fun c1 => ?_) (fun c1 => ?_)
  · skip
    refine lv_iconst (v := 0) hx hb dX5_hasMore_18 (by decide) ?_
    exact z_zret hx hb hr rfl hlk (by decide) (by decide) hw (⟨rfl, Or.inr ⟨rfl, trivial⟩⟩) dX5_hasMore_19
  · skip
    refine lv_aload_n hx hb dX5_hasMore_7 rfl (lv_at hl 0 rfl) ?_
    refine z_get (C := RX5) (T := TX5) (N := 9) (ci := 5) (v := .int ki) hx hb hT zin_X5 hown hK hw hm_rd hf_rd rfl 5 (by decide) (hT _ kw_284) rfl dX5_hasMore_8 ?_
    refine z_if_eq (tgt := 18) hx hb rfl dX5_hasMore_11 (by decide) (fun c2 => ?_) (fun c2 => ?_)
    · skip
      refine lv_iconst (v := 0) hx hb dX5_hasMore_18 (by decide) ?_
      exact z_zret hx hb hr rfl hlk (by decide) (by decide) hw (⟨rfl, Or.inr ⟨rfl, trivial⟩⟩) dX5_hasMore_19
    · skip
      refine lv_iconst (v := 1) hx hb dX5_hasMore_14 (by decide) ?_
      refine lv_goto (tgt := 19) hx hb dX5_hasMore_15 (by decide) ?_
      exact z_zret hx hb hr rfl hlk (by decide) (by decide) hw (⟨rfl, Or.inl ⟨rfl, by omega⟩⟩) dX5_hasMore_19

set_option maxHeartbeats 2000000 in
set_option maxRecDepth 100000 in
theorem c_X5_readLine (l : Launch) {D : va_G} {cy : Nat → ClassId} {L : List Nat} {f : Nat → va_E} {sz : Nat} {adK adV : Nat → Nat} {rd tp tb mo : Nat} {fa fp ot_ ki ra rn rv : Int32} {tl : Int32} {gt : Nat → Int32} {la sa mi da : Nat} {v0 v1 v2 v3 v4 v5 v6 : Int32} {dq : Nat} {o1 o2 o3 o4 o5 o6 o7 o8 : Int32} {gd : Nat → Option Nat} {gl gs gm : Nat → Int32} (hm_rd : rd ∈ L) (hm_tp : tp ∈ L) (hm_tb : tb ∈ L) (hm_mo : mo ∈ L) (hm_la : la ∈ L) (hm_sa : sa ∈ L) (hm_mi : mi ∈ L) (hm_da : da ∈ L) (hm_dq : dq ∈ L) (hf_rd : f rd = .inr (5, [.int fa, .int fp, .ref tp, .ref mo, .int ot_, .int ki, .int ra, .int rn, .int rv])) (hf_tp : f tp = .inr (7, [.ref tb, .int tl])) (hf_tb : f tb = .inl (cy 0, 1600, .inl gt)) (hf_mo : f mo = .inr (2, [.int v0, .int v1, .int v2, .int v3, .int v4, .int v5, .int v6, .ref la, .ref sa, .ref mi, .ref da])) (hf_la : f la = .inl (cy 1, 5, .inl gl)) (hf_sa : f sa = .inl (cy 1, 4, .inl gs)) (hf_mi : f mi = .inl (cy 1, 36, .inl gm)) (hf_da : f da = .inl (cy 4, 13, .inr (.inr (.inr (.inr gd))))) (hf_dq : f dq = .inr (0, [.int o1, .int o2, .int o3, .int o4, .int o5, .int o6, .int o7, .int o8])) (htl : 0 ≤ tl.toInt ∧ tl.toInt ≤ 1600) (hrr : (0 ≤ ra.toInt ∧ ra.toInt ≤ 1600) ∧ (0 ≤ rn.toInt ∧ rn.toInt ≤ 1600)) (hv1 : -1 ≤ v1.toInt ∧ v1.toInt ≤ 4) (hv2 : -1 ≤ v2.toInt ∧ v2.toInt ≤ 9) (hv3 : -1 ≤ v3.toInt ∧ v3.toInt ≤ 5) (hv5 : 0 ≤ v5.toInt ∧ v5.toInt ≤ 12) (hgl : ∀ j : Nat, z_lw fa (gl j)) (hgs : ∀ j : Nat, 0 ≤ (gs j).toInt ∧ (gs j).toInt ≤ 999) (hgm : ∀ j : Nat, 0 ≤ (gm j).toInt ∧ (gm j).toInt ≤ 9) (hds : fa.toInt ≠ 0 ∨ (0 ≤ v1.toInt ∧ 0 ≤ v2.toInt ∧ 0 ≤ v3.toInt)) (hgdq : gd v5.toNatClampNeg = some dq) : Met l yX5_readLine (z_ws yX5_readLine cX5_readLine 1 none) (z_R 9 0 0) (va_Pc [.ref rd] (z_Pre D vwCl (z_KK D cy adK adV) L f sz)) (z_Qv D vwCl (fun u => L = u.1 ∧ (∀ b ∈ L, b ≠ rd → b ≠ mo → b ≠ la → b ≠ sa → b ≠ mi → b ≠ dq → u.2 b = f b) ∧ (∃ (f2 p2 k2 a2 n2 z2 t2 w0 w1 w2 w3 w4 w5 w6 e1 e2 e3 e4 e5 e6 e7 e8 : Int32) (g1 g2 g3 : Nat → Int32), (u.2 rd = .inr (5, [.int f2, .int p2, .ref tp, .ref mo, .int t2, .int k2, .int a2, .int n2, .int z2])) ∧ (u.2 mo = .inr (2, [.int w0, .int w1, .int w2, .int w3, .int w4, .int w5, .int w6, .ref la, .ref sa, .ref mi, .ref da])) ∧ (u.2 la = .inl (cy 1, 5, .inl g1)) ∧ (u.2 sa = .inl (cy 1, 4, .inl g2)) ∧ (u.2 mi = .inl (cy 1, 36, .inl g3)) ∧ (u.2 dq = .inr (0, [.int e1, .int e2, .int e3, .int e4, .int e5, .int e6, .int e7, .int e8])) ∧ ((f2.toInt ≠ 0 ∨ fa.toInt = 0) ∧ (0 ≤ a2.toInt ∧ a2.toInt ≤ 1600) ∧ (0 ≤ n2.toInt ∧ n2.toInt ≤ 1600) ∧ (-1 ≤ w1.toInt ∧ w1.toInt ≤ 4) ∧ (-1 ≤ w2.toInt ∧ w2.toInt ≤ 9) ∧ (-1 ≤ w3.toInt ∧ w3.toInt ≤ 5) ∧ (f2.toInt ≠ 0 ∨ (0 ≤ w1.toInt ∧ 0 ≤ w2.toInt ∧ 0 ≤ w3.toInt)) ∧ (w5.toInt = v5.toInt ∨ (w5.toInt = v5.toInt + 1 ∧ w5.toInt ≤ 12 ∧ (f2.toInt ≠ 0 ∨ (0 ≤ e1.toInt ∧ e1.toInt ≤ 4 ∧ 0 ≤ e2.toInt ∧ e2.toInt ≤ 3 ∧ 0 ≤ e3.toInt ∧ e3.toInt ≤ 8 ∧ 0 ≤ e4.toInt ∧ e4.toInt ≤ 23 ∧ 0 ≤ e5.toInt ∧ e5.toInt ≤ 99 ∧ 0 ≤ e6.toInt ∧ e6.toInt ≤ 99 ∧ 0 ≤ e7.toInt ∧ e7.toInt ≤ 4 ∧ 0 ≤ e8.toInt ∧ e8.toInt ≤ 1)))) ∧ (∀ j : Nat, z_lw f2 (g1 j)) ∧ (∀ j : Nat, 0 ≤ (g2 j).toInt ∧ (g2 j).toInt ≤ 999) ∧ ∀ j : Nat, 0 ≤ (g3 j).toInt ∧ (g3 j).toInt ≤ 9))) L sz) 0 0 (z_A L sz) := by
  refine z_met (cc := cX5_readLine) (maxL := 1) (ret := none) (lv := [(0, .ref rd)]) (by decide) rfl (Nat.le_of_ble_eq_true rfl) rfl ?_
  intro p e s m below meth c ls hx hb hr hlk hml hown hnm hts hKK hA hw hl
  have hK := hKK.1.1
  have hown : s.vm.findClass RX5 = some m.cls := hown
  have hT : ∀ w ∈ lw_all, w.before ([.ref rd] : List Value).toArray s = true := fun w h => hts w (z_cons w h)
  have hsub : L = L := rfl
  have hfr : ∀ b ∈ L, b ≠ rd → b ≠ mo → b ≠ la → b ≠ sa → b ≠ mi → b ≠ dq → f b = f b := fun _ _ _ _ _ _ _ _ => rfl
  have h1_ : (1 : Int32).toInt = 1 := by decide
  refine lv_aload_n hx hb dX5_readLine_0 rfl (lv_at hl 0 rfl) ?_
  refine z_get (C := RX5) (T := TX5) (N := 9) (ci := 5) (v := .ref mo) hx hb hT zin_X5 hown hK hw hm_rd hf_rd rfl 3 (by decide) (hT _ kw_282) rfl dX5_readLine_1 ?_
  refine z_get (C := RX2) (T := TX2) (N := 11) (ci := 2) (v := .int v0) hx hb hT zin_X2 hown hK hw hm_mo hf_mo rfl 0 (by decide) (hT _ kw_206) rfl dX5_readLine_4 ?_
  refine z_if_ne (tgt := 17) hx hb rfl dX5_readLine_7 (by decide) (fun c1 => ?_) (fun c1 => ?_)
  · skip
    refine lv_aload_n hx hb dX5_readLine_17 rfl (lv_at hl 0 rfl) ?_
    refine va_ldcS (index := 105) hx hb hown (hKK.2.2.1 5 (by decide)) dX5_readLine_18 ?_
    refine z_calliV (cells := 0) (slots := 0) (b := rd) (As := [.ref (adK 5)]) (rest := []) (ci := 5) (q0 := (RX5, TX5, 9)) ⟨hx, hb, hml, hown, hT⟩ (c_X5_tries l hm_rd hm_tp hm_tb hf_rd hf_tp hf_tb (by first | omega | decide | assumption) (by first | omega | decide | assumption) (by first | omega | decide | assumption)) (cwV 1 hT (z_goodV (fun _ h => h) kw_639 kw_641 kw_7 kw_89 kw_642) rfl rfl rfl (by decide +kernel) ⟨by decide, by decide⟩) z_mv hKK hK hw hA hm_rd hf_rd rfl rfl rfl hl.1 rfl (Nat.le_of_ble_eq_true rfl) dX5_readLine_20 ⟨by decide, by decide⟩ (fun r2 u H locs hp hw => ?_)
    obtain ⟨L3, f4⟩ := u
    obtain ⟨hsb, hfm, k2_5, a2_6, n2_7, z2_8, ha_0, hp⟩ := hp
    have hsb : L = L3 := hsb
    subst hsb
    have hsb : ∀ b ∈ L, b ∈ L := fun _ h => h
    have hw : z_H D vwCl (z_A L sz) s.heap L f4 H locs := hw
    have hfr : ∀ b ∈ L, b ≠ rd → b ≠ mo → b ≠ la → b ≠ sa → b ≠ mi → b ≠ dq → f4 b = f b := fun b hb h0 h1 h2 h3 h4 h5 => (hfm b hb h0).trans (hfr b hb h0 h1 h2 h3 h4 h5)
    have hf_tp : f4 tp = .inr (7, [.ref tb, .int tl]) := (hfm tp hm_tp (z_tne hf_tp hf_rd (m := 7) (n := 5) rfl rfl (by decide))).trans hf_tp
    have hf_tb : f4 tb = .inl (cy 0, 1600, .inl gt) := (hfm tb hm_tb (z_tne hf_tb hf_rd (m := 12900) (n := 5) rfl rfl (by decide))).trans hf_tb
    have hf_mo : f4 mo = .inr (2, [.int v0, .int v1, .int v2, .int v3, .int v4, .int v5, .int v6, .ref la, .ref sa, .ref mi, .ref da]) := (hfm mo hm_mo (z_tne hf_mo hf_rd (m := 2) (n := 5) rfl rfl (by decide))).trans hf_mo
    have hf_la : f4 la = .inl (cy 1, 5, .inl gl) := (hfm la hm_la (z_tne hf_la hf_rd (m := 140) (n := 5) rfl rfl (by decide))).trans hf_la
    have hf_sa : f4 sa = .inl (cy 1, 4, .inl gs) := (hfm sa hm_sa (z_tne hf_sa hf_rd (m := 132) (n := 5) rfl rfl (by decide))).trans hf_sa
    have hf_mi : f4 mi = .inl (cy 1, 36, .inl gm) := (hfm mi hm_mi (z_tne hf_mi hf_rd (m := 388) (n := 5) rfl rfl (by decide))).trans hf_mi
    have hf_da : f4 da = .inl (cy 4, 13, .inr (.inr (.inr (.inr gd)))) := (hfm da hm_da (z_tne hf_da hf_rd (m := 206) (n := 5) rfl rfl (by decide))).trans hf_da
    have hf_dq : f4 dq = .inr (0, [.int o1, .int o2, .int o3, .int o4, .int o5, .int o6, .int o7, .int o8]) := (hfm dq hm_dq (z_tne hf_dq hf_rd (m := 0) (n := 5) rfl rfl (by decide))).trans hf_dq
    have hf_rd : f4 rd = .inr (5, [.int fa, .int fp, .ref tp, .ref mo, .int ot_, .int k2_5, .int a2_6, .int n2_7, .int z2_8]) := ha_0
    have hrn := hp.2
    have hp := hp.1
    rcases hp with ⟨rfl, h9⟩ | ⟨rfl, h9⟩
    · skip
      refine z_if_eq (tgt := 33) hx hb (show (1 : Int32).toInt = 1 by decide) dX5_readLine_23 (by decide) (fun h => absurd h (by decide)) (fun _ => ?_)
      refine lv_aload_n hx hb dX5_readLine_26 rfl (lv_at hl 0 rfl) ?_
      refine z_callvV (cells := 0) (slots := 0) (b := rd) (As := []) (rest := []) (ci := 5) (q0 := (RX5, TX5, 9)) ⟨hx, hb, hml, hown, hT⟩ (c_X5_readLaw l hm_rd hm_tp hm_tb hm_mo hm_la hf_rd hf_tp hf_tb hf_mo hf_la (by first | omega | decide | assumption) (by first | omega | decide | assumption) hgl) (cwV 0 hT (z_goodV (fun _ h => h) kw_643 kw_645 kw_8 kw_89 kw_646) rfl rfl rfl (by decide +kernel) ⟨by decide, by decide⟩) z_mv hKK hK hw hA hm_rd hf_rd rfl rfl rfl hl.1 rfl (Nat.le_of_ble_eq_true rfl) dX5_readLine_27 ⟨by decide, by decide⟩ (fun u H locs hp hw => ?_)
      obtain ⟨L10, f11⟩ := u
      obtain ⟨hsb, hfm, f2_12, p2_13, k2_14, a2_15, n2_16, z2_17, g2_18, ha_0, ha_1, hp⟩ := hp
      have hsb : L = L10 := hsb
      subst hsb
      have hsb : ∀ b ∈ L, b ∈ L := fun _ h => h
      have hw : z_H D vwCl (z_A L sz) s.heap L f11 H locs := hw
      have hfr : ∀ b ∈ L, b ≠ rd → b ≠ mo → b ≠ la → b ≠ sa → b ≠ mi → b ≠ dq → f11 b = f b := fun b hb h0 h1 h2 h3 h4 h5 => (hfm b hb h0 h2).trans (hfr b hb h0 h1 h2 h3 h4 h5)
      have hf_tp : f11 tp = .inr (7, [.ref tb, .int tl]) := (hfm tp hm_tp (z_tne hf_tp hf_rd (m := 7) (n := 5) rfl rfl (by decide)) (z_tne hf_tp hf_la (m := 7) (n := 140) rfl rfl (by decide))).trans hf_tp
      have hf_tb : f11 tb = .inl (cy 0, 1600, .inl gt) := (hfm tb hm_tb (z_tne hf_tb hf_rd (m := 12900) (n := 5) rfl rfl (by decide)) (z_tne hf_tb hf_la (m := 12900) (n := 140) rfl rfl (by decide))).trans hf_tb
      have hf_mo : f11 mo = .inr (2, [.int v0, .int v1, .int v2, .int v3, .int v4, .int v5, .int v6, .ref la, .ref sa, .ref mi, .ref da]) := (hfm mo hm_mo (z_tne hf_mo hf_rd (m := 2) (n := 5) rfl rfl (by decide)) (z_tne hf_mo hf_la (m := 2) (n := 140) rfl rfl (by decide))).trans hf_mo
      have hf_sa : f11 sa = .inl (cy 1, 4, .inl gs) := (hfm sa hm_sa (z_tne hf_sa hf_rd (m := 132) (n := 5) rfl rfl (by decide)) (z_tne hf_sa hf_la (m := 132) (n := 140) rfl rfl (by decide))).trans hf_sa
      have hf_mi : f11 mi = .inl (cy 1, 36, .inl gm) := (hfm mi hm_mi (z_tne hf_mi hf_rd (m := 388) (n := 5) rfl rfl (by decide)) (z_tne hf_mi hf_la (m := 388) (n := 140) rfl rfl (by decide))).trans hf_mi
      have hf_da : f11 da = .inl (cy 4, 13, .inr (.inr (.inr (.inr gd)))) := (hfm da hm_da (z_tne hf_da hf_rd (m := 206) (n := 5) rfl rfl (by decide)) (z_tne hf_da hf_la (m := 206) (n := 140) rfl rfl (by decide))).trans hf_da
      have hf_dq : f11 dq = .inr (0, [.int o1, .int o2, .int o3, .int o4, .int o5, .int o6, .int o7, .int o8]) := (hfm dq hm_dq (z_tne hf_dq hf_rd (m := 0) (n := 5) rfl rfl (by decide)) (z_tne hf_dq hf_la (m := 0) (n := 140) rfl rfl (by decide))).trans hf_dq
      have hf_rd : f11 rd = .inr (5, [.int f2_12, .int p2_13, .ref tp, .ref mo, .int ot_, .int k2_14, .int a2_15, .int n2_16, .int z2_17]) := ha_0
      have hf_la : f11 la = .inl (cy 1, 5, .inl g2_18) := ha_1
      have hq19 := hp
      refine lv_goto (tgt := 137) hx hb dX5_readLine_30 (by decide) ?_
      refine lv_aload_n hx hb dX5_readLine_137 rfl (lv_at hl 0 rfl) ?_
      refine z_callvV (cells := 0) (slots := 0) (b := rd) (As := []) (rest := []) (ci := 5) (q0 := (RX5, TX5, 9)) ⟨hx, hb, hml, hown, hT⟩ (c_X5_takeSign l hm_rd hm_tp hm_tb hf_rd hf_tp hf_tb (by first | omega | decide | assumption) (by first | omega | decide | assumption)) (cwV 0 hT (z_goodV (fun _ h => h) kw_686 kw_688 kw_14 kw_89 kw_689) rfl rfl rfl (by decide +kernel) ⟨by decide, by decide⟩) z_mv hKK hK hw hA hm_rd hf_rd rfl rfl rfl hl.1 rfl (Nat.le_of_ble_eq_true rfl) dX5_readLine_138 ⟨by decide, by decide⟩ (fun u H locs hp hw => ?_)
      obtain ⟨L20, f21⟩ := u
      obtain ⟨hsb, hfm, f2_22, p2_23, k2_24, a2_25, n2_26, z2_27, ha_0, hp⟩ := hp
      have hsb : L = L20 := hsb
      subst hsb
      have hsb : ∀ b ∈ L, b ∈ L := fun _ h => h
      have hw : z_H D vwCl (z_A L sz) s.heap L f21 H locs := hw
      have hfr : ∀ b ∈ L, b ≠ rd → b ≠ mo → b ≠ la → b ≠ sa → b ≠ mi → b ≠ dq → f21 b = f b := fun b hb h0 h1 h2 h3 h4 h5 => (hfm b hb h0).trans (hfr b hb h0 h1 h2 h3 h4 h5)
      have hf_tp : f21 tp = .inr (7, [.ref tb, .int tl]) := (hfm tp hm_tp (z_tne hf_tp hf_rd (m := 7) (n := 5) rfl rfl (by decide))).trans hf_tp
      have hf_tb : f21 tb = .inl (cy 0, 1600, .inl gt) := (hfm tb hm_tb (z_tne hf_tb hf_rd (m := 12900) (n := 5) rfl rfl (by decide))).trans hf_tb
      have hf_mo : f21 mo = .inr (2, [.int v0, .int v1, .int v2, .int v3, .int v4, .int v5, .int v6, .ref la, .ref sa, .ref mi, .ref da]) := (hfm mo hm_mo (z_tne hf_mo hf_rd (m := 2) (n := 5) rfl rfl (by decide))).trans hf_mo
      have hf_la : f21 la = .inl (cy 1, 5, .inl g2_18) := (hfm la hm_la (z_tne hf_la hf_rd (m := 140) (n := 5) rfl rfl (by decide))).trans hf_la
      have hf_sa : f21 sa = .inl (cy 1, 4, .inl gs) := (hfm sa hm_sa (z_tne hf_sa hf_rd (m := 132) (n := 5) rfl rfl (by decide))).trans hf_sa
      have hf_mi : f21 mi = .inl (cy 1, 36, .inl gm) := (hfm mi hm_mi (z_tne hf_mi hf_rd (m := 388) (n := 5) rfl rfl (by decide))).trans hf_mi
      have hf_da : f21 da = .inl (cy 4, 13, .inr (.inr (.inr (.inr gd)))) := (hfm da hm_da (z_tne hf_da hf_rd (m := 206) (n := 5) rfl rfl (by decide))).trans hf_da
      have hf_dq : f21 dq = .inr (0, [.int o1, .int o2, .int o3, .int o4, .int o5, .int o6, .int o7, .int o8]) := (hfm dq hm_dq (z_tne hf_dq hf_rd (m := 0) (n := 5) rfl rfl (by decide))).trans hf_dq
      have hf_rd : f21 rd = .inr (5, [.int f2_22, .int p2_23, .ref tp, .ref mo, .int ot_, .int k2_24, .int a2_25, .int n2_26, .int z2_27]) := ha_0
      have hq28 := hp
      refine lv_aload_n hx hb dX5_readLine_141 rfl (lv_at hl 0 rfl) ?_
      refine z_get (C := RX5) (T := TX5) (N := 9) (ci := 5) (v := .ref mo) hx hb hT zin_X5 hown hK hw hm_rd hf_rd rfl 3 (by decide) (hT _ kw_282) rfl dX5_readLine_142 ?_
      refine lv_dup hx hb dX5_readLine_145 rfl ?_
      refine z_get (C := RX2) (T := TX2) (N := 11) (ci := 2) (v := .int v0) hx hb hT zin_X2 hown hK hw hm_mo hf_mo rfl 0 (by decide) (hT _ kw_206) rfl dX5_readLine_146 ?_
      refine lv_iconst (v := 1) hx hb dX5_readLine_149 (by decide) ?_
      refine lv_iadd hx hb dX5_readLine_150 ?_
      refine lv_topi (fun w29 e_w29 => ?_)
      refine z_put (C := RX2) (T := TX2) (N := 11) (ci := 2) (v := .int w29) (fs' := [.int w29, .int v1, .int v2, .int v3, .int v4, .int v5, .int v6, .ref la, .ref sa, .ref mi, .ref da]) hx hb hT zin_X2 tyX2_ok nmX2 hown hK hw hm_mo hf_mo rfl 0 (by decide) (hT _ kw_206) rfl rfl rfl (Nat.le_of_ble_eq_true rfl) rfl dX5_readLine_151 (fun H locs hw => ?_)
      obtain ⟨f30, e_f30⟩ : ∃ z, z = va_up f21 mo (.inr (2, [.int w29, .int v1, .int v2, .int v3, .int v4, .int v5, .int v6, .ref la, .ref sa, .ref mi, .ref da])) := ⟨_, rfl⟩
      rw [← e_f30] at hw
      have hf_rd : f30 rd = .inr (5, [.int f2_22, .int p2_23, .ref tp, .ref mo, .int ot_, .int k2_24, .int a2_25, .int n2_26, .int z2_27]) := (congrFun e_f30 rd).trans (z_up_ne (z_tne hf_rd hf_mo (m := 5) (n := 2) rfl rfl (by decide)) hf_rd)
      have hf_tp : f30 tp = .inr (7, [.ref tb, .int tl]) := (congrFun e_f30 tp).trans (z_up_ne (z_tne hf_tp hf_mo (m := 7) (n := 2) rfl rfl (by decide)) hf_tp)
      have hf_tb : f30 tb = .inl (cy 0, 1600, .inl gt) := (congrFun e_f30 tb).trans (z_up_ne (z_tne hf_tb hf_mo (m := 12900) (n := 2) rfl rfl (by decide)) hf_tb)
      have hf_la : f30 la = .inl (cy 1, 5, .inl g2_18) := (congrFun e_f30 la).trans (z_up_ne (z_tne hf_la hf_mo (m := 140) (n := 2) rfl rfl (by decide)) hf_la)
      have hf_sa : f30 sa = .inl (cy 1, 4, .inl gs) := (congrFun e_f30 sa).trans (z_up_ne (z_tne hf_sa hf_mo (m := 132) (n := 2) rfl rfl (by decide)) hf_sa)
      have hf_mi : f30 mi = .inl (cy 1, 36, .inl gm) := (congrFun e_f30 mi).trans (z_up_ne (z_tne hf_mi hf_mo (m := 388) (n := 2) rfl rfl (by decide)) hf_mi)
      have hf_da : f30 da = .inl (cy 4, 13, .inr (.inr (.inr (.inr gd)))) := (congrFun e_f30 da).trans (z_up_ne (z_tne hf_da hf_mo (m := 206) (n := 2) rfl rfl (by decide)) hf_da)
      have hf_dq : f30 dq = .inr (0, [.int o1, .int o2, .int o3, .int o4, .int o5, .int o6, .int o7, .int o8]) := (congrFun e_f30 dq).trans (z_up_ne (z_tne hf_dq hf_mo (m := 0) (n := 2) rfl rfl (by decide)) hf_dq)
      have hf_mo : f30 mo = .inr (2, [.int w29, .int v1, .int v2, .int v3, .int v4, .int v5, .int v6, .ref la, .ref sa, .ref mi, .ref da]) := (congrFun e_f30 mo).trans z_up_self
      have hfr : ∀ b ∈ L, b ≠ rd → b ≠ mo → b ≠ la → b ≠ sa → b ≠ mi → b ≠ dq → f30 b = f b := fun b hb h0 h1 h2 h3 h4 h5 => (congrFun e_f30 b).trans (z_up_ne h1 (hfr b hb h0 h1 h2 h3 h4 h5))
      exact z_vret hx hb hr hlk (by decide) (by decide) hw (⟨hsub, hfr, f2_22, p2_23, k2_24, a2_25, n2_26, z2_27, ot_, w29, v1, v2, v3, v4, v5, v6, o1, o2, o3, o4, o5, o6, o7, o8, g2_18, gs, gm, hf_rd, hf_mo, hf_la, hf_sa, hf_mi, hf_dq, by omega, by omega, by omega, by omega, by omega, by omega, by omega, by omega, fun j => z_lw_mono (hq19.2.2.2 j) (by omega), hgs, hgm⟩) dX5_readLine_154
    · skip
      refine z_if_eq (tgt := 33) hx hb (show (0 : Int32).toInt = 0 by decide) dX5_readLine_23 (by decide) (fun _ => ?_) (fun h => absurd h (by decide))
      refine lv_aload_n hx hb dX5_readLine_33 rfl (lv_at hl 0 rfl) ?_
      refine va_ldcS (index := 113) hx hb hown (hKK.2.2.1 11 (by decide)) dX5_readLine_34 ?_
      refine z_calliV (cells := 0) (slots := 0) (b := rd) (As := [.ref (adK 11)]) (rest := []) (ci := 5) (q0 := (RX5, TX5, 9)) ⟨hx, hb, hml, hown, hT⟩ (c_X5_sees l hm_rd hm_tp hm_tb hf_rd hf_tp hf_tb (by first | omega | decide | assumption) (by first | omega | decide | assumption) (by first | omega | decide | assumption)) (cwV 1 hT (z_goodV (fun _ h => h) kw_570 kw_572 kw_3 kw_89 kw_573) rfl rfl rfl (by decide +kernel) ⟨by decide, by decide⟩) z_mv hKK hK hw hA hm_rd hf_rd rfl rfl rfl hl.1 rfl (Nat.le_of_ble_eq_true rfl) dX5_readLine_36 ⟨by decide, by decide⟩ (fun r31 u H locs hp hw => ?_)
      obtain ⟨rfl, hp⟩ := hp
      have hw : z_H D vwCl (z_A L sz) s.heap L f4 H locs := hw
      rcases hp with ⟨rfl, h32⟩ | ⟨rfl, h32⟩
      · skip
        refine z_if_eq (tgt := 49) hx hb (show (1 : Int32).toInt = 1 by decide) dX5_readLine_39 (by decide) (fun h => absurd h (by decide)) (fun _ => ?_)
        refine lv_aload_n hx hb dX5_readLine_42 rfl (lv_at hl 0 rfl) ?_
        refine z_callvV (cells := 0) (slots := 0) (b := rd) (As := []) (rest := []) (ci := 5) (q0 := (RX5, TX5, 9)) ⟨hx, hb, hml, hown, hT⟩ (c_X5_readOwners l hm_rd hm_tp hm_tb hm_mo hf_rd hf_tp hf_tb hf_mo (by first | omega | decide | assumption) (by first | omega | decide | assumption)) (cwV 0 hT (z_goodV (fun _ h => h) kw_653 kw_655 kw_9 kw_89 kw_656) rfl rfl rfl (by decide +kernel) ⟨by decide, by decide⟩) z_mv hKK hK hw hA hm_rd hf_rd rfl rfl rfl hl.1 rfl (Nat.le_of_ble_eq_true rfl) dX5_readLine_43 ⟨by decide, by decide⟩ (fun u H locs hp hw => ?_)
        obtain ⟨L33, f34⟩ := u
        obtain ⟨hsb, hfm, f2_35, p2_36, k2_37, a2_38, n2_39, z2_40, w3_41, ha_0, ha_1, hp⟩ := hp
        have hsb : L = L33 := hsb
        subst hsb
        have hsb : ∀ b ∈ L, b ∈ L := fun _ h => h
        have hw : z_H D vwCl (z_A L sz) s.heap L f34 H locs := hw
        have hfr : ∀ b ∈ L, b ≠ rd → b ≠ mo → b ≠ la → b ≠ sa → b ≠ mi → b ≠ dq → f34 b = f b := fun b hb h0 h1 h2 h3 h4 h5 => (hfm b hb h0 h1).trans (hfr b hb h0 h1 h2 h3 h4 h5)
        have hf_tp : f34 tp = .inr (7, [.ref tb, .int tl]) := (hfm tp hm_tp (z_tne hf_tp hf_rd (m := 7) (n := 5) rfl rfl (by decide)) (z_tne hf_tp hf_mo (m := 7) (n := 2) rfl rfl (by decide))).trans hf_tp
        have hf_tb : f34 tb = .inl (cy 0, 1600, .inl gt) := (hfm tb hm_tb (z_tne hf_tb hf_rd (m := 12900) (n := 5) rfl rfl (by decide)) (z_tne hf_tb hf_mo (m := 12900) (n := 2) rfl rfl (by decide))).trans hf_tb
        have hf_la : f34 la = .inl (cy 1, 5, .inl gl) := (hfm la hm_la (z_tne hf_la hf_rd (m := 140) (n := 5) rfl rfl (by decide)) (z_tne hf_la hf_mo (m := 140) (n := 2) rfl rfl (by decide))).trans hf_la
        have hf_sa : f34 sa = .inl (cy 1, 4, .inl gs) := (hfm sa hm_sa (z_tne hf_sa hf_rd (m := 132) (n := 5) rfl rfl (by decide)) (z_tne hf_sa hf_mo (m := 132) (n := 2) rfl rfl (by decide))).trans hf_sa
        have hf_mi : f34 mi = .inl (cy 1, 36, .inl gm) := (hfm mi hm_mi (z_tne hf_mi hf_rd (m := 388) (n := 5) rfl rfl (by decide)) (z_tne hf_mi hf_mo (m := 388) (n := 2) rfl rfl (by decide))).trans hf_mi
        have hf_da : f34 da = .inl (cy 4, 13, .inr (.inr (.inr (.inr gd)))) := (hfm da hm_da (z_tne hf_da hf_rd (m := 206) (n := 5) rfl rfl (by decide)) (z_tne hf_da hf_mo (m := 206) (n := 2) rfl rfl (by decide))).trans hf_da
        have hf_dq : f34 dq = .inr (0, [.int o1, .int o2, .int o3, .int o4, .int o5, .int o6, .int o7, .int o8]) := (hfm dq hm_dq (z_tne hf_dq hf_rd (m := 0) (n := 5) rfl rfl (by decide)) (z_tne hf_dq hf_mo (m := 0) (n := 2) rfl rfl (by decide))).trans hf_dq
        have hf_rd : f34 rd = .inr (5, [.int f2_35, .int p2_36, .ref tp, .ref mo, .int 1, .int k2_37, .int a2_38, .int n2_39, .int z2_40]) := ha_0
        have hf_mo : f34 mo = .inr (2, [.int v0, .int v1, .int v2, .int w3_41, .int v4, .int v5, .int v6, .ref la, .ref sa, .ref mi, .ref da]) := ha_1
        have hq42 := hp
        refine lv_goto (tgt := 137) hx hb dX5_readLine_46 (by decide) ?_
        refine lv_aload_n hx hb dX5_readLine_137 rfl (lv_at hl 0 rfl) ?_
        refine z_callvV (cells := 0) (slots := 0) (b := rd) (As := []) (rest := []) (ci := 5) (q0 := (RX5, TX5, 9)) ⟨hx, hb, hml, hown, hT⟩ (c_X5_takeSign l hm_rd hm_tp hm_tb hf_rd hf_tp hf_tb (by first | omega | decide | assumption) (by first | omega | decide | assumption)) (cwV 0 hT (z_goodV (fun _ h => h) kw_686 kw_688 kw_14 kw_89 kw_689) rfl rfl rfl (by decide +kernel) ⟨by decide, by decide⟩) z_mv hKK hK hw hA hm_rd hf_rd rfl rfl rfl hl.1 rfl (Nat.le_of_ble_eq_true rfl) dX5_readLine_138 ⟨by decide, by decide⟩ (fun u H locs hp hw => ?_)
        obtain ⟨L43, f44⟩ := u
        obtain ⟨hsb, hfm, f2_45, p2_46, k2_47, a2_48, n2_49, z2_50, ha_0, hp⟩ := hp
        have hsb : L = L43 := hsb
        subst hsb
        have hsb : ∀ b ∈ L, b ∈ L := fun _ h => h
        have hw : z_H D vwCl (z_A L sz) s.heap L f44 H locs := hw
        have hfr : ∀ b ∈ L, b ≠ rd → b ≠ mo → b ≠ la → b ≠ sa → b ≠ mi → b ≠ dq → f44 b = f b := fun b hb h0 h1 h2 h3 h4 h5 => (hfm b hb h0).trans (hfr b hb h0 h1 h2 h3 h4 h5)
        have hf_tp : f44 tp = .inr (7, [.ref tb, .int tl]) := (hfm tp hm_tp (z_tne hf_tp hf_rd (m := 7) (n := 5) rfl rfl (by decide))).trans hf_tp
        have hf_tb : f44 tb = .inl (cy 0, 1600, .inl gt) := (hfm tb hm_tb (z_tne hf_tb hf_rd (m := 12900) (n := 5) rfl rfl (by decide))).trans hf_tb
        have hf_mo : f44 mo = .inr (2, [.int v0, .int v1, .int v2, .int w3_41, .int v4, .int v5, .int v6, .ref la, .ref sa, .ref mi, .ref da]) := (hfm mo hm_mo (z_tne hf_mo hf_rd (m := 2) (n := 5) rfl rfl (by decide))).trans hf_mo
        have hf_la : f44 la = .inl (cy 1, 5, .inl gl) := (hfm la hm_la (z_tne hf_la hf_rd (m := 140) (n := 5) rfl rfl (by decide))).trans hf_la
        have hf_sa : f44 sa = .inl (cy 1, 4, .inl gs) := (hfm sa hm_sa (z_tne hf_sa hf_rd (m := 132) (n := 5) rfl rfl (by decide))).trans hf_sa
        have hf_mi : f44 mi = .inl (cy 1, 36, .inl gm) := (hfm mi hm_mi (z_tne hf_mi hf_rd (m := 388) (n := 5) rfl rfl (by decide))).trans hf_mi
        have hf_da : f44 da = .inl (cy 4, 13, .inr (.inr (.inr (.inr gd)))) := (hfm da hm_da (z_tne hf_da hf_rd (m := 206) (n := 5) rfl rfl (by decide))).trans hf_da
        have hf_dq : f44 dq = .inr (0, [.int o1, .int o2, .int o3, .int o4, .int o5, .int o6, .int o7, .int o8]) := (hfm dq hm_dq (z_tne hf_dq hf_rd (m := 0) (n := 5) rfl rfl (by decide))).trans hf_dq
        have hf_rd : f44 rd = .inr (5, [.int f2_45, .int p2_46, .ref tp, .ref mo, .int 1, .int k2_47, .int a2_48, .int n2_49, .int z2_50]) := ha_0
        have hq51 := hp
        refine lv_aload_n hx hb dX5_readLine_141 rfl (lv_at hl 0 rfl) ?_
        refine z_get (C := RX5) (T := TX5) (N := 9) (ci := 5) (v := .ref mo) hx hb hT zin_X5 hown hK hw hm_rd hf_rd rfl 3 (by decide) (hT _ kw_282) rfl dX5_readLine_142 ?_
        refine lv_dup hx hb dX5_readLine_145 rfl ?_
        refine z_get (C := RX2) (T := TX2) (N := 11) (ci := 2) (v := .int v0) hx hb hT zin_X2 hown hK hw hm_mo hf_mo rfl 0 (by decide) (hT _ kw_206) rfl dX5_readLine_146 ?_
        refine lv_iconst (v := 1) hx hb dX5_readLine_149 (by decide) ?_
        refine lv_iadd hx hb dX5_readLine_150 ?_
        refine lv_topi (fun w52 e_w52 => ?_)
        refine z_put (C := RX2) (T := TX2) (N := 11) (ci := 2) (v := .int w52) (fs' := [.int w52, .int v1, .int v2, .int w3_41, .int v4, .int v5, .int v6, .ref la, .ref sa, .ref mi, .ref da]) hx hb hT zin_X2 tyX2_ok nmX2 hown hK hw hm_mo hf_mo rfl 0 (by decide) (hT _ kw_206) rfl rfl rfl (Nat.le_of_ble_eq_true rfl) rfl dX5_readLine_151 (fun H locs hw => ?_)
        obtain ⟨f53, e_f53⟩ : ∃ z, z = va_up f44 mo (.inr (2, [.int w52, .int v1, .int v2, .int w3_41, .int v4, .int v5, .int v6, .ref la, .ref sa, .ref mi, .ref da])) := ⟨_, rfl⟩
        rw [← e_f53] at hw
        have hf_rd : f53 rd = .inr (5, [.int f2_45, .int p2_46, .ref tp, .ref mo, .int 1, .int k2_47, .int a2_48, .int n2_49, .int z2_50]) := (congrFun e_f53 rd).trans (z_up_ne (z_tne hf_rd hf_mo (m := 5) (n := 2) rfl rfl (by decide)) hf_rd)
        have hf_tp : f53 tp = .inr (7, [.ref tb, .int tl]) := (congrFun e_f53 tp).trans (z_up_ne (z_tne hf_tp hf_mo (m := 7) (n := 2) rfl rfl (by decide)) hf_tp)
        have hf_tb : f53 tb = .inl (cy 0, 1600, .inl gt) := (congrFun e_f53 tb).trans (z_up_ne (z_tne hf_tb hf_mo (m := 12900) (n := 2) rfl rfl (by decide)) hf_tb)
        have hf_la : f53 la = .inl (cy 1, 5, .inl gl) := (congrFun e_f53 la).trans (z_up_ne (z_tne hf_la hf_mo (m := 140) (n := 2) rfl rfl (by decide)) hf_la)
        have hf_sa : f53 sa = .inl (cy 1, 4, .inl gs) := (congrFun e_f53 sa).trans (z_up_ne (z_tne hf_sa hf_mo (m := 132) (n := 2) rfl rfl (by decide)) hf_sa)
        have hf_mi : f53 mi = .inl (cy 1, 36, .inl gm) := (congrFun e_f53 mi).trans (z_up_ne (z_tne hf_mi hf_mo (m := 388) (n := 2) rfl rfl (by decide)) hf_mi)
        have hf_da : f53 da = .inl (cy 4, 13, .inr (.inr (.inr (.inr gd)))) := (congrFun e_f53 da).trans (z_up_ne (z_tne hf_da hf_mo (m := 206) (n := 2) rfl rfl (by decide)) hf_da)
        have hf_dq : f53 dq = .inr (0, [.int o1, .int o2, .int o3, .int o4, .int o5, .int o6, .int o7, .int o8]) := (congrFun e_f53 dq).trans (z_up_ne (z_tne hf_dq hf_mo (m := 0) (n := 2) rfl rfl (by decide)) hf_dq)
        have hf_mo : f53 mo = .inr (2, [.int w52, .int v1, .int v2, .int w3_41, .int v4, .int v5, .int v6, .ref la, .ref sa, .ref mi, .ref da]) := (congrFun e_f53 mo).trans z_up_self
        have hfr : ∀ b ∈ L, b ≠ rd → b ≠ mo → b ≠ la → b ≠ sa → b ≠ mi → b ≠ dq → f53 b = f b := fun b hb h0 h1 h2 h3 h4 h5 => (congrFun e_f53 b).trans (z_up_ne h1 (hfr b hb h0 h1 h2 h3 h4 h5))
        exact z_vret hx hb hr hlk (by decide) (by decide) hw (⟨hsub, hfr, f2_45, p2_46, k2_47, a2_48, n2_49, z2_50, 1, w52, v1, v2, w3_41, v4, v5, v6, o1, o2, o3, o4, o5, o6, o7, o8, gl, gs, gm, hf_rd, hf_mo, hf_la, hf_sa, hf_mi, hf_dq, by omega, by omega, by omega, by omega, by omega, by omega, by omega, by omega, fun j => z_lw_mono (hgl j) (by omega), hgs, hgm⟩) dX5_readLine_154
      · skip
        refine z_if_eq (tgt := 49) hx hb (show (0 : Int32).toInt = 0 by decide) dX5_readLine_39 (by decide) (fun _ => ?_) (fun h => absurd h (by decide))
        refine lv_aload_n hx hb dX5_readLine_49 rfl (lv_at hl 0 rfl) ?_
        refine va_ldcS (index := 118) hx hb hown (hKK.2.2.1 12 (by decide)) dX5_readLine_50 ?_
        refine z_calliV (cells := 0) (slots := 0) (b := rd) (As := [.ref (adK 12)]) (rest := []) (ci := 5) (q0 := (RX5, TX5, 9)) ⟨hx, hb, hml, hown, hT⟩ (c_X5_tries l hm_rd hm_tp hm_tb hf_rd hf_tp hf_tb (by first | omega | decide | assumption) (by first | omega | decide | assumption) (by first | omega | decide | assumption)) (cwV 1 hT (z_goodV (fun _ h => h) kw_639 kw_641 kw_7 kw_89 kw_642) rfl rfl rfl (by decide +kernel) ⟨by decide, by decide⟩) z_mv hKK hK hw hA hm_rd hf_rd rfl rfl rfl hl.1 rfl (Nat.le_of_ble_eq_true rfl) dX5_readLine_52 ⟨by decide, by decide⟩ (fun r54 u H locs hp hw => ?_)
        obtain ⟨L55, f56⟩ := u
        obtain ⟨hsb, hfm, k2_57, a2_58, n2_59, z2_60, ha_0, hp⟩ := hp
        have hsb : L = L55 := hsb
        subst hsb
        have hsb : ∀ b ∈ L, b ∈ L := fun _ h => h
        have hw : z_H D vwCl (z_A L sz) s.heap L f56 H locs := hw
        have hfr : ∀ b ∈ L, b ≠ rd → b ≠ mo → b ≠ la → b ≠ sa → b ≠ mi → b ≠ dq → f56 b = f b := fun b hb h0 h1 h2 h3 h4 h5 => (hfm b hb h0).trans (hfr b hb h0 h1 h2 h3 h4 h5)
        have hf_tp : f56 tp = .inr (7, [.ref tb, .int tl]) := (hfm tp hm_tp (z_tne hf_tp hf_rd (m := 7) (n := 5) rfl rfl (by decide))).trans hf_tp
        have hf_tb : f56 tb = .inl (cy 0, 1600, .inl gt) := (hfm tb hm_tb (z_tne hf_tb hf_rd (m := 12900) (n := 5) rfl rfl (by decide))).trans hf_tb
        have hf_mo : f56 mo = .inr (2, [.int v0, .int v1, .int v2, .int v3, .int v4, .int v5, .int v6, .ref la, .ref sa, .ref mi, .ref da]) := (hfm mo hm_mo (z_tne hf_mo hf_rd (m := 2) (n := 5) rfl rfl (by decide))).trans hf_mo
        have hf_la : f56 la = .inl (cy 1, 5, .inl gl) := (hfm la hm_la (z_tne hf_la hf_rd (m := 140) (n := 5) rfl rfl (by decide))).trans hf_la
        have hf_sa : f56 sa = .inl (cy 1, 4, .inl gs) := (hfm sa hm_sa (z_tne hf_sa hf_rd (m := 132) (n := 5) rfl rfl (by decide))).trans hf_sa
        have hf_mi : f56 mi = .inl (cy 1, 36, .inl gm) := (hfm mi hm_mi (z_tne hf_mi hf_rd (m := 388) (n := 5) rfl rfl (by decide))).trans hf_mi
        have hf_da : f56 da = .inl (cy 4, 13, .inr (.inr (.inr (.inr gd)))) := (hfm da hm_da (z_tne hf_da hf_rd (m := 206) (n := 5) rfl rfl (by decide))).trans hf_da
        have hf_dq : f56 dq = .inr (0, [.int o1, .int o2, .int o3, .int o4, .int o5, .int o6, .int o7, .int o8]) := (hfm dq hm_dq (z_tne hf_dq hf_rd (m := 0) (n := 5) rfl rfl (by decide))).trans hf_dq
        have hf_rd : f56 rd = .inr (5, [.int fa, .int fp, .ref tp, .ref mo, .int ot_, .int k2_57, .int a2_58, .int n2_59, .int z2_60]) := ha_0
        have hrn := hp.2
        have hp := hp.1
        rcases hp with ⟨rfl, h61⟩ | ⟨rfl, h61⟩
        · skip
          refine z_if_eq (tgt := 65) hx hb (show (1 : Int32).toInt = 1 by decide) dX5_readLine_55 (by decide) (fun h => absurd h (by decide)) (fun _ => ?_)
          refine lv_aload_n hx hb dX5_readLine_58 rfl (lv_at hl 0 rfl) ?_
          refine z_callvV (cells := 0) (slots := 0) (b := rd) (As := []) (rest := []) (ci := 5) (q0 := (RX5, TX5, 9)) ⟨hx, hb, hml, hown, hT⟩ (c_X5_readStart l hm_rd hm_tp hm_tb hm_mo hm_la hm_sa hf_rd hf_tp hf_tb hf_mo hf_la hf_sa (by first | omega | decide | assumption) (by first | omega | decide | assumption) (by first | omega | decide | assumption) hgl hgs) (cwV 0 hT (z_goodV (fun _ h => h) kw_658 kw_660 kw_10 kw_89 kw_661) rfl rfl rfl (by decide +kernel) ⟨by decide, by decide⟩) z_mv hKK hK hw hA hm_rd hf_rd rfl rfl rfl hl.1 rfl (Nat.le_of_ble_eq_true rfl) dX5_readLine_59 ⟨by decide, by decide⟩ (fun u H locs hp hw => ?_)
          obtain ⟨L62, f63⟩ := u
          obtain ⟨hsb, hfm, f2_64, p2_65, k2_66, a2_67, n2_68, z2_69, g2_70, ha_0, ha_1, hp⟩ := hp
          have hsb : L = L62 := hsb
          subst hsb
          have hsb : ∀ b ∈ L, b ∈ L := fun _ h => h
          have hw : z_H D vwCl (z_A L sz) s.heap L f63 H locs := hw
          have hfr : ∀ b ∈ L, b ≠ rd → b ≠ mo → b ≠ la → b ≠ sa → b ≠ mi → b ≠ dq → f63 b = f b := fun b hb h0 h1 h2 h3 h4 h5 => (hfm b hb h0 h3).trans (hfr b hb h0 h1 h2 h3 h4 h5)
          have hf_tp : f63 tp = .inr (7, [.ref tb, .int tl]) := (hfm tp hm_tp (z_tne hf_tp hf_rd (m := 7) (n := 5) rfl rfl (by decide)) (z_tne hf_tp hf_sa (m := 7) (n := 132) rfl rfl (by decide))).trans hf_tp
          have hf_tb : f63 tb = .inl (cy 0, 1600, .inl gt) := (hfm tb hm_tb (z_tne hf_tb hf_rd (m := 12900) (n := 5) rfl rfl (by decide)) (z_tne hf_tb hf_sa (m := 12900) (n := 132) rfl rfl (by decide))).trans hf_tb
          have hf_mo : f63 mo = .inr (2, [.int v0, .int v1, .int v2, .int v3, .int v4, .int v5, .int v6, .ref la, .ref sa, .ref mi, .ref da]) := (hfm mo hm_mo (z_tne hf_mo hf_rd (m := 2) (n := 5) rfl rfl (by decide)) (z_tne hf_mo hf_sa (m := 2) (n := 132) rfl rfl (by decide))).trans hf_mo
          have hf_la : f63 la = .inl (cy 1, 5, .inl gl) := (hfm la hm_la (z_tne hf_la hf_rd (m := 140) (n := 5) rfl rfl (by decide)) (z_tne hf_la hf_sa (m := 140) (n := 132) rfl rfl (by decide))).trans hf_la
          have hf_mi : f63 mi = .inl (cy 1, 36, .inl gm) := (hfm mi hm_mi (z_tne hf_mi hf_rd (m := 388) (n := 5) rfl rfl (by decide)) (z_tne hf_mi hf_sa (m := 388) (n := 132) rfl rfl (by decide))).trans hf_mi
          have hf_da : f63 da = .inl (cy 4, 13, .inr (.inr (.inr (.inr gd)))) := (hfm da hm_da (z_tne hf_da hf_rd (m := 206) (n := 5) rfl rfl (by decide)) (z_tne hf_da hf_sa (m := 206) (n := 132) rfl rfl (by decide))).trans hf_da
          have hf_dq : f63 dq = .inr (0, [.int o1, .int o2, .int o3, .int o4, .int o5, .int o6, .int o7, .int o8]) := (hfm dq hm_dq (z_tne hf_dq hf_rd (m := 0) (n := 5) rfl rfl (by decide)) (z_tne hf_dq hf_sa (m := 0) (n := 132) rfl rfl (by decide))).trans hf_dq
          have hf_rd : f63 rd = .inr (5, [.int f2_64, .int p2_65, .ref tp, .ref mo, .int ot_, .int k2_66, .int a2_67, .int n2_68, .int z2_69]) := ha_0
          have hf_sa : f63 sa = .inl (cy 1, 4, .inl g2_70) := ha_1
          have hq71 := hp
          refine lv_goto (tgt := 137) hx hb dX5_readLine_62 (by decide) ?_
          refine lv_aload_n hx hb dX5_readLine_137 rfl (lv_at hl 0 rfl) ?_
          refine z_callvV (cells := 0) (slots := 0) (b := rd) (As := []) (rest := []) (ci := 5) (q0 := (RX5, TX5, 9)) ⟨hx, hb, hml, hown, hT⟩ (c_X5_takeSign l hm_rd hm_tp hm_tb hf_rd hf_tp hf_tb (by first | omega | decide | assumption) (by first | omega | decide | assumption)) (cwV 0 hT (z_goodV (fun _ h => h) kw_686 kw_688 kw_14 kw_89 kw_689) rfl rfl rfl (by decide +kernel) ⟨by decide, by decide⟩) z_mv hKK hK hw hA hm_rd hf_rd rfl rfl rfl hl.1 rfl (Nat.le_of_ble_eq_true rfl) dX5_readLine_138 ⟨by decide, by decide⟩ (fun u H locs hp hw => ?_)
          obtain ⟨L72, f73⟩ := u
          obtain ⟨hsb, hfm, f2_74, p2_75, k2_76, a2_77, n2_78, z2_79, ha_0, hp⟩ := hp
          have hsb : L = L72 := hsb
          subst hsb
          have hsb : ∀ b ∈ L, b ∈ L := fun _ h => h
          have hw : z_H D vwCl (z_A L sz) s.heap L f73 H locs := hw
          have hfr : ∀ b ∈ L, b ≠ rd → b ≠ mo → b ≠ la → b ≠ sa → b ≠ mi → b ≠ dq → f73 b = f b := fun b hb h0 h1 h2 h3 h4 h5 => (hfm b hb h0).trans (hfr b hb h0 h1 h2 h3 h4 h5)
          have hf_tp : f73 tp = .inr (7, [.ref tb, .int tl]) := (hfm tp hm_tp (z_tne hf_tp hf_rd (m := 7) (n := 5) rfl rfl (by decide))).trans hf_tp
          have hf_tb : f73 tb = .inl (cy 0, 1600, .inl gt) := (hfm tb hm_tb (z_tne hf_tb hf_rd (m := 12900) (n := 5) rfl rfl (by decide))).trans hf_tb
          have hf_mo : f73 mo = .inr (2, [.int v0, .int v1, .int v2, .int v3, .int v4, .int v5, .int v6, .ref la, .ref sa, .ref mi, .ref da]) := (hfm mo hm_mo (z_tne hf_mo hf_rd (m := 2) (n := 5) rfl rfl (by decide))).trans hf_mo
          have hf_la : f73 la = .inl (cy 1, 5, .inl gl) := (hfm la hm_la (z_tne hf_la hf_rd (m := 140) (n := 5) rfl rfl (by decide))).trans hf_la
          have hf_sa : f73 sa = .inl (cy 1, 4, .inl g2_70) := (hfm sa hm_sa (z_tne hf_sa hf_rd (m := 132) (n := 5) rfl rfl (by decide))).trans hf_sa
          have hf_mi : f73 mi = .inl (cy 1, 36, .inl gm) := (hfm mi hm_mi (z_tne hf_mi hf_rd (m := 388) (n := 5) rfl rfl (by decide))).trans hf_mi
          have hf_da : f73 da = .inl (cy 4, 13, .inr (.inr (.inr (.inr gd)))) := (hfm da hm_da (z_tne hf_da hf_rd (m := 206) (n := 5) rfl rfl (by decide))).trans hf_da
          have hf_dq : f73 dq = .inr (0, [.int o1, .int o2, .int o3, .int o4, .int o5, .int o6, .int o7, .int o8]) := (hfm dq hm_dq (z_tne hf_dq hf_rd (m := 0) (n := 5) rfl rfl (by decide))).trans hf_dq
          have hf_rd : f73 rd = .inr (5, [.int f2_74, .int p2_75, .ref tp, .ref mo, .int ot_, .int k2_76, .int a2_77, .int n2_78, .int z2_79]) := ha_0
          have hq80 := hp
          refine lv_aload_n hx hb dX5_readLine_141 rfl (lv_at hl 0 rfl) ?_
          refine z_get (C := RX5) (T := TX5) (N := 9) (ci := 5) (v := .ref mo) hx hb hT zin_X5 hown hK hw hm_rd hf_rd rfl 3 (by decide) (hT _ kw_282) rfl dX5_readLine_142 ?_
          refine lv_dup hx hb dX5_readLine_145 rfl ?_
          refine z_get (C := RX2) (T := TX2) (N := 11) (ci := 2) (v := .int v0) hx hb hT zin_X2 hown hK hw hm_mo hf_mo rfl 0 (by decide) (hT _ kw_206) rfl dX5_readLine_146 ?_
          refine lv_iconst (v := 1) hx hb dX5_readLine_149 (by decide) ?_
          refine lv_iadd hx hb dX5_readLine_150 ?_
          refine lv_topi (fun w81 e_w81 => ?_)
          refine z_put (C := RX2) (T := TX2) (N := 11) (ci := 2) (v := .int w81) (fs' := [.int w81, .int v1, .int v2, .int v3, .int v4, .int v5, .int v6, .ref la, .ref sa, .ref mi, .ref da]) hx hb hT zin_X2 tyX2_ok nmX2 hown hK hw hm_mo hf_mo rfl 0 (by decide) (hT _ kw_206) rfl rfl rfl (Nat.le_of_ble_eq_true rfl) rfl dX5_readLine_151 (fun H locs hw => ?_)
          obtain ⟨f82, e_f82⟩ : ∃ z, z = va_up f73 mo (.inr (2, [.int w81, .int v1, .int v2, .int v3, .int v4, .int v5, .int v6, .ref la, .ref sa, .ref mi, .ref da])) := ⟨_, rfl⟩
          rw [← e_f82] at hw
          have hf_rd : f82 rd = .inr (5, [.int f2_74, .int p2_75, .ref tp, .ref mo, .int ot_, .int k2_76, .int a2_77, .int n2_78, .int z2_79]) := (congrFun e_f82 rd).trans (z_up_ne (z_tne hf_rd hf_mo (m := 5) (n := 2) rfl rfl (by decide)) hf_rd)
          have hf_tp : f82 tp = .inr (7, [.ref tb, .int tl]) := (congrFun e_f82 tp).trans (z_up_ne (z_tne hf_tp hf_mo (m := 7) (n := 2) rfl rfl (by decide)) hf_tp)
          have hf_tb : f82 tb = .inl (cy 0, 1600, .inl gt) := (congrFun e_f82 tb).trans (z_up_ne (z_tne hf_tb hf_mo (m := 12900) (n := 2) rfl rfl (by decide)) hf_tb)
          have hf_la : f82 la = .inl (cy 1, 5, .inl gl) := (congrFun e_f82 la).trans (z_up_ne (z_tne hf_la hf_mo (m := 140) (n := 2) rfl rfl (by decide)) hf_la)
          have hf_sa : f82 sa = .inl (cy 1, 4, .inl g2_70) := (congrFun e_f82 sa).trans (z_up_ne (z_tne hf_sa hf_mo (m := 132) (n := 2) rfl rfl (by decide)) hf_sa)
          have hf_mi : f82 mi = .inl (cy 1, 36, .inl gm) := (congrFun e_f82 mi).trans (z_up_ne (z_tne hf_mi hf_mo (m := 388) (n := 2) rfl rfl (by decide)) hf_mi)
          have hf_da : f82 da = .inl (cy 4, 13, .inr (.inr (.inr (.inr gd)))) := (congrFun e_f82 da).trans (z_up_ne (z_tne hf_da hf_mo (m := 206) (n := 2) rfl rfl (by decide)) hf_da)
          have hf_dq : f82 dq = .inr (0, [.int o1, .int o2, .int o3, .int o4, .int o5, .int o6, .int o7, .int o8]) := (congrFun e_f82 dq).trans (z_up_ne (z_tne hf_dq hf_mo (m := 0) (n := 2) rfl rfl (by decide)) hf_dq)
          have hf_mo : f82 mo = .inr (2, [.int w81, .int v1, .int v2, .int v3, .int v4, .int v5, .int v6, .ref la, .ref sa, .ref mi, .ref da]) := (congrFun e_f82 mo).trans z_up_self
          have hfr : ∀ b ∈ L, b ≠ rd → b ≠ mo → b ≠ la → b ≠ sa → b ≠ mi → b ≠ dq → f82 b = f b := fun b hb h0 h1 h2 h3 h4 h5 => (congrFun e_f82 b).trans (z_up_ne h1 (hfr b hb h0 h1 h2 h3 h4 h5))
          exact z_vret hx hb hr hlk (by decide) (by decide) hw (⟨hsub, hfr, f2_74, p2_75, k2_76, a2_77, n2_78, z2_79, ot_, w81, v1, v2, v3, v4, v5, v6, o1, o2, o3, o4, o5, o6, o7, o8, gl, g2_70, gm, hf_rd, hf_mo, hf_la, hf_sa, hf_mi, hf_dq, by omega, by omega, by omega, by omega, by omega, by omega, by omega, by omega, fun j => z_lw_mono (hgl j) (by omega), hq71.2.2.2, hgm⟩) dX5_readLine_154
        · skip
          refine z_if_eq (tgt := 65) hx hb (show (0 : Int32).toInt = 0 by decide) dX5_readLine_55 (by decide) (fun _ => ?_) (fun h => absurd h (by decide))
          refine lv_aload_n hx hb dX5_readLine_65 rfl (lv_at hl 0 rfl) ?_
          refine va_ldcS (index := 123) hx hb hown (hKK.2.2.1 14 (by decide)) dX5_readLine_66 ?_
          refine z_calliV (cells := 0) (slots := 0) (b := rd) (As := [.ref (adK 14)]) (rest := []) (ci := 5) (q0 := (RX5, TX5, 9)) ⟨hx, hb, hml, hown, hT⟩ (c_X5_tries l hm_rd hm_tp hm_tb hf_rd hf_tp hf_tb (by first | omega | decide | assumption) (by first | omega | decide | assumption) (by first | omega | decide | assumption)) (cwV 1 hT (z_goodV (fun _ h => h) kw_639 kw_641 kw_7 kw_89 kw_642) rfl rfl rfl (by decide +kernel) ⟨by decide, by decide⟩) z_mv hKK hK hw hA hm_rd hf_rd rfl rfl rfl hl.1 rfl (Nat.le_of_ble_eq_true rfl) dX5_readLine_68 ⟨by decide, by decide⟩ (fun r83 u H locs hp hw => ?_)
          obtain ⟨L84, f85⟩ := u
          obtain ⟨hsb, hfm, k2_86, a2_87, n2_88, z2_89, ha_0, hp⟩ := hp
          have hsb : L = L84 := hsb
          subst hsb
          have hsb : ∀ b ∈ L, b ∈ L := fun _ h => h
          have hw : z_H D vwCl (z_A L sz) s.heap L f85 H locs := hw
          have hfr : ∀ b ∈ L, b ≠ rd → b ≠ mo → b ≠ la → b ≠ sa → b ≠ mi → b ≠ dq → f85 b = f b := fun b hb h0 h1 h2 h3 h4 h5 => (hfm b hb h0).trans (hfr b hb h0 h1 h2 h3 h4 h5)
          have hf_tp : f85 tp = .inr (7, [.ref tb, .int tl]) := (hfm tp hm_tp (z_tne hf_tp hf_rd (m := 7) (n := 5) rfl rfl (by decide))).trans hf_tp
          have hf_tb : f85 tb = .inl (cy 0, 1600, .inl gt) := (hfm tb hm_tb (z_tne hf_tb hf_rd (m := 12900) (n := 5) rfl rfl (by decide))).trans hf_tb
          have hf_mo : f85 mo = .inr (2, [.int v0, .int v1, .int v2, .int v3, .int v4, .int v5, .int v6, .ref la, .ref sa, .ref mi, .ref da]) := (hfm mo hm_mo (z_tne hf_mo hf_rd (m := 2) (n := 5) rfl rfl (by decide))).trans hf_mo
          have hf_la : f85 la = .inl (cy 1, 5, .inl gl) := (hfm la hm_la (z_tne hf_la hf_rd (m := 140) (n := 5) rfl rfl (by decide))).trans hf_la
          have hf_sa : f85 sa = .inl (cy 1, 4, .inl gs) := (hfm sa hm_sa (z_tne hf_sa hf_rd (m := 132) (n := 5) rfl rfl (by decide))).trans hf_sa
          have hf_mi : f85 mi = .inl (cy 1, 36, .inl gm) := (hfm mi hm_mi (z_tne hf_mi hf_rd (m := 388) (n := 5) rfl rfl (by decide))).trans hf_mi
          have hf_da : f85 da = .inl (cy 4, 13, .inr (.inr (.inr (.inr gd)))) := (hfm da hm_da (z_tne hf_da hf_rd (m := 206) (n := 5) rfl rfl (by decide))).trans hf_da
          have hf_dq : f85 dq = .inr (0, [.int o1, .int o2, .int o3, .int o4, .int o5, .int o6, .int o7, .int o8]) := (hfm dq hm_dq (z_tne hf_dq hf_rd (m := 0) (n := 5) rfl rfl (by decide))).trans hf_dq
          have hf_rd : f85 rd = .inr (5, [.int fa, .int fp, .ref tp, .ref mo, .int ot_, .int k2_86, .int a2_87, .int n2_88, .int z2_89]) := ha_0
          have hrn := hp.2
          have hp := hp.1
          rcases hp with ⟨rfl, h90⟩ | ⟨rfl, h90⟩
          · skip
            refine z_if_eq (tgt := 100) hx hb (show (1 : Int32).toInt = 1 by decide) dX5_readLine_71 (by decide) (fun h => absurd h (by decide)) (fun _ => ?_)
            refine lv_aload_n hx hb dX5_readLine_74 rfl (lv_at hl 0 rfl) ?_
            refine z_get (C := RX5) (T := TX5) (N := 9) (ci := 5) (v := .ref mo) hx hb hT zin_X5 hown hK hw hm_rd hf_rd rfl 3 (by decide) (hT _ kw_282) rfl dX5_readLine_75 ?_
            refine lv_aload_n hx hb dX5_readLine_78 rfl (lv_at hl 0 rfl) ?_
            refine va_ldcS (index := 125) hx hb hown (hKK.2.2.1 15 (by decide)) dX5_readLine_79 ?_
            refine lv_iconst (v := 0) hx hb dX5_readLine_81 (by decide) ?_
            refine lv_aload_n hx hb dX5_readLine_82 rfl (lv_at hl 0 rfl) ?_
            refine z_get (C := RX5) (T := TX5) (N := 9) (ci := 5) (v := .ref mo) hx hb hT zin_X5 hown hK hw hm_rd hf_rd rfl 3 (by decide) (hT _ kw_282) rfl dX5_readLine_83 ?_
            refine z_get (C := RX2) (T := TX2) (N := 11) (ci := 2) (v := .int v2) hx hb hT zin_X2 hown hK hw hm_mo hf_mo rfl 2 (by decide) (hT _ kw_212) rfl dX5_readLine_86 ?_
            refine lv_iconst (v := 1) hx hb dX5_readLine_89 (by decide) ?_
            refine lv_isub hx hb dX5_readLine_90 ?_
            refine lv_topi (fun w91 e_w91 => ?_)
            have i_w91 : w91.toInt = (v2.toInt - 1) := z_subI e_w91 rfl (show (1 : Int32).toInt = 1 by decide) (by omega)
            have hz92 := (show (0 : Int32).toInt = 0 by decide)
            refine z_calliV (cells := 0) (slots := 0) (b := rd) (As := [.ref (adK 15), .int 0, .int w91]) (rest := [.ref mo]) (ci := 5) (q0 := (RX5, TX5, 9)) ⟨hx, hb, hml, hown, hT⟩ (c_X5_takeNamed l hm_rd hm_tp hm_tb hf_rd hf_tp hf_tb (by first | omega | decide | assumption) (by first | omega | decide | assumption) (by first | omega | decide | assumption)) (cwV 3 hT (z_goodV (fun _ h => h) kw_627 kw_629 kw_5 kw_89 kw_630) rfl rfl rfl (by decide +kernel) ⟨by decide, by decide⟩) z_mv hKK hK hw hA hm_rd hf_rd rfl rfl rfl hl.1 rfl (Nat.le_of_ble_eq_true rfl) dX5_readLine_91 ⟨by decide, by decide⟩ (fun r93 u H locs hp hw => ?_)
            obtain ⟨L94, f95⟩ := u
            obtain ⟨hsb, hfm, f2_96, p2_97, k2_98, a2_99, n2_100, z2_101, ha_0, hp⟩ := hp
            have hsb : L = L94 := hsb
            subst hsb
            have hsb : ∀ b ∈ L, b ∈ L := fun _ h => h
            have hw : z_H D vwCl (z_A L sz) s.heap L f95 H locs := hw
            have hfr : ∀ b ∈ L, b ≠ rd → b ≠ mo → b ≠ la → b ≠ sa → b ≠ mi → b ≠ dq → f95 b = f b := fun b hb h0 h1 h2 h3 h4 h5 => (hfm b hb h0).trans (hfr b hb h0 h1 h2 h3 h4 h5)
            have hf_tp : f95 tp = .inr (7, [.ref tb, .int tl]) := (hfm tp hm_tp (z_tne hf_tp hf_rd (m := 7) (n := 5) rfl rfl (by decide))).trans hf_tp
            have hf_tb : f95 tb = .inl (cy 0, 1600, .inl gt) := (hfm tb hm_tb (z_tne hf_tb hf_rd (m := 12900) (n := 5) rfl rfl (by decide))).trans hf_tb
            have hf_mo : f95 mo = .inr (2, [.int v0, .int v1, .int v2, .int v3, .int v4, .int v5, .int v6, .ref la, .ref sa, .ref mi, .ref da]) := (hfm mo hm_mo (z_tne hf_mo hf_rd (m := 2) (n := 5) rfl rfl (by decide))).trans hf_mo
            have hf_la : f95 la = .inl (cy 1, 5, .inl gl) := (hfm la hm_la (z_tne hf_la hf_rd (m := 140) (n := 5) rfl rfl (by decide))).trans hf_la
            have hf_sa : f95 sa = .inl (cy 1, 4, .inl gs) := (hfm sa hm_sa (z_tne hf_sa hf_rd (m := 132) (n := 5) rfl rfl (by decide))).trans hf_sa
            have hf_mi : f95 mi = .inl (cy 1, 36, .inl gm) := (hfm mi hm_mi (z_tne hf_mi hf_rd (m := 388) (n := 5) rfl rfl (by decide))).trans hf_mi
            have hf_da : f95 da = .inl (cy 4, 13, .inr (.inr (.inr (.inr gd)))) := (hfm da hm_da (z_tne hf_da hf_rd (m := 206) (n := 5) rfl rfl (by decide))).trans hf_da
            have hf_dq : f95 dq = .inr (0, [.int o1, .int o2, .int o3, .int o4, .int o5, .int o6, .int o7, .int o8]) := (hfm dq hm_dq (z_tne hf_dq hf_rd (m := 0) (n := 5) rfl rfl (by decide))).trans hf_dq
            have hf_rd : f95 rd = .inr (5, [.int f2_96, .int p2_97, .ref tp, .ref mo, .int ot_, .int k2_98, .int a2_99, .int n2_100, .int z2_101]) := ha_0
            have hq102 := hp
            refine z_put (C := RX2) (T := TX2) (N := 11) (ci := 2) (v := .int r93) (fs' := [.int v0, .int v1, .int v2, .int v3, .int r93, .int v5, .int v6, .ref la, .ref sa, .ref mi, .ref da]) hx hb hT zin_X2 tyX2_ok nmX2 hown hK hw hm_mo hf_mo rfl 4 (by decide) (hT _ kw_219) rfl rfl rfl (Nat.le_of_ble_eq_true rfl) rfl dX5_readLine_94 (fun H locs hw => ?_)
            obtain ⟨f103, e_f103⟩ : ∃ z, z = va_up f95 mo (.inr (2, [.int v0, .int v1, .int v2, .int v3, .int r93, .int v5, .int v6, .ref la, .ref sa, .ref mi, .ref da])) := ⟨_, rfl⟩
            rw [← e_f103] at hw
            have hf_rd : f103 rd = .inr (5, [.int f2_96, .int p2_97, .ref tp, .ref mo, .int ot_, .int k2_98, .int a2_99, .int n2_100, .int z2_101]) := (congrFun e_f103 rd).trans (z_up_ne (z_tne hf_rd hf_mo (m := 5) (n := 2) rfl rfl (by decide)) hf_rd)
            have hf_tp : f103 tp = .inr (7, [.ref tb, .int tl]) := (congrFun e_f103 tp).trans (z_up_ne (z_tne hf_tp hf_mo (m := 7) (n := 2) rfl rfl (by decide)) hf_tp)
            have hf_tb : f103 tb = .inl (cy 0, 1600, .inl gt) := (congrFun e_f103 tb).trans (z_up_ne (z_tne hf_tb hf_mo (m := 12900) (n := 2) rfl rfl (by decide)) hf_tb)
            have hf_la : f103 la = .inl (cy 1, 5, .inl gl) := (congrFun e_f103 la).trans (z_up_ne (z_tne hf_la hf_mo (m := 140) (n := 2) rfl rfl (by decide)) hf_la)
            have hf_sa : f103 sa = .inl (cy 1, 4, .inl gs) := (congrFun e_f103 sa).trans (z_up_ne (z_tne hf_sa hf_mo (m := 132) (n := 2) rfl rfl (by decide)) hf_sa)
            have hf_mi : f103 mi = .inl (cy 1, 36, .inl gm) := (congrFun e_f103 mi).trans (z_up_ne (z_tne hf_mi hf_mo (m := 388) (n := 2) rfl rfl (by decide)) hf_mi)
            have hf_da : f103 da = .inl (cy 4, 13, .inr (.inr (.inr (.inr gd)))) := (congrFun e_f103 da).trans (z_up_ne (z_tne hf_da hf_mo (m := 206) (n := 2) rfl rfl (by decide)) hf_da)
            have hf_dq : f103 dq = .inr (0, [.int o1, .int o2, .int o3, .int o4, .int o5, .int o6, .int o7, .int o8]) := (congrFun e_f103 dq).trans (z_up_ne (z_tne hf_dq hf_mo (m := 0) (n := 2) rfl rfl (by decide)) hf_dq)
            have hf_mo : f103 mo = .inr (2, [.int v0, .int v1, .int v2, .int v3, .int r93, .int v5, .int v6, .ref la, .ref sa, .ref mi, .ref da]) := (congrFun e_f103 mo).trans z_up_self
            have hfr : ∀ b ∈ L, b ≠ rd → b ≠ mo → b ≠ la → b ≠ sa → b ≠ mi → b ≠ dq → f103 b = f b := fun b hb h0 h1 h2 h3 h4 h5 => (congrFun e_f103 b).trans (z_up_ne h1 (hfr b hb h0 h1 h2 h3 h4 h5))
            refine lv_goto (tgt := 137) hx hb dX5_readLine_97 (by decide) ?_
            refine lv_aload_n hx hb dX5_readLine_137 rfl (lv_at hl 0 rfl) ?_
            refine z_callvV (cells := 0) (slots := 0) (b := rd) (As := []) (rest := []) (ci := 5) (q0 := (RX5, TX5, 9)) ⟨hx, hb, hml, hown, hT⟩ (c_X5_takeSign l hm_rd hm_tp hm_tb hf_rd hf_tp hf_tb (by first | omega | decide | assumption) (by first | omega | decide | assumption)) (cwV 0 hT (z_goodV (fun _ h => h) kw_686 kw_688 kw_14 kw_89 kw_689) rfl rfl rfl (by decide +kernel) ⟨by decide, by decide⟩) z_mv hKK hK hw hA hm_rd hf_rd rfl rfl rfl hl.1 rfl (Nat.le_of_ble_eq_true rfl) dX5_readLine_138 ⟨by decide, by decide⟩ (fun u H locs hp hw => ?_)
            obtain ⟨L104, f105⟩ := u
            obtain ⟨hsb, hfm, f2_106, p2_107, k2_108, a2_109, n2_110, z2_111, ha_0, hp⟩ := hp
            have hsb : L = L104 := hsb
            subst hsb
            have hsb : ∀ b ∈ L, b ∈ L := fun _ h => h
            have hw : z_H D vwCl (z_A L sz) s.heap L f105 H locs := hw
            have hfr : ∀ b ∈ L, b ≠ rd → b ≠ mo → b ≠ la → b ≠ sa → b ≠ mi → b ≠ dq → f105 b = f b := fun b hb h0 h1 h2 h3 h4 h5 => (hfm b hb h0).trans (hfr b hb h0 h1 h2 h3 h4 h5)
            have hf_tp : f105 tp = .inr (7, [.ref tb, .int tl]) := (hfm tp hm_tp (z_tne hf_tp hf_rd (m := 7) (n := 5) rfl rfl (by decide))).trans hf_tp
            have hf_tb : f105 tb = .inl (cy 0, 1600, .inl gt) := (hfm tb hm_tb (z_tne hf_tb hf_rd (m := 12900) (n := 5) rfl rfl (by decide))).trans hf_tb
            have hf_mo : f105 mo = .inr (2, [.int v0, .int v1, .int v2, .int v3, .int r93, .int v5, .int v6, .ref la, .ref sa, .ref mi, .ref da]) := (hfm mo hm_mo (z_tne hf_mo hf_rd (m := 2) (n := 5) rfl rfl (by decide))).trans hf_mo
            have hf_la : f105 la = .inl (cy 1, 5, .inl gl) := (hfm la hm_la (z_tne hf_la hf_rd (m := 140) (n := 5) rfl rfl (by decide))).trans hf_la
            have hf_sa : f105 sa = .inl (cy 1, 4, .inl gs) := (hfm sa hm_sa (z_tne hf_sa hf_rd (m := 132) (n := 5) rfl rfl (by decide))).trans hf_sa
            have hf_mi : f105 mi = .inl (cy 1, 36, .inl gm) := (hfm mi hm_mi (z_tne hf_mi hf_rd (m := 388) (n := 5) rfl rfl (by decide))).trans hf_mi
            have hf_da : f105 da = .inl (cy 4, 13, .inr (.inr (.inr (.inr gd)))) := (hfm da hm_da (z_tne hf_da hf_rd (m := 206) (n := 5) rfl rfl (by decide))).trans hf_da
            have hf_dq : f105 dq = .inr (0, [.int o1, .int o2, .int o3, .int o4, .int o5, .int o6, .int o7, .int o8]) := (hfm dq hm_dq (z_tne hf_dq hf_rd (m := 0) (n := 5) rfl rfl (by decide))).trans hf_dq
            have hf_rd : f105 rd = .inr (5, [.int f2_106, .int p2_107, .ref tp, .ref mo, .int ot_, .int k2_108, .int a2_109, .int n2_110, .int z2_111]) := ha_0
            have hq112 := hp
            refine lv_aload_n hx hb dX5_readLine_141 rfl (lv_at hl 0 rfl) ?_
            refine z_get (C := RX5) (T := TX5) (N := 9) (ci := 5) (v := .ref mo) hx hb hT zin_X5 hown hK hw hm_rd hf_rd rfl 3 (by decide) (hT _ kw_282) rfl dX5_readLine_142 ?_
            refine lv_dup hx hb dX5_readLine_145 rfl ?_
            refine z_get (C := RX2) (T := TX2) (N := 11) (ci := 2) (v := .int v0) hx hb hT zin_X2 hown hK hw hm_mo hf_mo rfl 0 (by decide) (hT _ kw_206) rfl dX5_readLine_146 ?_
            refine lv_iconst (v := 1) hx hb dX5_readLine_149 (by decide) ?_
            refine lv_iadd hx hb dX5_readLine_150 ?_
            refine lv_topi (fun w113 e_w113 => ?_)
            refine z_put (C := RX2) (T := TX2) (N := 11) (ci := 2) (v := .int w113) (fs' := [.int w113, .int v1, .int v2, .int v3, .int r93, .int v5, .int v6, .ref la, .ref sa, .ref mi, .ref da]) hx hb hT zin_X2 tyX2_ok nmX2 hown hK hw hm_mo hf_mo rfl 0 (by decide) (hT _ kw_206) rfl rfl rfl (Nat.le_of_ble_eq_true rfl) rfl dX5_readLine_151 (fun H locs hw => ?_)
            obtain ⟨f114, e_f114⟩ : ∃ z, z = va_up f105 mo (.inr (2, [.int w113, .int v1, .int v2, .int v3, .int r93, .int v5, .int v6, .ref la, .ref sa, .ref mi, .ref da])) := ⟨_, rfl⟩
            rw [← e_f114] at hw
            have hf_rd : f114 rd = .inr (5, [.int f2_106, .int p2_107, .ref tp, .ref mo, .int ot_, .int k2_108, .int a2_109, .int n2_110, .int z2_111]) := (congrFun e_f114 rd).trans (z_up_ne (z_tne hf_rd hf_mo (m := 5) (n := 2) rfl rfl (by decide)) hf_rd)
            have hf_tp : f114 tp = .inr (7, [.ref tb, .int tl]) := (congrFun e_f114 tp).trans (z_up_ne (z_tne hf_tp hf_mo (m := 7) (n := 2) rfl rfl (by decide)) hf_tp)
            have hf_tb : f114 tb = .inl (cy 0, 1600, .inl gt) := (congrFun e_f114 tb).trans (z_up_ne (z_tne hf_tb hf_mo (m := 12900) (n := 2) rfl rfl (by decide)) hf_tb)
            have hf_la : f114 la = .inl (cy 1, 5, .inl gl) := (congrFun e_f114 la).trans (z_up_ne (z_tne hf_la hf_mo (m := 140) (n := 2) rfl rfl (by decide)) hf_la)
            have hf_sa : f114 sa = .inl (cy 1, 4, .inl gs) := (congrFun e_f114 sa).trans (z_up_ne (z_tne hf_sa hf_mo (m := 132) (n := 2) rfl rfl (by decide)) hf_sa)
            have hf_mi : f114 mi = .inl (cy 1, 36, .inl gm) := (congrFun e_f114 mi).trans (z_up_ne (z_tne hf_mi hf_mo (m := 388) (n := 2) rfl rfl (by decide)) hf_mi)
            have hf_da : f114 da = .inl (cy 4, 13, .inr (.inr (.inr (.inr gd)))) := (congrFun e_f114 da).trans (z_up_ne (z_tne hf_da hf_mo (m := 206) (n := 2) rfl rfl (by decide)) hf_da)
            have hf_dq : f114 dq = .inr (0, [.int o1, .int o2, .int o3, .int o4, .int o5, .int o6, .int o7, .int o8]) := (congrFun e_f114 dq).trans (z_up_ne (z_tne hf_dq hf_mo (m := 0) (n := 2) rfl rfl (by decide)) hf_dq)
            have hf_mo : f114 mo = .inr (2, [.int w113, .int v1, .int v2, .int v3, .int r93, .int v5, .int v6, .ref la, .ref sa, .ref mi, .ref da]) := (congrFun e_f114 mo).trans z_up_self
            have hfr : ∀ b ∈ L, b ≠ rd → b ≠ mo → b ≠ la → b ≠ sa → b ≠ mi → b ≠ dq → f114 b = f b := fun b hb h0 h1 h2 h3 h4 h5 => (congrFun e_f114 b).trans (z_up_ne h1 (hfr b hb h0 h1 h2 h3 h4 h5))
            exact z_vret hx hb hr hlk (by decide) (by decide) hw (⟨hsub, hfr, f2_106, p2_107, k2_108, a2_109, n2_110, z2_111, ot_, w113, v1, v2, v3, r93, v5, v6, o1, o2, o3, o4, o5, o6, o7, o8, gl, gs, gm, hf_rd, hf_mo, hf_la, hf_sa, hf_mi, hf_dq, by omega, by omega, by omega, by omega, by omega, by omega, by omega, by omega, fun j => z_lw_mono (hgl j) (by omega), hgs, hgm⟩) dX5_readLine_154
          · skip
            refine z_if_eq (tgt := 100) hx hb (show (0 : Int32).toInt = 0 by decide) dX5_readLine_71 (by decide) (fun _ => ?_) (fun h => absurd h (by decide))
            refine lv_aload_n hx hb dX5_readLine_100 rfl (lv_at hl 0 rfl) ?_
            refine va_ldcS (index := 137) hx hb hown (hKK.2.2.1 16 (by decide)) dX5_readLine_101 ?_
            refine z_calliV (cells := 0) (slots := 0) (b := rd) (As := [.ref (adK 16)]) (rest := []) (ci := 5) (q0 := (RX5, TX5, 9)) ⟨hx, hb, hml, hown, hT⟩ (c_X5_sees l hm_rd hm_tp hm_tb hf_rd hf_tp hf_tb (by first | omega | decide | assumption) (by first | omega | decide | assumption) (by first | omega | decide | assumption)) (cwV 1 hT (z_goodV (fun _ h => h) kw_570 kw_572 kw_3 kw_89 kw_573) rfl rfl rfl (by decide +kernel) ⟨by decide, by decide⟩) z_mv hKK hK hw hA hm_rd hf_rd rfl rfl rfl hl.1 rfl (Nat.le_of_ble_eq_true rfl) dX5_readLine_103 ⟨by decide, by decide⟩ (fun r115 u H locs hp hw => ?_)
            obtain ⟨rfl, hp⟩ := hp
            have hw : z_H D vwCl (z_A L sz) s.heap L f85 H locs := hw
            rcases hp with ⟨rfl, h116⟩ | ⟨rfl, h116⟩
            · skip
              refine z_if_eq (tgt := 116) hx hb (show (1 : Int32).toInt = 1 by decide) dX5_readLine_106 (by decide) (fun h => absurd h (by decide)) (fun _ => ?_)
              refine lv_aload_n hx hb dX5_readLine_109 rfl (lv_at hl 0 rfl) ?_
              refine z_callvV (cells := 0) (slots := 0) (b := rd) (As := []) (rest := []) (ci := 5) (q0 := (RX5, TX5, 9)) ⟨hx, hb, hml, hown, hT⟩ (c_X5_readDrive l hm_rd hm_tp hm_tb hm_mo hm_da hm_dq hf_rd hf_tp hf_tb hf_mo hf_da hf_dq (by first | omega | decide | assumption) (by first | omega | decide | assumption) (by first | omega | decide | assumption) (by first | omega | decide | assumption) (by first | omega | decide | assumption) (by first | omega | decide | assumption) hgdq) (cwV 0 hT (z_goodV (fun _ h => h) kw_666 kw_668 kw_11 kw_89 kw_669) rfl rfl rfl (by decide +kernel) ⟨by decide, by decide⟩) z_mv hKK hK hw hA hm_rd hf_rd rfl rfl rfl hl.1 rfl (Nat.le_of_ble_eq_true rfl) dX5_readLine_110 ⟨by decide, by decide⟩ (fun u H locs hp hw => ?_)
              obtain ⟨L117, f118⟩ := u
              obtain ⟨hsb, hfm, f2_119, p2_120, k2_121, a2_122, n2_123, z2_124, w5_125, e1_126, e2_127, e3_128, e4_129, e5_130, e6_131, e7_132, e8_133, ha_0, ha_1, ha_2, hp⟩ := hp
              have hsb : L = L117 := hsb
              subst hsb
              have hsb : ∀ b ∈ L, b ∈ L := fun _ h => h
              have hw : z_H D vwCl (z_A L sz) s.heap L f118 H locs := hw
              have hfr : ∀ b ∈ L, b ≠ rd → b ≠ mo → b ≠ la → b ≠ sa → b ≠ mi → b ≠ dq → f118 b = f b := fun b hb h0 h1 h2 h3 h4 h5 => (hfm b hb h0 h1 h5).trans (hfr b hb h0 h1 h2 h3 h4 h5)
              have hf_tp : f118 tp = .inr (7, [.ref tb, .int tl]) := (hfm tp hm_tp (z_tne hf_tp hf_rd (m := 7) (n := 5) rfl rfl (by decide)) (z_tne hf_tp hf_mo (m := 7) (n := 2) rfl rfl (by decide)) (z_tne hf_tp hf_dq (m := 7) (n := 0) rfl rfl (by decide))).trans hf_tp
              have hf_tb : f118 tb = .inl (cy 0, 1600, .inl gt) := (hfm tb hm_tb (z_tne hf_tb hf_rd (m := 12900) (n := 5) rfl rfl (by decide)) (z_tne hf_tb hf_mo (m := 12900) (n := 2) rfl rfl (by decide)) (z_tne hf_tb hf_dq (m := 12900) (n := 0) rfl rfl (by decide))).trans hf_tb
              have hf_la : f118 la = .inl (cy 1, 5, .inl gl) := (hfm la hm_la (z_tne hf_la hf_rd (m := 140) (n := 5) rfl rfl (by decide)) (z_tne hf_la hf_mo (m := 140) (n := 2) rfl rfl (by decide)) (z_tne hf_la hf_dq (m := 140) (n := 0) rfl rfl (by decide))).trans hf_la
              have hf_sa : f118 sa = .inl (cy 1, 4, .inl gs) := (hfm sa hm_sa (z_tne hf_sa hf_rd (m := 132) (n := 5) rfl rfl (by decide)) (z_tne hf_sa hf_mo (m := 132) (n := 2) rfl rfl (by decide)) (z_tne hf_sa hf_dq (m := 132) (n := 0) rfl rfl (by decide))).trans hf_sa
              have hf_mi : f118 mi = .inl (cy 1, 36, .inl gm) := (hfm mi hm_mi (z_tne hf_mi hf_rd (m := 388) (n := 5) rfl rfl (by decide)) (z_tne hf_mi hf_mo (m := 388) (n := 2) rfl rfl (by decide)) (z_tne hf_mi hf_dq (m := 388) (n := 0) rfl rfl (by decide))).trans hf_mi
              have hf_da : f118 da = .inl (cy 4, 13, .inr (.inr (.inr (.inr gd)))) := (hfm da hm_da (z_tne hf_da hf_rd (m := 206) (n := 5) rfl rfl (by decide)) (z_tne hf_da hf_mo (m := 206) (n := 2) rfl rfl (by decide)) (z_tne hf_da hf_dq (m := 206) (n := 0) rfl rfl (by decide))).trans hf_da
              have hf_rd : f118 rd = .inr (5, [.int f2_119, .int p2_120, .ref tp, .ref mo, .int ot_, .int k2_121, .int a2_122, .int n2_123, .int z2_124]) := ha_0
              have hf_mo : f118 mo = .inr (2, [.int v0, .int v1, .int v2, .int v3, .int v4, .int w5_125, .int v6, .ref la, .ref sa, .ref mi, .ref da]) := ha_1
              have hf_dq : f118 dq = .inr (0, [.int e1_126, .int e2_127, .int e3_128, .int e4_129, .int e5_130, .int e6_131, .int e7_132, .int e8_133]) := ha_2
              have hq134 := hp
              refine lv_goto (tgt := 137) hx hb dX5_readLine_113 (by decide) ?_
              refine lv_aload_n hx hb dX5_readLine_137 rfl (lv_at hl 0 rfl) ?_
              refine z_callvV (cells := 0) (slots := 0) (b := rd) (As := []) (rest := []) (ci := 5) (q0 := (RX5, TX5, 9)) ⟨hx, hb, hml, hown, hT⟩ (c_X5_takeSign l hm_rd hm_tp hm_tb hf_rd hf_tp hf_tb (by first | omega | decide | assumption) (by first | omega | decide | assumption)) (cwV 0 hT (z_goodV (fun _ h => h) kw_686 kw_688 kw_14 kw_89 kw_689) rfl rfl rfl (by decide +kernel) ⟨by decide, by decide⟩) z_mv hKK hK hw hA hm_rd hf_rd rfl rfl rfl hl.1 rfl (Nat.le_of_ble_eq_true rfl) dX5_readLine_138 ⟨by decide, by decide⟩ (fun u H locs hp hw => ?_)
              obtain ⟨L135, f136⟩ := u
              obtain ⟨hsb, hfm, f2_137, p2_138, k2_139, a2_140, n2_141, z2_142, ha_0, hp⟩ := hp
              have hsb : L = L135 := hsb
              subst hsb
              have hsb : ∀ b ∈ L, b ∈ L := fun _ h => h
              have hw : z_H D vwCl (z_A L sz) s.heap L f136 H locs := hw
              have hfr : ∀ b ∈ L, b ≠ rd → b ≠ mo → b ≠ la → b ≠ sa → b ≠ mi → b ≠ dq → f136 b = f b := fun b hb h0 h1 h2 h3 h4 h5 => (hfm b hb h0).trans (hfr b hb h0 h1 h2 h3 h4 h5)
              have hf_tp : f136 tp = .inr (7, [.ref tb, .int tl]) := (hfm tp hm_tp (z_tne hf_tp hf_rd (m := 7) (n := 5) rfl rfl (by decide))).trans hf_tp
              have hf_tb : f136 tb = .inl (cy 0, 1600, .inl gt) := (hfm tb hm_tb (z_tne hf_tb hf_rd (m := 12900) (n := 5) rfl rfl (by decide))).trans hf_tb
              have hf_mo : f136 mo = .inr (2, [.int v0, .int v1, .int v2, .int v3, .int v4, .int w5_125, .int v6, .ref la, .ref sa, .ref mi, .ref da]) := (hfm mo hm_mo (z_tne hf_mo hf_rd (m := 2) (n := 5) rfl rfl (by decide))).trans hf_mo
              have hf_la : f136 la = .inl (cy 1, 5, .inl gl) := (hfm la hm_la (z_tne hf_la hf_rd (m := 140) (n := 5) rfl rfl (by decide))).trans hf_la
              have hf_sa : f136 sa = .inl (cy 1, 4, .inl gs) := (hfm sa hm_sa (z_tne hf_sa hf_rd (m := 132) (n := 5) rfl rfl (by decide))).trans hf_sa
              have hf_mi : f136 mi = .inl (cy 1, 36, .inl gm) := (hfm mi hm_mi (z_tne hf_mi hf_rd (m := 388) (n := 5) rfl rfl (by decide))).trans hf_mi
              have hf_da : f136 da = .inl (cy 4, 13, .inr (.inr (.inr (.inr gd)))) := (hfm da hm_da (z_tne hf_da hf_rd (m := 206) (n := 5) rfl rfl (by decide))).trans hf_da
              have hf_dq : f136 dq = .inr (0, [.int e1_126, .int e2_127, .int e3_128, .int e4_129, .int e5_130, .int e6_131, .int e7_132, .int e8_133]) := (hfm dq hm_dq (z_tne hf_dq hf_rd (m := 0) (n := 5) rfl rfl (by decide))).trans hf_dq
              have hf_rd : f136 rd = .inr (5, [.int f2_137, .int p2_138, .ref tp, .ref mo, .int ot_, .int k2_139, .int a2_140, .int n2_141, .int z2_142]) := ha_0
              have hq143 := hp
              refine lv_aload_n hx hb dX5_readLine_141 rfl (lv_at hl 0 rfl) ?_
              refine z_get (C := RX5) (T := TX5) (N := 9) (ci := 5) (v := .ref mo) hx hb hT zin_X5 hown hK hw hm_rd hf_rd rfl 3 (by decide) (hT _ kw_282) rfl dX5_readLine_142 ?_
              refine lv_dup hx hb dX5_readLine_145 rfl ?_
              refine z_get (C := RX2) (T := TX2) (N := 11) (ci := 2) (v := .int v0) hx hb hT zin_X2 hown hK hw hm_mo hf_mo rfl 0 (by decide) (hT _ kw_206) rfl dX5_readLine_146 ?_
              refine lv_iconst (v := 1) hx hb dX5_readLine_149 (by decide) ?_
              refine lv_iadd hx hb dX5_readLine_150 ?_
              refine lv_topi (fun w144 e_w144 => ?_)
              refine z_put (C := RX2) (T := TX2) (N := 11) (ci := 2) (v := .int w144) (fs' := [.int w144, .int v1, .int v2, .int v3, .int v4, .int w5_125, .int v6, .ref la, .ref sa, .ref mi, .ref da]) hx hb hT zin_X2 tyX2_ok nmX2 hown hK hw hm_mo hf_mo rfl 0 (by decide) (hT _ kw_206) rfl rfl rfl (Nat.le_of_ble_eq_true rfl) rfl dX5_readLine_151 (fun H locs hw => ?_)
              obtain ⟨f145, e_f145⟩ : ∃ z, z = va_up f136 mo (.inr (2, [.int w144, .int v1, .int v2, .int v3, .int v4, .int w5_125, .int v6, .ref la, .ref sa, .ref mi, .ref da])) := ⟨_, rfl⟩
              rw [← e_f145] at hw
              have hf_rd : f145 rd = .inr (5, [.int f2_137, .int p2_138, .ref tp, .ref mo, .int ot_, .int k2_139, .int a2_140, .int n2_141, .int z2_142]) := (congrFun e_f145 rd).trans (z_up_ne (z_tne hf_rd hf_mo (m := 5) (n := 2) rfl rfl (by decide)) hf_rd)
              have hf_tp : f145 tp = .inr (7, [.ref tb, .int tl]) := (congrFun e_f145 tp).trans (z_up_ne (z_tne hf_tp hf_mo (m := 7) (n := 2) rfl rfl (by decide)) hf_tp)
              have hf_tb : f145 tb = .inl (cy 0, 1600, .inl gt) := (congrFun e_f145 tb).trans (z_up_ne (z_tne hf_tb hf_mo (m := 12900) (n := 2) rfl rfl (by decide)) hf_tb)
              have hf_la : f145 la = .inl (cy 1, 5, .inl gl) := (congrFun e_f145 la).trans (z_up_ne (z_tne hf_la hf_mo (m := 140) (n := 2) rfl rfl (by decide)) hf_la)
              have hf_sa : f145 sa = .inl (cy 1, 4, .inl gs) := (congrFun e_f145 sa).trans (z_up_ne (z_tne hf_sa hf_mo (m := 132) (n := 2) rfl rfl (by decide)) hf_sa)
              have hf_mi : f145 mi = .inl (cy 1, 36, .inl gm) := (congrFun e_f145 mi).trans (z_up_ne (z_tne hf_mi hf_mo (m := 388) (n := 2) rfl rfl (by decide)) hf_mi)
              have hf_da : f145 da = .inl (cy 4, 13, .inr (.inr (.inr (.inr gd)))) := (congrFun e_f145 da).trans (z_up_ne (z_tne hf_da hf_mo (m := 206) (n := 2) rfl rfl (by decide)) hf_da)
              have hf_dq : f145 dq = .inr (0, [.int e1_126, .int e2_127, .int e3_128, .int e4_129, .int e5_130, .int e6_131, .int e7_132, .int e8_133]) := (congrFun e_f145 dq).trans (z_up_ne (z_tne hf_dq hf_mo (m := 0) (n := 2) rfl rfl (by decide)) hf_dq)
              have hf_mo : f145 mo = .inr (2, [.int w144, .int v1, .int v2, .int v3, .int v4, .int w5_125, .int v6, .ref la, .ref sa, .ref mi, .ref da]) := (congrFun e_f145 mo).trans z_up_self
              have hfr : ∀ b ∈ L, b ≠ rd → b ≠ mo → b ≠ la → b ≠ sa → b ≠ mi → b ≠ dq → f145 b = f b := fun b hb h0 h1 h2 h3 h4 h5 => (congrFun e_f145 b).trans (z_up_ne h1 (hfr b hb h0 h1 h2 h3 h4 h5))
              exact z_vret hx hb hr hlk (by decide) (by decide) hw (⟨hsub, hfr, f2_137, p2_138, k2_139, a2_140, n2_141, z2_142, ot_, w144, v1, v2, v3, v4, w5_125, v6, e1_126, e2_127, e3_128, e4_129, e5_130, e6_131, e7_132, e8_133, gl, gs, gm, hf_rd, hf_mo, hf_la, hf_sa, hf_mi, hf_dq, by omega, by omega, by omega, by omega, by omega, by omega, by omega, by omega, fun j => z_lw_mono (hgl j) (by omega), hgs, hgm⟩) dX5_readLine_154
            · skip
              refine z_if_eq (tgt := 116) hx hb (show (0 : Int32).toInt = 0 by decide) dX5_readLine_106 (by decide) (fun _ => ?_) (fun h => absurd h (by decide))
              refine lv_aload_n hx hb dX5_readLine_116 rfl (lv_at hl 0 rfl) ?_
              refine va_ldcS (index := 142) hx hb hown (hKK.2.2.1 23 (by decide)) dX5_readLine_117 ?_
              refine z_calliV (cells := 0) (slots := 0) (b := rd) (As := [.ref (adK 23)]) (rest := []) (ci := 5) (q0 := (RX5, TX5, 9)) ⟨hx, hb, hml, hown, hT⟩ (c_X5_sees l hm_rd hm_tp hm_tb hf_rd hf_tp hf_tb (by first | omega | decide | assumption) (by first | omega | decide | assumption) (by first | omega | decide | assumption)) (cwV 1 hT (z_goodV (fun _ h => h) kw_570 kw_572 kw_3 kw_89 kw_573) rfl rfl rfl (by decide +kernel) ⟨by decide, by decide⟩) z_mv hKK hK hw hA hm_rd hf_rd rfl rfl rfl hl.1 rfl (Nat.le_of_ble_eq_true rfl) dX5_readLine_119 ⟨by decide, by decide⟩ (fun r146 u H locs hp hw => ?_)
              obtain ⟨rfl, hp⟩ := hp
              have hw : z_H D vwCl (z_A L sz) s.heap L f85 H locs := hw
              rcases hp with ⟨rfl, h147⟩ | ⟨rfl, h147⟩
              · skip
                refine z_if_eq (tgt := 132) hx hb (show (1 : Int32).toInt = 1 by decide) dX5_readLine_122 (by decide) (fun h => absurd h (by decide)) (fun _ => ?_)
                refine lv_aload_n hx hb dX5_readLine_125 rfl (lv_at hl 0 rfl) ?_
                refine z_callvV (cells := 0) (slots := 0) (b := rd) (As := []) (rest := []) (ci := 5) (q0 := (RX5, TX5, 9)) ⟨hx, hb, hml, hown, hT⟩ (c_X5_readFog l hm_rd hm_tp hm_tb hm_mo hm_mi hf_rd hf_tp hf_tb hf_mo hf_mi (by first | omega | decide | assumption) (by first | omega | decide | assumption) (by first | omega | decide | assumption) (by first | omega | decide | assumption) hgm) (cwV 0 hT (z_goodV (fun _ h => h) kw_681 kw_683 kw_13 kw_89 kw_684) rfl rfl rfl (by decide +kernel) ⟨by decide, by decide⟩) z_mv hKK hK hw hA hm_rd hf_rd rfl rfl rfl hl.1 rfl (Nat.le_of_ble_eq_true rfl) dX5_readLine_126 ⟨by decide, by decide⟩ (fun u H locs hp hw => ?_)
                obtain ⟨L148, f149⟩ := u
                obtain ⟨hsb, hfm, f2_150, p2_151, k2_152, a2_153, n2_154, z2_155, w6_156, g2_157, ha_0, ha_1, ha_2, hp⟩ := hp
                have hsb : L = L148 := hsb
                subst hsb
                have hsb : ∀ b ∈ L, b ∈ L := fun _ h => h
                have hw : z_H D vwCl (z_A L sz) s.heap L f149 H locs := hw
                have hfr : ∀ b ∈ L, b ≠ rd → b ≠ mo → b ≠ la → b ≠ sa → b ≠ mi → b ≠ dq → f149 b = f b := fun b hb h0 h1 h2 h3 h4 h5 => (hfm b hb h0 h1 h4).trans (hfr b hb h0 h1 h2 h3 h4 h5)
                have hf_tp : f149 tp = .inr (7, [.ref tb, .int tl]) := (hfm tp hm_tp (z_tne hf_tp hf_rd (m := 7) (n := 5) rfl rfl (by decide)) (z_tne hf_tp hf_mo (m := 7) (n := 2) rfl rfl (by decide)) (z_tne hf_tp hf_mi (m := 7) (n := 388) rfl rfl (by decide))).trans hf_tp
                have hf_tb : f149 tb = .inl (cy 0, 1600, .inl gt) := (hfm tb hm_tb (z_tne hf_tb hf_rd (m := 12900) (n := 5) rfl rfl (by decide)) (z_tne hf_tb hf_mo (m := 12900) (n := 2) rfl rfl (by decide)) (z_tne hf_tb hf_mi (m := 12900) (n := 388) rfl rfl (by decide))).trans hf_tb
                have hf_la : f149 la = .inl (cy 1, 5, .inl gl) := (hfm la hm_la (z_tne hf_la hf_rd (m := 140) (n := 5) rfl rfl (by decide)) (z_tne hf_la hf_mo (m := 140) (n := 2) rfl rfl (by decide)) (z_tne hf_la hf_mi (m := 140) (n := 388) rfl rfl (by decide))).trans hf_la
                have hf_sa : f149 sa = .inl (cy 1, 4, .inl gs) := (hfm sa hm_sa (z_tne hf_sa hf_rd (m := 132) (n := 5) rfl rfl (by decide)) (z_tne hf_sa hf_mo (m := 132) (n := 2) rfl rfl (by decide)) (z_tne hf_sa hf_mi (m := 132) (n := 388) rfl rfl (by decide))).trans hf_sa
                have hf_da : f149 da = .inl (cy 4, 13, .inr (.inr (.inr (.inr gd)))) := (hfm da hm_da (z_tne hf_da hf_rd (m := 206) (n := 5) rfl rfl (by decide)) (z_tne hf_da hf_mo (m := 206) (n := 2) rfl rfl (by decide)) (z_tne hf_da hf_mi (m := 206) (n := 388) rfl rfl (by decide))).trans hf_da
                have hf_dq : f149 dq = .inr (0, [.int o1, .int o2, .int o3, .int o4, .int o5, .int o6, .int o7, .int o8]) := (hfm dq hm_dq (z_tne hf_dq hf_rd (m := 0) (n := 5) rfl rfl (by decide)) (z_tne hf_dq hf_mo (m := 0) (n := 2) rfl rfl (by decide)) (z_tne hf_dq hf_mi (m := 0) (n := 388) rfl rfl (by decide))).trans hf_dq
                have hf_rd : f149 rd = .inr (5, [.int f2_150, .int p2_151, .ref tp, .ref mo, .int ot_, .int k2_152, .int a2_153, .int n2_154, .int z2_155]) := ha_0
                have hf_mo : f149 mo = .inr (2, [.int v0, .int v1, .int v2, .int v3, .int v4, .int v5, .int w6_156, .ref la, .ref sa, .ref mi, .ref da]) := ha_1
                have hf_mi : f149 mi = .inl (cy 1, 36, .inl g2_157) := ha_2
                have hq158 := hp
                refine lv_goto (tgt := 137) hx hb dX5_readLine_129 (by decide) ?_
                refine lv_aload_n hx hb dX5_readLine_137 rfl (lv_at hl 0 rfl) ?_
                refine z_callvV (cells := 0) (slots := 0) (b := rd) (As := []) (rest := []) (ci := 5) (q0 := (RX5, TX5, 9)) ⟨hx, hb, hml, hown, hT⟩ (c_X5_takeSign l hm_rd hm_tp hm_tb hf_rd hf_tp hf_tb (by first | omega | decide | assumption) (by first | omega | decide | assumption)) (cwV 0 hT (z_goodV (fun _ h => h) kw_686 kw_688 kw_14 kw_89 kw_689) rfl rfl rfl (by decide +kernel) ⟨by decide, by decide⟩) z_mv hKK hK hw hA hm_rd hf_rd rfl rfl rfl hl.1 rfl (Nat.le_of_ble_eq_true rfl) dX5_readLine_138 ⟨by decide, by decide⟩ (fun u H locs hp hw => ?_)
                obtain ⟨L159, f160⟩ := u
                obtain ⟨hsb, hfm, f2_161, p2_162, k2_163, a2_164, n2_165, z2_166, ha_0, hp⟩ := hp
                have hsb : L = L159 := hsb
                subst hsb
                have hsb : ∀ b ∈ L, b ∈ L := fun _ h => h
                have hw : z_H D vwCl (z_A L sz) s.heap L f160 H locs := hw
                have hfr : ∀ b ∈ L, b ≠ rd → b ≠ mo → b ≠ la → b ≠ sa → b ≠ mi → b ≠ dq → f160 b = f b := fun b hb h0 h1 h2 h3 h4 h5 => (hfm b hb h0).trans (hfr b hb h0 h1 h2 h3 h4 h5)
                have hf_tp : f160 tp = .inr (7, [.ref tb, .int tl]) := (hfm tp hm_tp (z_tne hf_tp hf_rd (m := 7) (n := 5) rfl rfl (by decide))).trans hf_tp
                have hf_tb : f160 tb = .inl (cy 0, 1600, .inl gt) := (hfm tb hm_tb (z_tne hf_tb hf_rd (m := 12900) (n := 5) rfl rfl (by decide))).trans hf_tb
                have hf_mo : f160 mo = .inr (2, [.int v0, .int v1, .int v2, .int v3, .int v4, .int v5, .int w6_156, .ref la, .ref sa, .ref mi, .ref da]) := (hfm mo hm_mo (z_tne hf_mo hf_rd (m := 2) (n := 5) rfl rfl (by decide))).trans hf_mo
                have hf_la : f160 la = .inl (cy 1, 5, .inl gl) := (hfm la hm_la (z_tne hf_la hf_rd (m := 140) (n := 5) rfl rfl (by decide))).trans hf_la
                have hf_sa : f160 sa = .inl (cy 1, 4, .inl gs) := (hfm sa hm_sa (z_tne hf_sa hf_rd (m := 132) (n := 5) rfl rfl (by decide))).trans hf_sa
                have hf_mi : f160 mi = .inl (cy 1, 36, .inl g2_157) := (hfm mi hm_mi (z_tne hf_mi hf_rd (m := 388) (n := 5) rfl rfl (by decide))).trans hf_mi
                have hf_da : f160 da = .inl (cy 4, 13, .inr (.inr (.inr (.inr gd)))) := (hfm da hm_da (z_tne hf_da hf_rd (m := 206) (n := 5) rfl rfl (by decide))).trans hf_da
                have hf_dq : f160 dq = .inr (0, [.int o1, .int o2, .int o3, .int o4, .int o5, .int o6, .int o7, .int o8]) := (hfm dq hm_dq (z_tne hf_dq hf_rd (m := 0) (n := 5) rfl rfl (by decide))).trans hf_dq
                have hf_rd : f160 rd = .inr (5, [.int f2_161, .int p2_162, .ref tp, .ref mo, .int ot_, .int k2_163, .int a2_164, .int n2_165, .int z2_166]) := ha_0
                have hq167 := hp
                refine lv_aload_n hx hb dX5_readLine_141 rfl (lv_at hl 0 rfl) ?_
                refine z_get (C := RX5) (T := TX5) (N := 9) (ci := 5) (v := .ref mo) hx hb hT zin_X5 hown hK hw hm_rd hf_rd rfl 3 (by decide) (hT _ kw_282) rfl dX5_readLine_142 ?_
                refine lv_dup hx hb dX5_readLine_145 rfl ?_
                refine z_get (C := RX2) (T := TX2) (N := 11) (ci := 2) (v := .int v0) hx hb hT zin_X2 hown hK hw hm_mo hf_mo rfl 0 (by decide) (hT _ kw_206) rfl dX5_readLine_146 ?_
                refine lv_iconst (v := 1) hx hb dX5_readLine_149 (by decide) ?_
                refine lv_iadd hx hb dX5_readLine_150 ?_
                refine lv_topi (fun w168 e_w168 => ?_)
                refine z_put (C := RX2) (T := TX2) (N := 11) (ci := 2) (v := .int w168) (fs' := [.int w168, .int v1, .int v2, .int v3, .int v4, .int v5, .int w6_156, .ref la, .ref sa, .ref mi, .ref da]) hx hb hT zin_X2 tyX2_ok nmX2 hown hK hw hm_mo hf_mo rfl 0 (by decide) (hT _ kw_206) rfl rfl rfl (Nat.le_of_ble_eq_true rfl) rfl dX5_readLine_151 (fun H locs hw => ?_)
                obtain ⟨f169, e_f169⟩ : ∃ z, z = va_up f160 mo (.inr (2, [.int w168, .int v1, .int v2, .int v3, .int v4, .int v5, .int w6_156, .ref la, .ref sa, .ref mi, .ref da])) := ⟨_, rfl⟩
                rw [← e_f169] at hw
                have hf_rd : f169 rd = .inr (5, [.int f2_161, .int p2_162, .ref tp, .ref mo, .int ot_, .int k2_163, .int a2_164, .int n2_165, .int z2_166]) := (congrFun e_f169 rd).trans (z_up_ne (z_tne hf_rd hf_mo (m := 5) (n := 2) rfl rfl (by decide)) hf_rd)
                have hf_tp : f169 tp = .inr (7, [.ref tb, .int tl]) := (congrFun e_f169 tp).trans (z_up_ne (z_tne hf_tp hf_mo (m := 7) (n := 2) rfl rfl (by decide)) hf_tp)
                have hf_tb : f169 tb = .inl (cy 0, 1600, .inl gt) := (congrFun e_f169 tb).trans (z_up_ne (z_tne hf_tb hf_mo (m := 12900) (n := 2) rfl rfl (by decide)) hf_tb)
                have hf_la : f169 la = .inl (cy 1, 5, .inl gl) := (congrFun e_f169 la).trans (z_up_ne (z_tne hf_la hf_mo (m := 140) (n := 2) rfl rfl (by decide)) hf_la)
                have hf_sa : f169 sa = .inl (cy 1, 4, .inl gs) := (congrFun e_f169 sa).trans (z_up_ne (z_tne hf_sa hf_mo (m := 132) (n := 2) rfl rfl (by decide)) hf_sa)
                have hf_mi : f169 mi = .inl (cy 1, 36, .inl g2_157) := (congrFun e_f169 mi).trans (z_up_ne (z_tne hf_mi hf_mo (m := 388) (n := 2) rfl rfl (by decide)) hf_mi)
                have hf_da : f169 da = .inl (cy 4, 13, .inr (.inr (.inr (.inr gd)))) := (congrFun e_f169 da).trans (z_up_ne (z_tne hf_da hf_mo (m := 206) (n := 2) rfl rfl (by decide)) hf_da)
                have hf_dq : f169 dq = .inr (0, [.int o1, .int o2, .int o3, .int o4, .int o5, .int o6, .int o7, .int o8]) := (congrFun e_f169 dq).trans (z_up_ne (z_tne hf_dq hf_mo (m := 0) (n := 2) rfl rfl (by decide)) hf_dq)
                have hf_mo : f169 mo = .inr (2, [.int w168, .int v1, .int v2, .int v3, .int v4, .int v5, .int w6_156, .ref la, .ref sa, .ref mi, .ref da]) := (congrFun e_f169 mo).trans z_up_self
                have hfr : ∀ b ∈ L, b ≠ rd → b ≠ mo → b ≠ la → b ≠ sa → b ≠ mi → b ≠ dq → f169 b = f b := fun b hb h0 h1 h2 h3 h4 h5 => (congrFun e_f169 b).trans (z_up_ne h1 (hfr b hb h0 h1 h2 h3 h4 h5))
                exact z_vret hx hb hr hlk (by decide) (by decide) hw (⟨hsub, hfr, f2_161, p2_162, k2_163, a2_164, n2_165, z2_166, ot_, w168, v1, v2, v3, v4, v5, w6_156, o1, o2, o3, o4, o5, o6, o7, o8, gl, gs, g2_157, hf_rd, hf_mo, hf_la, hf_sa, hf_mi, hf_dq, by omega, by omega, by omega, by omega, by omega, by omega, by omega, by omega, fun j => z_lw_mono (hgl j) (by omega), hgs, hq158.2.2.2⟩) dX5_readLine_154
              · skip
                refine z_if_eq (tgt := 132) hx hb (show (0 : Int32).toInt = 0 by decide) dX5_readLine_122 (by decide) (fun _ => ?_) (fun h => absurd h (by decide))
                refine lv_aload_n hx hb dX5_readLine_132 rfl (lv_at hl 0 rfl) ?_
                refine lv_iconst (v := 1) hx hb dX5_readLine_133 (by decide) ?_
                have hz170 := (show (1 : Int32).toInt = 1 by decide)
                refine z_callvV (cells := 0) (slots := 0) (b := rd) (As := [.int 1]) (rest := []) (ci := 5) (q0 := (RX5, TX5, 9)) ⟨hx, hb, hml, hown, hT⟩ (c_X5_refuse l hm_rd hf_rd (by first | omega | decide | assumption)) (cwV 1 hT (z_goodV (fun _ h => h) kw_622 kw_624 kw_4 kw_89 kw_625) rfl rfl rfl (by decide +kernel) ⟨by decide, by decide⟩) z_mv hKK hK hw hA hm_rd hf_rd rfl rfl rfl hl.1 rfl (Nat.le_of_ble_eq_true rfl) dX5_readLine_134 ⟨by decide, by decide⟩ (fun u H locs hp hw => ?_)
                obtain ⟨L171, f172⟩ := u
                obtain ⟨hsb, hfm, f2_173, p2_174, ha_0, hp⟩ := hp
                have hsb : L = L171 := hsb
                subst hsb
                have hsb : ∀ b ∈ L, b ∈ L := fun _ h => h
                have hw : z_H D vwCl (z_A L sz) s.heap L f172 H locs := hw
                have hfr : ∀ b ∈ L, b ≠ rd → b ≠ mo → b ≠ la → b ≠ sa → b ≠ mi → b ≠ dq → f172 b = f b := fun b hb h0 h1 h2 h3 h4 h5 => (hfm b hb h0).trans (hfr b hb h0 h1 h2 h3 h4 h5)
                have hf_tp : f172 tp = .inr (7, [.ref tb, .int tl]) := (hfm tp hm_tp (z_tne hf_tp hf_rd (m := 7) (n := 5) rfl rfl (by decide))).trans hf_tp
                have hf_tb : f172 tb = .inl (cy 0, 1600, .inl gt) := (hfm tb hm_tb (z_tne hf_tb hf_rd (m := 12900) (n := 5) rfl rfl (by decide))).trans hf_tb
                have hf_mo : f172 mo = .inr (2, [.int v0, .int v1, .int v2, .int v3, .int v4, .int v5, .int v6, .ref la, .ref sa, .ref mi, .ref da]) := (hfm mo hm_mo (z_tne hf_mo hf_rd (m := 2) (n := 5) rfl rfl (by decide))).trans hf_mo
                have hf_la : f172 la = .inl (cy 1, 5, .inl gl) := (hfm la hm_la (z_tne hf_la hf_rd (m := 140) (n := 5) rfl rfl (by decide))).trans hf_la
                have hf_sa : f172 sa = .inl (cy 1, 4, .inl gs) := (hfm sa hm_sa (z_tne hf_sa hf_rd (m := 132) (n := 5) rfl rfl (by decide))).trans hf_sa
                have hf_mi : f172 mi = .inl (cy 1, 36, .inl gm) := (hfm mi hm_mi (z_tne hf_mi hf_rd (m := 388) (n := 5) rfl rfl (by decide))).trans hf_mi
                have hf_da : f172 da = .inl (cy 4, 13, .inr (.inr (.inr (.inr gd)))) := (hfm da hm_da (z_tne hf_da hf_rd (m := 206) (n := 5) rfl rfl (by decide))).trans hf_da
                have hf_dq : f172 dq = .inr (0, [.int o1, .int o2, .int o3, .int o4, .int o5, .int o6, .int o7, .int o8]) := (hfm dq hm_dq (z_tne hf_dq hf_rd (m := 0) (n := 5) rfl rfl (by decide))).trans hf_dq
                have hf_rd : f172 rd = .inr (5, [.int f2_173, .int p2_174, .ref tp, .ref mo, .int ot_, .int k2_86, .int a2_87, .int n2_88, .int z2_89]) := ha_0
                have hq175 := hp
                refine lv_aload_n hx hb dX5_readLine_137 rfl (lv_at hl 0 rfl) ?_
                refine z_callvV (cells := 0) (slots := 0) (b := rd) (As := []) (rest := []) (ci := 5) (q0 := (RX5, TX5, 9)) ⟨hx, hb, hml, hown, hT⟩ (c_X5_takeSign l hm_rd hm_tp hm_tb hf_rd hf_tp hf_tb (by first | omega | decide | assumption) (by first | omega | decide | assumption)) (cwV 0 hT (z_goodV (fun _ h => h) kw_686 kw_688 kw_14 kw_89 kw_689) rfl rfl rfl (by decide +kernel) ⟨by decide, by decide⟩) z_mv hKK hK hw hA hm_rd hf_rd rfl rfl rfl hl.1 rfl (Nat.le_of_ble_eq_true rfl) dX5_readLine_138 ⟨by decide, by decide⟩ (fun u H locs hp hw => ?_)
                obtain ⟨L176, f177⟩ := u
                obtain ⟨hsb, hfm, f2_178, p2_179, k2_180, a2_181, n2_182, z2_183, ha_0, hp⟩ := hp
                have hsb : L = L176 := hsb
                subst hsb
                have hsb : ∀ b ∈ L, b ∈ L := fun _ h => h
                have hw : z_H D vwCl (z_A L sz) s.heap L f177 H locs := hw
                have hfr : ∀ b ∈ L, b ≠ rd → b ≠ mo → b ≠ la → b ≠ sa → b ≠ mi → b ≠ dq → f177 b = f b := fun b hb h0 h1 h2 h3 h4 h5 => (hfm b hb h0).trans (hfr b hb h0 h1 h2 h3 h4 h5)
                have hf_tp : f177 tp = .inr (7, [.ref tb, .int tl]) := (hfm tp hm_tp (z_tne hf_tp hf_rd (m := 7) (n := 5) rfl rfl (by decide))).trans hf_tp
                have hf_tb : f177 tb = .inl (cy 0, 1600, .inl gt) := (hfm tb hm_tb (z_tne hf_tb hf_rd (m := 12900) (n := 5) rfl rfl (by decide))).trans hf_tb
                have hf_mo : f177 mo = .inr (2, [.int v0, .int v1, .int v2, .int v3, .int v4, .int v5, .int v6, .ref la, .ref sa, .ref mi, .ref da]) := (hfm mo hm_mo (z_tne hf_mo hf_rd (m := 2) (n := 5) rfl rfl (by decide))).trans hf_mo
                have hf_la : f177 la = .inl (cy 1, 5, .inl gl) := (hfm la hm_la (z_tne hf_la hf_rd (m := 140) (n := 5) rfl rfl (by decide))).trans hf_la
                have hf_sa : f177 sa = .inl (cy 1, 4, .inl gs) := (hfm sa hm_sa (z_tne hf_sa hf_rd (m := 132) (n := 5) rfl rfl (by decide))).trans hf_sa
                have hf_mi : f177 mi = .inl (cy 1, 36, .inl gm) := (hfm mi hm_mi (z_tne hf_mi hf_rd (m := 388) (n := 5) rfl rfl (by decide))).trans hf_mi
                have hf_da : f177 da = .inl (cy 4, 13, .inr (.inr (.inr (.inr gd)))) := (hfm da hm_da (z_tne hf_da hf_rd (m := 206) (n := 5) rfl rfl (by decide))).trans hf_da
                have hf_dq : f177 dq = .inr (0, [.int o1, .int o2, .int o3, .int o4, .int o5, .int o6, .int o7, .int o8]) := (hfm dq hm_dq (z_tne hf_dq hf_rd (m := 0) (n := 5) rfl rfl (by decide))).trans hf_dq
                have hf_rd : f177 rd = .inr (5, [.int f2_178, .int p2_179, .ref tp, .ref mo, .int ot_, .int k2_180, .int a2_181, .int n2_182, .int z2_183]) := ha_0
                have hq184 := hp
                refine lv_aload_n hx hb dX5_readLine_141 rfl (lv_at hl 0 rfl) ?_
                refine z_get (C := RX5) (T := TX5) (N := 9) (ci := 5) (v := .ref mo) hx hb hT zin_X5 hown hK hw hm_rd hf_rd rfl 3 (by decide) (hT _ kw_282) rfl dX5_readLine_142 ?_
                refine lv_dup hx hb dX5_readLine_145 rfl ?_
                refine z_get (C := RX2) (T := TX2) (N := 11) (ci := 2) (v := .int v0) hx hb hT zin_X2 hown hK hw hm_mo hf_mo rfl 0 (by decide) (hT _ kw_206) rfl dX5_readLine_146 ?_
                refine lv_iconst (v := 1) hx hb dX5_readLine_149 (by decide) ?_
                refine lv_iadd hx hb dX5_readLine_150 ?_
                refine lv_topi (fun w185 e_w185 => ?_)
                refine z_put (C := RX2) (T := TX2) (N := 11) (ci := 2) (v := .int w185) (fs' := [.int w185, .int v1, .int v2, .int v3, .int v4, .int v5, .int v6, .ref la, .ref sa, .ref mi, .ref da]) hx hb hT zin_X2 tyX2_ok nmX2 hown hK hw hm_mo hf_mo rfl 0 (by decide) (hT _ kw_206) rfl rfl rfl (Nat.le_of_ble_eq_true rfl) rfl dX5_readLine_151 (fun H locs hw => ?_)
                obtain ⟨f186, e_f186⟩ : ∃ z, z = va_up f177 mo (.inr (2, [.int w185, .int v1, .int v2, .int v3, .int v4, .int v5, .int v6, .ref la, .ref sa, .ref mi, .ref da])) := ⟨_, rfl⟩
                rw [← e_f186] at hw
                have hf_rd : f186 rd = .inr (5, [.int f2_178, .int p2_179, .ref tp, .ref mo, .int ot_, .int k2_180, .int a2_181, .int n2_182, .int z2_183]) := (congrFun e_f186 rd).trans (z_up_ne (z_tne hf_rd hf_mo (m := 5) (n := 2) rfl rfl (by decide)) hf_rd)
                have hf_tp : f186 tp = .inr (7, [.ref tb, .int tl]) := (congrFun e_f186 tp).trans (z_up_ne (z_tne hf_tp hf_mo (m := 7) (n := 2) rfl rfl (by decide)) hf_tp)
                have hf_tb : f186 tb = .inl (cy 0, 1600, .inl gt) := (congrFun e_f186 tb).trans (z_up_ne (z_tne hf_tb hf_mo (m := 12900) (n := 2) rfl rfl (by decide)) hf_tb)
                have hf_la : f186 la = .inl (cy 1, 5, .inl gl) := (congrFun e_f186 la).trans (z_up_ne (z_tne hf_la hf_mo (m := 140) (n := 2) rfl rfl (by decide)) hf_la)
                have hf_sa : f186 sa = .inl (cy 1, 4, .inl gs) := (congrFun e_f186 sa).trans (z_up_ne (z_tne hf_sa hf_mo (m := 132) (n := 2) rfl rfl (by decide)) hf_sa)
                have hf_mi : f186 mi = .inl (cy 1, 36, .inl gm) := (congrFun e_f186 mi).trans (z_up_ne (z_tne hf_mi hf_mo (m := 388) (n := 2) rfl rfl (by decide)) hf_mi)
                have hf_da : f186 da = .inl (cy 4, 13, .inr (.inr (.inr (.inr gd)))) := (congrFun e_f186 da).trans (z_up_ne (z_tne hf_da hf_mo (m := 206) (n := 2) rfl rfl (by decide)) hf_da)
                have hf_dq : f186 dq = .inr (0, [.int o1, .int o2, .int o3, .int o4, .int o5, .int o6, .int o7, .int o8]) := (congrFun e_f186 dq).trans (z_up_ne (z_tne hf_dq hf_mo (m := 0) (n := 2) rfl rfl (by decide)) hf_dq)
                have hf_mo : f186 mo = .inr (2, [.int w185, .int v1, .int v2, .int v3, .int v4, .int v5, .int v6, .ref la, .ref sa, .ref mi, .ref da]) := (congrFun e_f186 mo).trans z_up_self
                have hfr : ∀ b ∈ L, b ≠ rd → b ≠ mo → b ≠ la → b ≠ sa → b ≠ mi → b ≠ dq → f186 b = f b := fun b hb h0 h1 h2 h3 h4 h5 => (congrFun e_f186 b).trans (z_up_ne h1 (hfr b hb h0 h1 h2 h3 h4 h5))
                exact z_vret hx hb hr hlk (by decide) (by decide) hw (⟨hsub, hfr, f2_178, p2_179, k2_180, a2_181, n2_182, z2_183, ot_, w185, v1, v2, v3, v4, v5, v6, o1, o2, o3, o4, o5, o6, o7, o8, gl, gs, gm, hf_rd, hf_mo, hf_la, hf_sa, hf_mi, hf_dq, by omega, by omega, by omega, by omega, by omega, by omega, by omega, by omega, fun j => z_lw_mono (hgl j) (by omega), hgs, hgm⟩) dX5_readLine_154
  · skip
    refine lv_aload_n hx hb dX5_readLine_10 rfl (lv_at hl 0 rfl) ?_
    refine z_callvV (cells := 0) (slots := 0) (b := rd) (As := []) (rest := []) (ci := 5) (q0 := (RX5, TX5, 9)) ⟨hx, hb, hml, hown, hT⟩ (c_X5_readMoor l hm_rd hm_tp hm_tb hm_mo hm_la hf_rd hf_tp hf_tb hf_mo hf_la (by first | omega | decide | assumption) (by first | omega | decide | assumption) hgl) (cwV 0 hT (z_goodV (fun _ h => h) kw_561 kw_563 kw_1 kw_89 kw_564) rfl rfl rfl (by decide +kernel) ⟨by decide, by decide⟩) z_mv hKK hK hw hA hm_rd hf_rd rfl rfl rfl hl.1 rfl (Nat.le_of_ble_eq_true rfl) dX5_readLine_11 ⟨by decide, by decide⟩ (fun u H locs hp hw => ?_)
    obtain ⟨L187, f188⟩ := u
    obtain ⟨hsb, hfm, f2_189, p2_190, k2_191, a2_192, n2_193, z2_194, w1_195, w2_196, g2_197, ha_0, ha_1, ha_2, hp⟩ := hp
    have hsb : L = L187 := hsb
    subst hsb
    have hsb : ∀ b ∈ L, b ∈ L := fun _ h => h
    have hw : z_H D vwCl (z_A L sz) s.heap L f188 H locs := hw
    have hfr : ∀ b ∈ L, b ≠ rd → b ≠ mo → b ≠ la → b ≠ sa → b ≠ mi → b ≠ dq → f188 b = f b := fun b hb h0 h1 h2 h3 h4 h5 => (hfm b hb h0 h1 h2).trans (hfr b hb h0 h1 h2 h3 h4 h5)
    have hf_tp : f188 tp = .inr (7, [.ref tb, .int tl]) := (hfm tp hm_tp (z_tne hf_tp hf_rd (m := 7) (n := 5) rfl rfl (by decide)) (z_tne hf_tp hf_mo (m := 7) (n := 2) rfl rfl (by decide)) (z_tne hf_tp hf_la (m := 7) (n := 140) rfl rfl (by decide))).trans hf_tp
    have hf_tb : f188 tb = .inl (cy 0, 1600, .inl gt) := (hfm tb hm_tb (z_tne hf_tb hf_rd (m := 12900) (n := 5) rfl rfl (by decide)) (z_tne hf_tb hf_mo (m := 12900) (n := 2) rfl rfl (by decide)) (z_tne hf_tb hf_la (m := 12900) (n := 140) rfl rfl (by decide))).trans hf_tb
    have hf_sa : f188 sa = .inl (cy 1, 4, .inl gs) := (hfm sa hm_sa (z_tne hf_sa hf_rd (m := 132) (n := 5) rfl rfl (by decide)) (z_tne hf_sa hf_mo (m := 132) (n := 2) rfl rfl (by decide)) (z_tne hf_sa hf_la (m := 132) (n := 140) rfl rfl (by decide))).trans hf_sa
    have hf_mi : f188 mi = .inl (cy 1, 36, .inl gm) := (hfm mi hm_mi (z_tne hf_mi hf_rd (m := 388) (n := 5) rfl rfl (by decide)) (z_tne hf_mi hf_mo (m := 388) (n := 2) rfl rfl (by decide)) (z_tne hf_mi hf_la (m := 388) (n := 140) rfl rfl (by decide))).trans hf_mi
    have hf_da : f188 da = .inl (cy 4, 13, .inr (.inr (.inr (.inr gd)))) := (hfm da hm_da (z_tne hf_da hf_rd (m := 206) (n := 5) rfl rfl (by decide)) (z_tne hf_da hf_mo (m := 206) (n := 2) rfl rfl (by decide)) (z_tne hf_da hf_la (m := 206) (n := 140) rfl rfl (by decide))).trans hf_da
    have hf_dq : f188 dq = .inr (0, [.int o1, .int o2, .int o3, .int o4, .int o5, .int o6, .int o7, .int o8]) := (hfm dq hm_dq (z_tne hf_dq hf_rd (m := 0) (n := 5) rfl rfl (by decide)) (z_tne hf_dq hf_mo (m := 0) (n := 2) rfl rfl (by decide)) (z_tne hf_dq hf_la (m := 0) (n := 140) rfl rfl (by decide))).trans hf_dq
    have hf_rd : f188 rd = .inr (5, [.int f2_189, .int p2_190, .ref tp, .ref mo, .int ot_, .int k2_191, .int a2_192, .int n2_193, .int z2_194]) := ha_0
    have hf_mo : f188 mo = .inr (2, [.int v0, .int w1_195, .int w2_196, .int 1, .int v4, .int v5, .int v6, .ref la, .ref sa, .ref mi, .ref da]) := ha_1
    have hf_la : f188 la = .inl (cy 1, 5, .inl g2_197) := ha_2
    have hq198 := hp
    refine lv_goto (tgt := 137) hx hb dX5_readLine_14 (by decide) ?_
    refine lv_aload_n hx hb dX5_readLine_137 rfl (lv_at hl 0 rfl) ?_
    refine z_callvV (cells := 0) (slots := 0) (b := rd) (As := []) (rest := []) (ci := 5) (q0 := (RX5, TX5, 9)) ⟨hx, hb, hml, hown, hT⟩ (c_X5_takeSign l hm_rd hm_tp hm_tb hf_rd hf_tp hf_tb (by first | omega | decide | assumption) (by first | omega | decide | assumption)) (cwV 0 hT (z_goodV (fun _ h => h) kw_686 kw_688 kw_14 kw_89 kw_689) rfl rfl rfl (by decide +kernel) ⟨by decide, by decide⟩) z_mv hKK hK hw hA hm_rd hf_rd rfl rfl rfl hl.1 rfl (Nat.le_of_ble_eq_true rfl) dX5_readLine_138 ⟨by decide, by decide⟩ (fun u H locs hp hw => ?_)
    obtain ⟨L199, f200⟩ := u
    obtain ⟨hsb, hfm, f2_201, p2_202, k2_203, a2_204, n2_205, z2_206, ha_0, hp⟩ := hp
    have hsb : L = L199 := hsb
    subst hsb
    have hsb : ∀ b ∈ L, b ∈ L := fun _ h => h
    have hw : z_H D vwCl (z_A L sz) s.heap L f200 H locs := hw
    have hfr : ∀ b ∈ L, b ≠ rd → b ≠ mo → b ≠ la → b ≠ sa → b ≠ mi → b ≠ dq → f200 b = f b := fun b hb h0 h1 h2 h3 h4 h5 => (hfm b hb h0).trans (hfr b hb h0 h1 h2 h3 h4 h5)
    have hf_tp : f200 tp = .inr (7, [.ref tb, .int tl]) := (hfm tp hm_tp (z_tne hf_tp hf_rd (m := 7) (n := 5) rfl rfl (by decide))).trans hf_tp
    have hf_tb : f200 tb = .inl (cy 0, 1600, .inl gt) := (hfm tb hm_tb (z_tne hf_tb hf_rd (m := 12900) (n := 5) rfl rfl (by decide))).trans hf_tb
    have hf_mo : f200 mo = .inr (2, [.int v0, .int w1_195, .int w2_196, .int 1, .int v4, .int v5, .int v6, .ref la, .ref sa, .ref mi, .ref da]) := (hfm mo hm_mo (z_tne hf_mo hf_rd (m := 2) (n := 5) rfl rfl (by decide))).trans hf_mo
    have hf_la : f200 la = .inl (cy 1, 5, .inl g2_197) := (hfm la hm_la (z_tne hf_la hf_rd (m := 140) (n := 5) rfl rfl (by decide))).trans hf_la
    have hf_sa : f200 sa = .inl (cy 1, 4, .inl gs) := (hfm sa hm_sa (z_tne hf_sa hf_rd (m := 132) (n := 5) rfl rfl (by decide))).trans hf_sa
    have hf_mi : f200 mi = .inl (cy 1, 36, .inl gm) := (hfm mi hm_mi (z_tne hf_mi hf_rd (m := 388) (n := 5) rfl rfl (by decide))).trans hf_mi
    have hf_da : f200 da = .inl (cy 4, 13, .inr (.inr (.inr (.inr gd)))) := (hfm da hm_da (z_tne hf_da hf_rd (m := 206) (n := 5) rfl rfl (by decide))).trans hf_da
    have hf_dq : f200 dq = .inr (0, [.int o1, .int o2, .int o3, .int o4, .int o5, .int o6, .int o7, .int o8]) := (hfm dq hm_dq (z_tne hf_dq hf_rd (m := 0) (n := 5) rfl rfl (by decide))).trans hf_dq
    have hf_rd : f200 rd = .inr (5, [.int f2_201, .int p2_202, .ref tp, .ref mo, .int ot_, .int k2_203, .int a2_204, .int n2_205, .int z2_206]) := ha_0
    have hq207 := hp
    refine lv_aload_n hx hb dX5_readLine_141 rfl (lv_at hl 0 rfl) ?_
    refine z_get (C := RX5) (T := TX5) (N := 9) (ci := 5) (v := .ref mo) hx hb hT zin_X5 hown hK hw hm_rd hf_rd rfl 3 (by decide) (hT _ kw_282) rfl dX5_readLine_142 ?_
    refine lv_dup hx hb dX5_readLine_145 rfl ?_
    refine z_get (C := RX2) (T := TX2) (N := 11) (ci := 2) (v := .int v0) hx hb hT zin_X2 hown hK hw hm_mo hf_mo rfl 0 (by decide) (hT _ kw_206) rfl dX5_readLine_146 ?_
    refine lv_iconst (v := 1) hx hb dX5_readLine_149 (by decide) ?_
    refine lv_iadd hx hb dX5_readLine_150 ?_
    refine lv_topi (fun w208 e_w208 => ?_)
    refine z_put (C := RX2) (T := TX2) (N := 11) (ci := 2) (v := .int w208) (fs' := [.int w208, .int w1_195, .int w2_196, .int 1, .int v4, .int v5, .int v6, .ref la, .ref sa, .ref mi, .ref da]) hx hb hT zin_X2 tyX2_ok nmX2 hown hK hw hm_mo hf_mo rfl 0 (by decide) (hT _ kw_206) rfl rfl rfl (Nat.le_of_ble_eq_true rfl) rfl dX5_readLine_151 (fun H locs hw => ?_)
    obtain ⟨f209, e_f209⟩ : ∃ z, z = va_up f200 mo (.inr (2, [.int w208, .int w1_195, .int w2_196, .int 1, .int v4, .int v5, .int v6, .ref la, .ref sa, .ref mi, .ref da])) := ⟨_, rfl⟩
    rw [← e_f209] at hw
    have hf_rd : f209 rd = .inr (5, [.int f2_201, .int p2_202, .ref tp, .ref mo, .int ot_, .int k2_203, .int a2_204, .int n2_205, .int z2_206]) := (congrFun e_f209 rd).trans (z_up_ne (z_tne hf_rd hf_mo (m := 5) (n := 2) rfl rfl (by decide)) hf_rd)
    have hf_tp : f209 tp = .inr (7, [.ref tb, .int tl]) := (congrFun e_f209 tp).trans (z_up_ne (z_tne hf_tp hf_mo (m := 7) (n := 2) rfl rfl (by decide)) hf_tp)
    have hf_tb : f209 tb = .inl (cy 0, 1600, .inl gt) := (congrFun e_f209 tb).trans (z_up_ne (z_tne hf_tb hf_mo (m := 12900) (n := 2) rfl rfl (by decide)) hf_tb)
    have hf_la : f209 la = .inl (cy 1, 5, .inl g2_197) := (congrFun e_f209 la).trans (z_up_ne (z_tne hf_la hf_mo (m := 140) (n := 2) rfl rfl (by decide)) hf_la)
    have hf_sa : f209 sa = .inl (cy 1, 4, .inl gs) := (congrFun e_f209 sa).trans (z_up_ne (z_tne hf_sa hf_mo (m := 132) (n := 2) rfl rfl (by decide)) hf_sa)
    have hf_mi : f209 mi = .inl (cy 1, 36, .inl gm) := (congrFun e_f209 mi).trans (z_up_ne (z_tne hf_mi hf_mo (m := 388) (n := 2) rfl rfl (by decide)) hf_mi)
    have hf_da : f209 da = .inl (cy 4, 13, .inr (.inr (.inr (.inr gd)))) := (congrFun e_f209 da).trans (z_up_ne (z_tne hf_da hf_mo (m := 206) (n := 2) rfl rfl (by decide)) hf_da)
    have hf_dq : f209 dq = .inr (0, [.int o1, .int o2, .int o3, .int o4, .int o5, .int o6, .int o7, .int o8]) := (congrFun e_f209 dq).trans (z_up_ne (z_tne hf_dq hf_mo (m := 0) (n := 2) rfl rfl (by decide)) hf_dq)
    have hf_mo : f209 mo = .inr (2, [.int w208, .int w1_195, .int w2_196, .int 1, .int v4, .int v5, .int v6, .ref la, .ref sa, .ref mi, .ref da]) := (congrFun e_f209 mo).trans z_up_self
    have hfr : ∀ b ∈ L, b ≠ rd → b ≠ mo → b ≠ la → b ≠ sa → b ≠ mi → b ≠ dq → f209 b = f b := fun b hb h0 h1 h2 h3 h4 h5 => (congrFun e_f209 b).trans (z_up_ne h1 (hfr b hb h0 h1 h2 h3 h4 h5))
    exact z_vret hx hb hr hlk (by decide) (by decide) hw (⟨hsub, hfr, f2_201, p2_202, k2_203, a2_204, n2_205, z2_206, ot_, w208, w1_195, w2_196, 1, v4, v5, v6, o1, o2, o3, o4, o5, o6, o7, o8, g2_197, gs, gm, hf_rd, hf_mo, hf_la, hf_sa, hf_mi, hf_dq, by omega, by omega, by omega, by omega, by omega, by omega, by omega, by omega, fun j => z_lw_mono (hq198.2.2.2.2.2.2 j) (by omega), hgs, hgm⟩) dX5_readLine_154
