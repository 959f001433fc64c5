set_option maxHeartbeats 2000000 in
set_option maxRecDepth 100000 in
theorem c_X5_readMoor (l : Launch) {D : va_G} {cy : Nat → ClassId} {L : List Nat} {f : Nat → va_E} {sz : Nat} {adK adV : Nat → Nat} {rd tp tb mo : Nat} {fa fp ot_ ki ra rn rv : Int32} {tl : Int32} {gt : Nat → Int32} {la sa mi da : Nat} {v0 v1 v2 v3 v4 v5 v6 : Int32} {gl : Nat → Int32} (hm_rd : rd ∈ L) (hm_tp : tp ∈ L) (hm_tb : tb ∈ L) (hm_mo : mo ∈ L) (hm_la : la ∈ L) (hf_rd : f rd = .inr (5, [.int fa, .int fp, .ref tp, .ref mo, .int ot_, .int ki, .int ra, .int rn, .int rv])) (hf_tp : f tp = .inr (7, [.ref tb, .int tl])) (hf_tb : f tb = .inl (cy 0, 1600, .inl gt)) (hf_mo : f mo = .inr (2, [.int v0, .int v1, .int v2, .int v3, .int v4, .int v5, .int v6, .ref la, .ref sa, .ref mi, .ref da])) (hf_la : f la = .inl (cy 1, 5, .inl gl)) (htl : 0 ≤ tl.toInt ∧ tl.toInt ≤ 1600) (hrr : (0 ≤ ra.toInt ∧ ra.toInt ≤ 1600) ∧ (0 ≤ rn.toInt ∧ rn.toInt ≤ 1600)) (hgl : ∀ j : Nat, z_lw fa (gl j)) : Met l yX5_readMoor (z_ws yX5_readMoor cX5_readMoor 1 none) (z_R 8 0 0) (va_Pc [.ref rd] (z_Pre D vwCl (z_KK D cy adK adV) L f sz)) (z_Qv D vwCl (fun u => L = u.1 ∧ (∀ b ∈ L, b ≠ rd → b ≠ mo → b ≠ la → u.2 b = f b) ∧ (∃ (f2 p2 k2 a2 n2 z2 w1 w2 : Int32) (g2 : Nat → Int32), (u.2 rd = .inr (5, [.int f2, .int p2, .ref tp, .ref mo, .int ot_, .int k2, .int a2, .int n2, .int z2])) ∧ (u.2 mo = .inr (2, [.int v0, .int w1, .int w2, .int 1, .int v4, .int v5, .int v6, .ref la, .ref sa, .ref mi, .ref da])) ∧ (u.2 la = .inl (cy 1, 5, .inl g2)) ∧ ((f2.toInt ≠ 0 ∨ fa.toInt = 0) ∧ (0 ≤ a2.toInt ∧ a2.toInt ≤ 1600) ∧ (0 ≤ n2.toInt ∧ n2.toInt ≤ 1600) ∧ (-1 ≤ w1.toInt ∧ w1.toInt ≤ 4) ∧ (-1 ≤ w2.toInt ∧ w2.toInt ≤ 9) ∧ (f2.toInt ≠ 0 ∨ (0 ≤ w1.toInt ∧ 0 ≤ w2.toInt)) ∧ ∀ j : Nat, z_lw f2 (g2 j)))) L sz) 0 0 (z_A L sz) := by
  refine z_met (cc := cX5_readMoor) (maxL := 1) (ret := none) (lv := [(0, .ref rd)]) (by decide) rfl (Nat.le_of_ble_eq_true rfl) rfl ?_
  intro p e s m below meth c ls hx hb hr hlk hml hown hnm hts hKK hA hw hl
  have hK := hKK.1.1
  have hown : s.vm.findClass RX5 = some m.cls := hown
  have hT : ∀ w ∈ lw_all, w.before ([.ref rd] : List Value).toArray s = true := fun w h => hts w (z_cons w h)
  have hsub : L = L := rfl
  have hfr : ∀ b ∈ L, b ≠ rd → b ≠ mo → b ≠ la → f b = f b := fun _ _ _ _ _ => rfl
  refine lv_aload_n hx hb dX5_readMoor_0 rfl (lv_at hl 0 rfl) ?_
  refine va_ldcS (index := 150) hx hb hown (hKK.2.2.1 0 (by decide)) dX5_readMoor_1 ?_
  refine z_callvV (cells := 0) (slots := 0) (b := rd) (As := [.ref (adK 0)]) (rest := []) (ci := 5) (q0 := (RX5, TX5, 9)) ⟨hx, hb, hml, hown, hT⟩ (c_X5_take l hm_rd hm_tp hm_tb hf_rd hf_tp hf_tb (by first | omega | decide | assumption) (by first | omega | decide | assumption) (by first | omega | decide | assumption)) (cwV 1 hT (z_goodV (fun _ h => h) kw_566 kw_568 kw_2 kw_89 kw_569) rfl rfl rfl (by decide +kernel) ⟨by decide, by decide⟩) z_mv hKK hK hw hA hm_rd hf_rd rfl rfl rfl hl.1 rfl (Nat.le_of_ble_eq_true rfl) dX5_readMoor_3 ⟨by decide, by decide⟩ (fun u H locs hp hw => ?_)
  obtain ⟨L1, f2⟩ := u
  obtain ⟨hsb, hfm, f2_3, p2_4, k2_5, a2_6, n2_7, z2_8, ha_0, hp⟩ := hp
  have hsb : L = L1 := hsb
  subst hsb
  have hsb : ∀ b ∈ L, b ∈ L := fun _ h => h
  have hw : z_H D vwCl (z_A L sz) s.heap L f2 H locs := hw
  have hfr : ∀ b ∈ L, b ≠ rd → b ≠ mo → b ≠ la → f2 b = f b := fun b hb h0 h1 h2 => (hfm b hb h0).trans (hfr b hb h0 h1 h2)
  have hf_tp : f2 tp = .inr (7, [.ref tb, .int tl]) := (hfm tp hm_tp (z_tne hf_tp hf_rd (m := 7) (n := 5) rfl rfl (by decide))).trans hf_tp
  have hf_tb : f2 tb = .inl (cy 0, 1600, .inl gt) := (hfm tb hm_tb (z_tne hf_tb hf_rd (m := 12900) (n := 5) rfl rfl (by decide))).trans hf_tb
  have hf_mo : f2 mo = .inr (2, [.int v0, .int v1, .int v2, .int v3, .int v4, .int v5, .int v6, .ref la, .ref sa, .ref mi, .ref da]) := (hfm mo hm_mo (z_tne hf_mo hf_rd (m := 2) (n := 5) rfl rfl (by decide))).trans hf_mo
  have hf_la : f2 la = .inl (cy 1, 5, .inl gl) := (hfm la hm_la (z_tne hf_la hf_rd (m := 140) (n := 5) rfl rfl (by decide))).trans hf_la
  have hf_rd : f2 rd = .inr (5, [.int f2_3, .int p2_4, .ref tp, .ref mo, .int ot_, .int k2_5, .int a2_6, .int n2_7, .int z2_8]) := ha_0
  have hq9 := hp
  refine lv_aload_n hx hb dX5_readMoor_6 rfl (lv_at hl 0 rfl) ?_
  refine z_get (C := RX5) (T := TX5) (N := 9) (ci := 5) (v := .ref mo) hx hb hT zin_X5 hown hK hw hm_rd hf_rd rfl 3 (by decide) (hT _ kw_282) rfl dX5_readMoor_7 ?_
  refine lv_aload_n hx hb dX5_readMoor_10 rfl (lv_at hl 0 rfl) ?_
  refine va_ldcS (index := 152) hx hb hown (hKK.2.2.1 1 (by decide)) dX5_readMoor_11 ?_
  refine lv_iconst (v := 1) hx hb dX5_readMoor_13 (by decide) ?_
  refine lv_iconst (v := 4) hx hb dX5_readMoor_14 (by decide) ?_
  have hz10 := (show (1 : Int32).toInt = 1 by decide)
  have hz11 := (show (4 : Int32).toInt = 4 by decide)
  refine z_calliV (cells := 0) (slots := 0) (b := rd) (As := [.ref (adK 1), .int 1, .int 4]) (rest := [.ref mo]) (ci := 5) (q0 := (RX5, TX5, 9)) ⟨hx, hb, hml, hown, hT⟩ (c_X5_takeNamed l hm_rd hm_tp hm_tb hf_rd hf_tp hf_tb (by first | omega | decide | assumption) (by first | omega | decide | assumption) (by first | omega | decide | assumption)) (cwV 3 hT (z_goodV (fun _ h => h) kw_627 kw_629 kw_5 kw_89 kw_630) rfl rfl rfl (by decide +kernel) ⟨by decide, by decide⟩) z_mv hKK hK hw hA hm_rd hf_rd rfl rfl rfl hl.1 rfl (Nat.le_of_ble_eq_true rfl) dX5_readMoor_15 ⟨by decide, by decide⟩ (fun r12 u H locs hp hw => ?_)
  obtain ⟨L13, f14⟩ := u
  obtain ⟨hsb, hfm, f2_15, p2_16, k2_17, a2_18, n2_19, z2_20, ha_0, hp⟩ := hp
  have hsb : L = L13 := hsb
  subst hsb
  have hsb : ∀ b ∈ L, b ∈ L := fun _ h => h
  have hw : z_H D vwCl (z_A L sz) s.heap L f14 H locs := hw
  have hfr : ∀ b ∈ L, b ≠ rd → b ≠ mo → b ≠ la → f14 b = f b := fun b hb h0 h1 h2 => (hfm b hb h0).trans (hfr b hb h0 h1 h2)
  have hf_tp : f14 tp = .inr (7, [.ref tb, .int tl]) := (hfm tp hm_tp (z_tne hf_tp hf_rd (m := 7) (n := 5) rfl rfl (by decide))).trans hf_tp
  have hf_tb : f14 tb = .inl (cy 0, 1600, .inl gt) := (hfm tb hm_tb (z_tne hf_tb hf_rd (m := 12900) (n := 5) rfl rfl (by decide))).trans hf_tb
  have hf_mo : f14 mo = .inr (2, [.int v0, .int v1, .int v2, .int v3, .int v4, .int v5, .int v6, .ref la, .ref sa, .ref mi, .ref da]) := (hfm mo hm_mo (z_tne hf_mo hf_rd (m := 2) (n := 5) rfl rfl (by decide))).trans hf_mo
  have hf_la : f14 la = .inl (cy 1, 5, .inl gl) := (hfm la hm_la (z_tne hf_la hf_rd (m := 140) (n := 5) rfl rfl (by decide))).trans hf_la
  have hf_rd : f14 rd = .inr (5, [.int f2_15, .int p2_16, .ref tp, .ref mo, .int ot_, .int k2_17, .int a2_18, .int n2_19, .int z2_20]) := ha_0
  have hq21 := hp
  refine z_put (C := RX2) (T := TX2) (N := 11) (ci := 2) (v := .int r12) (fs' := [.int v0, .int r12, .int v2, .int v3, .int v4, .int v5, .int v6, .ref la, .ref sa, .ref mi, .ref da]) hx hb hT zin_X2 tyX2_ok nmX2 hown hK hw hm_mo hf_mo rfl 1 (by decide) (hT _ kw_209) rfl rfl rfl (Nat.le_of_ble_eq_true rfl) rfl dX5_readMoor_18 (fun H locs hw => ?_)
  obtain ⟨f22, e_f22⟩ : ∃ z, z = va_up f14 mo (.inr (2, [.int v0, .int r12, .int v2, .int v3, .int v4, .int v5, .int v6, .ref la, .ref sa, .ref mi, .ref da])) := ⟨_, rfl⟩
  rw [← e_f22] at hw
  have hf_rd : f22 rd = .inr (5, [.int f2_15, .int p2_16, .ref tp, .ref mo, .int ot_, .int k2_17, .int a2_18, .int n2_19, .int z2_20]) := (congrFun e_f22 rd).trans (z_up_ne (z_tne hf_rd hf_mo (m := 5) (n := 2) rfl rfl (by decide)) hf_rd)
  have hf_tp : f22 tp = .inr (7, [.ref tb, .int tl]) := (congrFun e_f22 tp).trans (z_up_ne (z_tne hf_tp hf_mo (m := 7) (n := 2) rfl rfl (by decide)) hf_tp)
  have hf_tb : f22 tb = .inl (cy 0, 1600, .inl gt) := (congrFun e_f22 tb).trans (z_up_ne (z_tne hf_tb hf_mo (m := 12900) (n := 2) rfl rfl (by decide)) hf_tb)
  have hf_la : f22 la = .inl (cy 1, 5, .inl gl) := (congrFun e_f22 la).trans (z_up_ne (z_tne hf_la hf_mo (m := 140) (n := 2) rfl rfl (by decide)) hf_la)
  have hf_mo : f22 mo = .inr (2, [.int v0, .int r12, .int v2, .int v3, .int v4, .int v5, .int v6, .ref la, .ref sa, .ref mi, .ref da]) := (congrFun e_f22 mo).trans z_up_self
  have hfr : ∀ b ∈ L, b ≠ rd → b ≠ mo → b ≠ la → f22 b = f b := fun b hb h0 h1 h2 => (congrFun e_f22 b).trans (z_up_ne h1 (hfr b hb h0 h1 h2))
  refine lv_aload_n hx hb dX5_readMoor_21 rfl (lv_at hl 0 rfl) ?_
  refine z_get (C := RX5) (T := TX5) (N := 9) (ci := 5) (v := .ref mo) hx hb hT zin_X5 hown hK hw hm_rd hf_rd rfl 3 (by decide) (hT _ kw_282) rfl dX5_readMoor_22 ?_
  refine lv_aload_n hx hb dX5_readMoor_25 rfl (lv_at hl 0 rfl) ?_
  refine va_ldcS (index := 156) hx hb hown (hKK.2.2.1 2 (by decide)) dX5_readMoor_26 ?_
  refine lv_iconst (v := 1) hx hb dX5_readMoor_28 (by decide) ?_
  refine lv_bipush (v := 9) hx hb dX5_readMoor_29 (by decide) ?_
  have hz23 := (show (1 : Int32).toInt = 1 by decide)
  have hz24 := (show (9 : Int32).toInt = 9 by decide)
  refine z_calliV (cells := 0) (slots := 0) (b := rd) (As := [.ref (adK 2), .int 1, .int 9]) (rest := [.ref mo]) (ci := 5) (q0 := (RX5, TX5, 9)) ⟨hx, hb, hml, hown, hT⟩ (c_X5_takeNamed l hm_rd hm_tp hm_tb hf_rd hf_tp hf_tb (by first | omega | decide | assumption) (by first | omega | decide | assumption) (by first | omega | decide | assumption)) (cwV 3 hT (z_goodV (fun _ h => h) kw_627 kw_629 kw_5 kw_89 kw_630) rfl rfl rfl (by decide +kernel) ⟨by decide, by decide⟩) z_mv hKK hK hw hA hm_rd hf_rd rfl rfl rfl hl.1 rfl (Nat.le_of_ble_eq_true rfl) dX5_readMoor_31 ⟨by decide, by decide⟩ (fun r25 u H locs hp hw => ?_)
  obtain ⟨L26, f27⟩ := u
  obtain ⟨hsb, hfm, f2_28, p2_29, k2_30, a2_31, n2_32, z2_33, ha_0, hp⟩ := hp
  have hsb : L = L26 := hsb
  subst hsb
  have hsb : ∀ b ∈ L, b ∈ L := fun _ h => h
  have hw : z_H D vwCl (z_A L sz) s.heap L f27 H locs := hw
  have hfr : ∀ b ∈ L, b ≠ rd → b ≠ mo → b ≠ la → f27 b = f b := fun b hb h0 h1 h2 => (hfm b hb h0).trans (hfr b hb h0 h1 h2)
  have hf_tp : f27 tp = .inr (7, [.ref tb, .int tl]) := (hfm tp hm_tp (z_tne hf_tp hf_rd (m := 7) (n := 5) rfl rfl (by decide))).trans hf_tp
  have hf_tb : f27 tb = .inl (cy 0, 1600, .inl gt) := (hfm tb hm_tb (z_tne hf_tb hf_rd (m := 12900) (n := 5) rfl rfl (by decide))).trans hf_tb
  have hf_mo : f27 mo = .inr (2, [.int v0, .int r12, .int v2, .int v3, .int v4, .int v5, .int v6, .ref la, .ref sa, .ref mi, .ref da]) := (hfm mo hm_mo (z_tne hf_mo hf_rd (m := 2) (n := 5) rfl rfl (by decide))).trans hf_mo
  have hf_la : f27 la = .inl (cy 1, 5, .inl gl) := (hfm la hm_la (z_tne hf_la hf_rd (m := 140) (n := 5) rfl rfl (by decide))).trans hf_la
  have hf_rd : f27 rd = .inr (5, [.int f2_28, .int p2_29, .ref tp, .ref mo, .int ot_, .int k2_30, .int a2_31, .int n2_32, .int z2_33]) := ha_0
  have hq34 := hp
  refine z_put (C := RX2) (T := TX2) (N := 11) (ci := 2) (v := .int r25) (fs' := [.int v0, .int r12, .int r25, .int v3, .int v4, .int v5, .int v6, .ref la, .ref sa, .ref mi, .ref da]) hx hb hT zin_X2 tyX2_ok nmX2 hown hK hw hm_mo hf_mo rfl 2 (by decide) (hT _ kw_212) rfl rfl rfl (Nat.le_of_ble_eq_true rfl) rfl dX5_readMoor_34 (fun H locs hw => ?_)
  obtain ⟨f35, e_f35⟩ : ∃ z, z = va_up f27 mo (.inr (2, [.int v0, .int r12, .int r25, .int v3, .int v4, .int v5, .int v6, .ref la, .ref sa, .ref mi, .ref da])) := ⟨_, rfl⟩
  rw [← e_f35] at hw
  have hf_rd : f35 rd = .inr (5, [.int f2_28, .int p2_29, .ref tp, .ref mo, .int ot_, .int k2_30, .int a2_31, .int n2_32, .int z2_33]) := (congrFun e_f35 rd).trans (z_up_ne (z_tne hf_rd hf_mo (m := 5) (n := 2) rfl rfl (by decide)) hf_rd)
  have hf_tp : f35 tp = .inr (7, [.ref tb, .int tl]) := (congrFun e_f35 tp).trans (z_up_ne (z_tne hf_tp hf_mo (m := 7) (n := 2) rfl rfl (by decide)) hf_tp)
  have hf_tb : f35 tb = .inl (cy 0, 1600, .inl gt) := (congrFun e_f35 tb).trans (z_up_ne (z_tne hf_tb hf_mo (m := 12900) (n := 2) rfl rfl (by decide)) hf_tb)
  have hf_la : f35 la = .inl (cy 1, 5, .inl gl) := (congrFun e_f35 la).trans (z_up_ne (z_tne hf_la hf_mo (m := 140) (n := 2) rfl rfl (by decide)) hf_la)
  have hf_mo : f35 mo = .inr (2, [.int v0, .int r12, .int r25, .int v3, .int v4, .int v5, .int v6, .ref la, .ref sa, .ref mi, .ref da]) := (congrFun e_f35 mo).trans z_up_self
  have hfr : ∀ b ∈ L, b ≠ rd → b ≠ mo → b ≠ la → f35 b = f b := fun b hb h0 h1 h2 => (congrFun e_f35 b).trans (z_up_ne h1 (hfr b hb h0 h1 h2))
  refine lv_aload_n hx hb dX5_readMoor_37 rfl (lv_at hl 0 rfl) ?_
  refine z_get (C := RX5) (T := TX5) (N := 9) (ci := 5) (v := .ref mo) hx hb hT zin_X5 hown hK hw hm_rd hf_rd rfl 3 (by decide) (hT _ kw_282) rfl dX5_readMoor_38 ?_
  refine z_get (C := RX2) (T := TX2) (N := 11) (ci := 2) (v := .ref la) hx hb hT zin_X2 hown hK hw hm_mo hf_mo rfl 7 (by decide) (hT _ kw_235) rfl dX5_readMoor_41 ?_
  refine lv_iconst (v := 3) hx hb dX5_readMoor_44 (by decide) ?_
  refine lv_aload_n hx hb dX5_readMoor_45 rfl (lv_at hl 0 rfl) ?_
  refine va_ldcS (index := 160) hx hb hown (hKK.2.2.1 3 (by decide)) dX5_readMoor_46 ?_
  refine lv_iconst (v := 2) hx hb dX5_readMoor_48 (by decide) ?_
  refine lv_bipush (v := 100) hx hb dX5_readMoor_49 (by decide) ?_
  have hz36 := (show (2 : Int32).toInt = 2 by decide)
  have hz37 := (show (100 : Int32).toInt = 100 by decide)
  refine z_calliV (cells := 0) (slots := 0) (b := rd) (As := [.ref (adK 3), .int 2, .int 100]) (rest := [.int 3, .ref la]) (ci := 5) (q0 := (RX5, TX5, 9)) ⟨hx, hb, hml, hown, hT⟩ (c_X5_takeNamed l hm_rd hm_tp hm_tb hf_rd hf_tp hf_tb (by first | omega | decide | assumption) (by first | omega | decide | assumption) (by first | omega | decide | assumption)) (cwV 3 hT (z_goodV (fun _ h => h) kw_627 kw_629 kw_5 kw_89 kw_630) rfl rfl rfl (by decide +kernel) ⟨by decide, by decide⟩) z_mv hKK hK hw hA hm_rd hf_rd rfl rfl rfl hl.1 rfl (Nat.le_of_ble_eq_true rfl) dX5_readMoor_51 ⟨by decide, by decide⟩ (fun r38 u H locs hp hw => ?_)
  obtain ⟨L39, f40⟩ := u
  obtain ⟨hsb, hfm, f2_41, p2_42, k2_43, a2_44, n2_45, z2_46, ha_0, hp⟩ := hp
  have hsb : L = L39 := hsb
  subst hsb
  have hsb : ∀ b ∈ L, b ∈ L := fun _ h => h
  have hw : z_H D vwCl (z_A L sz) s.heap L f40 H locs := hw
  have hfr : ∀ b ∈ L, b ≠ rd → b ≠ mo → b ≠ la → f40 b = f b := fun b hb h0 h1 h2 => (hfm b hb h0).trans (hfr b hb h0 h1 h2)
  have hf_tp : f40 tp = .inr (7, [.ref tb, .int tl]) := (hfm tp hm_tp (z_tne hf_tp hf_rd (m := 7) (n := 5) rfl rfl (by decide))).trans hf_tp
  have hf_tb : f40 tb = .inl (cy 0, 1600, .inl gt) := (hfm tb hm_tb (z_tne hf_tb hf_rd (m := 12900) (n := 5) rfl rfl (by decide))).trans hf_tb
  have hf_mo : f40 mo = .inr (2, [.int v0, .int r12, .int r25, .int v3, .int v4, .int v5, .int v6, .ref la, .ref sa, .ref mi, .ref da]) := (hfm mo hm_mo (z_tne hf_mo hf_rd (m := 2) (n := 5) rfl rfl (by decide))).trans hf_mo
  have hf_la : f40 la = .inl (cy 1, 5, .inl gl) := (hfm la hm_la (z_tne hf_la hf_rd (m := 140) (n := 5) rfl rfl (by decide))).trans hf_la
  have hf_rd : f40 rd = .inr (5, [.int f2_41, .int p2_42, .ref tp, .ref mo, .int ot_, .int k2_43, .int a2_44, .int n2_45, .int z2_46]) := ha_0
  have hq47 := hp
  have hlA_ : ∀ j : Nat, z_lw f2_41 (gl j) := fun j => z_lw_mono (hgl j) (by omega)
  refine z_iast hx hb hK hw 1 hm_la hf_la rfl (z_ix (show (3 : Int32).toInt = 3 by decide) (by decide)) dX5_readMoor_54 (fun H locs hw => ?_)
  obtain ⟨f49, e_f49⟩ : ∃ z, z = va_up f40 la (.inl (cy 1, 5, .inl (upd gl (3 : Int32).toNatClampNeg r38))) := ⟨_, rfl⟩
  rw [← e_f49] at hw
  have hf_rd : f49 rd = .inr (5, [.int f2_41, .int p2_42, .ref tp, .ref mo, .int ot_, .int k2_43, .int a2_44, .int n2_45, .int z2_46]) := (congrFun e_f49 rd).trans (z_up_ne (z_tne hf_rd hf_la (m := 5) (n := 140) rfl rfl (by decide)) hf_rd)
  have hf_tp : f49 tp = .inr (7, [.ref tb, .int tl]) := (congrFun e_f49 tp).trans (z_up_ne (z_tne hf_tp hf_la (m := 7) (n := 140) rfl rfl (by decide)) hf_tp)
  have hf_tb : f49 tb = .inl (cy 0, 1600, .inl gt) := (congrFun e_f49 tb).trans (z_up_ne (z_tne hf_tb hf_la (m := 12900) (n := 140) rfl rfl (by decide)) hf_tb)
  have hf_mo : f49 mo = .inr (2, [.int v0, .int r12, .int r25, .int v3, .int v4, .int v5, .int v6, .ref la, .ref sa, .ref mi, .ref da]) := (congrFun e_f49 mo).trans (z_up_ne (z_tne hf_mo hf_la (m := 2) (n := 140) rfl rfl (by decide)) hf_mo)
  have hf_la : f49 la = .inl (cy 1, 5, .inl (upd gl (3 : Int32).toNatClampNeg r38)) := (congrFun e_f49 la).trans z_up_self
  have hfr : ∀ b ∈ L, b ≠ rd → b ≠ mo → b ≠ la → f49 b = f b := fun b hb h0 h1 h2 => (congrFun e_f49 b).trans (z_up_ne h2 (hfr b hb h0 h1 h2))
  obtain ⟨g48, e_g48⟩ : ∃ z, z = (upd gl (3 : Int32).toNatClampNeg r38) := ⟨_, rfl⟩
  rw [← e_g48] at hf_la
  have hlA := z_updP hlA_ e_g48 (show z_lw f2_41 r38 from ⟨by omega, by omega, by omega⟩)
  refine lv_aload_n hx hb dX5_readMoor_55 rfl (lv_at hl 0 rfl) ?_
  refine z_get (C := RX5) (T := TX5) (N := 9) (ci := 5) (v := .ref mo) hx hb hT zin_X5 hown hK hw hm_rd hf_rd rfl 3 (by decide) (hT _ kw_282) rfl dX5_readMoor_56 ?_
  refine z_get (C := RX2) (T := TX2) (N := 11) (ci := 2) (v := .ref la) hx hb hT zin_X2 hown hK hw hm_mo hf_mo rfl 7 (by decide) (hT _ kw_235) rfl dX5_readMoor_59 ?_
  refine lv_iconst (v := 4) hx hb dX5_readMoor_62 (by decide) ?_
  refine lv_aload_n hx hb dX5_readMoor_63 rfl (lv_at hl 0 rfl) ?_
  refine va_ldcS (index := 162) hx hb hown (hKK.2.2.1 4 (by decide)) dX5_readMoor_64 ?_
  refine lv_iconst (v := 0) hx hb dX5_readMoor_66 (by decide) ?_
  refine lv_sipush (v := 999) hx hb dX5_readMoor_67 (by decide) ?_
  have hz50 := (show (0 : Int32).toInt = 0 by decide)
  have hz51 := (show (999 : Int32).toInt = 999 by decide)
  refine z_calliV (cells := 0) (slots := 0) (b := rd) (As := [.ref (adK 4), .int 0, .int 999]) (rest := [.int 4, .ref la]) (ci := 5) (q0 := (RX5, TX5, 9)) ⟨hx, hb, hml, hown, hT⟩ (c_X5_takeNamed l hm_rd hm_tp hm_tb hf_rd hf_tp hf_tb (by first | omega | decide | assumption) (by first | omega | decide | assumption) (by first | omega | decide | assumption)) (cwV 3 hT (z_goodV (fun _ h => h) kw_627 kw_629 kw_5 kw_89 kw_630) rfl rfl rfl (by decide +kernel) ⟨by decide, by decide⟩) z_mv hKK hK hw hA hm_rd hf_rd rfl rfl rfl hl.1 rfl (Nat.le_of_ble_eq_true rfl) dX5_readMoor_70 ⟨by decide, by decide⟩ (fun r52 u H locs hp hw => ?_)
  obtain ⟨L53, f54⟩ := u
  obtain ⟨hsb, hfm, f2_55, p2_56, k2_57, a2_58, n2_59, z2_60, ha_0, hp⟩ := hp
  have hsb : L = L53 := hsb
  subst hsb
  have hsb : ∀ b ∈ L, b ∈ L := fun _ h => h
  have hw : z_H D vwCl (z_A L sz) s.heap L f54 H locs := hw
  have hfr : ∀ b ∈ L, b ≠ rd → b ≠ mo → b ≠ la → f54 b = f b := fun b hb h0 h1 h2 => (hfm b hb h0).trans (hfr b hb h0 h1 h2)
  have hf_tp : f54 tp = .inr (7, [.ref tb, .int tl]) := (hfm tp hm_tp (z_tne hf_tp hf_rd (m := 7) (n := 5) rfl rfl (by decide))).trans hf_tp
  have hf_tb : f54 tb = .inl (cy 0, 1600, .inl gt) := (hfm tb hm_tb (z_tne hf_tb hf_rd (m := 12900) (n := 5) rfl rfl (by decide))).trans hf_tb
  have hf_mo : f54 mo = .inr (2, [.int v0, .int r12, .int r25, .int v3, .int v4, .int v5, .int v6, .ref la, .ref sa, .ref mi, .ref da]) := (hfm mo hm_mo (z_tne hf_mo hf_rd (m := 2) (n := 5) rfl rfl (by decide))).trans hf_mo
  have hf_la : f54 la = .inl (cy 1, 5, .inl g48) := (hfm la hm_la (z_tne hf_la hf_rd (m := 140) (n := 5) rfl rfl (by decide))).trans hf_la
  have hf_rd : f54 rd = .inr (5, [.int f2_55, .int p2_56, .ref tp, .ref mo, .int ot_, .int k2_57, .int a2_58, .int n2_59, .int z2_60]) := ha_0
  have hq61 := hp
  have hlB_ : ∀ j : Nat, z_lw f2_55 (g48 j) := fun j => z_lw_mono (hlA j) (by omega)
  refine z_iast hx hb hK hw 1 hm_la hf_la rfl (z_ix (show (4 : Int32).toInt = 4 by decide) (by decide)) dX5_readMoor_73 (fun H locs hw => ?_)
  obtain ⟨f63, e_f63⟩ : ∃ z, z = va_up f54 la (.inl (cy 1, 5, .inl (upd g48 (4 : Int32).toNatClampNeg r52))) := ⟨_, rfl⟩
  rw [← e_f63] at hw
  have hf_rd : f63 rd = .inr (5, [.int f2_55, .int p2_56, .ref tp, .ref mo, .int ot_, .int k2_57, .int a2_58, .int n2_59, .int z2_60]) := (congrFun e_f63 rd).trans (z_up_ne (z_tne hf_rd hf_la (m := 5) (n := 140) rfl rfl (by decide)) hf_rd)
  have hf_tp : f63 tp = .inr (7, [.ref tb, .int tl]) := (congrFun e_f63 tp).trans (z_up_ne (z_tne hf_tp hf_la (m := 7) (n := 140) rfl rfl (by decide)) hf_tp)
  have hf_tb : f63 tb = .inl (cy 0, 1600, .inl gt) := (congrFun e_f63 tb).trans (z_up_ne (z_tne hf_tb hf_la (m := 12900) (n := 140) rfl rfl (by decide)) hf_tb)
  have hf_mo : f63 mo = .inr (2, [.int v0, .int r12, .int r25, .int v3, .int v4, .int v5, .int v6, .ref la, .ref sa, .ref mi, .ref da]) := (congrFun e_f63 mo).trans (z_up_ne (z_tne hf_mo hf_la (m := 2) (n := 140) rfl rfl (by decide)) hf_mo)
  have hf_la : f63 la = .inl (cy 1, 5, .inl (upd g48 (4 : Int32).toNatClampNeg r52)) := (congrFun e_f63 la).trans z_up_self
  have hfr : ∀ b ∈ L, b ≠ rd → b ≠ mo → b ≠ la → f63 b = f b := fun b hb h0 h1 h2 => (congrFun e_f63 b).trans (z_up_ne h2 (hfr b hb h0 h1 h2))
  obtain ⟨g62, e_g62⟩ : ∃ z, z = (upd g48 (4 : Int32).toNatClampNeg r52) := ⟨_, rfl⟩
  rw [← e_g62] at hf_la
  have hlB := z_updP hlB_ e_g62 (show z_lw f2_55 r52 from ⟨by omega, by omega, by omega⟩)
  refine lv_aload_n hx hb dX5_readMoor_74 rfl (lv_at hl 0 rfl) ?_
  refine z_get (C := RX5) (T := TX5) (N := 9) (ci := 5) (v := .ref mo) hx hb hT zin_X5 hown hK hw hm_rd hf_rd rfl 3 (by decide) (hT _ kw_282) rfl dX5_readMoor_75 ?_
  refine lv_iconst (v := 1) hx hb dX5_readMoor_78 (by decide) ?_
  refine z_put (C := RX2) (T := TX2) (N := 11) (ci := 2) (v := .int 1) (fs' := [.int v0, .int r12, .int r25, .int 1, .int v4, .int v5, .int v6, .ref la, .ref sa, .ref mi, .ref da]) hx hb hT zin_X2 tyX2_ok nmX2 hown hK hw hm_mo hf_mo rfl 3 (by decide) (hT _ kw_216) rfl rfl rfl (Nat.le_of_ble_eq_true rfl) rfl dX5_readMoor_79 (fun H locs hw => ?_)
  obtain ⟨f64, e_f64⟩ : ∃ z, z = va_up f63 mo (.inr (2, [.int v0, .int r12, .int r25, .int 1, .int v4, .int v5, .int v6, .ref la, .ref sa, .ref mi, .ref da])) := ⟨_, rfl⟩
  rw [← e_f64] at hw
  have hf_rd : f64 rd = .inr (5, [.int f2_55, .int p2_56, .ref tp, .ref mo, .int ot_, .int k2_57, .int a2_58, .int n2_59, .int z2_60]) := (congrFun e_f64 rd).trans (z_up_ne (z_tne hf_rd hf_mo (m := 5) (n := 2) rfl rfl (by decide)) hf_rd)
  have hf_tp : f64 tp = .inr (7, [.ref tb, .int tl]) := (congrFun e_f64 tp).trans (z_up_ne (z_tne hf_tp hf_mo (m := 7) (n := 2) rfl rfl (by decide)) hf_tp)
  have hf_tb : f64 tb = .inl (cy 0, 1600, .inl gt) := (congrFun e_f64 tb).trans (z_up_ne (z_tne hf_tb hf_mo (m := 12900) (n := 2) rfl rfl (by decide)) hf_tb)
  have hf_la : f64 la = .inl (cy 1, 5, .inl g62) := (congrFun e_f64 la).trans (z_up_ne (z_tne hf_la hf_mo (m := 140) (n := 2) rfl rfl (by decide)) hf_la)
  have hf_mo : f64 mo = .inr (2, [.int v0, .int r12, .int r25, .int 1, .int v4, .int v5, .int v6, .ref la, .ref sa, .ref mi, .ref da]) := (congrFun e_f64 mo).trans z_up_self
  have hfr : ∀ b ∈ L, b ≠ rd → b ≠ mo → b ≠ la → f64 b = f b := fun b hb h0 h1 h2 => (congrFun e_f64 b).trans (z_up_ne h1 (hfr b hb h0 h1 h2))
  exact z_vret hx hb hr hlk (by decide) (by decide) hw (⟨hsub, hfr, f2_55, p2_56, k2_57, a2_58, n2_59, z2_60, r12, r25, g62, hf_rd, hf_mo, hf_la, by omega, by omega, by omega, by omega, by omega, by omega, hlB⟩) dX5_readMoor_82

set_option maxHeartbeats 2000000 in
set_option maxRecDepth 100000 in
theorem c_X5_readLaw (l : Launch) {D : va_G} {cy : Nat → ClassId} {L : List Nat} {f : Nat → va_E} {sz : Nat} {adK adV : Nat → Nat} {rd tp tb mo : Nat} {fa fp ot_ ki ra rn rv : Int32} {tl : Int32} {gt : Nat → Int32} {la sa mi da : Nat} {v0 v1 v2 v3 v4 v5 v6 : Int32} {gl : Nat → Int32} (hm_rd : rd ∈ L) (hm_tp : tp ∈ L) (hm_tb : tb ∈ L) (hm_mo : mo ∈ L) (hm_la : la ∈ L) (hf_rd : f rd = .inr (5, [.int fa, .int fp, .ref tp, .ref mo, .int ot_, .int ki, .int ra, .int rn, .int rv])) (hf_tp : f tp = .inr (7, [.ref tb, .int tl])) (hf_tb : f tb = .inl (cy 0, 1600, .inl gt)) (hf_mo : f mo = .inr (2, [.int v0, .int v1, .int v2, .int v3, .int v4, .int v5, .int v6, .ref la, .ref sa, .ref mi, .ref da])) (hf_la : f la = .inl (cy 1, 5, .inl gl)) (htl : 0 ≤ tl.toInt ∧ tl.toInt ≤ 1600) (hrr : (0 ≤ ra.toInt ∧ ra.toInt ≤ 1600) ∧ (0 ≤ rn.toInt ∧ rn.toInt ≤ 1600)) (hgl : ∀ j : Nat, z_lw fa (gl j)) : Met l yX5_readLaw (z_ws yX5_readLaw cX5_readLaw 1 none) (z_R 7 0 0) (va_Pc [.ref rd] (z_Pre D vwCl (z_KK D cy adK adV) L f sz)) (z_Qv D vwCl (fun u => L = u.1 ∧ (∀ b ∈ L, b ≠ rd → b ≠ la → u.2 b = f b) ∧ (∃ (f2 p2 k2 a2 n2 z2 : Int32) (g2 : Nat → Int32), (u.2 rd = .inr (5, [.int f2, .int p2, .ref tp, .ref mo, .int ot_, .int k2, .int a2, .int n2, .int z2])) ∧ (u.2 la = .inl (cy 1, 5, .inl g2)) ∧ ((f2.toInt ≠ 0 ∨ fa.toInt = 0) ∧ (0 ≤ a2.toInt ∧ a2.toInt ≤ 1600) ∧ (0 ≤ n2.toInt ∧ n2.toInt ≤ 1600) ∧ ∀ j : Nat, z_lw f2 (g2 j)))) L sz) 0 0 (z_A L sz) := by
  refine z_met (cc := cX5_readLaw) (maxL := 1) (ret := none) (lv := [(0, .ref rd)]) (by decide) rfl (Nat.le_of_ble_eq_true rfl) rfl ?_
  intro p e s m below meth c ls hx hb hr hlk hml hown hnm hts hKK hA hw hl
  have hK := hKK.1.1
  have hown : s.vm.findClass RX5 = some m.cls := hown
  have hT : ∀ w ∈ lw_all, w.before ([.ref rd] : List Value).toArray s = true := fun w h => hts w (z_cons w h)
  have hsub : L = L := rfl
  have hfr : ∀ b ∈ L, b ≠ rd → b ≠ la → f b = f b := fun _ _ _ _ => rfl
  refine lv_aload_n hx hb dX5_readLaw_0 rfl (lv_at hl 0 rfl) ?_
  refine va_ldcS (index := 152) hx hb hown (hKK.2.2.1 1 (by decide)) dX5_readLaw_1 ?_
  refine z_calliV (cells := 0) (slots := 0) (b := rd) (As := [.ref (adK 1)]) (rest := []) (ci := 5) (q0 := (RX5, TX5, 9)) ⟨hx, hb, hml, hown, hT⟩ (c_X5_tries l hm_rd hm_tp hm_tb hf_rd hf_tp hf_tb (by first | omega | decide | assumption) (by first | omega | decide | assumption) (by first | omega | decide | assumption)) (cwV 1 hT (z_goodV (fun _ h => h) kw_639 kw_641 kw_7 kw_89 kw_642) rfl rfl rfl (by decide +kernel) ⟨by decide, by decide⟩) z_mv hKK hK hw hA hm_rd hf_rd rfl rfl rfl hl.1 rfl (Nat.le_of_ble_eq_true rfl) dX5_readLaw_3 ⟨by decide, by decide⟩ (fun r1 u H locs hp hw => ?_)
  obtain ⟨L2, f3⟩ := u
  obtain ⟨hsb, hfm, k2_4, a2_5, n2_6, z2_7, ha_0, hp⟩ := hp
  have hsb : L = L2 := hsb
  subst hsb
  have hsb : ∀ b ∈ L, b ∈ L := fun _ h => h
  have hw : z_H D vwCl (z_A L sz) s.heap L f3 H locs := hw
  have hfr : ∀ b ∈ L, b ≠ rd → b ≠ la → f3 b = f b := fun b hb h0 h1 => (hfm b hb h0).trans (hfr b hb h0 h1)
  have hf_tp : f3 tp = .inr (7, [.ref tb, .int tl]) := (hfm tp hm_tp (z_tne hf_tp hf_rd (m := 7) (n := 5) rfl rfl (by decide))).trans hf_tp
  have hf_tb : f3 tb = .inl (cy 0, 1600, .inl gt) := (hfm tb hm_tb (z_tne hf_tb hf_rd (m := 12900) (n := 5) rfl rfl (by decide))).trans hf_tb
  have hf_mo : f3 mo = .inr (2, [.int v0, .int v1, .int v2, .int v3, .int v4, .int v5, .int v6, .ref la, .ref sa, .ref mi, .ref da]) := (hfm mo hm_mo (z_tne hf_mo hf_rd (m := 2) (n := 5) rfl rfl (by decide))).trans hf_mo
  have hf_la : f3 la = .inl (cy 1, 5, .inl gl) := (hfm la hm_la (z_tne hf_la hf_rd (m := 140) (n := 5) rfl rfl (by decide))).trans hf_la
  have hf_rd : f3 rd = .inr (5, [.int fa, .int fp, .ref tp, .ref mo, .int ot_, .int k2_4, .int a2_5, .int n2_6, .int z2_7]) := ha_0
  have hrn := hp.2
  have hp := hp.1
  rcases hp with ⟨rfl, h8⟩ | ⟨rfl, h8⟩
  · skip
    refine z_if_eq (tgt := 22) hx hb (show (1 : Int32).toInt = 1 by decide) dX5_readLaw_6 (by decide) (fun h => absurd h (by decide)) (fun _ => ?_)
    refine lv_aload_n hx hb dX5_readLaw_9 rfl (lv_at hl 0 rfl) ?_
    refine z_get (C := RX5) (T := TX5) (N := 9) (ci := 5) (v := .ref mo) hx hb hT zin_X5 hown hK hw hm_rd hf_rd rfl 3 (by decide) (hT _ kw_282) rfl dX5_readLaw_10 ?_
    refine z_get (C := RX2) (T := TX2) (N := 11) (ci := 2) (v := .ref la) hx hb hT zin_X2 hown hK hw hm_mo hf_mo rfl 7 (by decide) (hT _ kw_235) rfl dX5_readLaw_13 ?_
    refine lv_iconst (v := 0) hx hb dX5_readLaw_16 (by decide) ?_
    refine lv_iconst (v := 0) hx hb dX5_readLaw_17 (by decide) ?_
    have hlA_ : ∀ j : Nat, z_lw fa (gl j) := hgl
    refine z_iast hx hb hK hw 1 hm_la hf_la rfl (z_ix (show (0 : Int32).toInt = 0 by decide) (by decide)) dX5_readLaw_18 (fun H locs hw => ?_)
    obtain ⟨f10, e_f10⟩ : ∃ z, z = va_up f3 la (.inl (cy 1, 5, .inl (upd gl (0 : Int32).toNatClampNeg 0))) := ⟨_, rfl⟩
    rw [← e_f10] at hw
    have hf_rd : f10 rd = .inr (5, [.int fa, .int fp, .ref tp, .ref mo, .int ot_, .int k2_4, .int a2_5, .int n2_6, .int z2_7]) := (congrFun e_f10 rd).trans (z_up_ne (z_tne hf_rd hf_la (m := 5) (n := 140) rfl rfl (by decide)) hf_rd)
    have hf_tp : f10 tp = .inr (7, [.ref tb, .int tl]) := (congrFun e_f10 tp).trans (z_up_ne (z_tne hf_tp hf_la (m := 7) (n := 140) rfl rfl (by decide)) hf_tp)
    have hf_tb : f10 tb = .inl (cy 0, 1600, .inl gt) := (congrFun e_f10 tb).trans (z_up_ne (z_tne hf_tb hf_la (m := 12900) (n := 140) rfl rfl (by decide)) hf_tb)
    have hf_mo : f10 mo = .inr (2, [.int v0, .int v1, .int v2, .int v3, .int v4, .int v5, .int v6, .ref la, .ref sa, .ref mi, .ref da]) := (congrFun e_f10 mo).trans (z_up_ne (z_tne hf_mo hf_la (m := 2) (n := 140) rfl rfl (by decide)) hf_mo)
    have hf_la : f10 la = .inl (cy 1, 5, .inl (upd gl (0 : Int32).toNatClampNeg 0)) := (congrFun e_f10 la).trans z_up_self
    have hfr : ∀ b ∈ L, b ≠ rd → b ≠ la → f10 b = f b := fun b hb h0 h1 => (congrFun e_f10 b).trans (z_up_ne h1 (hfr b hb h0 h1))
    obtain ⟨g9, e_g9⟩ : ∃ z, z = (upd gl (0 : Int32).toNatClampNeg 0) := ⟨_, rfl⟩
    rw [← e_g9] at hf_la
    have hlA := z_updP hlA_ e_g9 (show z_lw fa 0 from ⟨by decide, by decide, Or.inr (by decide)⟩)
    refine lv_goto (tgt := 137) hx hb dX5_readLaw_19 (by decide) ?_
    exact z_vret hx hb hr hlk (by decide) (by decide) hw (⟨hsub, hfr, fa, fp, k2_4, a2_5, n2_6, z2_7, g9, hf_rd, hf_la, by omega, by omega, by omega, hlA⟩) dX5_readLaw_137
  · skip
    refine z_if_eq (tgt := 22) hx hb (show (0 : Int32).toInt = 0 by decide) dX5_readLaw_6 (by decide) (fun _ => ?_) (fun h => absurd h (by decide))
    refine lv_aload_n hx hb dX5_readLaw_22 rfl (lv_at hl 0 rfl) ?_
    refine va_ldcS (index := 166) hx hb hown (hKK.2.2.1 6 (by decide)) dX5_readLaw_23 ?_
    refine z_calliV (cells := 0) (slots := 0) (b := rd) (As := [.ref (adK 6)]) (rest := []) (ci := 5) (q0 := (RX5, TX5, 9)) ⟨hx, hb, hml, hown, hT⟩ (c_X5_tries l hm_rd hm_tp hm_tb hf_rd hf_tp hf_tb (by first | omega | decide | assumption) (by first | omega | decide | assumption) (by first | omega | decide | assumption)) (cwV 1 hT (z_goodV (fun _ h => h) kw_639 kw_641 kw_7 kw_89 kw_642) rfl rfl rfl (by decide +kernel) ⟨by decide, by decide⟩) z_mv hKK hK hw hA hm_rd hf_rd rfl rfl rfl hl.1 rfl (Nat.le_of_ble_eq_true rfl) dX5_readLaw_25 ⟨by decide, by decide⟩ (fun r11 u H locs hp hw => ?_)
    obtain ⟨L12, f13⟩ := u
    obtain ⟨hsb, hfm, k2_14, a2_15, n2_16, z2_17, ha_0, hp⟩ := hp
    have hsb : L = L12 := hsb
    subst hsb
    have hsb : ∀ b ∈ L, b ∈ L := fun _ h => h
    have hw : z_H D vwCl (z_A L sz) s.heap L f13 H locs := hw
    have hfr : ∀ b ∈ L, b ≠ rd → b ≠ la → f13 b = f b := fun b hb h0 h1 => (hfm b hb h0).trans (hfr b hb h0 h1)
    have hf_tp : f13 tp = .inr (7, [.ref tb, .int tl]) := (hfm tp hm_tp (z_tne hf_tp hf_rd (m := 7) (n := 5) rfl rfl (by decide))).trans hf_tp
    have hf_tb : f13 tb = .inl (cy 0, 1600, .inl gt) := (hfm tb hm_tb (z_tne hf_tb hf_rd (m := 12900) (n := 5) rfl rfl (by decide))).trans hf_tb
    have hf_mo : f13 mo = .inr (2, [.int v0, .int v1, .int v2, .int v3, .int v4, .int v5, .int v6, .ref la, .ref sa, .ref mi, .ref da]) := (hfm mo hm_mo (z_tne hf_mo hf_rd (m := 2) (n := 5) rfl rfl (by decide))).trans hf_mo
    have hf_la : f13 la = .inl (cy 1, 5, .inl gl) := (hfm la hm_la (z_tne hf_la hf_rd (m := 140) (n := 5) rfl rfl (by decide))).trans hf_la
    have hf_rd : f13 rd = .inr (5, [.int fa, .int fp, .ref tp, .ref mo, .int ot_, .int k2_14, .int a2_15, .int n2_16, .int z2_17]) := ha_0
    have hrn := hp.2
    have hp := hp.1
    rcases hp with ⟨rfl, h18⟩ | ⟨rfl, h18⟩
    · skip
      refine z_if_eq (tgt := 44) hx hb (show (1 : Int32).toInt = 1 by decide) dX5_readLaw_28 (by decide) (fun h => absurd h (by decide)) (fun _ => ?_)
      refine lv_aload_n hx hb dX5_readLaw_31 rfl (lv_at hl 0 rfl) ?_
      refine z_get (C := RX5) (T := TX5) (N := 9) (ci := 5) (v := .ref mo) hx hb hT zin_X5 hown hK hw hm_rd hf_rd rfl 3 (by decide) (hT _ kw_282) rfl dX5_readLaw_32 ?_
      refine z_get (C := RX2) (T := TX2) (N := 11) (ci := 2) (v := .ref la) hx hb hT zin_X2 hown hK hw hm_mo hf_mo rfl 7 (by decide) (hT _ kw_235) rfl dX5_readLaw_35 ?_
      refine lv_iconst (v := 0) hx hb dX5_readLaw_38 (by decide) ?_
      refine lv_iconst (v := 1) hx hb dX5_readLaw_39 (by decide) ?_
      have hlA_ : ∀ j : Nat, z_lw fa (gl j) := hgl
      refine z_iast hx hb hK hw 1 hm_la hf_la rfl (z_ix (show (0 : Int32).toInt = 0 by decide) (by decide)) dX5_readLaw_40 (fun H locs hw => ?_)
      obtain ⟨f20, e_f20⟩ : ∃ z, z = va_up f13 la (.inl (cy 1, 5, .inl (upd gl (0 : Int32).toNatClampNeg 1))) := ⟨_, rfl⟩
      rw [← e_f20] at hw
      have hf_rd : f20 rd = .inr (5, [.int fa, .int fp, .ref tp, .ref mo, .int ot_, .int k2_14, .int a2_15, .int n2_16, .int z2_17]) := (congrFun e_f20 rd).trans (z_up_ne (z_tne hf_rd hf_la (m := 5) (n := 140) rfl rfl (by decide)) hf_rd)
      have hf_tp : f20 tp = .inr (7, [.ref tb, .int tl]) := (congrFun e_f20 tp).trans (z_up_ne (z_tne hf_tp hf_la (m := 7) (n := 140) rfl rfl (by decide)) hf_tp)
      have hf_tb : f20 tb = .inl (cy 0, 1600, .inl gt) := (congrFun e_f20 tb).trans (z_up_ne (z_tne hf_tb hf_la (m := 12900) (n := 140) rfl rfl (by decide)) hf_tb)
      have hf_mo : f20 mo = .inr (2, [.int v0, .int v1, .int v2, .int v3, .int v4, .int v5, .int v6, .ref la, .ref sa, .ref mi, .ref da]) := (congrFun e_f20 mo).trans (z_up_ne (z_tne hf_mo hf_la (m := 2) (n := 140) rfl rfl (by decide)) hf_mo)
      have hf_la : f20 la = .inl (cy 1, 5, .inl (upd gl (0 : Int32).toNatClampNeg 1)) := (congrFun e_f20 la).trans z_up_self
      have hfr : ∀ b ∈ L, b ≠ rd → b ≠ la → f20 b = f b := fun b hb h0 h1 => (congrFun e_f20 b).trans (z_up_ne h1 (hfr b hb h0 h1))
      obtain ⟨g19, e_g19⟩ : ∃ z, z = (upd gl (0 : Int32).toNatClampNeg 1) := ⟨_, rfl⟩
      rw [← e_g19] at hf_la
      have hlA := z_updP hlA_ e_g19 (show z_lw fa 1 from ⟨by decide, by decide, Or.inr (by decide)⟩)
      refine lv_goto (tgt := 137) hx hb dX5_readLaw_41 (by decide) ?_
      exact z_vret hx hb hr hlk (by decide) (by decide) hw (⟨hsub, hfr, fa, fp, k2_14, a2_15, n2_16, z2_17, g19, hf_rd, hf_la, by omega, by omega, by omega, hlA⟩) dX5_readLaw_137
    · skip
      refine z_if_eq (tgt := 44) hx hb (show (0 : Int32).toInt = 0 by decide) dX5_readLaw_28 (by decide) (fun _ => ?_) (fun h => absurd h (by decide))
      refine lv_aload_n hx hb dX5_readLaw_44 rfl (lv_at hl 0 rfl) ?_
      refine va_ldcS (index := 168) hx hb hown (hKK.2.2.1 7 (by decide)) dX5_readLaw_45 ?_
      refine z_calliV (cells := 0) (slots := 0) (b := rd) (As := [.ref (adK 7)]) (rest := []) (ci := 5) (q0 := (RX5, TX5, 9)) ⟨hx, hb, hml, hown, hT⟩ (c_X5_tries l hm_rd hm_tp hm_tb hf_rd hf_tp hf_tb (by first | omega | decide | assumption) (by first | omega | decide | assumption) (by first | omega | decide | assumption)) (cwV 1 hT (z_goodV (fun _ h => h) kw_639 kw_641 kw_7 kw_89 kw_642) rfl rfl rfl (by decide +kernel) ⟨by decide, by decide⟩) z_mv hKK hK hw hA hm_rd hf_rd rfl rfl rfl hl.1 rfl (Nat.le_of_ble_eq_true rfl) dX5_readLaw_47 ⟨by decide, by decide⟩ (fun r21 u H locs hp hw => ?_)
      obtain ⟨L22, f23⟩ := u
      obtain ⟨hsb, hfm, k2_24, a2_25, n2_26, z2_27, ha_0, hp⟩ := hp
      have hsb : L = L22 := hsb
      subst hsb
      have hsb : ∀ b ∈ L, b ∈ L := fun _ h => h
      have hw : z_H D vwCl (z_A L sz) s.heap L f23 H locs := hw
      have hfr : ∀ b ∈ L, b ≠ rd → b ≠ la → f23 b = f b := fun b hb h0 h1 => (hfm b hb h0).trans (hfr b hb h0 h1)
      have hf_tp : f23 tp = .inr (7, [.ref tb, .int tl]) := (hfm tp hm_tp (z_tne hf_tp hf_rd (m := 7) (n := 5) rfl rfl (by decide))).trans hf_tp
      have hf_tb : f23 tb = .inl (cy 0, 1600, .inl gt) := (hfm tb hm_tb (z_tne hf_tb hf_rd (m := 12900) (n := 5) rfl rfl (by decide))).trans hf_tb
      have hf_mo : f23 mo = .inr (2, [.int v0, .int v1, .int v2, .int v3, .int v4, .int v5, .int v6, .ref la, .ref sa, .ref mi, .ref da]) := (hfm mo hm_mo (z_tne hf_mo hf_rd (m := 2) (n := 5) rfl rfl (by decide))).trans hf_mo
      have hf_la : f23 la = .inl (cy 1, 5, .inl gl) := (hfm la hm_la (z_tne hf_la hf_rd (m := 140) (n := 5) rfl rfl (by decide))).trans hf_la
      have hf_rd : f23 rd = .inr (5, [.int fa, .int fp, .ref tp, .ref mo, .int ot_, .int k2_24, .int a2_25, .int n2_26, .int z2_27]) := ha_0
      have hrn := hp.2
      have hp := hp.1
      rcases hp with ⟨rfl, h28⟩ | ⟨rfl, h28⟩
      · skip
        refine z_if_eq (tgt := 66) hx hb (show (1 : Int32).toInt = 1 by decide) dX5_readLaw_50 (by decide) (fun h => absurd h (by decide)) (fun _ => ?_)
        refine lv_aload_n hx hb dX5_readLaw_53 rfl (lv_at hl 0 rfl) ?_
        refine z_get (C := RX5) (T := TX5) (N := 9) (ci := 5) (v := .ref mo) hx hb hT zin_X5 hown hK hw hm_rd hf_rd rfl 3 (by decide) (hT _ kw_282) rfl dX5_readLaw_54 ?_
        refine z_get (C := RX2) (T := TX2) (N := 11) (ci := 2) (v := .ref la) hx hb hT zin_X2 hown hK hw hm_mo hf_mo rfl 7 (by decide) (hT _ kw_235) rfl dX5_readLaw_57 ?_
        refine lv_iconst (v := 1) hx hb dX5_readLaw_60 (by decide) ?_
        refine lv_iconst (v := 0) hx hb dX5_readLaw_61 (by decide) ?_
        have hlA_ : ∀ j : Nat, z_lw fa (gl j) := hgl
        refine z_iast hx hb hK hw 1 hm_la hf_la rfl (z_ix (show (1 : Int32).toInt = 1 by decide) (by decide)) dX5_readLaw_62 (fun H locs hw => ?_)
        obtain ⟨f30, e_f30⟩ : ∃ z, z = va_up f23 la (.inl (cy 1, 5, .inl (upd gl (1 : Int32).toNatClampNeg 0))) := ⟨_, rfl⟩
        rw [← e_f30] at hw
        have hf_rd : f30 rd = .inr (5, [.int fa, .int fp, .ref tp, .ref mo, .int ot_, .int k2_24, .int a2_25, .int n2_26, .int z2_27]) := (congrFun e_f30 rd).trans (z_up_ne (z_tne hf_rd hf_la (m := 5) (n := 140) rfl rfl (by decide)) hf_rd)
        have hf_tp : f30 tp = .inr (7, [.ref tb, .int tl]) := (congrFun e_f30 tp).trans (z_up_ne (z_tne hf_tp hf_la (m := 7) (n := 140) rfl rfl (by decide)) hf_tp)
        have hf_tb : f30 tb = .inl (cy 0, 1600, .inl gt) := (congrFun e_f30 tb).trans (z_up_ne (z_tne hf_tb hf_la (m := 12900) (n := 140) rfl rfl (by decide)) hf_tb)
        have hf_mo : f30 mo = .inr (2, [.int v0, .int v1, .int v2, .int v3, .int v4, .int v5, .int v6, .ref la, .ref sa, .ref mi, .ref da]) := (congrFun e_f30 mo).trans (z_up_ne (z_tne hf_mo hf_la (m := 2) (n := 140) rfl rfl (by decide)) hf_mo)
        have hf_la : f30 la = .inl (cy 1, 5, .inl (upd gl (1 : Int32).toNatClampNeg 0)) := (congrFun e_f30 la).trans z_up_self
        have hfr : ∀ b ∈ L, b ≠ rd → b ≠ la → f30 b = f b := fun b hb h0 h1 => (congrFun e_f30 b).trans (z_up_ne h1 (hfr b hb h0 h1))
        obtain ⟨g29, e_g29⟩ : ∃ z, z = (upd gl (1 : Int32).toNatClampNeg 0) := ⟨_, rfl⟩
        rw [← e_g29] at hf_la
        have hlA := z_updP hlA_ e_g29 (show z_lw fa 0 from ⟨by decide, by decide, Or.inr (by decide)⟩)
        refine lv_goto (tgt := 137) hx hb dX5_readLaw_63 (by decide) ?_
        exact z_vret hx hb hr hlk (by decide) (by decide) hw (⟨hsub, hfr, fa, fp, k2_24, a2_25, n2_26, z2_27, g29, hf_rd, hf_la, by omega, by omega, by omega, hlA⟩) dX5_readLaw_137
      · skip
        refine z_if_eq (tgt := 66) hx hb (show (0 : Int32).toInt = 0 by decide) dX5_readLaw_50 (by decide) (fun _ => ?_) (fun h => absurd h (by decide))
        refine lv_aload_n hx hb dX5_readLaw_66 rfl (lv_at hl 0 rfl) ?_
        refine va_ldcS (index := 170) hx hb hown (hKK.2.2.1 8 (by decide)) dX5_readLaw_67 ?_
        refine z_calliV (cells := 0) (slots := 0) (b := rd) (As := [.ref (adK 8)]) (rest := []) (ci := 5) (q0 := (RX5, TX5, 9)) ⟨hx, hb, hml, hown, hT⟩ (c_X5_tries l hm_rd hm_tp hm_tb hf_rd hf_tp hf_tb (by first | omega | decide | assumption) (by first | omega | decide | assumption) (by first | omega | decide | assumption)) (cwV 1 hT (z_goodV (fun _ h => h) kw_639 kw_641 kw_7 kw_89 kw_642) rfl rfl rfl (by decide +kernel) ⟨by decide, by decide⟩) z_mv hKK hK hw hA hm_rd hf_rd rfl rfl rfl hl.1 rfl (Nat.le_of_ble_eq_true rfl) dX5_readLaw_69 ⟨by decide, by decide⟩ (fun r31 u H locs hp hw => ?_)
        obtain ⟨L32, f33⟩ := u
        obtain ⟨hsb, hfm, k2_34, a2_35, n2_36, z2_37, ha_0, hp⟩ := hp
        have hsb : L = L32 := hsb
        subst hsb
        have hsb : ∀ b ∈ L, b ∈ L := fun _ h => h
        have hw : z_H D vwCl (z_A L sz) s.heap L f33 H locs := hw
        have hfr : ∀ b ∈ L, b ≠ rd → b ≠ la → f33 b = f b := fun b hb h0 h1 => (hfm b hb h0).trans (hfr b hb h0 h1)
        have hf_tp : f33 tp = .inr (7, [.ref tb, .int tl]) := (hfm tp hm_tp (z_tne hf_tp hf_rd (m := 7) (n := 5) rfl rfl (by decide))).trans hf_tp
        have hf_tb : f33 tb = .inl (cy 0, 1600, .inl gt) := (hfm tb hm_tb (z_tne hf_tb hf_rd (m := 12900) (n := 5) rfl rfl (by decide))).trans hf_tb
        have hf_mo : f33 mo = .inr (2, [.int v0, .int v1, .int v2, .int v3, .int v4, .int v5, .int v6, .ref la, .ref sa, .ref mi, .ref da]) := (hfm mo hm_mo (z_tne hf_mo hf_rd (m := 2) (n := 5) rfl rfl (by decide))).trans hf_mo
        have hf_la : f33 la = .inl (cy 1, 5, .inl gl) := (hfm la hm_la (z_tne hf_la hf_rd (m := 140) (n := 5) rfl rfl (by decide))).trans hf_la
        have hf_rd : f33 rd = .inr (5, [.int fa, .int fp, .ref tp, .ref mo, .int ot_, .int k2_34, .int a2_35, .int n2_36, .int z2_37]) := ha_0
        have hrn := hp.2
        have hp := hp.1
        rcases hp with ⟨rfl, h38⟩ | ⟨rfl, h38⟩
        · skip
          refine z_if_eq (tgt := 88) hx hb (show (1 : Int32).toInt = 1 by decide) dX5_readLaw_72 (by decide) (fun h => absurd h (by decide)) (fun _ => ?_)
          refine lv_aload_n hx hb dX5_readLaw_75 rfl (lv_at hl 0 rfl) ?_
          refine z_get (C := RX5) (T := TX5) (N := 9) (ci := 5) (v := .ref mo) hx hb hT zin_X5 hown hK hw hm_rd hf_rd rfl 3 (by decide) (hT _ kw_282) rfl dX5_readLaw_76 ?_
          refine z_get (C := RX2) (T := TX2) (N := 11) (ci := 2) (v := .ref la) hx hb hT zin_X2 hown hK hw hm_mo hf_mo rfl 7 (by decide) (hT _ kw_235) rfl dX5_readLaw_79 ?_
          refine lv_iconst (v := 1) hx hb dX5_readLaw_82 (by decide) ?_
          refine lv_iconst (v := 1) hx hb dX5_readLaw_83 (by decide) ?_
          have hlA_ : ∀ j : Nat, z_lw fa (gl j) := hgl
          refine z_iast hx hb hK hw 1 hm_la hf_la rfl (z_ix (show (1 : Int32).toInt = 1 by decide) (by decide)) dX5_readLaw_84 (fun H locs hw => ?_)
          obtain ⟨f40, e_f40⟩ : ∃ z, z = va_up f33 la (.inl (cy 1, 5, .inl (upd gl (1 : Int32).toNatClampNeg 1))) := ⟨_, rfl⟩
          rw [← e_f40] at hw
          have hf_rd : f40 rd = .inr (5, [.int fa, .int fp, .ref tp, .ref mo, .int ot_, .int k2_34, .int a2_35, .int n2_36, .int z2_37]) := (congrFun e_f40 rd).trans (z_up_ne (z_tne hf_rd hf_la (m := 5) (n := 140) rfl rfl (by decide)) hf_rd)
          have hf_tp : f40 tp = .inr (7, [.ref tb, .int tl]) := (congrFun e_f40 tp).trans (z_up_ne (z_tne hf_tp hf_la (m := 7) (n := 140) rfl rfl (by decide)) hf_tp)
          have hf_tb : f40 tb = .inl (cy 0, 1600, .inl gt) := (congrFun e_f40 tb).trans (z_up_ne (z_tne hf_tb hf_la (m := 12900) (n := 140) rfl rfl (by decide)) hf_tb)
          have hf_mo : f40 mo = .inr (2, [.int v0, .int v1, .int v2, .int v3, .int v4, .int v5, .int v6, .ref la, .ref sa, .ref mi, .ref da]) := (congrFun e_f40 mo).trans (z_up_ne (z_tne hf_mo hf_la (m := 2) (n := 140) rfl rfl (by decide)) hf_mo)
          have hf_la : f40 la = .inl (cy 1, 5, .inl (upd gl (1 : Int32).toNatClampNeg 1)) := (congrFun e_f40 la).trans z_up_self
          have hfr : ∀ b ∈ L, b ≠ rd → b ≠ la → f40 b = f b := fun b hb h0 h1 => (congrFun e_f40 b).trans (z_up_ne h1 (hfr b hb h0 h1))
          obtain ⟨g39, e_g39⟩ : ∃ z, z = (upd gl (1 : Int32).toNatClampNeg 1) := ⟨_, rfl⟩
          rw [← e_g39] at hf_la
          have hlA := z_updP hlA_ e_g39 (show z_lw fa 1 from ⟨by decide, by decide, Or.inr (by decide)⟩)
          refine lv_goto (tgt := 137) hx hb dX5_readLaw_85 (by decide) ?_
          exact z_vret hx hb hr hlk (by decide) (by decide) hw (⟨hsub, hfr, fa, fp, k2_34, a2_35, n2_36, z2_37, g39, hf_rd, hf_la, by omega, by omega, by omega, hlA⟩) dX5_readLaw_137
        · skip
          refine z_if_eq (tgt := 88) hx hb (show (0 : Int32).toInt = 0 by decide) dX5_readLaw_72 (by decide) (fun _ => ?_) (fun h => absurd h (by decide))
          refine lv_aload_n hx hb dX5_readLaw_88 rfl (lv_at hl 0 rfl) ?_
          refine va_ldcS (index := 172) hx hb hown (hKK.2.2.1 9 (by decide)) dX5_readLaw_89 ?_
          refine z_calliV (cells := 0) (slots := 0) (b := rd) (As := [.ref (adK 9)]) (rest := []) (ci := 5) (q0 := (RX5, TX5, 9)) ⟨hx, hb, hml, hown, hT⟩ (c_X5_tries l hm_rd hm_tp hm_tb hf_rd hf_tp hf_tb (by first | omega | decide | assumption) (by first | omega | decide | assumption) (by first | omega | decide | assumption)) (cwV 1 hT (z_goodV (fun _ h => h) kw_639 kw_641 kw_7 kw_89 kw_642) rfl rfl rfl (by decide +kernel) ⟨by decide, by decide⟩) z_mv hKK hK hw hA hm_rd hf_rd rfl rfl rfl hl.1 rfl (Nat.le_of_ble_eq_true rfl) dX5_readLaw_91 ⟨by decide, by decide⟩ (fun r41 u H locs hp hw => ?_)
          obtain ⟨L42, f43⟩ := u
          obtain ⟨hsb, hfm, k2_44, a2_45, n2_46, z2_47, ha_0, hp⟩ := hp
          have hsb : L = L42 := hsb
          subst hsb
          have hsb : ∀ b ∈ L, b ∈ L := fun _ h => h
          have hw : z_H D vwCl (z_A L sz) s.heap L f43 H locs := hw
          have hfr : ∀ b ∈ L, b ≠ rd → b ≠ la → f43 b = f b := fun b hb h0 h1 => (hfm b hb h0).trans (hfr b hb h0 h1)
          have hf_tp : f43 tp = .inr (7, [.ref tb, .int tl]) := (hfm tp hm_tp (z_tne hf_tp hf_rd (m := 7) (n := 5) rfl rfl (by decide))).trans hf_tp
          have hf_tb : f43 tb = .inl (cy 0, 1600, .inl gt) := (hfm tb hm_tb (z_tne hf_tb hf_rd (m := 12900) (n := 5) rfl rfl (by decide))).trans hf_tb
          have hf_mo : f43 mo = .inr (2, [.int v0, .int v1, .int v2, .int v3, .int v4, .int v5, .int v6, .ref la, .ref sa, .ref mi, .ref da]) := (hfm mo hm_mo (z_tne hf_mo hf_rd (m := 2) (n := 5) rfl rfl (by decide))).trans hf_mo
          have hf_la : f43 la = .inl (cy 1, 5, .inl gl) := (hfm la hm_la (z_tne hf_la hf_rd (m := 140) (n := 5) rfl rfl (by decide))).trans hf_la
          have hf_rd : f43 rd = .inr (5, [.int fa, .int fp, .ref tp, .ref mo, .int ot_, .int k2_44, .int a2_45, .int n2_46, .int z2_47]) := ha_0
          have hrn := hp.2
          have hp := hp.1
          rcases hp with ⟨rfl, h48⟩ | ⟨rfl, h48⟩
          · skip
            refine z_if_eq (tgt := 110) hx hb (show (1 : Int32).toInt = 1 by decide) dX5_readLaw_94 (by decide) (fun h => absurd h (by decide)) (fun _ => ?_)
            refine lv_aload_n hx hb dX5_readLaw_97 rfl (lv_at hl 0 rfl) ?_
            refine z_get (C := RX5) (T := TX5) (N := 9) (ci := 5) (v := .ref mo) hx hb hT zin_X5 hown hK hw hm_rd hf_rd rfl 3 (by decide) (hT _ kw_282) rfl dX5_readLaw_98 ?_
            refine z_get (C := RX2) (T := TX2) (N := 11) (ci := 2) (v := .ref la) hx hb hT zin_X2 hown hK hw hm_mo hf_mo rfl 7 (by decide) (hT _ kw_235) rfl dX5_readLaw_101 ?_
            refine lv_iconst (v := 2) hx hb dX5_readLaw_104 (by decide) ?_
            refine lv_iconst (v := 0) hx hb dX5_readLaw_105 (by decide) ?_
            have hlA_ : ∀ j : Nat, z_lw fa (gl j) := hgl
            refine z_iast hx hb hK hw 1 hm_la hf_la rfl (z_ix (show (2 : Int32).toInt = 2 by decide) (by decide)) dX5_readLaw_106 (fun H locs hw => ?_)
            obtain ⟨f50, e_f50⟩ : ∃ z, z = va_up f43 la (.inl (cy 1, 5, .inl (upd gl (2 : Int32).toNatClampNeg 0))) := ⟨_, rfl⟩
            rw [← e_f50] at hw
            have hf_rd : f50 rd = .inr (5, [.int fa, .int fp, .ref tp, .ref mo, .int ot_, .int k2_44, .int a2_45, .int n2_46, .int z2_47]) := (congrFun e_f50 rd).trans (z_up_ne (z_tne hf_rd hf_la (m := 5) (n := 140) rfl rfl (by decide)) hf_rd)
            have hf_tp : f50 tp = .inr (7, [.ref tb, .int tl]) := (congrFun e_f50 tp).trans (z_up_ne (z_tne hf_tp hf_la (m := 7) (n := 140) rfl rfl (by decide)) hf_tp)
            have hf_tb : f50 tb = .inl (cy 0, 1600, .inl gt) := (congrFun e_f50 tb).trans (z_up_ne (z_tne hf_tb hf_la (m := 12900) (n := 140) rfl rfl (by decide)) hf_tb)
            have hf_mo : f50 mo = .inr (2, [.int v0, .int v1, .int v2, .int v3, .int v4, .int v5, .int v6, .ref la, .ref sa, .ref mi, .ref da]) := (congrFun e_f50 mo).trans (z_up_ne (z_tne hf_mo hf_la (m := 2) (n := 140) rfl rfl (by decide)) hf_mo)
            have hf_la : f50 la = .inl (cy 1, 5, .inl (upd gl (2 : Int32).toNatClampNeg 0)) := (congrFun e_f50 la).trans z_up_self
            have hfr : ∀ b ∈ L, b ≠ rd → b ≠ la → f50 b = f b := fun b hb h0 h1 => (congrFun e_f50 b).trans (z_up_ne h1 (hfr b hb h0 h1))
            obtain ⟨g49, e_g49⟩ : ∃ z, z = (upd gl (2 : Int32).toNatClampNeg 0) := ⟨_, rfl⟩
            rw [← e_g49] at hf_la
            have hlA := z_updP hlA_ e_g49 (show z_lw fa 0 from ⟨by decide, by decide, Or.inr (by decide)⟩)
            refine lv_goto (tgt := 137) hx hb dX5_readLaw_107 (by decide) ?_
            exact z_vret hx hb hr hlk (by decide) (by decide) hw (⟨hsub, hfr, fa, fp, k2_44, a2_45, n2_46, z2_47, g49, hf_rd, hf_la, by omega, by omega, by omega, hlA⟩) dX5_readLaw_137
          · skip
            refine z_if_eq (tgt := 110) hx hb (show (0 : Int32).toInt = 0 by decide) dX5_readLaw_94 (by decide) (fun _ => ?_) (fun h => absurd h (by decide))
            refine lv_aload_n hx hb dX5_readLaw_110 rfl (lv_at hl 0 rfl) ?_
            refine va_ldcS (index := 174) hx hb hown (hKK.2.2.1 10 (by decide)) dX5_readLaw_111 ?_
            refine z_calliV (cells := 0) (slots := 0) (b := rd) (As := [.ref (adK 10)]) (rest := []) (ci := 5) (q0 := (RX5, TX5, 9)) ⟨hx, hb, hml, hown, hT⟩ (c_X5_tries l hm_rd hm_tp hm_tb hf_rd hf_tp hf_tb (by first | omega | decide | assumption) (by first | omega | decide | assumption) (by first | omega | decide | assumption)) (cwV 1 hT (z_goodV (fun _ h => h) kw_639 kw_641 kw_7 kw_89 kw_642) rfl rfl rfl (by decide +kernel) ⟨by decide, by decide⟩) z_mv hKK hK hw hA hm_rd hf_rd rfl rfl rfl hl.1 rfl (Nat.le_of_ble_eq_true rfl) dX5_readLaw_113 ⟨by decide, by decide⟩ (fun r51 u H locs hp hw => ?_)
            obtain ⟨L52, f53⟩ := u
            obtain ⟨hsb, hfm, k2_54, a2_55, n2_56, z2_57, ha_0, hp⟩ := hp
            have hsb : L = L52 := hsb
            subst hsb
            have hsb : ∀ b ∈ L, b ∈ L := fun _ h => h
            have hw : z_H D vwCl (z_A L sz) s.heap L f53 H locs := hw
            have hfr : ∀ b ∈ L, b ≠ rd → b ≠ la → f53 b = f b := fun b hb h0 h1 => (hfm b hb h0).trans (hfr b hb h0 h1)
            have hf_tp : f53 tp = .inr (7, [.ref tb, .int tl]) := (hfm tp hm_tp (z_tne hf_tp hf_rd (m := 7) (n := 5) rfl rfl (by decide))).trans hf_tp
            have hf_tb : f53 tb = .inl (cy 0, 1600, .inl gt) := (hfm tb hm_tb (z_tne hf_tb hf_rd (m := 12900) (n := 5) rfl rfl (by decide))).trans hf_tb
            have hf_mo : f53 mo = .inr (2, [.int v0, .int v1, .int v2, .int v3, .int v4, .int v5, .int v6, .ref la, .ref sa, .ref mi, .ref da]) := (hfm mo hm_mo (z_tne hf_mo hf_rd (m := 2) (n := 5) rfl rfl (by decide))).trans hf_mo
            have hf_la : f53 la = .inl (cy 1, 5, .inl gl) := (hfm la hm_la (z_tne hf_la hf_rd (m := 140) (n := 5) rfl rfl (by decide))).trans hf_la
            have hf_rd : f53 rd = .inr (5, [.int fa, .int fp, .ref tp, .ref mo, .int ot_, .int k2_54, .int a2_55, .int n2_56, .int z2_57]) := ha_0
            have hrn := hp.2
            have hp := hp.1
            rcases hp with ⟨rfl, h58⟩ | ⟨rfl, h58⟩
            · skip
              refine z_if_eq (tgt := 132) hx hb (show (1 : Int32).toInt = 1 by decide) dX5_readLaw_116 (by decide) (fun h => absurd h (by decide)) (fun _ => ?_)
              refine lv_aload_n hx hb dX5_readLaw_119 rfl (lv_at hl 0 rfl) ?_
              refine z_get (C := RX5) (T := TX5) (N := 9) (ci := 5) (v := .ref mo) hx hb hT zin_X5 hown hK hw hm_rd hf_rd rfl 3 (by decide) (hT _ kw_282) rfl dX5_readLaw_120 ?_
              refine z_get (C := RX2) (T := TX2) (N := 11) (ci := 2) (v := .ref la) hx hb hT zin_X2 hown hK hw hm_mo hf_mo rfl 7 (by decide) (hT _ kw_235) rfl dX5_readLaw_123 ?_
              refine lv_iconst (v := 2) hx hb dX5_readLaw_126 (by decide) ?_
              refine lv_iconst (v := 1) hx hb dX5_readLaw_127 (by decide) ?_
              have hlA_ : ∀ j : Nat, z_lw fa (gl j) := hgl
              refine z_iast hx hb hK hw 1 hm_la hf_la rfl (z_ix (show (2 : Int32).toInt = 2 by decide) (by decide)) dX5_readLaw_128 (fun H locs hw => ?_)
              obtain ⟨f60, e_f60⟩ : ∃ z, z = va_up f53 la (.inl (cy 1, 5, .inl (upd gl (2 : Int32).toNatClampNeg 1))) := ⟨_, rfl⟩
              rw [← e_f60] at hw
              have hf_rd : f60 rd = .inr (5, [.int fa, .int fp, .ref tp, .ref mo, .int ot_, .int k2_54, .int a2_55, .int n2_56, .int z2_57]) := (congrFun e_f60 rd).trans (z_up_ne (z_tne hf_rd hf_la (m := 5) (n := 140) rfl rfl (by decide)) hf_rd)
              have hf_tp : f60 tp = .inr (7, [.ref tb, .int tl]) := (congrFun e_f60 tp).trans (z_up_ne (z_tne hf_tp hf_la (m := 7) (n := 140) rfl rfl (by decide)) hf_tp)
              have hf_tb : f60 tb = .inl (cy 0, 1600, .inl gt) := (congrFun e_f60 tb).trans (z_up_ne (z_tne hf_tb hf_la (m := 12900) (n := 140) rfl rfl (by decide)) hf_tb)
              have hf_mo : f60 mo = .inr (2, [.int v0, .int v1, .int v2, .int v3, .int v4, .int v5, .int v6, .ref la, .ref sa, .ref mi, .ref da]) := (congrFun e_f60 mo).trans (z_up_ne (z_tne hf_mo hf_la (m := 2) (n := 140) rfl rfl (by decide)) hf_mo)
              have hf_la : f60 la = .inl (cy 1, 5, .inl (upd gl (2 : Int32).toNatClampNeg 1)) := (congrFun e_f60 la).trans z_up_self
              have hfr : ∀ b ∈ L, b ≠ rd → b ≠ la → f60 b = f b := fun b hb h0 h1 => (congrFun e_f60 b).trans (z_up_ne h1 (hfr b hb h0 h1))
              obtain ⟨g59, e_g59⟩ : ∃ z, z = (upd gl (2 : Int32).toNatClampNeg 1) := ⟨_, rfl⟩
              rw [← e_g59] at hf_la
              have hlA := z_updP hlA_ e_g59 (show z_lw fa 1 from ⟨by decide, by decide, Or.inr (by decide)⟩)
              refine lv_goto (tgt := 137) hx hb dX5_readLaw_129 (by decide) ?_
              exact z_vret hx hb hr hlk (by decide) (by decide) hw (⟨hsub, hfr, fa, fp, k2_54, a2_55, n2_56, z2_57, g59, hf_rd, hf_la, by omega, by omega, by omega, hlA⟩) dX5_readLaw_137
            · skip
              refine z_if_eq (tgt := 132) hx hb (show (0 : Int32).toInt = 0 by decide) dX5_readLaw_116 (by decide) (fun _ => ?_) (fun h => absurd h (by decide))
              refine lv_aload_n hx hb dX5_readLaw_132 rfl (lv_at hl 0 rfl) ?_
              refine lv_iconst (v := 1) hx hb dX5_readLaw_133 (by decide) ?_
              have hz61 := (show (1 : Int32).toInt = 1 by decide)
              refine z_callvV (cells := 0) (slots := 0) (b := rd) (As := [.int 1]) (rest := []) (ci := 5) (q0 := (RX5, TX5, 9)) ⟨hx, hb, hml, hown, hT⟩ (c_X5_refuse l hm_rd hf_rd (by first | omega | decide | assumption)) (cwV 1 hT (z_goodV (fun _ h => h) kw_622 kw_624 kw_4 kw_89 kw_625) rfl rfl rfl (by decide +kernel) ⟨by decide, by decide⟩) z_mv hKK hK hw hA hm_rd hf_rd rfl rfl rfl hl.1 rfl (Nat.le_of_ble_eq_true rfl) dX5_readLaw_134 ⟨by decide, by decide⟩ (fun u H locs hp hw => ?_)
              obtain ⟨L62, f63⟩ := u
              obtain ⟨hsb, hfm, f2_64, p2_65, ha_0, hp⟩ := hp
              have hsb : L = L62 := hsb
              subst hsb
              have hsb : ∀ b ∈ L, b ∈ L := fun _ h => h
              have hw : z_H D vwCl (z_A L sz) s.heap L f63 H locs := hw
              have hfr : ∀ b ∈ L, b ≠ rd → b ≠ la → f63 b = f b := fun b hb h0 h1 => (hfm b hb h0).trans (hfr b hb h0 h1)
              have hf_tp : f63 tp = .inr (7, [.ref tb, .int tl]) := (hfm tp hm_tp (z_tne hf_tp hf_rd (m := 7) (n := 5) rfl rfl (by decide))).trans hf_tp
              have hf_tb : f63 tb = .inl (cy 0, 1600, .inl gt) := (hfm tb hm_tb (z_tne hf_tb hf_rd (m := 12900) (n := 5) rfl rfl (by decide))).trans hf_tb
              have hf_mo : f63 mo = .inr (2, [.int v0, .int v1, .int v2, .int v3, .int v4, .int v5, .int v6, .ref la, .ref sa, .ref mi, .ref da]) := (hfm mo hm_mo (z_tne hf_mo hf_rd (m := 2) (n := 5) rfl rfl (by decide))).trans hf_mo
              have hf_la : f63 la = .inl (cy 1, 5, .inl gl) := (hfm la hm_la (z_tne hf_la hf_rd (m := 140) (n := 5) rfl rfl (by decide))).trans hf_la
              have hf_rd : f63 rd = .inr (5, [.int f2_64, .int p2_65, .ref tp, .ref mo, .int ot_, .int k2_54, .int a2_55, .int n2_56, .int z2_57]) := ha_0
              have hq66 := hp
              exact z_vret hx hb hr hlk (by decide) (by decide) hw (⟨hsub, hfr, f2_64, p2_65, k2_54, a2_55, n2_56, z2_57, gl, hf_rd, hf_la, by omega, by omega, by omega, fun j => z_lw_mono (hgl j) (by omega)⟩) dX5_readLaw_137

set_option maxHeartbeats 2000000 in
set_option maxRecDepth 100000 in
theorem c_X5_readOwners (l : Launch) {D : va_G} {cy : Nat → ClassId} {L : List Nat} {f : Nat → va_E} {sz : Nat} {adK adV : Nat → Nat} {rd tp tb mo : Nat} {fa fp ot_ ki ra rn rv : Int32} {tl : Int32} {gt : Nat → Int32} {la sa mi da : Nat} {v0 v1 v2 v3 v4 v5 v6 : Int32} (hm_rd : rd ∈ L) (hm_tp : tp ∈ L) (hm_tb : tb ∈ L) (hm_mo : mo ∈ L) (hf_rd : f rd = .inr (5, [.int fa, .int fp, .ref tp, .ref mo, .int ot_, .int ki, .int ra, .int rn, .int rv])) (hf_tp : f tp = .inr (7, [.ref tb, .int tl])) (hf_tb : f tb = .inl (cy 0, 1600, .inl gt)) (hf_mo : f mo = .inr (2, [.int v0, .int v1, .int v2, .int v3, .int v4, .int v5, .int v6, .ref la, .ref sa, .ref mi, .ref da])) (htl : 0 ≤ tl.toInt ∧ tl.toInt ≤ 1600) (hrr : (0 ≤ ra.toInt ∧ ra.toInt ≤ 1600) ∧ (0 ≤ rn.toInt ∧ rn.toInt ≤ 1600)) : Met l yX5_readOwners (z_ws yX5_readOwners cX5_readOwners 1 none) (z_R 8 0 0) (va_Pc [.ref rd] (z_Pre D vwCl (z_KK D cy adK adV) L f sz)) (z_Qv D vwCl (fun u => L = u.1 ∧ (∀ b ∈ L, b ≠ rd → b ≠ mo → u.2 b = f b) ∧ (∃ (f2 p2 k2 a2 n2 z2 w3 : Int32), (u.2 rd = .inr (5, [.int f2, .int p2, .ref tp, .ref mo, .int 1, .int k2, .int a2, .int n2, .int z2])) ∧ (u.2 mo = .inr (2, [.int v0, .int v1, .int v2, .int w3, .int v4, .int v5, .int v6, .ref la, .ref sa, .ref mi, .ref da])) ∧ ((f2.toInt ≠ 0 ∨ fa.toInt = 0) ∧ (0 ≤ a2.toInt ∧ a2.toInt ≤ 1600) ∧ (0 ≤ n2.toInt ∧ n2.toInt ≤ 1600) ∧ (-1 ≤ w3.toInt ∧ w3.toInt ≤ 5) ∧ (f2.toInt ≠ 0 ∨ 0 ≤ w3.toInt)))) L sz) 0 0 (z_A L sz) := by
  refine z_met (cc := cX5_readOwners) (maxL := 1) (ret := none) (lv := [(0, .ref rd)]) (by decide) rfl (Nat.le_of_ble_eq_true rfl) rfl ?_
  intro p e s m below meth c ls hx hb hr hlk hml hown hnm hts hKK hA hw hl
  have hK := hKK.1.1
  have hown : s.vm.findClass RX5 = some m.cls := hown
  have hT : ∀ w ∈ lw_all, w.before ([.ref rd] : List Value).toArray s = true := fun w h => hts w (z_cons w h)
  have hsub : L = L := rfl
  have hfr : ∀ b ∈ L, b ≠ rd → b ≠ mo → f b = f b := fun _ _ _ _ => rfl
  refine lv_aload_n hx hb dX5_readOwners_0 rfl (lv_at hl 0 rfl) ?_
  refine z_get (C := RX5) (T := TX5) (N := 9) (ci := 5) (v := .int ot_) hx hb hT zin_X5 hown hK hw hm_rd hf_rd rfl 4 (by decide) (hT _ kw_283) rfl dX5_readOwners_1 ?_
  refine z_if_ne (tgt := 17) hx hb rfl dX5_readOwners_4 (by decide) (fun c1 => ?_) (fun c1 => ?_)
  · skip
    refine lv_aload_n hx hb dX5_readOwners_17 rfl (lv_at hl 0 rfl) ?_
    refine lv_iconst (v := 2) hx hb dX5_readOwners_18 (by decide) ?_
    have hz2 := (show (2 : Int32).toInt = 2 by decide)
    refine z_callvV (cells := 0) (slots := 0) (b := rd) (As := [.int 2]) (rest := []) (ci := 5) (q0 := (RX5, TX5, 9)) ⟨hx, hb, hml, hown, hT⟩ (c_X5_refuse l hm_rd hf_rd (by first | omega | decide | assumption)) (cwV 1 hT (z_goodV (fun _ h => h) kw_622 kw_624 kw_4 kw_89 kw_625) rfl rfl rfl (by decide +kernel) ⟨by decide, by decide⟩) z_mv hKK hK hw hA hm_rd hf_rd rfl rfl rfl hl.1 rfl (Nat.le_of_ble_eq_true rfl) dX5_readOwners_19 ⟨by decide, by decide⟩ (fun u H locs hp hw => ?_)
    obtain ⟨L3, f4⟩ := u
    obtain ⟨hsb, hfm, f2_5, p2_6, ha_0, hp⟩ := hp
    have hsb : L = L3 := hsb
    subst hsb
    have hsb : ∀ b ∈ L, b ∈ L := fun _ h => h
    have hw : z_H D vwCl (z_A L sz) s.heap L f4 H locs := hw
    have hfr : ∀ b ∈ L, b ≠ rd → b ≠ mo → f4 b = f b := fun b hb h0 h1 => (hfm b hb h0).trans (hfr b hb h0 h1)
    have hf_tp : f4 tp = .inr (7, [.ref tb, .int tl]) := (hfm tp hm_tp (z_tne hf_tp hf_rd (m := 7) (n := 5) rfl rfl (by decide))).trans hf_tp
    have hf_tb : f4 tb = .inl (cy 0, 1600, .inl gt) := (hfm tb hm_tb (z_tne hf_tb hf_rd (m := 12900) (n := 5) rfl rfl (by decide))).trans hf_tb
    have hf_mo : f4 mo = .inr (2, [.int v0, .int v1, .int v2, .int v3, .int v4, .int v5, .int v6, .ref la, .ref sa, .ref mi, .ref da]) := (hfm mo hm_mo (z_tne hf_mo hf_rd (m := 2) (n := 5) rfl rfl (by decide))).trans hf_mo
    have hf_rd : f4 rd = .inr (5, [.int f2_5, .int p2_6, .ref tp, .ref mo, .int ot_, .int ki, .int ra, .int rn, .int rv]) := ha_0
    have hq7 := hp
    refine lv_aload_n hx hb dX5_readOwners_22 rfl (lv_at hl 0 rfl) ?_
    refine z_get (C := RX5) (T := TX5) (N := 9) (ci := 5) (v := .ref mo) hx hb hT zin_X5 hown hK hw hm_rd hf_rd rfl 3 (by decide) (hT _ kw_282) rfl dX5_readOwners_23 ?_
    refine lv_aload_n hx hb dX5_readOwners_26 rfl (lv_at hl 0 rfl) ?_
    refine va_ldcS (index := 113) hx hb hown (hKK.2.2.1 11 (by decide)) dX5_readOwners_27 ?_
    refine lv_iconst (v := 1) hx hb dX5_readOwners_29 (by decide) ?_
    refine lv_iconst (v := 5) hx hb dX5_readOwners_30 (by decide) ?_
    have hz8 := (show (1 : Int32).toInt = 1 by decide)
    have hz9 := (show (5 : Int32).toInt = 5 by decide)
    refine z_calliV (cells := 0) (slots := 0) (b := rd) (As := [.ref (adK 11), .int 1, .int 5]) (rest := [.ref mo]) (ci := 5) (q0 := (RX5, TX5, 9)) ⟨hx, hb, hml, hown, hT⟩ (c_X5_takeNamed l hm_rd hm_tp hm_tb hf_rd hf_tp hf_tb (by first | omega | decide | assumption) (by first | omega | decide | assumption) (by first | omega | decide | assumption)) (cwV 3 hT (z_goodV (fun _ h => h) kw_627 kw_629 kw_5 kw_89 kw_630) rfl rfl rfl (by decide +kernel) ⟨by decide, by decide⟩) z_mv hKK hK hw hA hm_rd hf_rd rfl rfl rfl hl.1 rfl (Nat.le_of_ble_eq_true rfl) dX5_readOwners_31 ⟨by decide, by decide⟩ (fun r10 u H locs hp hw => ?_)
    obtain ⟨L11, f12⟩ := u
    obtain ⟨hsb, hfm, f2_13, p2_14, k2_15, a2_16, n2_17, z2_18, ha_0, hp⟩ := hp
    have hsb : L = L11 := hsb
    subst hsb
    have hsb : ∀ b ∈ L, b ∈ L := fun _ h => h
    have hw : z_H D vwCl (z_A L sz) s.heap L f12 H locs := hw
    have hfr : ∀ b ∈ L, b ≠ rd → b ≠ mo → f12 b = f b := fun b hb h0 h1 => (hfm b hb h0).trans (hfr b hb h0 h1)
    have hf_tp : f12 tp = .inr (7, [.ref tb, .int tl]) := (hfm tp hm_tp (z_tne hf_tp hf_rd (m := 7) (n := 5) rfl rfl (by decide))).trans hf_tp
    have hf_tb : f12 tb = .inl (cy 0, 1600, .inl gt) := (hfm tb hm_tb (z_tne hf_tb hf_rd (m := 12900) (n := 5) rfl rfl (by decide))).trans hf_tb
    have hf_mo : f12 mo = .inr (2, [.int v0, .int v1, .int v2, .int v3, .int v4, .int v5, .int v6, .ref la, .ref sa, .ref mi, .ref da]) := (hfm mo hm_mo (z_tne hf_mo hf_rd (m := 2) (n := 5) rfl rfl (by decide))).trans hf_mo
    have hf_rd : f12 rd = .inr (5, [.int f2_13, .int p2_14, .ref tp, .ref mo, .int ot_, .int k2_15, .int a2_16, .int n2_17, .int z2_18]) := ha_0
    have hq19 := hp
    refine z_put (C := RX2) (T := TX2) (N := 11) (ci := 2) (v := .int r10) (fs' := [.int v0, .int v1, .int v2, .int r10, .int v4, .int v5, .int v6, .ref la, .ref sa, .ref mi, .ref da]) hx hb hT zin_X2 tyX2_ok nmX2 hown hK hw hm_mo hf_mo rfl 3 (by decide) (hT _ kw_216) rfl rfl rfl (Nat.le_of_ble_eq_true rfl) rfl dX5_readOwners_34 (fun H locs hw => ?_)
    obtain ⟨f20, e_f20⟩ : ∃ z, z = va_up f12 mo (.inr (2, [.int v0, .int v1, .int v2, .int r10, .int v4, .int v5, .int v6, .ref la, .ref sa, .ref mi, .ref da])) := ⟨_, rfl⟩
    rw [← e_f20] at hw
    have hf_rd : f20 rd = .inr (5, [.int f2_13, .int p2_14, .ref tp, .ref mo, .int ot_, .int k2_15, .int a2_16, .int n2_17, .int z2_18]) := (congrFun e_f20 rd).trans (z_up_ne (z_tne hf_rd hf_mo (m := 5) (n := 2) rfl rfl (by decide)) hf_rd)
    have hf_tp : f20 tp = .inr (7, [.ref tb, .int tl]) := (congrFun e_f20 tp).trans (z_up_ne (z_tne hf_tp hf_mo (m := 7) (n := 2) rfl rfl (by decide)) hf_tp)
    have hf_tb : f20 tb = .inl (cy 0, 1600, .inl gt) := (congrFun e_f20 tb).trans (z_up_ne (z_tne hf_tb hf_mo (m := 12900) (n := 2) rfl rfl (by decide)) hf_tb)
    have hf_mo : f20 mo = .inr (2, [.int v0, .int v1, .int v2, .int r10, .int v4, .int v5, .int v6, .ref la, .ref sa, .ref mi, .ref da]) := (congrFun e_f20 mo).trans z_up_self
    have hfr : ∀ b ∈ L, b ≠ rd → b ≠ mo → f20 b = f b := fun b hb h0 h1 => (congrFun e_f20 b).trans (z_up_ne h1 (hfr b hb h0 h1))
    refine lv_aload_n hx hb dX5_readOwners_37 rfl (lv_at hl 0 rfl) ?_
    refine lv_iconst (v := 1) hx hb dX5_readOwners_38 (by decide) ?_
    refine z_put (C := RX5) (T := TX5) (N := 9) (ci := 5) (v := .int 1) (fs' := [.int f2_13, .int p2_14, .ref tp, .ref mo, .int 1, .int k2_15, .int a2_16, .int n2_17, .int z2_18]) hx hb hT zin_X5 tyX5_ok nmX5 hown hK hw hm_rd hf_rd rfl 4 (by decide) (hT _ kw_283) rfl rfl rfl (Nat.le_of_ble_eq_true rfl) rfl dX5_readOwners_39 (fun H locs hw => ?_)
    obtain ⟨f21, e_f21⟩ : ∃ z, z = va_up f20 rd (.inr (5, [.int f2_13, .int p2_14, .ref tp, .ref mo, .int 1, .int k2_15, .int a2_16, .int n2_17, .int z2_18])) := ⟨_, rfl⟩
    rw [← e_f21] at hw
    have hf_tp : f21 tp = .inr (7, [.ref tb, .int tl]) := (congrFun e_f21 tp).trans (z_up_ne (z_tne hf_tp hf_rd (m := 7) (n := 5) rfl rfl (by decide)) hf_tp)
    have hf_tb : f21 tb = .inl (cy 0, 1600, .inl gt) := (congrFun e_f21 tb).trans (z_up_ne (z_tne hf_tb hf_rd (m := 12900) (n := 5) rfl rfl (by decide)) hf_tb)
    have hf_mo : f21 mo = .inr (2, [.int v0, .int v1, .int v2, .int r10, .int v4, .int v5, .int v6, .ref la, .ref sa, .ref mi, .ref da]) := (congrFun e_f21 mo).trans (z_up_ne (z_tne hf_mo hf_rd (m := 2) (n := 5) rfl rfl (by decide)) hf_mo)
    have hf_rd : f21 rd = .inr (5, [.int f2_13, .int p2_14, .ref tp, .ref mo, .int 1, .int k2_15, .int a2_16, .int n2_17, .int z2_18]) := (congrFun e_f21 rd).trans z_up_self
    have hfr : ∀ b ∈ L, b ≠ rd → b ≠ mo → f21 b = f b := fun b hb h0 h1 => (congrFun e_f21 b).trans (z_up_ne h0 (hfr b hb h0 h1))
    exact z_vret hx hb hr hlk (by decide) (by decide) hw (⟨hsub, hfr, f2_13, p2_14, k2_15, a2_16, n2_17, z2_18, r10, hf_rd, hf_mo, by omega, by omega, by omega, by omega, by omega⟩) dX5_readOwners_42
  · skip
    refine lv_aload_n hx hb dX5_readOwners_7 rfl (lv_at hl 0 rfl) ?_
    refine z_get (C := RX5) (T := TX5) (N := 9) (ci := 5) (v := .ref mo) hx hb hT zin_X5 hown hK hw hm_rd hf_rd rfl 3 (by decide) (hT _ kw_282) rfl dX5_readOwners_8 ?_
    refine z_get (C := RX2) (T := TX2) (N := 11) (ci := 2) (v := .int v5) hx hb hT zin_X2 hown hK hw hm_mo hf_mo rfl 5 (by decide) (hT _ kw_225) rfl dX5_readOwners_11 ?_
    refine z_if_le (tgt := 22) hx hb rfl dX5_readOwners_14 (by decide) (fun c22 => ?_) (fun c22 => ?_)
    · skip
      refine lv_aload_n hx hb dX5_readOwners_22 rfl (lv_at hl 0 rfl) ?_
      refine z_get (C := RX5) (T := TX5) (N := 9) (ci := 5) (v := .ref mo) hx hb hT zin_X5 hown hK hw hm_rd hf_rd rfl 3 (by decide) (hT _ kw_282) rfl dX5_readOwners_23 ?_
      refine lv_aload_n hx hb dX5_readOwners_26 rfl (lv_at hl 0 rfl) ?_
      refine va_ldcS (index := 113) hx hb hown (hKK.2.2.1 11 (by decide)) dX5_readOwners_27 ?_
      refine lv_iconst (v := 1) hx hb dX5_readOwners_29 (by decide) ?_
      refine lv_iconst (v := 5) hx hb dX5_readOwners_30 (by decide) ?_
      have hz23 := (show (1 : Int32).toInt = 1 by decide)
      have hz24 := (show (5 : Int32).toInt = 5 by decide)
      refine z_calliV (cells := 0) (slots := 0) (b := rd) (As := [.ref (adK 11), .int 1, .int 5]) (rest := [.ref mo]) (ci := 5) (q0 := (RX5, TX5, 9)) ⟨hx, hb, hml, hown, hT⟩ (c_X5_takeNamed l hm_rd hm_tp hm_tb hf_rd hf_tp hf_tb (by first | omega | decide | assumption) (by first | omega | decide | assumption) (by first | omega | decide | assumption)) (cwV 3 hT (z_goodV (fun _ h => h) kw_627 kw_629 kw_5 kw_89 kw_630) rfl rfl rfl (by decide +kernel) ⟨by decide, by decide⟩) z_mv hKK hK hw hA hm_rd hf_rd rfl rfl rfl hl.1 rfl (Nat.le_of_ble_eq_true rfl) dX5_readOwners_31 ⟨by decide, by decide⟩ (fun r25 u H locs hp hw => ?_)
      obtain ⟨L26, f27⟩ := u
      obtain ⟨hsb, hfm, f2_28, p2_29, k2_30, a2_31, n2_32, z2_33, ha_0, hp⟩ := hp
      have hsb : L = L26 := hsb
      subst hsb
      have hsb : ∀ b ∈ L, b ∈ L := fun _ h => h
      have hw : z_H D vwCl (z_A L sz) s.heap L f27 H locs := hw
      have hfr : ∀ b ∈ L, b ≠ rd → b ≠ mo → f27 b = f b := fun b hb h0 h1 => (hfm b hb h0).trans (hfr b hb h0 h1)
      have hf_tp : f27 tp = .inr (7, [.ref tb, .int tl]) := (hfm tp hm_tp (z_tne hf_tp hf_rd (m := 7) (n := 5) rfl rfl (by decide))).trans hf_tp
      have hf_tb : f27 tb = .inl (cy 0, 1600, .inl gt) := (hfm tb hm_tb (z_tne hf_tb hf_rd (m := 12900) (n := 5) rfl rfl (by decide))).trans hf_tb
      have hf_mo : f27 mo = .inr (2, [.int v0, .int v1, .int v2, .int v3, .int v4, .int v5, .int v6, .ref la, .ref sa, .ref mi, .ref da]) := (hfm mo hm_mo (z_tne hf_mo hf_rd (m := 2) (n := 5) rfl rfl (by decide))).trans hf_mo
      have hf_rd : f27 rd = .inr (5, [.int f2_28, .int p2_29, .ref tp, .ref mo, .int ot_, .int k2_30, .int a2_31, .int n2_32, .int z2_33]) := ha_0
      have hq34 := hp
      refine z_put (C := RX2) (T := TX2) (N := 11) (ci := 2) (v := .int r25) (fs' := [.int v0, .int v1, .int v2, .int r25, .int v4, .int v5, .int v6, .ref la, .ref sa, .ref mi, .ref da]) hx hb hT zin_X2 tyX2_ok nmX2 hown hK hw hm_mo hf_mo rfl 3 (by decide) (hT _ kw_216) rfl rfl rfl (Nat.le_of_ble_eq_true rfl) rfl dX5_readOwners_34 (fun H locs hw => ?_)
      obtain ⟨f35, e_f35⟩ : ∃ z, z = va_up f27 mo (.inr (2, [.int v0, .int v1, .int v2, .int r25, .int v4, .int v5, .int v6, .ref la, .ref sa, .ref mi, .ref da])) := ⟨_, rfl⟩
      rw [← e_f35] at hw
      have hf_rd : f35 rd = .inr (5, [.int f2_28, .int p2_29, .ref tp, .ref mo, .int ot_, .int k2_30, .int a2_31, .int n2_32, .int z2_33]) := (congrFun e_f35 rd).trans (z_up_ne (z_tne hf_rd hf_mo (m := 5) (n := 2) rfl rfl (by decide)) hf_rd)
      have hf_tp : f35 tp = .inr (7, [.ref tb, .int tl]) := (congrFun e_f35 tp).trans (z_up_ne (z_tne hf_tp hf_mo (m := 7) (n := 2) rfl rfl (by decide)) hf_tp)
      have hf_tb : f35 tb = .inl (cy 0, 1600, .inl gt) := (congrFun e_f35 tb).trans (z_up_ne (z_tne hf_tb hf_mo (m := 12900) (n := 2) rfl rfl (by decide)) hf_tb)
      have hf_mo : f35 mo = .inr (2, [.int v0, .int v1, .int v2, .int r25, .int v4, .int v5, .int v6, .ref la, .ref sa, .ref mi, .ref da]) := (congrFun e_f35 mo).trans z_up_self
      have hfr : ∀ b ∈ L, b ≠ rd → b ≠ mo → f35 b = f b := fun b hb h0 h1 => (congrFun e_f35 b).trans (z_up_ne h1 (hfr b hb h0 h1))
      refine lv_aload_n hx hb dX5_readOwners_37 rfl (lv_at hl 0 rfl) ?_
      refine lv_iconst (v := 1) hx hb dX5_readOwners_38 (by decide) ?_
      refine z_put (C := RX5) (T := TX5) (N := 9) (ci := 5) (v := .int 1) (fs' := [.int f2_28, .int p2_29, .ref tp, .ref mo, .int 1, .int k2_30, .int a2_31, .int n2_32, .int z2_33]) hx hb hT zin_X5 tyX5_ok nmX5 hown hK hw hm_rd hf_rd rfl 4 (by decide) (hT _ kw_283) rfl rfl rfl (Nat.le_of_ble_eq_true rfl) rfl dX5_readOwners_39 (fun H locs hw => ?_)
      obtain ⟨f36, e_f36⟩ : ∃ z, z = va_up f35 rd (.inr (5, [.int f2_28, .int p2_29, .ref tp, .ref mo, .int 1, .int k2_30, .int a2_31, .int n2_32, .int z2_33])) := ⟨_, rfl⟩
      rw [← e_f36] at hw
      have hf_tp : f36 tp = .inr (7, [.ref tb, .int tl]) := (congrFun e_f36 tp).trans (z_up_ne (z_tne hf_tp hf_rd (m := 7) (n := 5) rfl rfl (by decide)) hf_tp)
      have hf_tb : f36 tb = .inl (cy 0, 1600, .inl gt) := (congrFun e_f36 tb).trans (z_up_ne (z_tne hf_tb hf_rd (m := 12900) (n := 5) rfl rfl (by decide)) hf_tb)
      have hf_mo : f36 mo = .inr (2, [.int v0, .int v1, .int v2, .int r25, .int v4, .int v5, .int v6, .ref la, .ref sa, .ref mi, .ref da]) := (congrFun e_f36 mo).trans (z_up_ne (z_tne hf_mo hf_rd (m := 2) (n := 5) rfl rfl (by decide)) hf_mo)
      have hf_rd : f36 rd = .inr (5, [.int f2_28, .int p2_29, .ref tp, .ref mo, .int 1, .int k2_30, .int a2_31, .int n2_32, .int z2_33]) := (congrFun e_f36 rd).trans z_up_self
      have hfr : ∀ b ∈ L, b ≠ rd → b ≠ mo → f36 b = f b := fun b hb h0 h1 => (congrFun e_f36 b).trans (z_up_ne h0 (hfr b hb h0 h1))
      exact z_vret hx hb hr hlk (by decide) (by decide) hw (⟨hsub, hfr, f2_28, p2_29, k2_30, a2_31, n2_32, z2_33, r25, hf_rd, hf_mo, by omega, by omega, by omega, by omega, by omega⟩) dX5_readOwners_42
    · skip
      refine lv_aload_n hx hb dX5_readOwners_17 rfl (lv_at hl 0 rfl) ?_
      refine lv_iconst (v := 2) hx hb dX5_readOwners_18 (by decide) ?_
      have hz37 := (show (2 : Int32).toInt = 2 by decide)
      refine z_callvV (cells := 0) (slots := 0) (b := rd) (As := [.int 2]) (rest := []) (ci := 5) (q0 := (RX5, TX5, 9)) ⟨hx, hb, hml, hown, hT⟩ (c_X5_refuse l hm_rd hf_rd (by first | omega | decide | assumption)) (cwV 1 hT (z_goodV (fun _ h => h) kw_622 kw_624 kw_4 kw_89 kw_625) rfl rfl rfl (by decide +kernel) ⟨by decide, by decide⟩) z_mv hKK hK hw hA hm_rd hf_rd rfl rfl rfl hl.1 rfl (Nat.le_of_ble_eq_true rfl) dX5_readOwners_19 ⟨by decide, by decide⟩ (fun u H locs hp hw => ?_)
      obtain ⟨L38, f39⟩ := u
      obtain ⟨hsb, hfm, f2_40, p2_41, ha_0, hp⟩ := hp
      have hsb : L = L38 := hsb
      subst hsb
      have hsb : ∀ b ∈ L, b ∈ L := fun _ h => h
      have hw : z_H D vwCl (z_A L sz) s.heap L f39 H locs := hw
      have hfr : ∀ b ∈ L, b ≠ rd → b ≠ mo → f39 b = f b := fun b hb h0 h1 => (hfm b hb h0).trans (hfr b hb h0 h1)
      have hf_tp : f39 tp = .inr (7, [.ref tb, .int tl]) := (hfm tp hm_tp (z_tne hf_tp hf_rd (m := 7) (n := 5) rfl rfl (by decide))).trans hf_tp
      have hf_tb : f39 tb = .inl (cy 0, 1600, .inl gt) := (hfm tb hm_tb (z_tne hf_tb hf_rd (m := 12900) (n := 5) rfl rfl (by decide))).trans hf_tb
      have hf_mo : f39 mo = .inr (2, [.int v0, .int v1, .int v2, .int v3, .int v4, .int v5, .int v6, .ref la, .ref sa, .ref mi, .ref da]) := (hfm mo hm_mo (z_tne hf_mo hf_rd (m := 2) (n := 5) rfl rfl (by decide))).trans hf_mo
      have hf_rd : f39 rd = .inr (5, [.int f2_40, .int p2_41, .ref tp, .ref mo, .int ot_, .int ki, .int ra, .int rn, .int rv]) := ha_0
      have hq42 := hp
      refine lv_aload_n hx hb dX5_readOwners_22 rfl (lv_at hl 0 rfl) ?_
      refine z_get (C := RX5) (T := TX5) (N := 9) (ci := 5) (v := .ref mo) hx hb hT zin_X5 hown hK hw hm_rd hf_rd rfl 3 (by decide) (hT _ kw_282) rfl dX5_readOwners_23 ?_
      refine lv_aload_n hx hb dX5_readOwners_26 rfl (lv_at hl 0 rfl) ?_
      refine va_ldcS (index := 113) hx hb hown (hKK.2.2.1 11 (by decide)) dX5_readOwners_27 ?_
      refine lv_iconst (v := 1) hx hb dX5_readOwners_29 (by decide) ?_
      refine lv_iconst (v := 5) hx hb dX5_readOwners_30 (by decide) ?_
      have hz43 := (show (1 : Int32).toInt = 1 by decide)
      have hz44 := (show (5 : Int32).toInt = 5 by decide)
      refine z_calliV (cells := 0) (slots := 0) (b := rd) (As := [.ref (adK 11), .int 1, .int 5]) (rest := [.ref mo]) (ci := 5) (q0 := (RX5, TX5, 9)) ⟨hx, hb, hml, hown, hT⟩ (c_X5_takeNamed l hm_rd hm_tp hm_tb hf_rd hf_tp hf_tb (by first | omega | decide | assumption) (by first | omega | decide | assumption) (by first | omega | decide | assumption)) (cwV 3 hT (z_goodV (fun _ h => h) kw_627 kw_629 kw_5 kw_89 kw_630) rfl rfl rfl (by decide +kernel) ⟨by decide, by decide⟩) z_mv hKK hK hw hA hm_rd hf_rd rfl rfl rfl hl.1 rfl (Nat.le_of_ble_eq_true rfl) dX5_readOwners_31 ⟨by decide, by decide⟩ (fun r45 u H locs hp hw => ?_)
      obtain ⟨L46, f47⟩ := u
      obtain ⟨hsb, hfm, f2_48, p2_49, k2_50, a2_51, n2_52, z2_53, ha_0, hp⟩ := hp
      have hsb : L = L46 := hsb
      subst hsb
      have hsb : ∀ b ∈ L, b ∈ L := fun _ h => h
      have hw : z_H D vwCl (z_A L sz) s.heap L f47 H locs := hw
      have hfr : ∀ b ∈ L, b ≠ rd → b ≠ mo → f47 b = f b := fun b hb h0 h1 => (hfm b hb h0).trans (hfr b hb h0 h1)
      have hf_tp : f47 tp = .inr (7, [.ref tb, .int tl]) := (hfm tp hm_tp (z_tne hf_tp hf_rd (m := 7) (n := 5) rfl rfl (by decide))).trans hf_tp
      have hf_tb : f47 tb = .inl (cy 0, 1600, .inl gt) := (hfm tb hm_tb (z_tne hf_tb hf_rd (m := 12900) (n := 5) rfl rfl (by decide))).trans hf_tb
      have hf_mo : f47 mo = .inr (2, [.int v0, .int v1, .int v2, .int v3, .int v4, .int v5, .int v6, .ref la, .ref sa, .ref mi, .ref da]) := (hfm mo hm_mo (z_tne hf_mo hf_rd (m := 2) (n := 5) rfl rfl (by decide))).trans hf_mo
      have hf_rd : f47 rd = .inr (5, [.int f2_48, .int p2_49, .ref tp, .ref mo, .int ot_, .int k2_50, .int a2_51, .int n2_52, .int z2_53]) := ha_0
      have hq54 := hp
      refine z_put (C := RX2) (T := TX2) (N := 11) (ci := 2) (v := .int r45) (fs' := [.int v0, .int v1, .int v2, .int r45, .int v4, .int v5, .int v6, .ref la, .ref sa, .ref mi, .ref da]) hx hb hT zin_X2 tyX2_ok nmX2 hown hK hw hm_mo hf_mo rfl 3 (by decide) (hT _ kw_216) rfl rfl rfl (Nat.le_of_ble_eq_true rfl) rfl dX5_readOwners_34 (fun H locs hw => ?_)
      obtain ⟨f55, e_f55⟩ : ∃ z, z = va_up f47 mo (.inr (2, [.int v0, .int v1, .int v2, .int r45, .int v4, .int v5, .int v6, .ref la, .ref sa, .ref mi, .ref da])) := ⟨_, rfl⟩
      rw [← e_f55] at hw
      have hf_rd : f55 rd = .inr (5, [.int f2_48, .int p2_49, .ref tp, .ref mo, .int ot_, .int k2_50, .int a2_51, .int n2_52, .int z2_53]) := (congrFun e_f55 rd).trans (z_up_ne (z_tne hf_rd hf_mo (m := 5) (n := 2) rfl rfl (by decide)) hf_rd)
      have hf_tp : f55 tp = .inr (7, [.ref tb, .int tl]) := (congrFun e_f55 tp).trans (z_up_ne (z_tne hf_tp hf_mo (m := 7) (n := 2) rfl rfl (by decide)) hf_tp)
      have hf_tb : f55 tb = .inl (cy 0, 1600, .inl gt) := (congrFun e_f55 tb).trans (z_up_ne (z_tne hf_tb hf_mo (m := 12900) (n := 2) rfl rfl (by decide)) hf_tb)
      have hf_mo : f55 mo = .inr (2, [.int v0, .int v1, .int v2, .int r45, .int v4, .int v5, .int v6, .ref la, .ref sa, .ref mi, .ref da]) := (congrFun e_f55 mo).trans z_up_self
      have hfr : ∀ b ∈ L, b ≠ rd → b ≠ mo → f55 b = f b := fun b hb h0 h1 => (congrFun e_f55 b).trans (z_up_ne h1 (hfr b hb h0 h1))
      refine lv_aload_n hx hb dX5_readOwners_37 rfl (lv_at hl 0 rfl) ?_
      refine lv_iconst (v := 1) hx hb dX5_readOwners_38 (by decide) ?_
      refine z_put (C := RX5) (T := TX5) (N := 9) (ci := 5) (v := .int 1) (fs' := [.int f2_48, .int p2_49, .ref tp, .ref mo, .int 1, .int k2_50, .int a2_51, .int n2_52, .int z2_53]) hx hb hT zin_X5 tyX5_ok nmX5 hown hK hw hm_rd hf_rd rfl 4 (by decide) (hT _ kw_283) rfl rfl rfl (Nat.le_of_ble_eq_true rfl) rfl dX5_readOwners_39 (fun H locs hw => ?_)
      obtain ⟨f56, e_f56⟩ : ∃ z, z = va_up f55 rd (.inr (5, [.int f2_48, .int p2_49, .ref tp, .ref mo, .int 1, .int k2_50, .int a2_51, .int n2_52, .int z2_53])) := ⟨_, rfl⟩
      rw [← e_f56] at hw
      have hf_tp : f56 tp = .inr (7, [.ref tb, .int tl]) := (congrFun e_f56 tp).trans (z_up_ne (z_tne hf_tp hf_rd (m := 7) (n := 5) rfl rfl (by decide)) hf_tp)
      have hf_tb : f56 tb = .inl (cy 0, 1600, .inl gt) := (congrFun e_f56 tb).trans (z_up_ne (z_tne hf_tb hf_rd (m := 12900) (n := 5) rfl rfl (by decide)) hf_tb)
      have hf_mo : f56 mo = .inr (2, [.int v0, .int v1, .int v2, .int r45, .int v4, .int v5, .int v6, .ref la, .ref sa, .ref mi, .ref da]) := (congrFun e_f56 mo).trans (z_up_ne (z_tne hf_mo hf_rd (m := 2) (n := 5) rfl rfl (by decide)) hf_mo)
      have hf_rd : f56 rd = .inr (5, [.int f2_48, .int p2_49, .ref tp, .ref mo, .int 1, .int k2_50, .int a2_51, .int n2_52, .int z2_53]) := (congrFun e_f56 rd).trans z_up_self
      have hfr : ∀ b ∈ L, b ≠ rd → b ≠ mo → f56 b = f b := fun b hb h0 h1 => (congrFun e_f56 b).trans (z_up_ne h0 (hfr b hb h0 h1))
      exact z_vret hx hb hr hlk (by decide) (by decide) hw (⟨hsub, hfr, f2_48, p2_49, k2_50, a2_51, n2_52, z2_53, r45, hf_rd, hf_mo, by omega, by omega, by omega, by omega, by omega⟩) dX5_readOwners_42

set_option maxHeartbeats 2000000 in
set_option maxRecDepth 100000 in
theorem c_X5_readStart (l : Launch) {D : va_G} {cy : Nat → ClassId} {L : List Nat} {f : Nat → va_E} {sz : Nat} {adK adV : Nat → Nat} {rd tp tb mo : Nat} {fa fp ot_ ki ra rn rv : Int32} {tl : Int32} {gt : Nat → Int32} {la sa mi da : Nat} {v0 v1 v2 v3 v4 v5 v6 : Int32} {gl gs : Nat → Int32} (hm_rd : rd ∈ L) (hm_tp : tp ∈ L) (hm_tb : tb ∈ L) (hm_mo : mo ∈ L) (hm_la : la ∈ L) (hm_sa : sa ∈ L) (hf_rd : f rd = .inr (5, [.int fa, .int fp, .ref tp, .ref mo, .int ot_, .int ki, .int ra, .int rn, .int rv])) (hf_tp : f tp = .inr (7, [.ref tb, .int tl])) (hf_tb : f tb = .inl (cy 0, 1600, .inl gt)) (hf_mo : f mo = .inr (2, [.int v0, .int v1, .int v2, .int v3, .int v4, .int v5, .int v6, .ref la, .ref sa, .ref mi, .ref da])) (hf_la : f la = .inl (cy 1, 5, .inl gl)) (hf_sa : f sa = .inl (cy 1, 4, .inl gs)) (htl : 0 ≤ tl.toInt ∧ tl.toInt ≤ 1600) (hrr : (0 ≤ ra.toInt ∧ ra.toInt ≤ 1600) ∧ (0 ≤ rn.toInt ∧ rn.toInt ≤ 1600)) (hv1 : -1 ≤ v1.toInt ∧ v1.toInt ≤ 4) (hgl : ∀ j : Nat, z_lw fa (gl j)) (hgs : ∀ j : Nat, 0 ≤ (gs j).toInt ∧ (gs j).toInt ≤ 999) : Met l yX5_readStart (z_ws yX5_readStart cX5_readStart 3 none) (z_R 8 0 0) (va_Pc [.ref rd] (z_Pre D vwCl (z_KK D cy adK adV) L f sz)) (z_Qv D vwCl (fun u => L = u.1 ∧ (∀ b ∈ L, b ≠ rd → b ≠ sa → u.2 b = f b) ∧ (∃ (f2 p2 k2 a2 n2 z2 : Int32) (g2 : Nat → Int32), (u.2 rd = .inr (5, [.int f2, .int p2, .ref tp, .ref mo, .int ot_, .int k2, .int a2, .int n2, .int z2])) ∧ (u.2 sa = .inl (cy 1, 4, .inl g2)) ∧ ((f2.toInt ≠ 0 ∨ fa.toInt = 0) ∧ (0 ≤ a2.toInt ∧ a2.toInt ≤ 1600) ∧ (0 ≤ n2.toInt ∧ n2.toInt ≤ 1600) ∧ ∀ j : Nat, 0 ≤ (g2 j).toInt ∧ (g2 j).toInt ≤ 999))) L sz) 0 0 (z_A L sz) := by
  refine z_met (cc := cX5_readStart) (maxL := 3) (ret := none) (lv := [(0, .ref rd)]) (by decide) rfl (Nat.le_of_ble_eq_true rfl) rfl ?_
  intro p e s m below meth c ls hx hb hr hlk hml hown hnm hts hKK hA hw hl
  have hK := hKK.1.1
  have hown : s.vm.findClass RX5 = some m.cls := hown
  have hT : ∀ w ∈ lw_all, w.before ([.ref rd] : List Value).toArray s = true := fun w h => hts w (z_cons w h)
  have hsub : L = L := rfl
  have hfr : ∀ b ∈ L, b ≠ rd → b ≠ sa → f b = f b := fun _ _ _ _ => rfl
  refine lv_aload_n hx hb dX5_readStart_0 rfl (lv_at hl 0 rfl) ?_
  refine lv_iconst (v := 0) hx hb dX5_readStart_1 (by decide) ?_
  refine lv_aload_n hx hb dX5_readStart_2 rfl (lv_at hl 0 rfl) ?_
  refine z_get (C := RX5) (T := TX5) (N := 9) (ci := 5) (v := .ref mo) hx hb hT zin_X5 hown hK hw hm_rd hf_rd rfl 3 (by decide) (hT _ kw_282) rfl dX5_readStart_3 ?_
  refine z_get (C := RX2) (T := TX2) (N := 11) (ci := 2) (v := .int v1) hx hb hT zin_X2 hown hK hw hm_mo hf_mo rfl 1 (by decide) (hT _ kw_209) rfl dX5_readStart_6 ?_
  refine lv_iconst (v := 1) hx hb dX5_readStart_9 (by decide) ?_
  refine lv_isub hx hb dX5_readStart_10 ?_
  refine lv_topi (fun w1 e_w1 => ?_)
  have i_w1 : w1.toInt = (v1.toInt - 1) := z_subI e_w1 rfl (show (1 : Int32).toInt = 1 by decide) (by omega)
  have hz2 := (show (0 : Int32).toInt = 0 by decide)
  refine z_calliV (cells := 0) (slots := 0) (b := rd) (As := [.int 0, .int w1]) (rest := []) (ci := 5) (q0 := (RX5, TX5, 9)) ⟨hx, hb, hml, hown, hT⟩ (c_X5_take_ l hm_rd hm_tp hm_tb hf_rd hf_tp hf_tb (by first | omega | decide | assumption) (by first | omega | decide | assumption)) (cwV 2 hT (z_goodV (fun _ h => h) kw_631 kw_633 kw_6 kw_89 kw_634) rfl rfl rfl (by decide +kernel) ⟨by decide, by decide⟩) z_mv hKK hK hw hA hm_rd hf_rd rfl rfl rfl hl.1 rfl (Nat.le_of_ble_eq_true rfl) dX5_readStart_11 ⟨by decide, by decide⟩ (fun r3 u H locs hp hw => ?_)
  obtain ⟨L4, f5⟩ := u
  obtain ⟨hsb, hfm, f2_6, p2_7, k2_8, a2_9, n2_10, z2_11, ha_0, hp⟩ := hp
  have hsb : L = L4 := hsb
  subst hsb
  have hsb : ∀ b ∈ L, b ∈ L := fun _ h => h
  have hw : z_H D vwCl (z_A L sz) s.heap L f5 H locs := hw
  have hfr : ∀ b ∈ L, b ≠ rd → b ≠ sa → f5 b = f b := fun b hb h0 h1 => (hfm b hb h0).trans (hfr b hb h0 h1)
  have hf_tp : f5 tp = .inr (7, [.ref tb, .int tl]) := (hfm tp hm_tp (z_tne hf_tp hf_rd (m := 7) (n := 5) rfl rfl (by decide))).trans hf_tp
  have hf_tb : f5 tb = .inl (cy 0, 1600, .inl gt) := (hfm tb hm_tb (z_tne hf_tb hf_rd (m := 12900) (n := 5) rfl rfl (by decide))).trans hf_tb
  have hf_mo : f5 mo = .inr (2, [.int v0, .int v1, .int v2, .int v3, .int v4, .int v5, .int v6, .ref la, .ref sa, .ref mi, .ref da]) := (hfm mo hm_mo (z_tne hf_mo hf_rd (m := 2) (n := 5) rfl rfl (by decide))).trans hf_mo
  have hf_la : f5 la = .inl (cy 1, 5, .inl gl) := (hfm la hm_la (z_tne hf_la hf_rd (m := 140) (n := 5) rfl rfl (by decide))).trans hf_la
  have hf_sa : f5 sa = .inl (cy 1, 4, .inl gs) := (hfm sa hm_sa (z_tne hf_sa hf_rd (m := 132) (n := 5) rfl rfl (by decide))).trans hf_sa
  have hf_rd : f5 rd = .inr (5, [.int f2_6, .int p2_7, .ref tp, .ref mo, .int ot_, .int k2_8, .int a2_9, .int n2_10, .int z2_11]) := ha_0
  have hq12 := hp
  refine lv_istore_n (lv' := [(1, .int r3), (0, .ref rd)]) hx hb dX5_readStart_14 rfl hl (by decide) rfl (fun ls hl => ?_)
  refine lv_aload_n hx hb dX5_readStart_15 rfl (lv_at hl 1 rfl) ?_
  refine va_ldcS (index := 179) hx hb hown (hKK.2.2.1 13 (by decide)) dX5_readStart_16 ?_
  refine lv_iconst (v := 0) hx hb dX5_readStart_18 (by decide) ?_
  refine lv_aload_n hx hb dX5_readStart_19 rfl (lv_at hl 1 rfl) ?_
  refine z_get (C := RX5) (T := TX5) (N := 9) (ci := 5) (v := .ref mo) hx hb hT zin_X5 hown hK hw hm_rd hf_rd rfl 3 (by decide) (hT _ kw_282) rfl dX5_readStart_20 ?_
  refine z_get (C := RX2) (T := TX2) (N := 11) (ci := 2) (v := .ref la) hx hb hT zin_X2 hown hK hw hm_mo hf_mo rfl 7 (by decide) (hT _ kw_235) rfl dX5_readStart_23 ?_
  refine lv_iconst (v := 3) hx hb dX5_readStart_26 (by decide) ?_
  refine z_iald hx hb hK hw 1 hm_la hf_la rfl (z_ix (show (3 : Int32).toInt = 3 by decide) (by decide)) dX5_readStart_27 ?_
  refine lv_topi (fun w13 e_w13 => ?_)
  have hl_w13 : -1 ≤ w13.toInt ∧ w13.toInt ≤ 999 := by rw [e_w13]; exact ⟨(hgl _).1, (hgl _).2.1⟩
  refine lv_iconst (v := 1) hx hb dX5_readStart_28 (by decide) ?_
  refine lv_isub hx hb dX5_readStart_29 ?_
  refine lv_topi (fun w14 e_w14 => ?_)
  have i_w14 : w14.toInt = (w13.toInt - 1) := z_subI e_w14 rfl (show (1 : Int32).toInt = 1 by decide) (by omega)
  have hz15 := (show (0 : Int32).toInt = 0 by decide)
  refine z_calliV (cells := 0) (slots := 0) (b := rd) (As := [.ref (adK 13), .int 0, .int w14]) (rest := []) (ci := 5) (q0 := (RX5, TX5, 9)) ⟨hx, hb, hml, hown, hT⟩ (c_X5_takeNamed l hm_rd hm_tp hm_tb hf_rd hf_tp hf_tb (by first | omega | decide | assumption) (by first | omega | decide | assumption) (by first | omega | decide | assumption)) (cwV 3 hT (z_goodV (fun _ h => h) kw_627 kw_629 kw_5 kw_89 kw_630) rfl rfl rfl (by decide +kernel) ⟨by decide, by decide⟩) z_mv hKK hK hw hA hm_rd hf_rd rfl rfl rfl hl.1 rfl (Nat.le_of_ble_eq_true rfl) dX5_readStart_30 ⟨by decide, by decide⟩ (fun r16 u H locs hp hw => ?_)
  obtain ⟨L17, f18⟩ := u
  obtain ⟨hsb, hfm, f2_19, p2_20, k2_21, a2_22, n2_23, z2_24, ha_0, hp⟩ := hp
  have hsb : L = L17 := hsb
  subst hsb
  have hsb : ∀ b ∈ L, b ∈ L := fun _ h => h
  have hw : z_H D vwCl (z_A L sz) s.heap L f18 H locs := hw
  have hfr : ∀ b ∈ L, b ≠ rd → b ≠ sa → f18 b = f b := fun b hb h0 h1 => (hfm b hb h0).trans (hfr b hb h0 h1)
  have hf_tp : f18 tp = .inr (7, [.ref tb, .int tl]) := (hfm tp hm_tp (z_tne hf_tp hf_rd (m := 7) (n := 5) rfl rfl (by decide))).trans hf_tp
  have hf_tb : f18 tb = .inl (cy 0, 1600, .inl gt) := (hfm tb hm_tb (z_tne hf_tb hf_rd (m := 12900) (n := 5) rfl rfl (by decide))).trans hf_tb
  have hf_mo : f18 mo = .inr (2, [.int v0, .int v1, .int v2, .int v3, .int v4, .int v5, .int v6, .ref la, .ref sa, .ref mi, .ref da]) := (hfm mo hm_mo (z_tne hf_mo hf_rd (m := 2) (n := 5) rfl rfl (by decide))).trans hf_mo
  have hf_la : f18 la = .inl (cy 1, 5, .inl gl) := (hfm la hm_la (z_tne hf_la hf_rd (m := 140) (n := 5) rfl rfl (by decide))).trans hf_la
  have hf_sa : f18 sa = .inl (cy 1, 4, .inl gs) := (hfm sa hm_sa (z_tne hf_sa hf_rd (m := 132) (n := 5) rfl rfl (by decide))).trans hf_sa
  have hf_rd : f18 rd = .inr (5, [.int f2_19, .int p2_20, .ref tp, .ref mo, .int ot_, .int k2_21, .int a2_22, .int n2_23, .int z2_24]) := ha_0
  have hq25 := hp
  refine lv_istore_n (lv' := [(2, .int r16), (1, .int r3), (0, .ref rd)]) hx hb dX5_readStart_33 rfl hl (by decide) rfl (fun ls hl => ?_)
  refine lv_aload_n hx hb dX5_readStart_34 rfl (lv_at hl 2 rfl) ?_
  refine z_get (C := RX5) (T := TX5) (N := 9) (ci := 5) (v := .int f2_19) hx hb hT zin_X5 hown hK hw hm_rd hf_rd rfl 0 (by decide) (hT _ kw_277) rfl dX5_readStart_35 ?_
  refine z_if_ne (tgt := 51) hx hb rfl dX5_readStart_38 (by decide) (fun c26 => ?_) (fun c26 => ?_)
  · skip
    exact z_vret hx hb hr hlk (by decide) (by decide) hw (⟨hsub, hfr, f2_19, p2_20, k2_21, a2_22, n2_23, z2_24, gs, hf_rd, hf_sa, by omega, by omega, by omega, hgs⟩) dX5_readStart_51
  · skip
    refine lv_aload_n hx hb dX5_readStart_41 rfl (lv_at hl 2 rfl) ?_
    refine z_get (C := RX5) (T := TX5) (N := 9) (ci := 5) (v := .ref mo) hx hb hT zin_X5 hown hK hw hm_rd hf_rd rfl 3 (by decide) (hT _ kw_282) rfl dX5_readStart_42 ?_
    refine z_get (C := RX2) (T := TX2) (N := 11) (ci := 2) (v := .ref sa) hx hb hT zin_X2 hown hK hw hm_mo hf_mo rfl 8 (by decide) (hT _ kw_238) rfl dX5_readStart_45 ?_
    refine lv_iload_n hx hb dX5_readStart_48 rfl (lv_at hl 1 rfl) ?_
    refine lv_iload_n hx hb dX5_readStart_49 rfl (lv_at hl 0 rfl) ?_
    refine z_iast hx hb hK hw 1 hm_sa hf_sa rfl (z_ix rfl (by omega)) dX5_readStart_50 (fun H locs hw => ?_)
    obtain ⟨f28, e_f28⟩ : ∃ z, z = va_up f18 sa (.inl (cy 1, 4, .inl (upd gs r3.toNatClampNeg r16))) := ⟨_, rfl⟩
    rw [← e_f28] at hw
    have hf_rd : f28 rd = .inr (5, [.int f2_19, .int p2_20, .ref tp, .ref mo, .int ot_, .int k2_21, .int a2_22, .int n2_23, .int z2_24]) := (congrFun e_f28 rd).trans (z_up_ne (z_tne hf_rd hf_sa (m := 5) (n := 132) rfl rfl (by decide)) hf_rd)
    have hf_tp : f28 tp = .inr (7, [.ref tb, .int tl]) := (congrFun e_f28 tp).trans (z_up_ne (z_tne hf_tp hf_sa (m := 7) (n := 132) rfl rfl (by decide)) hf_tp)
    have hf_tb : f28 tb = .inl (cy 0, 1600, .inl gt) := (congrFun e_f28 tb).trans (z_up_ne (z_tne hf_tb hf_sa (m := 12900) (n := 132) rfl rfl (by decide)) hf_tb)
    have hf_mo : f28 mo = .inr (2, [.int v0, .int v1, .int v2, .int v3, .int v4, .int v5, .int v6, .ref la, .ref sa, .ref mi, .ref da]) := (congrFun e_f28 mo).trans (z_up_ne (z_tne hf_mo hf_sa (m := 2) (n := 132) rfl rfl (by decide)) hf_mo)
    have hf_la : f28 la = .inl (cy 1, 5, .inl gl) := (congrFun e_f28 la).trans (z_up_ne (z_tne hf_la hf_sa (m := 140) (n := 132) rfl rfl (by decide)) hf_la)
    have hf_sa : f28 sa = .inl (cy 1, 4, .inl (upd gs r3.toNatClampNeg r16)) := (congrFun e_f28 sa).trans z_up_self
    have hfr : ∀ b ∈ L, b ≠ rd → b ≠ sa → f28 b = f b := fun b hb h0 h1 => (congrFun e_f28 b).trans (z_up_ne h1 (hfr b hb h0 h1))
    obtain ⟨g27, e_g27⟩ : ∃ z, z = (upd gs r3.toNatClampNeg r16) := ⟨_, rfl⟩
    rw [← e_g27] at hf_sa
    exact z_vret hx hb hr hlk (by decide) (by decide) hw (⟨hsub, hfr, f2_19, p2_20, k2_21, a2_22, n2_23, z2_24, g27, hf_rd, hf_sa, by omega, by omega, by omega, z_updP (P := fun x : Int32 => 0 ≤ x.toInt ∧ x.toInt ≤ 999) hgs e_g27 (show _ ∧ _ by omega)⟩) dX5_readStart_51

set_option maxHeartbeats 2000000 in
set_option maxRecDepth 100000 in
theorem c_X5_readFog (l : Launch) {D : va_G} {cy : Nat → ClassId} {L : List Nat} {f : Nat → va_E} {sz : Nat} {adK adV : Nat → Nat} {rd tp tb mo : Nat} {fa fp ot_ ki ra rn rv : Int32} {tl : Int32} {gt : Nat → Int32} {la sa mi da : Nat} {v0 v1 v2 v3 v4 v5 v6 : Int32} {gm : Nat → Int32} (hm_rd : rd ∈ L) (hm_tp : tp ∈ L) (hm_tb : tb ∈ L) (hm_mo : mo ∈ L) (hm_mi : mi ∈ L) (hf_rd : f rd = .inr (5, [.int fa, .int fp, .ref tp, .ref mo, .int ot_, .int ki, .int ra, .int rn, .int rv])) (hf_tp : f tp = .inr (7, [.ref tb, .int tl])) (hf_tb : f tb = .inl (cy 0, 1600, .inl gt)) (hf_mo : f mo = .inr (2, [.int v0, .int v1, .int v2, .int v3, .int v4, .int v5, .int v6, .ref la, .ref sa, .ref mi, .ref da])) (hf_mi : f mi = .inl (cy 1, 36, .inl gm)) (htl : 0 ≤ tl.toInt ∧ tl.toInt ≤ 1600) (hrr : (0 ≤ ra.toInt ∧ ra.toInt ≤ 1600) ∧ (0 ≤ rn.toInt ∧ rn.toInt ≤ 1600)) (hv1 : -1 ≤ v1.toInt ∧ v1.toInt ≤ 4) (hv2 : -1 ≤ v2.toInt ∧ v2.toInt ≤ 9) (hgm : ∀ j : Nat, 0 ≤ (gm j).toInt ∧ (gm j).toInt ≤ 9) : Met l yX5_readFog (z_ws yX5_readFog cX5_readFog 4 none) (z_R 8 0 0) (va_Pc [.ref rd] (z_Pre D vwCl (z_KK D cy adK adV) L f sz)) (z_Qv D vwCl (fun u => L = u.1 ∧ (∀ b ∈ L, b ≠ rd → b ≠ mo → b ≠ mi → u.2 b = f b) ∧ (∃ (f2 p2 k2 a2 n2 z2 w6 : Int32) (g2 : Nat → Int32), (u.2 rd = .inr (5, [.int f2, .int p2, .ref tp, .ref mo, .int ot_, .int k2, .int a2, .int n2, .int z2])) ∧ (u.2 mo = .inr (2, [.int v0, .int v1, .int v2, .int v3, .int v4, .int v5, .int w6, .ref la, .ref sa, .ref mi, .ref da])) ∧ (u.2 mi = .inl (cy 1, 36, .inl g2)) ∧ ((f2.toInt ≠ 0 ∨ fa.toInt = 0) ∧ (0 ≤ a2.toInt ∧ a2.toInt ≤ 1600) ∧ (0 ≤ n2.toInt ∧ n2.toInt ≤ 1600) ∧ ∀ j : Nat, 0 ≤ (g2 j).toInt ∧ (g2 j).toInt ≤ 9))) L sz) 0 0 (z_A L sz) := by
  refine z_met (cc := cX5_readFog) (maxL := 4) (ret := none) (lv := [(0, .ref rd)]) (by decide) rfl (Nat.le_of_ble_eq_true rfl) rfl ?_
  intro p e s m below meth c ls hx hb hr hlk hml hown hnm hts hKK hA hw hl
  have hK := hKK.1.1
  have hown : s.vm.findClass RX5 = some m.cls := hown
  have hT : ∀ w ∈ lw_all, w.before ([.ref rd] : List Value).toArray s = true := fun w h => hts w (z_cons w h)
  have hsub : L = L := rfl
  have hfr : ∀ b ∈ L, b ≠ rd → b ≠ mo → b ≠ mi → f b = f b := fun _ _ _ _ _ => rfl
  refine lv_aload_n hx hb dX5_readFog_0 rfl (lv_at hl 0 rfl) ?_
  refine z_get (C := RX5) (T := TX5) (N := 9) (ci := 5) (v := .ref mo) hx hb hT zin_X5 hown hK hw hm_rd hf_rd rfl 3 (by decide) (hT _ kw_282) rfl dX5_readFog_1 ?_
  refine z_get (C := RX2) (T := TX2) (N := 11) (ci := 2) (v := .int v6) hx hb hT zin_X2 hown hK hw hm_mo hf_mo rfl 6 (by decide) (hT _ kw_228) rfl dX5_readFog_4 ?_
  refine lv_bipush (v := 8) hx hb dX5_readFog_7 (by decide) ?_
  refine z_icmp_lt (tgt := 17) hx hb rfl (show (8 : Int32).toInt = 8 by decide) dX5_readFog_9 (by decide) (fun c1 => ?_) (fun c1 => ?_)
  · skip
    refine lv_aload_n hx hb dX5_readFog_17 rfl (lv_at hl 0 rfl) ?_
    refine va_ldcS (index := 142) hx hb hown (hKK.2.2.1 23 (by decide)) dX5_readFog_18 ?_
    refine lv_iconst (v := 0) hx hb dX5_readFog_20 (by decide) ?_
    refine lv_aload_n hx hb dX5_readFog_21 rfl (lv_at hl 0 rfl) ?_
    refine z_get (C := RX5) (T := TX5) (N := 9) (ci := 5) (v := .ref mo) hx hb hT zin_X5 hown hK hw hm_rd hf_rd rfl 3 (by decide) (hT _ kw_282) rfl dX5_readFog_22 ?_
    refine z_get (C := RX2) (T := TX2) (N := 11) (ci := 2) (v := .int v1) hx hb hT zin_X2 hown hK hw hm_mo hf_mo rfl 1 (by decide) (hT _ kw_209) rfl dX5_readFog_25 ?_
    refine lv_iconst (v := 1) hx hb dX5_readFog_28 (by decide) ?_
    refine lv_isub hx hb dX5_readFog_29 ?_
    refine lv_topi (fun w2 e_w2 => ?_)
    have i_w2 : w2.toInt = (v1.toInt - 1) := z_subI e_w2 rfl (show (1 : Int32).toInt = 1 by decide) (by omega)
    have hz3 := (show (0 : Int32).toInt = 0 by decide)
    refine z_calliV (cells := 0) (slots := 0) (b := rd) (As := [.ref (adK 23), .int 0, .int w2]) (rest := []) (ci := 5) (q0 := (RX5, TX5, 9)) ⟨hx, hb, hml, hown, hT⟩ (c_X5_takeNamed l hm_rd hm_tp hm_tb hf_rd hf_tp hf_tb (by first | omega | decide | assumption) (by first | omega | decide | assumption) (by first | omega | decide | assumption)) (cwV 3 hT (z_goodV (fun _ h => h) kw_627 kw_629 kw_5 kw_89 kw_630) rfl rfl rfl (by decide +kernel) ⟨by decide, by decide⟩) z_mv hKK hK hw hA hm_rd hf_rd rfl rfl rfl hl.1 rfl (Nat.le_of_ble_eq_true rfl) dX5_readFog_30 ⟨by decide, by decide⟩ (fun r4 u H locs hp hw => ?_)
    obtain ⟨L5, f6⟩ := u
    obtain ⟨hsb, hfm, f2_7, p2_8, k2_9, a2_10, n2_11, z2_12, ha_0, hp⟩ := hp
    have hsb : L = L5 := hsb
    subst hsb
    have hsb : ∀ b ∈ L, b ∈ L := fun _ h => h
    have hw : z_H D vwCl (z_A L sz) s.heap L f6 H locs := hw
    have hfr : ∀ b ∈ L, b ≠ rd → b ≠ mo → b ≠ mi → f6 b = f b := fun b hb h0 h1 h2 => (hfm b hb h0).trans (hfr b hb h0 h1 h2)
    have hf_tp : f6 tp = .inr (7, [.ref tb, .int tl]) := (hfm tp hm_tp (z_tne hf_tp hf_rd (m := 7) (n := 5) rfl rfl (by decide))).trans hf_tp
    have hf_tb : f6 tb = .inl (cy 0, 1600, .inl gt) := (hfm tb hm_tb (z_tne hf_tb hf_rd (m := 12900) (n := 5) rfl rfl (by decide))).trans hf_tb
    have hf_mo : f6 mo = .inr (2, [.int v0, .int v1, .int v2, .int v3, .int v4, .int v5, .int v6, .ref la, .ref sa, .ref mi, .ref da]) := (hfm mo hm_mo (z_tne hf_mo hf_rd (m := 2) (n := 5) rfl rfl (by decide))).trans hf_mo
    have hf_mi : f6 mi = .inl (cy 1, 36, .inl gm) := (hfm mi hm_mi (z_tne hf_mi hf_rd (m := 388) (n := 5) rfl rfl (by decide))).trans hf_mi
    have hf_rd : f6 rd = .inr (5, [.int f2_7, .int p2_8, .ref tp, .ref mo, .int ot_, .int k2_9, .int a2_10, .int n2_11, .int z2_12]) := ha_0
    have hq13 := hp
    refine lv_istore_n (lv' := [(1, .int r4), (0, .ref rd)]) hx hb dX5_readFog_33 rfl hl (by decide) rfl (fun ls hl => ?_)
    refine lv_aload_n hx hb dX5_readFog_34 rfl (lv_at hl 1 rfl) ?_
    refine va_ldcS (index := 195) hx hb hown (hKK.2.2.1 18 (by decide)) dX5_readFog_35 ?_
    refine lv_iconst (v := 0) hx hb dX5_readFog_37 (by decide) ?_
    refine lv_aload_n hx hb dX5_readFog_38 rfl (lv_at hl 1 rfl) ?_
    refine z_get (C := RX5) (T := TX5) (N := 9) (ci := 5) (v := .ref mo) hx hb hT zin_X5 hown hK hw hm_rd hf_rd rfl 3 (by decide) (hT _ kw_282) rfl dX5_readFog_39 ?_
    refine z_get (C := RX2) (T := TX2) (N := 11) (ci := 2) (v := .int v2) hx hb hT zin_X2 hown hK hw hm_mo hf_mo rfl 2 (by decide) (hT _ kw_212) rfl dX5_readFog_42 ?_
    refine lv_iconst (v := 1) hx hb dX5_readFog_45 (by decide) ?_
    refine lv_isub hx hb dX5_readFog_46 ?_
    refine lv_topi (fun w14 e_w14 => ?_)
    have i_w14 : w14.toInt = (v2.toInt - 1) := z_subI e_w14 rfl (show (1 : Int32).toInt = 1 by decide) (by omega)
    have hz15 := (show (0 : Int32).toInt = 0 by decide)
    refine z_calliV (cells := 0) (slots := 0) (b := rd) (As := [.ref (adK 18), .int 0, .int w14]) (rest := []) (ci := 5) (q0 := (RX5, TX5, 9)) ⟨hx, hb, hml, hown, hT⟩ (c_X5_takeNamed l hm_rd hm_tp hm_tb hf_rd hf_tp hf_tb (by first | omega | decide | assumption) (by first | omega | decide | assumption) (by first | omega | decide | assumption)) (cwV 3 hT (z_goodV (fun _ h => h) kw_627 kw_629 kw_5 kw_89 kw_630) rfl rfl rfl (by decide +kernel) ⟨by decide, by decide⟩) z_mv hKK hK hw hA hm_rd hf_rd rfl rfl rfl hl.1 rfl (Nat.le_of_ble_eq_true rfl) dX5_readFog_47 ⟨by decide, by decide⟩ (fun r16 u H locs hp hw => ?_)
    obtain ⟨L17, f18⟩ := u
    obtain ⟨hsb, hfm, f2_19, p2_20, k2_21, a2_22, n2_23, z2_24, ha_0, hp⟩ := hp
    have hsb : L = L17 := hsb
    subst hsb
    have hsb : ∀ b ∈ L, b ∈ L := fun _ h => h
    have hw : z_H D vwCl (z_A L sz) s.heap L f18 H locs := hw
    have hfr : ∀ b ∈ L, b ≠ rd → b ≠ mo → b ≠ mi → f18 b = f b := fun b hb h0 h1 h2 => (hfm b hb h0).trans (hfr b hb h0 h1 h2)
    have hf_tp : f18 tp = .inr (7, [.ref tb, .int tl]) := (hfm tp hm_tp (z_tne hf_tp hf_rd (m := 7) (n := 5) rfl rfl (by decide))).trans hf_tp
    have hf_tb : f18 tb = .inl (cy 0, 1600, .inl gt) := (hfm tb hm_tb (z_tne hf_tb hf_rd (m := 12900) (n := 5) rfl rfl (by decide))).trans hf_tb
    have hf_mo : f18 mo = .inr (2, [.int v0, .int v1, .int v2, .int v3, .int v4, .int v5, .int v6, .ref la, .ref sa, .ref mi, .ref da]) := (hfm mo hm_mo (z_tne hf_mo hf_rd (m := 2) (n := 5) rfl rfl (by decide))).trans hf_mo
    have hf_mi : f18 mi = .inl (cy 1, 36, .inl gm) := (hfm mi hm_mi (z_tne hf_mi hf_rd (m := 388) (n := 5) rfl rfl (by decide))).trans hf_mi
    have hf_rd : f18 rd = .inr (5, [.int f2_19, .int p2_20, .ref tp, .ref mo, .int ot_, .int k2_21, .int a2_22, .int n2_23, .int z2_24]) := ha_0
    have hq25 := hp
    refine lv_istore_n (lv' := [(2, .int r16), (1, .int r4), (0, .ref rd)]) hx hb dX5_readFog_50 rfl hl (by decide) rfl (fun ls hl => ?_)
    refine lv_aload_n hx hb dX5_readFog_51 rfl (lv_at hl 2 rfl) ?_
    refine va_ldcS (index := 226) hx hb hown (hKK.2.2.1 24 (by decide)) dX5_readFog_52 ?_
    refine lv_iconst (v := 2) hx hb dX5_readFog_54 (by decide) ?_
    refine lv_bipush (v := 9) hx hb dX5_readFog_55 (by decide) ?_
    have hz26 := (show (2 : Int32).toInt = 2 by decide)
    have hz27 := (show (9 : Int32).toInt = 9 by decide)
    refine z_calliV (cells := 0) (slots := 0) (b := rd) (As := [.ref (adK 24), .int 2, .int 9]) (rest := []) (ci := 5) (q0 := (RX5, TX5, 9)) ⟨hx, hb, hml, hown, hT⟩ (c_X5_takeNamed l hm_rd hm_tp hm_tb hf_rd hf_tp hf_tb (by first | omega | decide | assumption) (by first | omega | decide | assumption) (by first | omega | decide | assumption)) (cwV 3 hT (z_goodV (fun _ h => h) kw_627 kw_629 kw_5 kw_89 kw_630) rfl rfl rfl (by decide +kernel) ⟨by decide, by decide⟩) z_mv hKK hK hw hA hm_rd hf_rd rfl rfl rfl hl.1 rfl (Nat.le_of_ble_eq_true rfl) dX5_readFog_57 ⟨by decide, by decide⟩ (fun r28 u H locs hp hw => ?_)
    obtain ⟨L29, f30⟩ := u
    obtain ⟨hsb, hfm, f2_31, p2_32, k2_33, a2_34, n2_35, z2_36, ha_0, hp⟩ := hp
    have hsb : L = L29 := hsb
    subst hsb
    have hsb : ∀ b ∈ L, b ∈ L := fun _ h => h
    have hw : z_H D vwCl (z_A L sz) s.heap L f30 H locs := hw
    have hfr : ∀ b ∈ L, b ≠ rd → b ≠ mo → b ≠ mi → f30 b = f b := fun b hb h0 h1 h2 => (hfm b hb h0).trans (hfr b hb h0 h1 h2)
    have hf_tp : f30 tp = .inr (7, [.ref tb, .int tl]) := (hfm tp hm_tp (z_tne hf_tp hf_rd (m := 7) (n := 5) rfl rfl (by decide))).trans hf_tp
    have hf_tb : f30 tb = .inl (cy 0, 1600, .inl gt) := (hfm tb hm_tb (z_tne hf_tb hf_rd (m := 12900) (n := 5) rfl rfl (by decide))).trans hf_tb
    have hf_mo : f30 mo = .inr (2, [.int v0, .int v1, .int v2, .int v3, .int v4, .int v5, .int v6, .ref la, .ref sa, .ref mi, .ref da]) := (hfm mo hm_mo (z_tne hf_mo hf_rd (m := 2) (n := 5) rfl rfl (by decide))).trans hf_mo
    have hf_mi : f30 mi = .inl (cy 1, 36, .inl gm) := (hfm mi hm_mi (z_tne hf_mi hf_rd (m := 388) (n := 5) rfl rfl (by decide))).trans hf_mi
    have hf_rd : f30 rd = .inr (5, [.int f2_31, .int p2_32, .ref tp, .ref mo, .int ot_, .int k2_33, .int a2_34, .int n2_35, .int z2_36]) := ha_0
    have hq37 := hp
    refine lv_istore_n (lv' := [(3, .int r28), (2, .int r16), (1, .int r4), (0, .ref rd)]) hx hb dX5_readFog_60 rfl hl (by decide) rfl (fun ls hl => ?_)
    refine lv_aload_n hx hb dX5_readFog_61 rfl (lv_at hl 3 rfl) ?_
    refine z_get (C := RX5) (T := TX5) (N := 9) (ci := 5) (v := .int f2_31) hx hb hT zin_X5 hown hK hw hm_rd hf_rd rfl 0 (by decide) (hT _ kw_277) rfl dX5_readFog_62 ?_
    refine z_if_ne (tgt := 95) hx hb rfl dX5_readFog_65 (by decide) (fun c38 => ?_) (fun c38 => ?_)
    · skip
      exact z_vret hx hb hr hlk (by decide) (by decide) hw (⟨hsub, hfr, f2_31, p2_32, k2_33, a2_34, n2_35, z2_36, v6, gm, hf_rd, hf_mo, hf_mi, by omega, by omega, by omega, hgm⟩) dX5_readFog_95
    · skip
      refine lv_aload_n hx hb dX5_readFog_68 rfl (lv_at hl 3 rfl) ?_
      refine z_get (C := RX5) (T := TX5) (N := 9) (ci := 5) (v := .ref mo) hx hb hT zin_X5 hown hK hw hm_rd hf_rd rfl 3 (by decide) (hT _ kw_282) rfl dX5_readFog_69 ?_
      refine z_get (C := RX2) (T := TX2) (N := 11) (ci := 2) (v := .ref mi) hx hb hT zin_X2 hown hK hw hm_mo hf_mo rfl 9 (by decide) (hT _ kw_240) rfl dX5_readFog_72 ?_
      refine lv_iload_n hx hb dX5_readFog_75 rfl (lv_at hl 1 rfl) ?_
      refine lv_iconst (v := 4) hx hb dX5_readFog_76 (by decide) ?_
      refine lv_imul hx hb dX5_readFog_77 ?_
      refine lv_topi (fun w39 e_w39 => ?_)
      have i_w39 : w39.toInt = (r16.toInt * 4) := z_mul e_w39 rfl (show (4 : Int32).toInt = 4 by decide) (by omega)
      refine lv_iload_n hx hb dX5_readFog_78 rfl (lv_at hl 2 rfl) ?_
      refine lv_iadd hx hb dX5_readFog_79 ?_
      refine lv_topi (fun w40 e_w40 => ?_)
      have i_w40 : w40.toInt = ((r16.toInt * 4) + r4.toInt) := z_add e_w40 i_w39 rfl (by omega)
      refine lv_iload_n hx hb dX5_readFog_80 rfl (lv_at hl 0 rfl) ?_
      refine z_iast hx hb hK hw 1 hm_mi hf_mi rfl (z_ix i_w40 (by omega)) dX5_readFog_81 (fun H locs hw => ?_)
      obtain ⟨f42, e_f42⟩ : ∃ z, z = va_up f30 mi (.inl (cy 1, 36, .inl (upd gm w40.toNatClampNeg r28))) := ⟨_, rfl⟩
      rw [← e_f42] at hw
      have hf_rd : f42 rd = .inr (5, [.int f2_31, .int p2_32, .ref tp, .ref mo, .int ot_, .int k2_33, .int a2_34, .int n2_35, .int z2_36]) := (congrFun e_f42 rd).trans (z_up_ne (z_tne hf_rd hf_mi (m := 5) (n := 388) rfl rfl (by decide)) hf_rd)
      have hf_tp : f42 tp = .inr (7, [.ref tb, .int tl]) := (congrFun e_f42 tp).trans (z_up_ne (z_tne hf_tp hf_mi (m := 7) (n := 388) rfl rfl (by decide)) hf_tp)
      have hf_tb : f42 tb = .inl (cy 0, 1600, .inl gt) := (congrFun e_f42 tb).trans (z_up_ne (z_tne hf_tb hf_mi (m := 12900) (n := 388) rfl rfl (by decide)) hf_tb)
      have hf_mo : f42 mo = .inr (2, [.int v0, .int v1, .int v2, .int v3, .int v4, .int v5, .int v6, .ref la, .ref sa, .ref mi, .ref da]) := (congrFun e_f42 mo).trans (z_up_ne (z_tne hf_mo hf_mi (m := 2) (n := 388) rfl rfl (by decide)) hf_mo)
      have hf_mi : f42 mi = .inl (cy 1, 36, .inl (upd gm w40.toNatClampNeg r28)) := (congrFun e_f42 mi).trans z_up_self
      have hfr : ∀ b ∈ L, b ≠ rd → b ≠ mo → b ≠ mi → f42 b = f b := fun b hb h0 h1 h2 => (congrFun e_f42 b).trans (z_up_ne h2 (hfr b hb h0 h1 h2))
      obtain ⟨g41, e_g41⟩ : ∃ z, z = (upd gm w40.toNatClampNeg r28) := ⟨_, rfl⟩
      rw [← e_g41] at hf_mi
      refine lv_aload_n hx hb dX5_readFog_82 rfl (lv_at hl 3 rfl) ?_
      refine z_get (C := RX5) (T := TX5) (N := 9) (ci := 5) (v := .ref mo) hx hb hT zin_X5 hown hK hw hm_rd hf_rd rfl 3 (by decide) (hT _ kw_282) rfl dX5_readFog_83 ?_
      refine lv_dup hx hb dX5_readFog_86 rfl ?_
      refine z_get (C := RX2) (T := TX2) (N := 11) (ci := 2) (v := .int v6) hx hb hT zin_X2 hown hK hw hm_mo hf_mo rfl 6 (by decide) (hT _ kw_228) rfl dX5_readFog_87 ?_
      refine lv_iconst (v := 1) hx hb dX5_readFog_90 (by decide) ?_
      refine lv_iadd hx hb dX5_readFog_91 ?_
      refine lv_topi (fun w43 e_w43 => ?_)
      refine z_put (C := RX2) (T := TX2) (N := 11) (ci := 2) (v := .int w43) (fs' := [.int v0, .int v1, .int v2, .int v3, .int v4, .int v5, .int w43, .ref la, .ref sa, .ref mi, .ref da]) hx hb hT zin_X2 tyX2_ok nmX2 hown hK hw hm_mo hf_mo rfl 6 (by decide) (hT _ kw_228) rfl rfl rfl (Nat.le_of_ble_eq_true rfl) rfl dX5_readFog_92 (fun H locs hw => ?_)
      obtain ⟨f44, e_f44⟩ : ∃ z, z = va_up f42 mo (.inr (2, [.int v0, .int v1, .int v2, .int v3, .int v4, .int v5, .int w43, .ref la, .ref sa, .ref mi, .ref da])) := ⟨_, rfl⟩
      rw [← e_f44] at hw
      have hf_rd : f44 rd = .inr (5, [.int f2_31, .int p2_32, .ref tp, .ref mo, .int ot_, .int k2_33, .int a2_34, .int n2_35, .int z2_36]) := (congrFun e_f44 rd).trans (z_up_ne (z_tne hf_rd hf_mo (m := 5) (n := 2) rfl rfl (by decide)) hf_rd)
      have hf_tp : f44 tp = .inr (7, [.ref tb, .int tl]) := (congrFun e_f44 tp).trans (z_up_ne (z_tne hf_tp hf_mo (m := 7) (n := 2) rfl rfl (by decide)) hf_tp)
      have hf_tb : f44 tb = .inl (cy 0, 1600, .inl gt) := (congrFun e_f44 tb).trans (z_up_ne (z_tne hf_tb hf_mo (m := 12900) (n := 2) rfl rfl (by decide)) hf_tb)
      have hf_mi : f44 mi = .inl (cy 1, 36, .inl g41) := (congrFun e_f44 mi).trans (z_up_ne (z_tne hf_mi hf_mo (m := 388) (n := 2) rfl rfl (by decide)) hf_mi)
      have hf_mo : f44 mo = .inr (2, [.int v0, .int v1, .int v2, .int v3, .int v4, .int v5, .int w43, .ref la, .ref sa, .ref mi, .ref da]) := (congrFun e_f44 mo).trans z_up_self
      have hfr : ∀ b ∈ L, b ≠ rd → b ≠ mo → b ≠ mi → f44 b = f b := fun b hb h0 h1 h2 => (congrFun e_f44 b).trans (z_up_ne h1 (hfr b hb h0 h1 h2))
      exact z_vret hx hb hr hlk (by decide) (by decide) hw (⟨hsub, hfr, f2_31, p2_32, k2_33, a2_34, n2_35, z2_36, w43, g41, hf_rd, hf_mo, hf_mi, by omega, by omega, by omega, z_updP (P := fun x : Int32 => 0 ≤ x.toInt ∧ x.toInt ≤ 9) hgm e_g41 (show _ ∧ _ by omega)⟩) dX5_readFog_95
  · skip
    refine lv_aload_n hx hb dX5_readFog_12 rfl (lv_at hl 0 rfl) ?_
    refine lv_iconst (v := 3) hx hb dX5_readFog_13 (by decide) ?_
    have hz45 := (show (3 : Int32).toInt = 3 by decide)
    refine z_callvV (cells := 0) (slots := 0) (b := rd) (As := [.int 3]) (rest := []) (ci := 5) (q0 := (RX5, TX5, 9)) ⟨hx, hb, hml, hown, hT⟩ (c_X5_refuse l hm_rd hf_rd (by first | omega | decide | assumption)) (cwV 1 hT (z_goodV (fun _ h => h) kw_622 kw_624 kw_4 kw_89 kw_625) rfl rfl rfl (by decide +kernel) ⟨by decide, by decide⟩) z_mv hKK hK hw hA hm_rd hf_rd rfl rfl rfl hl.1 rfl (Nat.le_of_ble_eq_true rfl) dX5_readFog_14 ⟨by decide, by decide⟩ (fun u H locs hp hw => ?_)
    obtain ⟨L46, f47⟩ := u
    obtain ⟨hsb, hfm, f2_48, p2_49, ha_0, hp⟩ := hp
    have hsb : L = L46 := hsb
    subst hsb
    have hsb : ∀ b ∈ L, b ∈ L := fun _ h => h
    have hw : z_H D vwCl (z_A L sz) s.heap L f47 H locs := hw
    have hfr : ∀ b ∈ L, b ≠ rd → b ≠ mo → b ≠ mi → f47 b = f b := fun b hb h0 h1 h2 => (hfm b hb h0).trans (hfr b hb h0 h1 h2)
    have hf_tp : f47 tp = .inr (7, [.ref tb, .int tl]) := (hfm tp hm_tp (z_tne hf_tp hf_rd (m := 7) (n := 5) rfl rfl (by decide))).trans hf_tp
    have hf_tb : f47 tb = .inl (cy 0, 1600, .inl gt) := (hfm tb hm_tb (z_tne hf_tb hf_rd (m := 12900) (n := 5) rfl rfl (by decide))).trans hf_tb
    have hf_mo : f47 mo = .inr (2, [.int v0, .int v1, .int v2, .int v3, .int v4, .int v5, .int v6, .ref la, .ref sa, .ref mi, .ref da]) := (hfm mo hm_mo (z_tne hf_mo hf_rd (m := 2) (n := 5) rfl rfl (by decide))).trans hf_mo
    have hf_mi : f47 mi = .inl (cy 1, 36, .inl gm) := (hfm mi hm_mi (z_tne hf_mi hf_rd (m := 388) (n := 5) rfl rfl (by decide))).trans hf_mi
    have hf_rd : f47 rd = .inr (5, [.int f2_48, .int p2_49, .ref tp, .ref mo, .int ot_, .int ki, .int ra, .int rn, .int rv]) := ha_0
    have hq50 := hp
    refine lv_aload_n hx hb dX5_readFog_17 rfl (lv_at hl 0 rfl) ?_
    refine va_ldcS (index := 142) hx hb hown (hKK.2.2.1 23 (by decide)) dX5_readFog_18 ?_
    refine lv_iconst (v := 0) hx hb dX5_readFog_20 (by decide) ?_
    refine lv_aload_n hx hb dX5_readFog_21 rfl (lv_at hl 0 rfl) ?_
    refine z_get (C := RX5) (T := TX5) (N := 9) (ci := 5) (v := .ref mo) hx hb hT zin_X5 hown hK hw hm_rd hf_rd rfl 3 (by decide) (hT _ kw_282) rfl dX5_readFog_22 ?_
    refine z_get (C := RX2) (T := TX2) (N := 11) (ci := 2) (v := .int v1) hx hb hT zin_X2 hown hK hw hm_mo hf_mo rfl 1 (by decide) (hT _ kw_209) rfl dX5_readFog_25 ?_
    refine lv_iconst (v := 1) hx hb dX5_readFog_28 (by decide) ?_
    refine lv_isub hx hb dX5_readFog_29 ?_
    refine lv_topi (fun w51 e_w51 => ?_)
    have i_w51 : w51.toInt = (v1.toInt - 1) := z_subI e_w51 rfl (show (1 : Int32).toInt = 1 by decide) (by omega)
    have hz52 := (show (0 : Int32).toInt = 0 by decide)
    refine z_calliV (cells := 0) (slots := 0) (b := rd) (As := [.ref (adK 23), .int 0, .int w51]) (rest := []) (ci := 5) (q0 := (RX5, TX5, 9)) ⟨hx, hb, hml, hown, hT⟩ (c_X5_takeNamed l hm_rd hm_tp hm_tb hf_rd hf_tp hf_tb (by first | omega | decide | assumption) (by first | omega | decide | assumption) (by first | omega | decide | assumption)) (cwV 3 hT (z_goodV (fun _ h => h) kw_627 kw_629 kw_5 kw_89 kw_630) rfl rfl rfl (by decide +kernel) ⟨by decide, by decide⟩) z_mv hKK hK hw hA hm_rd hf_rd rfl rfl rfl hl.1 rfl (Nat.le_of_ble_eq_true rfl) dX5_readFog_30 ⟨by decide, by decide⟩ (fun r53 u H locs hp hw => ?_)
    obtain ⟨L54, f55⟩ := u
    obtain ⟨hsb, hfm, f2_56, p2_57, k2_58, a2_59, n2_60, z2_61, ha_0, hp⟩ := hp
    have hsb : L = L54 := hsb
    subst hsb
    have hsb : ∀ b ∈ L, b ∈ L := fun _ h => h
    have hw : z_H D vwCl (z_A L sz) s.heap L f55 H locs := hw
    have hfr : ∀ b ∈ L, b ≠ rd → b ≠ mo → b ≠ mi → f55 b = f b := fun b hb h0 h1 h2 => (hfm b hb h0).trans (hfr b hb h0 h1 h2)
    have hf_tp : f55 tp = .inr (7, [.ref tb, .int tl]) := (hfm tp hm_tp (z_tne hf_tp hf_rd (m := 7) (n := 5) rfl rfl (by decide))).trans hf_tp
    have hf_tb : f55 tb = .inl (cy 0, 1600, .inl gt) := (hfm tb hm_tb (z_tne hf_tb hf_rd (m := 12900) (n := 5) rfl rfl (by decide))).trans hf_tb
    have hf_mo : f55 mo = .inr (2, [.int v0, .int v1, .int v2, .int v3, .int v4, .int v5, .int v6, .ref la, .ref sa, .ref mi, .ref da]) := (hfm mo hm_mo (z_tne hf_mo hf_rd (m := 2) (n := 5) rfl rfl (by decide))).trans hf_mo
    have hf_mi : f55 mi = .inl (cy 1, 36, .inl gm) := (hfm mi hm_mi (z_tne hf_mi hf_rd (m := 388) (n := 5) rfl rfl (by decide))).trans hf_mi
    have hf_rd : f55 rd = .inr (5, [.int f2_56, .int p2_57, .ref tp, .ref mo, .int ot_, .int k2_58, .int a2_59, .int n2_60, .int z2_61]) := ha_0
    have hq62 := hp
    refine lv_istore_n (lv' := [(1, .int r53), (0, .ref rd)]) hx hb dX5_readFog_33 rfl hl (by decide) rfl (fun ls hl => ?_)
    refine lv_aload_n hx hb dX5_readFog_34 rfl (lv_at hl 1 rfl) ?_
    refine va_ldcS (index := 195) hx hb hown (hKK.2.2.1 18 (by decide)) dX5_readFog_35 ?_
    refine lv_iconst (v := 0) hx hb dX5_readFog_37 (by decide) ?_
    refine lv_aload_n hx hb dX5_readFog_38 rfl (lv_at hl 1 rfl) ?_
    refine z_get (C := RX5) (T := TX5) (N := 9) (ci := 5) (v := .ref mo) hx hb hT zin_X5 hown hK hw hm_rd hf_rd rfl 3 (by decide) (hT _ kw_282) rfl dX5_readFog_39 ?_
    refine z_get (C := RX2) (T := TX2) (N := 11) (ci := 2) (v := .int v2) hx hb hT zin_X2 hown hK hw hm_mo hf_mo rfl 2 (by decide) (hT _ kw_212) rfl dX5_readFog_42 ?_
    refine lv_iconst (v := 1) hx hb dX5_readFog_45 (by decide) ?_
    refine lv_isub hx hb dX5_readFog_46 ?_
    refine lv_topi (fun w63 e_w63 => ?_)
    have i_w63 : w63.toInt = (v2.toInt - 1) := z_subI e_w63 rfl (show (1 : Int32).toInt = 1 by decide) (by omega)
    have hz64 := (show (0 : Int32).toInt = 0 by decide)
    refine z_calliV (cells := 0) (slots := 0) (b := rd) (As := [.ref (adK 18), .int 0, .int w63]) (rest := []) (ci := 5) (q0 := (RX5, TX5, 9)) ⟨hx, hb, hml, hown, hT⟩ (c_X5_takeNamed l hm_rd hm_tp hm_tb hf_rd hf_tp hf_tb (by first | omega | decide | assumption) (by first | omega | decide | assumption) (by first | omega | decide | assumption)) (cwV 3 hT (z_goodV (fun _ h => h) kw_627 kw_629 kw_5 kw_89 kw_630) rfl rfl rfl (by decide +kernel) ⟨by decide, by decide⟩) z_mv hKK hK hw hA hm_rd hf_rd rfl rfl rfl hl.1 rfl (Nat.le_of_ble_eq_true rfl) dX5_readFog_47 ⟨by decide, by decide⟩ (fun r65 u H locs hp hw => ?_)
    obtain ⟨L66, f67⟩ := u
    obtain ⟨hsb, hfm, f2_68, p2_69, k2_70, a2_71, n2_72, z2_73, ha_0, hp⟩ := hp
    have hsb : L = L66 := hsb
    subst hsb
    have hsb : ∀ b ∈ L, b ∈ L := fun _ h => h
    have hw : z_H D vwCl (z_A L sz) s.heap L f67 H locs := hw
    have hfr : ∀ b ∈ L, b ≠ rd → b ≠ mo → b ≠ mi → f67 b = f b := fun b hb h0 h1 h2 => (hfm b hb h0).trans (hfr b hb h0 h1 h2)
    have hf_tp : f67 tp = .inr (7, [.ref tb, .int tl]) := (hfm tp hm_tp (z_tne hf_tp hf_rd (m := 7) (n := 5) rfl rfl (by decide))).trans hf_tp
    have hf_tb : f67 tb = .inl (cy 0, 1600, .inl gt) := (hfm tb hm_tb (z_tne hf_tb hf_rd (m := 12900) (n := 5) rfl rfl (by decide))).trans hf_tb
    have hf_mo : f67 mo = .inr (2, [.int v0, .int v1, .int v2, .int v3, .int v4, .int v5, .int v6, .ref la, .ref sa, .ref mi, .ref da]) := (hfm mo hm_mo (z_tne hf_mo hf_rd (m := 2) (n := 5) rfl rfl (by decide))).trans hf_mo
    have hf_mi : f67 mi = .inl (cy 1, 36, .inl gm) := (hfm mi hm_mi (z_tne hf_mi hf_rd (m := 388) (n := 5) rfl rfl (by decide))).trans hf_mi
    have hf_rd : f67 rd = .inr (5, [.int f2_68, .int p2_69, .ref tp, .ref mo, .int ot_, .int k2_70, .int a2_71, .int n2_72, .int z2_73]) := ha_0
    have hq74 := hp
    refine lv_istore_n (lv' := [(2, .int r65), (1, .int r53), (0, .ref rd)]) hx hb dX5_readFog_50 rfl hl (by decide) rfl (fun ls hl => ?_)
    refine lv_aload_n hx hb dX5_readFog_51 rfl (lv_at hl 2 rfl) ?_
    refine va_ldcS (index := 226) hx hb hown (hKK.2.2.1 24 (by decide)) dX5_readFog_52 ?_
    refine lv_iconst (v := 2) hx hb dX5_readFog_54 (by decide) ?_
    refine lv_bipush (v := 9) hx hb dX5_readFog_55 (by decide) ?_
    have hz75 := (show (2 : Int32).toInt = 2 by decide)
    have hz76 := (show (9 : Int32).toInt = 9 by decide)
    refine z_calliV (cells := 0) (slots := 0) (b := rd) (As := [.ref (adK 24), .int 2, .int 9]) (rest := []) (ci := 5) (q0 := (RX5, TX5, 9)) ⟨hx, hb, hml, hown, hT⟩ (c_X5_takeNamed l hm_rd hm_tp hm_tb hf_rd hf_tp hf_tb (by first | omega | decide | assumption) (by first | omega | decide | assumption) (by first | omega | decide | assumption)) (cwV 3 hT (z_goodV (fun _ h => h) kw_627 kw_629 kw_5 kw_89 kw_630) rfl rfl rfl (by decide +kernel) ⟨by decide, by decide⟩) z_mv hKK hK hw hA hm_rd hf_rd rfl rfl rfl hl.1 rfl (Nat.le_of_ble_eq_true rfl) dX5_readFog_57 ⟨by decide, by decide⟩ (fun r77 u H locs hp hw => ?_)
    obtain ⟨L78, f79⟩ := u
    obtain ⟨hsb, hfm, f2_80, p2_81, k2_82, a2_83, n2_84, z2_85, ha_0, hp⟩ := hp
    have hsb : L = L78 := hsb
    subst hsb
    have hsb : ∀ b ∈ L, b ∈ L := fun _ h => h
    have hw : z_H D vwCl (z_A L sz) s.heap L f79 H locs := hw
    have hfr : ∀ b ∈ L, b ≠ rd → b ≠ mo → b ≠ mi → f79 b = f b := fun b hb h0 h1 h2 => (hfm b hb h0).trans (hfr b hb h0 h1 h2)
    have hf_tp : f79 tp = .inr (7, [.ref tb, .int tl]) := (hfm tp hm_tp (z_tne hf_tp hf_rd (m := 7) (n := 5) rfl rfl (by decide))).trans hf_tp
    have hf_tb : f79 tb = .inl (cy 0, 1600, .inl gt) := (hfm tb hm_tb (z_tne hf_tb hf_rd (m := 12900) (n := 5) rfl rfl (by decide))).trans hf_tb
    have hf_mo : f79 mo = .inr (2, [.int v0, .int v1, .int v2, .int v3, .int v4, .int v5, .int v6, .ref la, .ref sa, .ref mi, .ref da]) := (hfm mo hm_mo (z_tne hf_mo hf_rd (m := 2) (n := 5) rfl rfl (by decide))).trans hf_mo
    have hf_mi : f79 mi = .inl (cy 1, 36, .inl gm) := (hfm mi hm_mi (z_tne hf_mi hf_rd (m := 388) (n := 5) rfl rfl (by decide))).trans hf_mi
    have hf_rd : f79 rd = .inr (5, [.int f2_80, .int p2_81, .ref tp, .ref mo, .int ot_, .int k2_82, .int a2_83, .int n2_84, .int z2_85]) := ha_0
    have hq86 := hp
    refine lv_istore_n (lv' := [(3, .int r77), (2, .int r65), (1, .int r53), (0, .ref rd)]) hx hb dX5_readFog_60 rfl hl (by decide) rfl (fun ls hl => ?_)
    refine lv_aload_n hx hb dX5_readFog_61 rfl (lv_at hl 3 rfl) ?_
    refine z_get (C := RX5) (T := TX5) (N := 9) (ci := 5) (v := .int f2_80) hx hb hT zin_X5 hown hK hw hm_rd hf_rd rfl 0 (by decide) (hT _ kw_277) rfl dX5_readFog_62 ?_
    refine z_if_ne (tgt := 95) hx hb rfl dX5_readFog_65 (by decide) (fun c87 => ?_) (fun c87 => ?_)
    · skip
      exact z_vret hx hb hr hlk (by decide) (by decide) hw (⟨hsub, hfr, f2_80, p2_81, k2_82, a2_83, n2_84, z2_85, v6, gm, hf_rd, hf_mo, hf_mi, by omega, by omega, by omega, hgm⟩) dX5_readFog_95
    · skip
      refine lv_aload_n hx hb dX5_readFog_68 rfl (lv_at hl 3 rfl) ?_
      refine z_get (C := RX5) (T := TX5) (N := 9) (ci := 5) (v := .ref mo) hx hb hT zin_X5 hown hK hw hm_rd hf_rd rfl 3 (by decide) (hT _ kw_282) rfl dX5_readFog_69 ?_
      refine z_get (C := RX2) (T := TX2) (N := 11) (ci := 2) (v := .ref mi) hx hb hT zin_X2 hown hK hw hm_mo hf_mo rfl 9 (by decide) (hT _ kw_240) rfl dX5_readFog_72 ?_
      refine lv_iload_n hx hb dX5_readFog_75 rfl (lv_at hl 1 rfl) ?_
      refine lv_iconst (v := 4) hx hb dX5_readFog_76 (by decide) ?_
      refine lv_imul hx hb dX5_readFog_77 ?_
      refine lv_topi (fun w88 e_w88 => ?_)
      have i_w88 : w88.toInt = (r65.toInt * 4) := z_mul e_w88 rfl (show (4 : Int32).toInt = 4 by decide) (by omega)
      refine lv_iload_n hx hb dX5_readFog_78 rfl (lv_at hl 2 rfl) ?_
      refine lv_iadd hx hb dX5_readFog_79 ?_
      refine lv_topi (fun w89 e_w89 => ?_)
      have i_w89 : w89.toInt = ((r65.toInt * 4) + r53.toInt) := z_add e_w89 i_w88 rfl (by omega)
      refine lv_iload_n hx hb dX5_readFog_80 rfl (lv_at hl 0 rfl) ?_
      refine z_iast hx hb hK hw 1 hm_mi hf_mi rfl (z_ix i_w89 (by omega)) dX5_readFog_81 (fun H locs hw => ?_)
      obtain ⟨f91, e_f91⟩ : ∃ z, z = va_up f79 mi (.inl (cy 1, 36, .inl (upd gm w89.toNatClampNeg r77))) := ⟨_, rfl⟩
      rw [← e_f91] at hw
      have hf_rd : f91 rd = .inr (5, [.int f2_80, .int p2_81, .ref tp, .ref mo, .int ot_, .int k2_82, .int a2_83, .int n2_84, .int z2_85]) := (congrFun e_f91 rd).trans (z_up_ne (z_tne hf_rd hf_mi (m := 5) (n := 388) rfl rfl (by decide)) hf_rd)
      have hf_tp : f91 tp = .inr (7, [.ref tb, .int tl]) := (congrFun e_f91 tp).trans (z_up_ne (z_tne hf_tp hf_mi (m := 7) (n := 388) rfl rfl (by decide)) hf_tp)
      have hf_tb : f91 tb = .inl (cy 0, 1600, .inl gt) := (congrFun e_f91 tb).trans (z_up_ne (z_tne hf_tb hf_mi (m := 12900) (n := 388) rfl rfl (by decide)) hf_tb)
      have hf_mo : f91 mo = .inr (2, [.int v0, .int v1, .int v2, .int v3, .int v4, .int v5, .int v6, .ref la, .ref sa, .ref mi, .ref da]) := (congrFun e_f91 mo).trans (z_up_ne (z_tne hf_mo hf_mi (m := 2) (n := 388) rfl rfl (by decide)) hf_mo)
      have hf_mi : f91 mi = .inl (cy 1, 36, .inl (upd gm w89.toNatClampNeg r77)) := (congrFun e_f91 mi).trans z_up_self
      have hfr : ∀ b ∈ L, b ≠ rd → b ≠ mo → b ≠ mi → f91 b = f b := fun b hb h0 h1 h2 => (congrFun e_f91 b).trans (z_up_ne h2 (hfr b hb h0 h1 h2))
      obtain ⟨g90, e_g90⟩ : ∃ z, z = (upd gm w89.toNatClampNeg r77) := ⟨_, rfl⟩
      rw [← e_g90] at hf_mi
      refine lv_aload_n hx hb dX5_readFog_82 rfl (lv_at hl 3 rfl) ?_
      refine z_get (C := RX5) (T := TX5) (N := 9) (ci := 5) (v := .ref mo) hx hb hT zin_X5 hown hK hw hm_rd hf_rd rfl 3 (by decide) (hT _ kw_282) rfl dX5_readFog_83 ?_
      refine lv_dup hx hb dX5_readFog_86 rfl ?_
      refine z_get (C := RX2) (T := TX2) (N := 11) (ci := 2) (v := .int v6) hx hb hT zin_X2 hown hK hw hm_mo hf_mo rfl 6 (by decide) (hT _ kw_228) rfl dX5_readFog_87 ?_
      refine lv_iconst (v := 1) hx hb dX5_readFog_90 (by decide) ?_
      refine lv_iadd hx hb dX5_readFog_91 ?_
      refine lv_topi (fun w92 e_w92 => ?_)
      refine z_put (C := RX2) (T := TX2) (N := 11) (ci := 2) (v := .int w92) (fs' := [.int v0, .int v1, .int v2, .int v3, .int v4, .int v5, .int w92, .ref la, .ref sa, .ref mi, .ref da]) hx hb hT zin_X2 tyX2_ok nmX2 hown hK hw hm_mo hf_mo rfl 6 (by decide) (hT _ kw_228) rfl rfl rfl (Nat.le_of_ble_eq_true rfl) rfl dX5_readFog_92 (fun H locs hw => ?_)
      obtain ⟨f93, e_f93⟩ : ∃ z, z = va_up f91 mo (.inr (2, [.int v0, .int v1, .int v2, .int v3, .int v4, .int v5, .int w92, .ref la, .ref sa, .ref mi, .ref da])) := ⟨_, rfl⟩
      rw [← e_f93] at hw
      have hf_rd : f93 rd = .inr (5, [.int f2_80, .int p2_81, .ref tp, .ref mo, .int ot_, .int k2_82, .int a2_83, .int n2_84, .int z2_85]) := (congrFun e_f93 rd).trans (z_up_ne (z_tne hf_rd hf_mo (m := 5) (n := 2) rfl rfl (by decide)) hf_rd)
      have hf_tp : f93 tp = .inr (7, [.ref tb, .int tl]) := (congrFun e_f93 tp).trans (z_up_ne (z_tne hf_tp hf_mo (m := 7) (n := 2) rfl rfl (by decide)) hf_tp)
      have hf_tb : f93 tb = .inl (cy 0, 1600, .inl gt) := (congrFun e_f93 tb).trans (z_up_ne (z_tne hf_tb hf_mo (m := 12900) (n := 2) rfl rfl (by decide)) hf_tb)
      have hf_mi : f93 mi = .inl (cy 1, 36, .inl g90) := (congrFun e_f93 mi).trans (z_up_ne (z_tne hf_mi hf_mo (m := 388) (n := 2) rfl rfl (by decide)) hf_mi)
      have hf_mo : f93 mo = .inr (2, [.int v0, .int v1, .int v2, .int v3, .int v4, .int v5, .int w92, .ref la, .ref sa, .ref mi, .ref da]) := (congrFun e_f93 mo).trans z_up_self
      have hfr : ∀ b ∈ L, b ≠ rd → b ≠ mo → b ≠ mi → f93 b = f b := fun b hb h0 h1 h2 => (congrFun e_f93 b).trans (z_up_ne h1 (hfr b hb h0 h1 h2))
      exact z_vret hx hb hr hlk (by decide) (by decide) hw (⟨hsub, hfr, f2_80, p2_81, k2_82, a2_83, n2_84, z2_85, w92, g90, hf_rd, hf_mo, hf_mi, by omega, by omega, by omega, z_updP (P := fun x : Int32 => 0 ≤ x.toInt ∧ x.toInt ≤ 9) hgm e_g90 (show _ ∧ _ by omega)⟩) dX5_readFog_95

set_option maxHeartbeats 2000000 in
set_option maxRecDepth 100000 in
theorem c_X5_readDrive (l : Launch) {D : va_G} {cy : Nat → ClassId} {L : List Nat} {f : Nat → va_E} {sz : Nat} {adK adV : Nat → Nat} {rd tp tb mo : Nat} {fa fp ot_ ki ra rn rv : Int32} {tl : Int32} {gt : Nat → Int32} {la sa mi da : Nat} {v0 v1 v2 v3 v4 v5 v6 : Int32} {dq : Nat} {o1 o2 o3 o4 o5 o6 o7 o8 : Int32} {gd : Nat → Option Nat} (hm_rd : rd ∈ L) (hm_tp : tp ∈ L) (hm_tb : tb ∈ L) (hm_mo : mo ∈ L) (hm_da : da ∈ L) (hm_dq : dq ∈ L) (hf_rd : f rd = .inr (5, [.int fa, .int fp, .ref tp, .ref mo, .int ot_, .int ki, .int ra, .int rn, .int rv])) (hf_tp : f tp = .inr (7, [.ref tb, .int tl])) (hf_tb : f tb = .inl (cy 0, 1600, .inl gt)) (hf_mo : f mo = .inr (2, [.int v0, .int v1, .int v2, .int v3, .int v4, .int v5, .int v6, .ref la, .ref sa, .ref mi, .ref da])) (hf_da : f da = .inl (cy 4, 13, .inr (.inr (.inr (.inr gd))))) (hf_dq : f dq = .inr (0, [.int o1, .int o2, .int o3, .int o4, .int o5, .int o6, .int o7, .int o8])) (htl : 0 ≤ tl.toInt ∧ tl.toInt ≤ 1600) (hrr : (0 ≤ ra.toInt ∧ ra.toInt ≤ 1600) ∧ (0 ≤ rn.toInt ∧ rn.toInt ≤ 1600)) (hv1 : -1 ≤ v1.toInt ∧ v1.toInt ≤ 4) (hv2 : -1 ≤ v2.toInt ∧ v2.toInt ≤ 9) (hv3 : -1 ≤ v3.toInt ∧ v3.toInt ≤ 5) (hv5 : 0 ≤ v5.toInt ∧ v5.toInt ≤ 12) (hgdq : gd v5.toNatClampNeg = some dq) : Met l yX5_readDrive (z_ws yX5_readDrive cX5_readDrive 2 none) (z_R 8 0 0) (va_Pc [.ref rd] (z_Pre D vwCl (z_KK D cy adK adV) L f sz)) (z_Qv D vwCl (fun u => L = u.1 ∧ (∀ b ∈ L, b ≠ rd → b ≠ mo → b ≠ dq → u.2 b = f b) ∧ (∃ (f2 p2 k2 a2 n2 z2 w5 e1 e2 e3 e4 e5 e6 e7 e8 : Int32), (u.2 rd = .inr (5, [.int f2, .int p2, .ref tp, .ref mo, .int ot_, .int k2, .int a2, .int n2, .int z2])) ∧ (u.2 mo = .inr (2, [.int v0, .int v1, .int v2, .int v3, .int v4, .int w5, .int v6, .ref la, .ref sa, .ref mi, .ref da])) ∧ (u.2 dq = .inr (0, [.int e1, .int e2, .int e3, .int e4, .int e5, .int e6, .int e7, .int e8])) ∧ ((f2.toInt ≠ 0 ∨ fa.toInt = 0) ∧ (0 ≤ a2.toInt ∧ a2.toInt ≤ 1600) ∧ (0 ≤ n2.toInt ∧ n2.toInt ≤ 1600) ∧ ((w5.toInt = v5.toInt ∧ f2.toInt ≠ 0) ∨ (w5.toInt = v5.toInt + 1 ∧ w5.toInt ≤ 12 ∧ (f2.toInt ≠ 0 ∨ (0 ≤ e1.toInt ∧ e1.toInt ≤ 4 ∧ 0 ≤ e2.toInt ∧ e2.toInt ≤ 3 ∧ 0 ≤ e3.toInt ∧ e3.toInt ≤ 8 ∧ 0 ≤ e4.toInt ∧ e4.toInt ≤ 23 ∧ 0 ≤ e5.toInt ∧ e5.toInt ≤ 99 ∧ 0 ≤ e6.toInt ∧ e6.toInt ≤ 99 ∧ 0 ≤ e7.toInt ∧ e7.toInt ≤ 4 ∧ 0 ≤ e8.toInt ∧ e8.toInt ≤ 1))))))) L sz) 0 0 (z_A L sz) := by
  refine z_met (cc := cX5_readDrive) (maxL := 2) (ret := none) (lv := [(0, .ref rd)]) (by decide) rfl (Nat.le_of_ble_eq_true rfl) rfl ?_
  intro p e s m below meth c ls hx hb hr hlk hml hown hnm hts hKK hA hw hl
  have hK := hKK.1.1
  have hown : s.vm.findClass RX5 = some m.cls := hown
  have hT : ∀ w ∈ lw_all, w.before ([.ref rd] : List Value).toArray s = true := fun w h => hts w (z_cons w h)
  have hsub : L = L := rfl
  have hfr : ∀ b ∈ L, b ≠ rd → b ≠ mo → b ≠ dq → f b = f b := fun _ _ _ _ _ => rfl
  refine lv_aload_n hx hb dX5_readDrive_0 rfl (lv_at hl 0 rfl) ?_
  refine z_get (C := RX5) (T := TX5) (N := 9) (ci := 5) (v := .ref mo) hx hb hT zin_X5 hown hK hw hm_rd hf_rd rfl 3 (by decide) (hT _ kw_282) rfl dX5_readDrive_1 ?_
  refine z_get (C := RX2) (T := TX2) (N := 11) (ci := 2) (v := .int v5) hx hb hT zin_X2 hown hK hw hm_mo hf_mo rfl 5 (by decide) (hT _ kw_225) rfl dX5_readDrive_4 ?_
  refine lv_bipush (v := 12) hx hb dX5_readDrive_7 (by decide) ?_
  refine z_icmp_lt (tgt := 18) hx hb rfl (show (12 : Int32).toInt = 12 by decide) dX5_readDrive_9 (by decide) (fun c1 => ?_) (fun c1 => ?_)
  · skip
    refine lv_aload_n hx hb dX5_readDrive_18 rfl (lv_at hl 0 rfl) ?_
    refine z_get (C := RX5) (T := TX5) (N := 9) (ci := 5) (v := .ref mo) hx hb hT zin_X5 hown hK hw hm_rd hf_rd rfl 3 (by decide) (hT _ kw_282) rfl dX5_readDrive_19 ?_
    refine z_get (C := RX2) (T := TX2) (N := 11) (ci := 2) (v := .ref da) hx hb hT zin_X2 hown hK hw hm_mo hf_mo rfl 10 (by decide) (hT _ kw_247) rfl dX5_readDrive_22 ?_
    refine lv_aload_n hx hb dX5_readDrive_25 rfl (lv_at hl 0 rfl) ?_
    refine z_get (C := RX5) (T := TX5) (N := 9) (ci := 5) (v := .ref mo) hx hb hT zin_X5 hown hK hw hm_rd hf_rd rfl 3 (by decide) (hT _ kw_282) rfl dX5_readDrive_26 ?_
    refine z_get (C := RX2) (T := TX2) (N := 11) (ci := 2) (v := .int v5) hx hb hT zin_X2 hown hK hw hm_mo hf_mo rfl 5 (by decide) (hT _ kw_225) rfl dX5_readDrive_29 ?_
    refine z_aald (b := dq) hx hb hK hw 4 hm_da hf_da rfl (z_ix rfl (by omega)) hgdq dX5_readDrive_32 ?_
    refine lv_astore_n (lv' := [(1, .ref dq), (0, .ref rd)]) hx hb dX5_readDrive_33 rfl hl (by decide) rfl (fun ls hl => ?_)
    refine lv_aload_n hx hb dX5_readDrive_34 rfl (lv_at hl 0 rfl) ?_
    refine lv_aload_n hx hb dX5_readDrive_35 rfl (lv_at hl 1 rfl) ?_
    refine va_ldcS (index := 137) hx hb hown (hKK.2.2.1 16 (by decide)) dX5_readDrive_36 ?_
    refine lv_iconst (v := 0) hx hb dX5_readDrive_38 (by decide) ?_
    refine lv_aload_n hx hb dX5_readDrive_39 rfl (lv_at hl 1 rfl) ?_
    refine z_get (C := RX5) (T := TX5) (N := 9) (ci := 5) (v := .ref mo) hx hb hT zin_X5 hown hK hw hm_rd hf_rd rfl 3 (by decide) (hT _ kw_282) rfl dX5_readDrive_40 ?_
    refine z_get (C := RX2) (T := TX2) (N := 11) (ci := 2) (v := .int v3) hx hb hT zin_X2 hown hK hw hm_mo hf_mo rfl 3 (by decide) (hT _ kw_216) rfl dX5_readDrive_43 ?_
    refine lv_iconst (v := 1) hx hb dX5_readDrive_46 (by decide) ?_
    refine lv_isub hx hb dX5_readDrive_47 ?_
    refine lv_topi (fun w2 e_w2 => ?_)
    have i_w2 : w2.toInt = (v3.toInt - 1) := z_subI e_w2 rfl (show (1 : Int32).toInt = 1 by decide) (by omega)
    have hz3 := (show (0 : Int32).toInt = 0 by decide)
    refine z_calliV (cells := 0) (slots := 0) (b := rd) (As := [.ref (adK 16), .int 0, .int w2]) (rest := [.ref dq]) (ci := 5) (q0 := (RX5, TX5, 9)) ⟨hx, hb, hml, hown, hT⟩ (c_X5_takeNamed l hm_rd hm_tp hm_tb hf_rd hf_tp hf_tb (by first | omega | decide | assumption) (by first | omega | decide | assumption) (by first | omega | decide | assumption)) (cwV 3 hT (z_goodV (fun _ h => h) kw_627 kw_629 kw_5 kw_89 kw_630) rfl rfl rfl (by decide +kernel) ⟨by decide, by decide⟩) z_mv hKK hK hw hA hm_rd hf_rd rfl rfl rfl hl.1 rfl (Nat.le_of_ble_eq_true rfl) dX5_readDrive_48 ⟨by decide, by decide⟩ (fun r4 u H locs hp hw => ?_)
    obtain ⟨L5, f6⟩ := u
    obtain ⟨hsb, hfm, f2_7, p2_8, k2_9, a2_10, n2_11, z2_12, ha_0, hp⟩ := hp
    have hsb : L = L5 := hsb
    subst hsb
    have hsb : ∀ b ∈ L, b ∈ L := fun _ h => h
    have hw : z_H D vwCl (z_A L sz) s.heap L f6 H locs := hw
    have hfr : ∀ b ∈ L, b ≠ rd → b ≠ mo → b ≠ dq → f6 b = f b := fun b hb h0 h1 h2 => (hfm b hb h0).trans (hfr b hb h0 h1 h2)
    have hf_tp : f6 tp = .inr (7, [.ref tb, .int tl]) := (hfm tp hm_tp (z_tne hf_tp hf_rd (m := 7) (n := 5) rfl rfl (by decide))).trans hf_tp
    have hf_tb : f6 tb = .inl (cy 0, 1600, .inl gt) := (hfm tb hm_tb (z_tne hf_tb hf_rd (m := 12900) (n := 5) rfl rfl (by decide))).trans hf_tb
    have hf_mo : f6 mo = .inr (2, [.int v0, .int v1, .int v2, .int v3, .int v4, .int v5, .int v6, .ref la, .ref sa, .ref mi, .ref da]) := (hfm mo hm_mo (z_tne hf_mo hf_rd (m := 2) (n := 5) rfl rfl (by decide))).trans hf_mo
    have hf_da : f6 da = .inl (cy 4, 13, .inr (.inr (.inr (.inr gd)))) := (hfm da hm_da (z_tne hf_da hf_rd (m := 206) (n := 5) rfl rfl (by decide))).trans hf_da
    have hf_dq : f6 dq = .inr (0, [.int o1, .int o2, .int o3, .int o4, .int o5, .int o6, .int o7, .int o8]) := (hfm dq hm_dq (z_tne hf_dq hf_rd (m := 0) (n := 5) rfl rfl (by decide))).trans hf_dq
    have hf_rd : f6 rd = .inr (5, [.int f2_7, .int p2_8, .ref tp, .ref mo, .int ot_, .int k2_9, .int a2_10, .int n2_11, .int z2_12]) := ha_0
    have hq13 := hp
    refine z_put (C := RX0) (T := TX0) (N := 8) (ci := 0) (v := .int r4) (fs' := [.int r4, .int o2, .int o3, .int o4, .int o5, .int o6, .int o7, .int o8]) hx hb hT zin_X0 tyX0_ok nmX0 hown hK hw hm_dq hf_dq rfl 0 (by decide) (hT _ kw_144) rfl rfl rfl (Nat.le_of_ble_eq_true rfl) rfl dX5_readDrive_51 (fun H locs hw => ?_)
    obtain ⟨f14, e_f14⟩ : ∃ z, z = va_up f6 dq (.inr (0, [.int r4, .int o2, .int o3, .int o4, .int o5, .int o6, .int o7, .int o8])) := ⟨_, rfl⟩
    rw [← e_f14] at hw
    have hf_rd : f14 rd = .inr (5, [.int f2_7, .int p2_8, .ref tp, .ref mo, .int ot_, .int k2_9, .int a2_10, .int n2_11, .int z2_12]) := (congrFun e_f14 rd).trans (z_up_ne (z_tne hf_rd hf_dq (m := 5) (n := 0) rfl rfl (by decide)) hf_rd)
    have hf_tp : f14 tp = .inr (7, [.ref tb, .int tl]) := (congrFun e_f14 tp).trans (z_up_ne (z_tne hf_tp hf_dq (m := 7) (n := 0) rfl rfl (by decide)) hf_tp)
    have hf_tb : f14 tb = .inl (cy 0, 1600, .inl gt) := (congrFun e_f14 tb).trans (z_up_ne (z_tne hf_tb hf_dq (m := 12900) (n := 0) rfl rfl (by decide)) hf_tb)
    have hf_mo : f14 mo = .inr (2, [.int v0, .int v1, .int v2, .int v3, .int v4, .int v5, .int v6, .ref la, .ref sa, .ref mi, .ref da]) := (congrFun e_f14 mo).trans (z_up_ne (z_tne hf_mo hf_dq (m := 2) (n := 0) rfl rfl (by decide)) hf_mo)
    have hf_da : f14 da = .inl (cy 4, 13, .inr (.inr (.inr (.inr gd)))) := (congrFun e_f14 da).trans (z_up_ne (z_tne hf_da hf_dq (m := 206) (n := 0) rfl rfl (by decide)) hf_da)
    have hf_dq : f14 dq = .inr (0, [.int r4, .int o2, .int o3, .int o4, .int o5, .int o6, .int o7, .int o8]) := (congrFun e_f14 dq).trans z_up_self
    have hfr : ∀ b ∈ L, b ≠ rd → b ≠ mo → b ≠ dq → f14 b = f b := fun b hb h0 h1 h2 => (congrFun e_f14 b).trans (z_up_ne h2 (hfr b hb h0 h1 h2))
    refine lv_aload_n hx hb dX5_readDrive_54 rfl (lv_at hl 0 rfl) ?_
    refine lv_aload_n hx hb dX5_readDrive_55 rfl (lv_at hl 1 rfl) ?_
    refine va_ldcS (index := 191) hx hb hown (hKK.2.2.1 17 (by decide)) dX5_readDrive_56 ?_
    refine lv_iconst (v := 0) hx hb dX5_readDrive_58 (by decide) ?_
    refine lv_aload_n hx hb dX5_readDrive_59 rfl (lv_at hl 1 rfl) ?_
    refine z_get (C := RX5) (T := TX5) (N := 9) (ci := 5) (v := .ref mo) hx hb hT zin_X5 hown hK hw hm_rd hf_rd rfl 3 (by decide) (hT _ kw_282) rfl dX5_readDrive_60 ?_
    refine z_get (C := RX2) (T := TX2) (N := 11) (ci := 2) (v := .int v1) hx hb hT zin_X2 hown hK hw hm_mo hf_mo rfl 1 (by decide) (hT _ kw_209) rfl dX5_readDrive_63 ?_
    refine lv_iconst (v := 1) hx hb dX5_readDrive_66 (by decide) ?_
    refine lv_isub hx hb dX5_readDrive_67 ?_
    refine lv_topi (fun w15 e_w15 => ?_)
    have i_w15 : w15.toInt = (v1.toInt - 1) := z_subI e_w15 rfl (show (1 : Int32).toInt = 1 by decide) (by omega)
    have hz16 := (show (0 : Int32).toInt = 0 by decide)
    refine z_calliV (cells := 0) (slots := 0) (b := rd) (As := [.ref (adK 17), .int 0, .int w15]) (rest := [.ref dq]) (ci := 5) (q0 := (RX5, TX5, 9)) ⟨hx, hb, hml, hown, hT⟩ (c_X5_takeNamed l hm_rd hm_tp hm_tb hf_rd hf_tp hf_tb (by first | omega | decide | assumption) (by first | omega | decide | assumption) (by first | omega | decide | assumption)) (cwV 3 hT (z_goodV (fun _ h => h) kw_627 kw_629 kw_5 kw_89 kw_630) rfl rfl rfl (by decide +kernel) ⟨by decide, by decide⟩) z_mv hKK hK hw hA hm_rd hf_rd rfl rfl rfl hl.1 rfl (Nat.le_of_ble_eq_true rfl) dX5_readDrive_68 ⟨by decide, by decide⟩ (fun r17 u H locs hp hw => ?_)
    obtain ⟨L18, f19⟩ := u
    obtain ⟨hsb, hfm, f2_20, p2_21, k2_22, a2_23, n2_24, z2_25, ha_0, hp⟩ := hp
    have hsb : L = L18 := hsb
    subst hsb
    have hsb : ∀ b ∈ L, b ∈ L := fun _ h => h
    have hw : z_H D vwCl (z_A L sz) s.heap L f19 H locs := hw
    have hfr : ∀ b ∈ L, b ≠ rd → b ≠ mo → b ≠ dq → f19 b = f b := fun b hb h0 h1 h2 => (hfm b hb h0).trans (hfr b hb h0 h1 h2)
    have hf_tp : f19 tp = .inr (7, [.ref tb, .int tl]) := (hfm tp hm_tp (z_tne hf_tp hf_rd (m := 7) (n := 5) rfl rfl (by decide))).trans hf_tp
    have hf_tb : f19 tb = .inl (cy 0, 1600, .inl gt) := (hfm tb hm_tb (z_tne hf_tb hf_rd (m := 12900) (n := 5) rfl rfl (by decide))).trans hf_tb
    have hf_mo : f19 mo = .inr (2, [.int v0, .int v1, .int v2, .int v3, .int v4, .int v5, .int v6, .ref la, .ref sa, .ref mi, .ref da]) := (hfm mo hm_mo (z_tne hf_mo hf_rd (m := 2) (n := 5) rfl rfl (by decide))).trans hf_mo
    have hf_da : f19 da = .inl (cy 4, 13, .inr (.inr (.inr (.inr gd)))) := (hfm da hm_da (z_tne hf_da hf_rd (m := 206) (n := 5) rfl rfl (by decide))).trans hf_da
    have hf_dq : f19 dq = .inr (0, [.int r4, .int o2, .int o3, .int o4, .int o5, .int o6, .int o7, .int o8]) := (hfm dq hm_dq (z_tne hf_dq hf_rd (m := 0) (n := 5) rfl rfl (by decide))).trans hf_dq
    have hf_rd : f19 rd = .inr (5, [.int f2_20, .int p2_21, .ref tp, .ref mo, .int ot_, .int k2_22, .int a2_23, .int n2_24, .int z2_25]) := ha_0
    have hq26 := hp
    refine z_put (C := RX0) (T := TX0) (N := 8) (ci := 0) (v := .int r17) (fs' := [.int r4, .int r17, .int o3, .int o4, .int o5, .int o6, .int o7, .int o8]) hx hb hT zin_X0 tyX0_ok nmX0 hown hK hw hm_dq hf_dq rfl 1 (by decide) (hT _ kw_151) rfl rfl rfl (Nat.le_of_ble_eq_true rfl) rfl dX5_readDrive_71 (fun H locs hw => ?_)
    obtain ⟨f27, e_f27⟩ : ∃ z, z = va_up f19 dq (.inr (0, [.int r4, .int r17, .int o3, .int o4, .int o5, .int o6, .int o7, .int o8])) := ⟨_, rfl⟩
    rw [← e_f27] at hw
    have hf_rd : f27 rd = .inr (5, [.int f2_20, .int p2_21, .ref tp, .ref mo, .int ot_, .int k2_22, .int a2_23, .int n2_24, .int z2_25]) := (congrFun e_f27 rd).trans (z_up_ne (z_tne hf_rd hf_dq (m := 5) (n := 0) rfl rfl (by decide)) hf_rd)
    have hf_tp : f27 tp = .inr (7, [.ref tb, .int tl]) := (congrFun e_f27 tp).trans (z_up_ne (z_tne hf_tp hf_dq (m := 7) (n := 0) rfl rfl (by decide)) hf_tp)
    have hf_tb : f27 tb = .inl (cy 0, 1600, .inl gt) := (congrFun e_f27 tb).trans (z_up_ne (z_tne hf_tb hf_dq (m := 12900) (n := 0) rfl rfl (by decide)) hf_tb)
    have hf_mo : f27 mo = .inr (2, [.int v0, .int v1, .int v2, .int v3, .int v4, .int v5, .int v6, .ref la, .ref sa, .ref mi, .ref da]) := (congrFun e_f27 mo).trans (z_up_ne (z_tne hf_mo hf_dq (m := 2) (n := 0) rfl rfl (by decide)) hf_mo)
    have hf_da : f27 da = .inl (cy 4, 13, .inr (.inr (.inr (.inr gd)))) := (congrFun e_f27 da).trans (z_up_ne (z_tne hf_da hf_dq (m := 206) (n := 0) rfl rfl (by decide)) hf_da)
    have hf_dq : f27 dq = .inr (0, [.int r4, .int r17, .int o3, .int o4, .int o5, .int o6, .int o7, .int o8]) := (congrFun e_f27 dq).trans z_up_self
    have hfr : ∀ b ∈ L, b ≠ rd → b ≠ mo → b ≠ dq → f27 b = f b := fun b hb h0 h1 h2 => (congrFun e_f27 b).trans (z_up_ne h2 (hfr b hb h0 h1 h2))
    refine lv_aload_n hx hb dX5_readDrive_74 rfl (lv_at hl 0 rfl) ?_
    refine lv_aload_n hx hb dX5_readDrive_75 rfl (lv_at hl 1 rfl) ?_
    refine va_ldcS (index := 195) hx hb hown (hKK.2.2.1 18 (by decide)) dX5_readDrive_76 ?_
    refine lv_iconst (v := 0) hx hb dX5_readDrive_78 (by decide) ?_
    refine lv_aload_n hx hb dX5_readDrive_79 rfl (lv_at hl 1 rfl) ?_
    refine z_get (C := RX5) (T := TX5) (N := 9) (ci := 5) (v := .ref mo) hx hb hT zin_X5 hown hK hw hm_rd hf_rd rfl 3 (by decide) (hT _ kw_282) rfl dX5_readDrive_80 ?_
    refine z_get (C := RX2) (T := TX2) (N := 11) (ci := 2) (v := .int v2) hx hb hT zin_X2 hown hK hw hm_mo hf_mo rfl 2 (by decide) (hT _ kw_212) rfl dX5_readDrive_83 ?_
    refine lv_iconst (v := 1) hx hb dX5_readDrive_86 (by decide) ?_
    refine lv_isub hx hb dX5_readDrive_87 ?_
    refine lv_topi (fun w28 e_w28 => ?_)
    have i_w28 : w28.toInt = (v2.toInt - 1) := z_subI e_w28 rfl (show (1 : Int32).toInt = 1 by decide) (by omega)
    have hz29 := (show (0 : Int32).toInt = 0 by decide)
    refine z_calliV (cells := 0) (slots := 0) (b := rd) (As := [.ref (adK 18), .int 0, .int w28]) (rest := [.ref dq]) (ci := 5) (q0 := (RX5, TX5, 9)) ⟨hx, hb, hml, hown, hT⟩ (c_X5_takeNamed l hm_rd hm_tp hm_tb hf_rd hf_tp hf_tb (by first | omega | decide | assumption) (by first | omega | decide | assumption) (by first | omega | decide | assumption)) (cwV 3 hT (z_goodV (fun _ h => h) kw_627 kw_629 kw_5 kw_89 kw_630) rfl rfl rfl (by decide +kernel) ⟨by decide, by decide⟩) z_mv hKK hK hw hA hm_rd hf_rd rfl rfl rfl hl.1 rfl (Nat.le_of_ble_eq_true rfl) dX5_readDrive_88 ⟨by decide, by decide⟩ (fun r30 u H locs hp hw => ?_)
    obtain ⟨L31, f32⟩ := u
    obtain ⟨hsb, hfm, f2_33, p2_34, k2_35, a2_36, n2_37, z2_38, ha_0, hp⟩ := hp
    have hsb : L = L31 := hsb
    subst hsb
    have hsb : ∀ b ∈ L, b ∈ L := fun _ h => h
    have hw : z_H D vwCl (z_A L sz) s.heap L f32 H locs := hw
    have hfr : ∀ b ∈ L, b ≠ rd → b ≠ mo → b ≠ dq → f32 b = f b := fun b hb h0 h1 h2 => (hfm b hb h0).trans (hfr b hb h0 h1 h2)
    have hf_tp : f32 tp = .inr (7, [.ref tb, .int tl]) := (hfm tp hm_tp (z_tne hf_tp hf_rd (m := 7) (n := 5) rfl rfl (by decide))).trans hf_tp
    have hf_tb : f32 tb = .inl (cy 0, 1600, .inl gt) := (hfm tb hm_tb (z_tne hf_tb hf_rd (m := 12900) (n := 5) rfl rfl (by decide))).trans hf_tb
    have hf_mo : f32 mo = .inr (2, [.int v0, .int v1, .int v2, .int v3, .int v4, .int v5, .int v6, .ref la, .ref sa, .ref mi, .ref da]) := (hfm mo hm_mo (z_tne hf_mo hf_rd (m := 2) (n := 5) rfl rfl (by decide))).trans hf_mo
    have hf_da : f32 da = .inl (cy 4, 13, .inr (.inr (.inr (.inr gd)))) := (hfm da hm_da (z_tne hf_da hf_rd (m := 206) (n := 5) rfl rfl (by decide))).trans hf_da
    have hf_dq : f32 dq = .inr (0, [.int r4, .int r17, .int o3, .int o4, .int o5, .int o6, .int o7, .int o8]) := (hfm dq hm_dq (z_tne hf_dq hf_rd (m := 0) (n := 5) rfl rfl (by decide))).trans hf_dq
    have hf_rd : f32 rd = .inr (5, [.int f2_33, .int p2_34, .ref tp, .ref mo, .int ot_, .int k2_35, .int a2_36, .int n2_37, .int z2_38]) := ha_0
    have hq39 := hp
    refine z_put (C := RX0) (T := TX0) (N := 8) (ci := 0) (v := .int r30) (fs' := [.int r4, .int r17, .int r30, .int o4, .int o5, .int o6, .int o7, .int o8]) hx hb hT zin_X0 tyX0_ok nmX0 hown hK hw hm_dq hf_dq rfl 2 (by decide) (hT _ kw_156) rfl rfl rfl (Nat.le_of_ble_eq_true rfl) rfl dX5_readDrive_91 (fun H locs hw => ?_)
    obtain ⟨f40, e_f40⟩ : ∃ z, z = va_up f32 dq (.inr (0, [.int r4, .int r17, .int r30, .int o4, .int o5, .int o6, .int o7, .int o8])) := ⟨_, rfl⟩
    rw [← e_f40] at hw
    have hf_rd : f40 rd = .inr (5, [.int f2_33, .int p2_34, .ref tp, .ref mo, .int ot_, .int k2_35, .int a2_36, .int n2_37, .int z2_38]) := (congrFun e_f40 rd).trans (z_up_ne (z_tne hf_rd hf_dq (m := 5) (n := 0) rfl rfl (by decide)) hf_rd)
    have hf_tp : f40 tp = .inr (7, [.ref tb, .int tl]) := (congrFun e_f40 tp).trans (z_up_ne (z_tne hf_tp hf_dq (m := 7) (n := 0) rfl rfl (by decide)) hf_tp)
    have hf_tb : f40 tb = .inl (cy 0, 1600, .inl gt) := (congrFun e_f40 tb).trans (z_up_ne (z_tne hf_tb hf_dq (m := 12900) (n := 0) rfl rfl (by decide)) hf_tb)
    have hf_mo : f40 mo = .inr (2, [.int v0, .int v1, .int v2, .int v3, .int v4, .int v5, .int v6, .ref la, .ref sa, .ref mi, .ref da]) := (congrFun e_f40 mo).trans (z_up_ne (z_tne hf_mo hf_dq (m := 2) (n := 0) rfl rfl (by decide)) hf_mo)
    have hf_da : f40 da = .inl (cy 4, 13, .inr (.inr (.inr (.inr gd)))) := (congrFun e_f40 da).trans (z_up_ne (z_tne hf_da hf_dq (m := 206) (n := 0) rfl rfl (by decide)) hf_da)
    have hf_dq : f40 dq = .inr (0, [.int r4, .int r17, .int r30, .int o4, .int o5, .int o6, .int o7, .int o8]) := (congrFun e_f40 dq).trans z_up_self
    have hfr : ∀ b ∈ L, b ≠ rd → b ≠ mo → b ≠ dq → f40 b = f b := fun b hb h0 h1 h2 => (congrFun e_f40 b).trans (z_up_ne h2 (hfr b hb h0 h1 h2))
    refine lv_aload_n hx hb dX5_readDrive_94 rfl (lv_at hl 0 rfl) ?_
    refine lv_aload_n hx hb dX5_readDrive_95 rfl (lv_at hl 1 rfl) ?_
    refine va_ldcS (index := 200) hx hb hown (hKK.2.2.1 19 (by decide)) dX5_readDrive_96 ?_
    refine lv_iconst (v := 0) hx hb dX5_readDrive_98 (by decide) ?_
    refine lv_bipush (v := 23) hx hb dX5_readDrive_99 (by decide) ?_
    have hz41 := (show (0 : Int32).toInt = 0 by decide)
    have hz42 := (show (23 : Int32).toInt = 23 by decide)
    refine z_calliV (cells := 0) (slots := 0) (b := rd) (As := [.ref (adK 19), .int 0, .int 23]) (rest := [.ref dq]) (ci := 5) (q0 := (RX5, TX5, 9)) ⟨hx, hb, hml, hown, hT⟩ (c_X5_takeNamed l hm_rd hm_tp hm_tb hf_rd hf_tp hf_tb (by first | omega | decide | assumption) (by first | omega | decide | assumption) (by first | omega | decide | assumption)) (cwV 3 hT (z_goodV (fun _ h => h) kw_627 kw_629 kw_5 kw_89 kw_630) rfl rfl rfl (by decide +kernel) ⟨by decide, by decide⟩) z_mv hKK hK hw hA hm_rd hf_rd rfl rfl rfl hl.1 rfl (Nat.le_of_ble_eq_true rfl) dX5_readDrive_101 ⟨by decide, by decide⟩ (fun r43 u H locs hp hw => ?_)
    obtain ⟨L44, f45⟩ := u
    obtain ⟨hsb, hfm, f2_46, p2_47, k2_48, a2_49, n2_50, z2_51, ha_0, hp⟩ := hp
    have hsb : L = L44 := hsb
    subst hsb
    have hsb : ∀ b ∈ L, b ∈ L := fun _ h => h
    have hw : z_H D vwCl (z_A L sz) s.heap L f45 H locs := hw
    have hfr : ∀ b ∈ L, b ≠ rd → b ≠ mo → b ≠ dq → f45 b = f b := fun b hb h0 h1 h2 => (hfm b hb h0).trans (hfr b hb h0 h1 h2)
    have hf_tp : f45 tp = .inr (7, [.ref tb, .int tl]) := (hfm tp hm_tp (z_tne hf_tp hf_rd (m := 7) (n := 5) rfl rfl (by decide))).trans hf_tp
    have hf_tb : f45 tb = .inl (cy 0, 1600, .inl gt) := (hfm tb hm_tb (z_tne hf_tb hf_rd (m := 12900) (n := 5) rfl rfl (by decide))).trans hf_tb
    have hf_mo : f45 mo = .inr (2, [.int v0, .int v1, .int v2, .int v3, .int v4, .int v5, .int v6, .ref la, .ref sa, .ref mi, .ref da]) := (hfm mo hm_mo (z_tne hf_mo hf_rd (m := 2) (n := 5) rfl rfl (by decide))).trans hf_mo
    have hf_da : f45 da = .inl (cy 4, 13, .inr (.inr (.inr (.inr gd)))) := (hfm da hm_da (z_tne hf_da hf_rd (m := 206) (n := 5) rfl rfl (by decide))).trans hf_da
    have hf_dq : f45 dq = .inr (0, [.int r4, .int r17, .int r30, .int o4, .int o5, .int o6, .int o7, .int o8]) := (hfm dq hm_dq (z_tne hf_dq hf_rd (m := 0) (n := 5) rfl rfl (by decide))).trans hf_dq
    have hf_rd : f45 rd = .inr (5, [.int f2_46, .int p2_47, .ref tp, .ref mo, .int ot_, .int k2_48, .int a2_49, .int n2_50, .int z2_51]) := ha_0
    have hq52 := hp
    refine z_put (C := RX0) (T := TX0) (N := 8) (ci := 0) (v := .int r43) (fs' := [.int r4, .int r17, .int r30, .int r43, .int o5, .int o6, .int o7, .int o8]) hx hb hT zin_X0 tyX0_ok nmX0 hown hK hw hm_dq hf_dq rfl 3 (by decide) (hT _ kw_161) rfl rfl rfl (Nat.le_of_ble_eq_true rfl) rfl dX5_readDrive_104 (fun H locs hw => ?_)
    obtain ⟨f53, e_f53⟩ : ∃ z, z = va_up f45 dq (.inr (0, [.int r4, .int r17, .int r30, .int r43, .int o5, .int o6, .int o7, .int o8])) := ⟨_, rfl⟩
    rw [← e_f53] at hw
    have hf_rd : f53 rd = .inr (5, [.int f2_46, .int p2_47, .ref tp, .ref mo, .int ot_, .int k2_48, .int a2_49, .int n2_50, .int z2_51]) := (congrFun e_f53 rd).trans (z_up_ne (z_tne hf_rd hf_dq (m := 5) (n := 0) rfl rfl (by decide)) hf_rd)
    have hf_tp : f53 tp = .inr (7, [.ref tb, .int tl]) := (congrFun e_f53 tp).trans (z_up_ne (z_tne hf_tp hf_dq (m := 7) (n := 0) rfl rfl (by decide)) hf_tp)
    have hf_tb : f53 tb = .inl (cy 0, 1600, .inl gt) := (congrFun e_f53 tb).trans (z_up_ne (z_tne hf_tb hf_dq (m := 12900) (n := 0) rfl rfl (by decide)) hf_tb)
    have hf_mo : f53 mo = .inr (2, [.int v0, .int v1, .int v2, .int v3, .int v4, .int v5, .int v6, .ref la, .ref sa, .ref mi, .ref da]) := (congrFun e_f53 mo).trans (z_up_ne (z_tne hf_mo hf_dq (m := 2) (n := 0) rfl rfl (by decide)) hf_mo)
    have hf_da : f53 da = .inl (cy 4, 13, .inr (.inr (.inr (.inr gd)))) := (congrFun e_f53 da).trans (z_up_ne (z_tne hf_da hf_dq (m := 206) (n := 0) rfl rfl (by decide)) hf_da)
    have hf_dq : f53 dq = .inr (0, [.int r4, .int r17, .int r30, .int r43, .int o5, .int o6, .int o7, .int o8]) := (congrFun e_f53 dq).trans z_up_self
    have hfr : ∀ b ∈ L, b ≠ rd → b ≠ mo → b ≠ dq → f53 b = f b := fun b hb h0 h1 h2 => (congrFun e_f53 b).trans (z_up_ne h2 (hfr b hb h0 h1 h2))
    refine lv_aload_n hx hb dX5_readDrive_107 rfl (lv_at hl 0 rfl) ?_
    refine lv_aload_n hx hb dX5_readDrive_108 rfl (lv_at hl 1 rfl) ?_
    refine va_ldcS (index := 204) hx hb hown (hKK.2.2.1 20 (by decide)) dX5_readDrive_109 ?_
    refine lv_iconst (v := 1) hx hb dX5_readDrive_111 (by decide) ?_
    refine lv_bipush (v := 99) hx hb dX5_readDrive_112 (by decide) ?_
    have hz54 := (show (1 : Int32).toInt = 1 by decide)
    have hz55 := (show (99 : Int32).toInt = 99 by decide)
    refine z_calliV (cells := 0) (slots := 0) (b := rd) (As := [.ref (adK 20), .int 1, .int 99]) (rest := [.ref dq]) (ci := 5) (q0 := (RX5, TX5, 9)) ⟨hx, hb, hml, hown, hT⟩ (c_X5_takeNamed l hm_rd hm_tp hm_tb hf_rd hf_tp hf_tb (by first | omega | decide | assumption) (by first | omega | decide | assumption) (by first | omega | decide | assumption)) (cwV 3 hT (z_goodV (fun _ h => h) kw_627 kw_629 kw_5 kw_89 kw_630) rfl rfl rfl (by decide +kernel) ⟨by decide, by decide⟩) z_mv hKK hK hw hA hm_rd hf_rd rfl rfl rfl hl.1 rfl (Nat.le_of_ble_eq_true rfl) dX5_readDrive_114 ⟨by decide, by decide⟩ (fun r56 u H locs hp hw => ?_)
    obtain ⟨L57, f58⟩ := u
    obtain ⟨hsb, hfm, f2_59, p2_60, k2_61, a2_62, n2_63, z2_64, ha_0, hp⟩ := hp
    have hsb : L = L57 := hsb
    subst hsb
    have hsb : ∀ b ∈ L, b ∈ L := fun _ h => h
    have hw : z_H D vwCl (z_A L sz) s.heap L f58 H locs := hw
    have hfr : ∀ b ∈ L, b ≠ rd → b ≠ mo → b ≠ dq → f58 b = f b := fun b hb h0 h1 h2 => (hfm b hb h0).trans (hfr b hb h0 h1 h2)
    have hf_tp : f58 tp = .inr (7, [.ref tb, .int tl]) := (hfm tp hm_tp (z_tne hf_tp hf_rd (m := 7) (n := 5) rfl rfl (by decide))).trans hf_tp
    have hf_tb : f58 tb = .inl (cy 0, 1600, .inl gt) := (hfm tb hm_tb (z_tne hf_tb hf_rd (m := 12900) (n := 5) rfl rfl (by decide))).trans hf_tb
    have hf_mo : f58 mo = .inr (2, [.int v0, .int v1, .int v2, .int v3, .int v4, .int v5, .int v6, .ref la, .ref sa, .ref mi, .ref da]) := (hfm mo hm_mo (z_tne hf_mo hf_rd (m := 2) (n := 5) rfl rfl (by decide))).trans hf_mo
    have hf_da : f58 da = .inl (cy 4, 13, .inr (.inr (.inr (.inr gd)))) := (hfm da hm_da (z_tne hf_da hf_rd (m := 206) (n := 5) rfl rfl (by decide))).trans hf_da
    have hf_dq : f58 dq = .inr (0, [.int r4, .int r17, .int r30, .int r43, .int o5, .int o6, .int o7, .int o8]) := (hfm dq hm_dq (z_tne hf_dq hf_rd (m := 0) (n := 5) rfl rfl (by decide))).trans hf_dq
    have hf_rd : f58 rd = .inr (5, [.int f2_59, .int p2_60, .ref tp, .ref mo, .int ot_, .int k2_61, .int a2_62, .int n2_63, .int z2_64]) := ha_0
    have hq65 := hp
    refine z_put (C := RX0) (T := TX0) (N := 8) (ci := 0) (v := .int r56) (fs' := [.int r4, .int r17, .int r30, .int r43, .int r56, .int o6, .int o7, .int o8]) hx hb hT zin_X0 tyX0_ok nmX0 hown hK hw hm_dq hf_dq rfl 4 (by decide) (hT _ kw_167) rfl rfl rfl (Nat.le_of_ble_eq_true rfl) rfl dX5_readDrive_117 (fun H locs hw => ?_)
    obtain ⟨f66, e_f66⟩ : ∃ z, z = va_up f58 dq (.inr (0, [.int r4, .int r17, .int r30, .int r43, .int r56, .int o6, .int o7, .int o8])) := ⟨_, rfl⟩
    rw [← e_f66] at hw
    have hf_rd : f66 rd = .inr (5, [.int f2_59, .int p2_60, .ref tp, .ref mo, .int ot_, .int k2_61, .int a2_62, .int n2_63, .int z2_64]) := (congrFun e_f66 rd).trans (z_up_ne (z_tne hf_rd hf_dq (m := 5) (n := 0) rfl rfl (by decide)) hf_rd)
    have hf_tp : f66 tp = .inr (7, [.ref tb, .int tl]) := (congrFun e_f66 tp).trans (z_up_ne (z_tne hf_tp hf_dq (m := 7) (n := 0) rfl rfl (by decide)) hf_tp)
    have hf_tb : f66 tb = .inl (cy 0, 1600, .inl gt) := (congrFun e_f66 tb).trans (z_up_ne (z_tne hf_tb hf_dq (m := 12900) (n := 0) rfl rfl (by decide)) hf_tb)
    have hf_mo : f66 mo = .inr (2, [.int v0, .int v1, .int v2, .int v3, .int v4, .int v5, .int v6, .ref la, .ref sa, .ref mi, .ref da]) := (congrFun e_f66 mo).trans (z_up_ne (z_tne hf_mo hf_dq (m := 2) (n := 0) rfl rfl (by decide)) hf_mo)
    have hf_da : f66 da = .inl (cy 4, 13, .inr (.inr (.inr (.inr gd)))) := (congrFun e_f66 da).trans (z_up_ne (z_tne hf_da hf_dq (m := 206) (n := 0) rfl rfl (by decide)) hf_da)
    have hf_dq : f66 dq = .inr (0, [.int r4, .int r17, .int r30, .int r43, .int r56, .int o6, .int o7, .int o8]) := (congrFun e_f66 dq).trans z_up_self
    have hfr : ∀ b ∈ L, b ≠ rd → b ≠ mo → b ≠ dq → f66 b = f b := fun b hb h0 h1 h2 => (congrFun e_f66 b).trans (z_up_ne h2 (hfr b hb h0 h1 h2))
    refine lv_aload_n hx hb dX5_readDrive_120 rfl (lv_at hl 0 rfl) ?_
    refine lv_aload_n hx hb dX5_readDrive_121 rfl (lv_at hl 1 rfl) ?_
    refine va_ldcS (index := 123) hx hb hown (hKK.2.2.1 14 (by decide)) dX5_readDrive_122 ?_
    refine z_calliV (cells := 0) (slots := 0) (b := rd) (As := [.ref (adK 14)]) (rest := [.ref dq]) (ci := 5) (q0 := (RX5, TX5, 9)) ⟨hx, hb, hml, hown, hT⟩ (c_X5_tries l hm_rd hm_tp hm_tb hf_rd hf_tp hf_tb (by first | omega | decide | assumption) (by first | omega | decide | assumption) (by first | omega | decide | assumption)) (cwV 1 hT (z_goodV (fun _ h => h) kw_639 kw_641 kw_7 kw_89 kw_642) rfl rfl rfl (by decide +kernel) ⟨by decide, by decide⟩) z_mv hKK hK hw hA hm_rd hf_rd rfl rfl rfl hl.1 rfl (Nat.le_of_ble_eq_true rfl) dX5_readDrive_124 ⟨by decide, by decide⟩ (fun r67 u H locs hp hw => ?_)
    obtain ⟨L68, f69⟩ := u
    obtain ⟨hsb, hfm, k2_70, a2_71, n2_72, z2_73, ha_0, hp⟩ := hp
    have hsb : L = L68 := hsb
    subst hsb
    have hsb : ∀ b ∈ L, b ∈ L := fun _ h => h
    have hw : z_H D vwCl (z_A L sz) s.heap L f69 H locs := hw
    have hfr : ∀ b ∈ L, b ≠ rd → b ≠ mo → b ≠ dq → f69 b = f b := fun b hb h0 h1 h2 => (hfm b hb h0).trans (hfr b hb h0 h1 h2)
    have hf_tp : f69 tp = .inr (7, [.ref tb, .int tl]) := (hfm tp hm_tp (z_tne hf_tp hf_rd (m := 7) (n := 5) rfl rfl (by decide))).trans hf_tp
    have hf_tb : f69 tb = .inl (cy 0, 1600, .inl gt) := (hfm tb hm_tb (z_tne hf_tb hf_rd (m := 12900) (n := 5) rfl rfl (by decide))).trans hf_tb
    have hf_mo : f69 mo = .inr (2, [.int v0, .int v1, .int v2, .int v3, .int v4, .int v5, .int v6, .ref la, .ref sa, .ref mi, .ref da]) := (hfm mo hm_mo (z_tne hf_mo hf_rd (m := 2) (n := 5) rfl rfl (by decide))).trans hf_mo
    have hf_da : f69 da = .inl (cy 4, 13, .inr (.inr (.inr (.inr gd)))) := (hfm da hm_da (z_tne hf_da hf_rd (m := 206) (n := 5) rfl rfl (by decide))).trans hf_da
    have hf_dq : f69 dq = .inr (0, [.int r4, .int r17, .int r30, .int r43, .int r56, .int o6, .int o7, .int o8]) := (hfm dq hm_dq (z_tne hf_dq hf_rd (m := 0) (n := 5) rfl rfl (by decide))).trans hf_dq
    have hf_rd : f69 rd = .inr (5, [.int f2_59, .int p2_60, .ref tp, .ref mo, .int ot_, .int k2_70, .int a2_71, .int n2_72, .int z2_73]) := ha_0
    have hrn := hp.2
    have hp := hp.1
    rcases hp with ⟨rfl, h74⟩ | ⟨rfl, h74⟩
    · skip
      refine z_if_eq (tgt := 140) hx hb (show (1 : Int32).toInt = 1 by decide) dX5_readDrive_127 (by decide) (fun h => absurd h (by decide)) (fun _ => ?_)
      refine lv_aload_n hx hb dX5_readDrive_130 rfl (lv_at hl 1 rfl) ?_
      refine lv_iconst (v := 0) hx hb dX5_readDrive_131 (by decide) ?_
      refine lv_bipush (v := 99) hx hb dX5_readDrive_132 (by decide) ?_
      have hz75 := (show (0 : Int32).toInt = 0 by decide)
      have hz76 := (show (99 : Int32).toInt = 99 by decide)
      refine z_calliV (cells := 0) (slots := 0) (b := rd) (As := [.int 0, .int 99]) (rest := [.ref dq]) (ci := 5) (q0 := (RX5, TX5, 9)) ⟨hx, hb, hml, hown, hT⟩ (c_X5_take_ l hm_rd hm_tp hm_tb hf_rd hf_tp hf_tb (by first | omega | decide | assumption) (by first | omega | decide | assumption)) (cwV 2 hT (z_goodV (fun _ h => h) kw_631 kw_633 kw_6 kw_89 kw_634) rfl rfl rfl (by decide +kernel) ⟨by decide, by decide⟩) z_mv hKK hK hw hA hm_rd hf_rd rfl rfl rfl hl.1 rfl (Nat.le_of_ble_eq_true rfl) dX5_readDrive_134 ⟨by decide, by decide⟩ (fun r77 u H locs hp hw => ?_)
      obtain ⟨L78, f79⟩ := u
      obtain ⟨hsb, hfm, f2_80, p2_81, k2_82, a2_83, n2_84, z2_85, ha_0, hp⟩ := hp
      have hsb : L = L78 := hsb
      subst hsb
      have hsb : ∀ b ∈ L, b ∈ L := fun _ h => h
      have hw : z_H D vwCl (z_A L sz) s.heap L f79 H locs := hw
      have hfr : ∀ b ∈ L, b ≠ rd → b ≠ mo → b ≠ dq → f79 b = f b := fun b hb h0 h1 h2 => (hfm b hb h0).trans (hfr b hb h0 h1 h2)
      have hf_tp : f79 tp = .inr (7, [.ref tb, .int tl]) := (hfm tp hm_tp (z_tne hf_tp hf_rd (m := 7) (n := 5) rfl rfl (by decide))).trans hf_tp
      have hf_tb : f79 tb = .inl (cy 0, 1600, .inl gt) := (hfm tb hm_tb (z_tne hf_tb hf_rd (m := 12900) (n := 5) rfl rfl (by decide))).trans hf_tb
      have hf_mo : f79 mo = .inr (2, [.int v0, .int v1, .int v2, .int v3, .int v4, .int v5, .int v6, .ref la, .ref sa, .ref mi, .ref da]) := (hfm mo hm_mo (z_tne hf_mo hf_rd (m := 2) (n := 5) rfl rfl (by decide))).trans hf_mo
      have hf_da : f79 da = .inl (cy 4, 13, .inr (.inr (.inr (.inr gd)))) := (hfm da hm_da (z_tne hf_da hf_rd (m := 206) (n := 5) rfl rfl (by decide))).trans hf_da
      have hf_dq : f79 dq = .inr (0, [.int r4, .int r17, .int r30, .int r43, .int r56, .int o6, .int o7, .int o8]) := (hfm dq hm_dq (z_tne hf_dq hf_rd (m := 0) (n := 5) rfl rfl (by decide))).trans hf_dq
      have hf_rd : f79 rd = .inr (5, [.int f2_80, .int p2_81, .ref tp, .ref mo, .int ot_, .int k2_82, .int a2_83, .int n2_84, .int z2_85]) := ha_0
      have hq86 := hp
      refine lv_goto (tgt := 141) hx hb dX5_readDrive_137 (by decide) ?_
      refine z_put (C := RX0) (T := TX0) (N := 8) (ci := 0) (v := .int r77) (fs' := [.int r4, .int r17, .int r30, .int r43, .int r56, .int r77, .int o7, .int o8]) hx hb hT zin_X0 tyX0_ok nmX0 hown hK hw hm_dq hf_dq rfl 5 (by decide) (hT _ kw_173) rfl rfl rfl (Nat.le_of_ble_eq_true rfl) rfl dX5_readDrive_141 (fun H locs hw => ?_)
      obtain ⟨f87, e_f87⟩ : ∃ z, z = va_up f79 dq (.inr (0, [.int r4, .int r17, .int r30, .int r43, .int r56, .int r77, .int o7, .int o8])) := ⟨_, rfl⟩
      rw [← e_f87] at hw
      have hf_rd : f87 rd = .inr (5, [.int f2_80, .int p2_81, .ref tp, .ref mo, .int ot_, .int k2_82, .int a2_83, .int n2_84, .int z2_85]) := (congrFun e_f87 rd).trans (z_up_ne (z_tne hf_rd hf_dq (m := 5) (n := 0) rfl rfl (by decide)) hf_rd)
      have hf_tp : f87 tp = .inr (7, [.ref tb, .int tl]) := (congrFun e_f87 tp).trans (z_up_ne (z_tne hf_tp hf_dq (m := 7) (n := 0) rfl rfl (by decide)) hf_tp)
      have hf_tb : f87 tb = .inl (cy 0, 1600, .inl gt) := (congrFun e_f87 tb).trans (z_up_ne (z_tne hf_tb hf_dq (m := 12900) (n := 0) rfl rfl (by decide)) hf_tb)
      have hf_mo : f87 mo = .inr (2, [.int v0, .int v1, .int v2, .int v3, .int v4, .int v5, .int v6, .ref la, .ref sa, .ref mi, .ref da]) := (congrFun e_f87 mo).trans (z_up_ne (z_tne hf_mo hf_dq (m := 2) (n := 0) rfl rfl (by decide)) hf_mo)
      have hf_da : f87 da = .inl (cy 4, 13, .inr (.inr (.inr (.inr gd)))) := (congrFun e_f87 da).trans (z_up_ne (z_tne hf_da hf_dq (m := 206) (n := 0) rfl rfl (by decide)) hf_da)
      have hf_dq : f87 dq = .inr (0, [.int r4, .int r17, .int r30, .int r43, .int r56, .int r77, .int o7, .int o8]) := (congrFun e_f87 dq).trans z_up_self
      have hfr : ∀ b ∈ L, b ≠ rd → b ≠ mo → b ≠ dq → f87 b = f b := fun b hb h0 h1 h2 => (congrFun e_f87 b).trans (z_up_ne h2 (hfr b hb h0 h1 h2))
      refine lv_aload_n hx hb dX5_readDrive_144 rfl (lv_at hl 0 rfl) ?_
      refine lv_aload_n hx hb dX5_readDrive_145 rfl (lv_at hl 1 rfl) ?_
      refine va_ldcS (index := 210) hx hb hown (hKK.2.2.1 21 (by decide)) dX5_readDrive_146 ?_
      refine z_calliV (cells := 0) (slots := 0) (b := rd) (As := [.ref (adK 21)]) (rest := [.ref dq]) (ci := 5) (q0 := (RX5, TX5, 9)) ⟨hx, hb, hml, hown, hT⟩ (c_X5_tries l hm_rd hm_tp hm_tb hf_rd hf_tp hf_tb (by first | omega | decide | assumption) (by first | omega | decide | assumption) (by first | omega | decide | assumption)) (cwV 1 hT (z_goodV (fun _ h => h) kw_639 kw_641 kw_7 kw_89 kw_642) rfl rfl rfl (by decide +kernel) ⟨by decide, by decide⟩) z_mv hKK hK hw hA hm_rd hf_rd rfl rfl rfl hl.1 rfl (Nat.le_of_ble_eq_true rfl) dX5_readDrive_148 ⟨by decide, by decide⟩ (fun r88 u H locs hp hw => ?_)
      obtain ⟨L89, f90⟩ := u
      obtain ⟨hsb, hfm, k2_91, a2_92, n2_93, z2_94, ha_0, hp⟩ := hp
      have hsb : L = L89 := hsb
      subst hsb
      have hsb : ∀ b ∈ L, b ∈ L := fun _ h => h
      have hw : z_H D vwCl (z_A L sz) s.heap L f90 H locs := hw
      have hfr : ∀ b ∈ L, b ≠ rd → b ≠ mo → b ≠ dq → f90 b = f b := fun b hb h0 h1 h2 => (hfm b hb h0).trans (hfr b hb h0 h1 h2)
      have hf_tp : f90 tp = .inr (7, [.ref tb, .int tl]) := (hfm tp hm_tp (z_tne hf_tp hf_rd (m := 7) (n := 5) rfl rfl (by decide))).trans hf_tp
      have hf_tb : f90 tb = .inl (cy 0, 1600, .inl gt) := (hfm tb hm_tb (z_tne hf_tb hf_rd (m := 12900) (n := 5) rfl rfl (by decide))).trans hf_tb
      have hf_mo : f90 mo = .inr (2, [.int v0, .int v1, .int v2, .int v3, .int v4, .int v5, .int v6, .ref la, .ref sa, .ref mi, .ref da]) := (hfm mo hm_mo (z_tne hf_mo hf_rd (m := 2) (n := 5) rfl rfl (by decide))).trans hf_mo
      have hf_da : f90 da = .inl (cy 4, 13, .inr (.inr (.inr (.inr gd)))) := (hfm da hm_da (z_tne hf_da hf_rd (m := 206) (n := 5) rfl rfl (by decide))).trans hf_da
      have hf_dq : f90 dq = .inr (0, [.int r4, .int r17, .int r30, .int r43, .int r56, .int r77, .int o7, .int o8]) := (hfm dq hm_dq (z_tne hf_dq hf_rd (m := 0) (n := 5) rfl rfl (by decide))).trans hf_dq
      have hf_rd : f90 rd = .inr (5, [.int f2_80, .int p2_81, .ref tp, .ref mo, .int ot_, .int k2_91, .int a2_92, .int n2_93, .int z2_94]) := ha_0
      have hrn := hp.2
      have hp := hp.1
      rcases hp with ⟨rfl, h95⟩ | ⟨rfl, h95⟩
      · skip
        refine z_if_eq (tgt := 165) hx hb (show (1 : Int32).toInt = 1 by decide) dX5_readDrive_151 (by decide) (fun h => absurd h (by decide)) (fun _ => ?_)
        refine lv_aload_n hx hb dX5_readDrive_154 rfl (lv_at hl 1 rfl) ?_
        refine lv_aload_n hx hb dX5_readDrive_155 rfl (lv_at hl 0 rfl) ?_
        refine z_get (C := RX0) (T := TX0) (N := 8) (ci := 0) (v := .int r4) hx hb hT zin_X0 hown hK hw hm_dq hf_dq rfl 0 (by decide) (hT _ kw_144) rfl dX5_readDrive_156 ?_
        refine z_calliV (cells := 0) (slots := 0) (b := rd) (As := [.int r4]) (rest := [.ref dq]) (ci := 5) (q0 := (RX5, TX5, 9)) ⟨hx, hb, hml, hown, hT⟩ (c_X5_takePainter l hm_rd hm_tp hm_tb hm_mo hf_rd hf_tp hf_tb hf_mo (by first | omega | decide | assumption) (by first | omega | decide | assumption) (by first | omega | decide | assumption)) (cwV 1 hT (z_goodV (fun _ h => h) kw_675 kw_677 kw_12 kw_89 kw_678) rfl rfl rfl (by decide +kernel) ⟨by decide, by decide⟩) z_mv hKK hK hw hA hm_rd hf_rd rfl rfl rfl hl.1 rfl (Nat.le_of_ble_eq_true rfl) dX5_readDrive_159 ⟨by decide, by decide⟩ (fun r96 u H locs hp hw => ?_)
        obtain ⟨L97, f98⟩ := u
        obtain ⟨hsb, hfm, f2_99, p2_100, k2_101, a2_102, n2_103, z2_104, ha_0, hp⟩ := hp
        have hsb : L = L97 := hsb
        subst hsb
        have hsb : ∀ b ∈ L, b ∈ L := fun _ h => h
        have hw : z_H D vwCl (z_A L sz) s.heap L f98 H locs := hw
        have hfr : ∀ b ∈ L, b ≠ rd → b ≠ mo → b ≠ dq → f98 b = f b := fun b hb h0 h1 h2 => (hfm b hb h0).trans (hfr b hb h0 h1 h2)
        have hf_tp : f98 tp = .inr (7, [.ref tb, .int tl]) := (hfm tp hm_tp (z_tne hf_tp hf_rd (m := 7) (n := 5) rfl rfl (by decide))).trans hf_tp
        have hf_tb : f98 tb = .inl (cy 0, 1600, .inl gt) := (hfm tb hm_tb (z_tne hf_tb hf_rd (m := 12900) (n := 5) rfl rfl (by decide))).trans hf_tb
        have hf_mo : f98 mo = .inr (2, [.int v0, .int v1, .int v2, .int v3, .int v4, .int v5, .int v6, .ref la, .ref sa, .ref mi, .ref da]) := (hfm mo hm_mo (z_tne hf_mo hf_rd (m := 2) (n := 5) rfl rfl (by decide))).trans hf_mo
        have hf_da : f98 da = .inl (cy 4, 13, .inr (.inr (.inr (.inr gd)))) := (hfm da hm_da (z_tne hf_da hf_rd (m := 206) (n := 5) rfl rfl (by decide))).trans hf_da
        have hf_dq : f98 dq = .inr (0, [.int r4, .int r17, .int r30, .int r43, .int r56, .int r77, .int o7, .int o8]) := (hfm dq hm_dq (z_tne hf_dq hf_rd (m := 0) (n := 5) rfl rfl (by decide))).trans hf_dq
        have hf_rd : f98 rd = .inr (5, [.int f2_99, .int p2_100, .ref tp, .ref mo, .int ot_, .int k2_101, .int a2_102, .int n2_103, .int z2_104]) := ha_0
        have hq105 := hp
        refine lv_goto (tgt := 169) hx hb dX5_readDrive_162 (by decide) ?_
        refine z_put (C := RX0) (T := TX0) (N := 8) (ci := 0) (v := .int r96) (fs' := [.int r4, .int r17, .int r30, .int r43, .int r56, .int r77, .int r96, .int o8]) hx hb hT zin_X0 tyX0_ok nmX0 hown hK hw hm_dq hf_dq rfl 6 (by decide) (hT _ kw_180) rfl rfl rfl (Nat.le_of_ble_eq_true rfl) rfl dX5_readDrive_169 (fun H locs hw => ?_)
        obtain ⟨f106, e_f106⟩ : ∃ z, z = va_up f98 dq (.inr (0, [.int r4, .int r17, .int r30, .int r43, .int r56, .int r77, .int r96, .int o8])) := ⟨_, rfl⟩
        rw [← e_f106] at hw
        have hf_rd : f106 rd = .inr (5, [.int f2_99, .int p2_100, .ref tp, .ref mo, .int ot_, .int k2_101, .int a2_102, .int n2_103, .int z2_104]) := (congrFun e_f106 rd).trans (z_up_ne (z_tne hf_rd hf_dq (m := 5) (n := 0) rfl rfl (by decide)) hf_rd)
        have hf_tp : f106 tp = .inr (7, [.ref tb, .int tl]) := (congrFun e_f106 tp).trans (z_up_ne (z_tne hf_tp hf_dq (m := 7) (n := 0) rfl rfl (by decide)) hf_tp)
        have hf_tb : f106 tb = .inl (cy 0, 1600, .inl gt) := (congrFun e_f106 tb).trans (z_up_ne (z_tne hf_tb hf_dq (m := 12900) (n := 0) rfl rfl (by decide)) hf_tb)
        have hf_mo : f106 mo = .inr (2, [.int v0, .int v1, .int v2, .int v3, .int v4, .int v5, .int v6, .ref la, .ref sa, .ref mi, .ref da]) := (congrFun e_f106 mo).trans (z_up_ne (z_tne hf_mo hf_dq (m := 2) (n := 0) rfl rfl (by decide)) hf_mo)
        have hf_da : f106 da = .inl (cy 4, 13, .inr (.inr (.inr (.inr gd)))) := (congrFun e_f106 da).trans (z_up_ne (z_tne hf_da hf_dq (m := 206) (n := 0) rfl rfl (by decide)) hf_da)
        have hf_dq : f106 dq = .inr (0, [.int r4, .int r17, .int r30, .int r43, .int r56, .int r77, .int r96, .int o8]) := (congrFun e_f106 dq).trans z_up_self
        have hfr : ∀ b ∈ L, b ≠ rd → b ≠ mo → b ≠ dq → f106 b = f b := fun b hb h0 h1 h2 => (congrFun e_f106 b).trans (z_up_ne h2 (hfr b hb h0 h1 h2))
        refine lv_aload_n hx hb dX5_readDrive_172 rfl (lv_at hl 0 rfl) ?_
        refine lv_aload_n hx hb dX5_readDrive_173 rfl (lv_at hl 1 rfl) ?_
        refine va_ldcS (index := 219) hx hb hown (hKK.2.2.1 22 (by decide)) dX5_readDrive_174 ?_
        refine z_calliV (cells := 0) (slots := 0) (b := rd) (As := [.ref (adK 22)]) (rest := [.ref dq]) (ci := 5) (q0 := (RX5, TX5, 9)) ⟨hx, hb, hml, hown, hT⟩ (c_X5_tries l hm_rd hm_tp hm_tb hf_rd hf_tp hf_tb (by first | omega | decide | assumption) (by first | omega | decide | assumption) (by first | omega | decide | assumption)) (cwV 1 hT (z_goodV (fun _ h => h) kw_639 kw_641 kw_7 kw_89 kw_642) rfl rfl rfl (by decide +kernel) ⟨by decide, by decide⟩) z_mv hKK hK hw hA hm_rd hf_rd rfl rfl rfl hl.1 rfl (Nat.le_of_ble_eq_true rfl) dX5_readDrive_176 ⟨by decide, by decide⟩ (fun r107 u H locs hp hw => ?_)
        obtain ⟨L108, f109⟩ := u
        obtain ⟨hsb, hfm, k2_110, a2_111, n2_112, z2_113, ha_0, hp⟩ := hp
        have hsb : L = L108 := hsb
        subst hsb
        have hsb : ∀ b ∈ L, b ∈ L := fun _ h => h
        have hw : z_H D vwCl (z_A L sz) s.heap L f109 H locs := hw
        have hfr : ∀ b ∈ L, b ≠ rd → b ≠ mo → b ≠ dq → f109 b = f b := fun b hb h0 h1 h2 => (hfm b hb h0).trans (hfr b hb h0 h1 h2)
        have hf_tp : f109 tp = .inr (7, [.ref tb, .int tl]) := (hfm tp hm_tp (z_tne hf_tp hf_rd (m := 7) (n := 5) rfl rfl (by decide))).trans hf_tp
        have hf_tb : f109 tb = .inl (cy 0, 1600, .inl gt) := (hfm tb hm_tb (z_tne hf_tb hf_rd (m := 12900) (n := 5) rfl rfl (by decide))).trans hf_tb
        have hf_mo : f109 mo = .inr (2, [.int v0, .int v1, .int v2, .int v3, .int v4, .int v5, .int v6, .ref la, .ref sa, .ref mi, .ref da]) := (hfm mo hm_mo (z_tne hf_mo hf_rd (m := 2) (n := 5) rfl rfl (by decide))).trans hf_mo
        have hf_da : f109 da = .inl (cy 4, 13, .inr (.inr (.inr (.inr gd)))) := (hfm da hm_da (z_tne hf_da hf_rd (m := 206) (n := 5) rfl rfl (by decide))).trans hf_da
        have hf_dq : f109 dq = .inr (0, [.int r4, .int r17, .int r30, .int r43, .int r56, .int r77, .int r96, .int o8]) := (hfm dq hm_dq (z_tne hf_dq hf_rd (m := 0) (n := 5) rfl rfl (by decide))).trans hf_dq
        have hf_rd : f109 rd = .inr (5, [.int f2_99, .int p2_100, .ref tp, .ref mo, .int ot_, .int k2_110, .int a2_111, .int n2_112, .int z2_113]) := ha_0
        have hrn := hp.2
        have hp := hp.1
        rcases hp with ⟨rfl, h114⟩ | ⟨rfl, h114⟩
        · skip
          refine z_if_eq (tgt := 186) hx hb (show (1 : Int32).toInt = 1 by decide) dX5_readDrive_179 (by decide) (fun h => absurd h (by decide)) (fun _ => ?_)
          refine lv_iconst (v := 1) hx hb dX5_readDrive_182 (by decide) ?_
          refine lv_goto (tgt := 187) hx hb dX5_readDrive_183 (by decide) ?_
          refine z_put (C := RX0) (T := TX0) (N := 8) (ci := 0) (v := .int 1) (fs' := [.int r4, .int r17, .int r30, .int r43, .int r56, .int r77, .int r96, .int 1]) hx hb hT zin_X0 tyX0_ok nmX0 hown hK hw hm_dq hf_dq rfl 7 (by decide) (hT _ kw_185) rfl rfl rfl (Nat.le_of_ble_eq_true rfl) rfl dX5_readDrive_187 (fun H locs hw => ?_)
          obtain ⟨f115, e_f115⟩ : ∃ z, z = va_up f109 dq (.inr (0, [.int r4, .int r17, .int r30, .int r43, .int r56, .int r77, .int r96, .int 1])) := ⟨_, rfl⟩
          rw [← e_f115] at hw
          have hf_rd : f115 rd = .inr (5, [.int f2_99, .int p2_100, .ref tp, .ref mo, .int ot_, .int k2_110, .int a2_111, .int n2_112, .int z2_113]) := (congrFun e_f115 rd).trans (z_up_ne (z_tne hf_rd hf_dq (m := 5) (n := 0) rfl rfl (by decide)) hf_rd)
          have hf_tp : f115 tp = .inr (7, [.ref tb, .int tl]) := (congrFun e_f115 tp).trans (z_up_ne (z_tne hf_tp hf_dq (m := 7) (n := 0) rfl rfl (by decide)) hf_tp)
          have hf_tb : f115 tb = .inl (cy 0, 1600, .inl gt) := (congrFun e_f115 tb).trans (z_up_ne (z_tne hf_tb hf_dq (m := 12900) (n := 0) rfl rfl (by decide)) hf_tb)
          have hf_mo : f115 mo = .inr (2, [.int v0, .int v1, .int v2, .int v3, .int v4, .int v5, .int v6, .ref la, .ref sa, .ref mi, .ref da]) := (congrFun e_f115 mo).trans (z_up_ne (z_tne hf_mo hf_dq (m := 2) (n := 0) rfl rfl (by decide)) hf_mo)
          have hf_da : f115 da = .inl (cy 4, 13, .inr (.inr (.inr (.inr gd)))) := (congrFun e_f115 da).trans (z_up_ne (z_tne hf_da hf_dq (m := 206) (n := 0) rfl rfl (by decide)) hf_da)
          have hf_dq : f115 dq = .inr (0, [.int r4, .int r17, .int r30, .int r43, .int r56, .int r77, .int r96, .int 1]) := (congrFun e_f115 dq).trans z_up_self
          have hfr : ∀ b ∈ L, b ≠ rd → b ≠ mo → b ≠ dq → f115 b = f b := fun b hb h0 h1 h2 => (congrFun e_f115 b).trans (z_up_ne h2 (hfr b hb h0 h1 h2))
          refine lv_aload_n hx hb dX5_readDrive_190 rfl (lv_at hl 1 rfl) ?_
          refine z_get (C := RX5) (T := TX5) (N := 9) (ci := 5) (v := .ref mo) hx hb hT zin_X5 hown hK hw hm_rd hf_rd rfl 3 (by decide) (hT _ kw_282) rfl dX5_readDrive_191 ?_
          refine lv_dup hx hb dX5_readDrive_194 rfl ?_
          refine z_get (C := RX2) (T := TX2) (N := 11) (ci := 2) (v := .int v5) hx hb hT zin_X2 hown hK hw hm_mo hf_mo rfl 5 (by decide) (hT _ kw_225) rfl dX5_readDrive_195 ?_
          refine lv_iconst (v := 1) hx hb dX5_readDrive_198 (by decide) ?_
          refine lv_iadd hx hb dX5_readDrive_199 ?_
          refine lv_topi (fun w116 e_w116 => ?_)
          have i_w116 : w116.toInt = (v5.toInt + 1) := z_add e_w116 rfl (show (1 : Int32).toInt = 1 by decide) (by omega)
          refine z_put (C := RX2) (T := TX2) (N := 11) (ci := 2) (v := .int w116) (fs' := [.int v0, .int v1, .int v2, .int v3, .int v4, .int w116, .int v6, .ref la, .ref sa, .ref mi, .ref da]) hx hb hT zin_X2 tyX2_ok nmX2 hown hK hw hm_mo hf_mo rfl 5 (by decide) (hT _ kw_225) rfl rfl rfl (Nat.le_of_ble_eq_true rfl) rfl dX5_readDrive_200 (fun H locs hw => ?_)
          obtain ⟨f117, e_f117⟩ : ∃ z, z = va_up f115 mo (.inr (2, [.int v0, .int v1, .int v2, .int v3, .int v4, .int w116, .int v6, .ref la, .ref sa, .ref mi, .ref da])) := ⟨_, rfl⟩
          rw [← e_f117] at hw
          have hf_rd : f117 rd = .inr (5, [.int f2_99, .int p2_100, .ref tp, .ref mo, .int ot_, .int k2_110, .int a2_111, .int n2_112, .int z2_113]) := (congrFun e_f117 rd).trans (z_up_ne (z_tne hf_rd hf_mo (m := 5) (n := 2) rfl rfl (by decide)) hf_rd)
          have hf_tp : f117 tp = .inr (7, [.ref tb, .int tl]) := (congrFun e_f117 tp).trans (z_up_ne (z_tne hf_tp hf_mo (m := 7) (n := 2) rfl rfl (by decide)) hf_tp)
          have hf_tb : f117 tb = .inl (cy 0, 1600, .inl gt) := (congrFun e_f117 tb).trans (z_up_ne (z_tne hf_tb hf_mo (m := 12900) (n := 2) rfl rfl (by decide)) hf_tb)
          have hf_da : f117 da = .inl (cy 4, 13, .inr (.inr (.inr (.inr gd)))) := (congrFun e_f117 da).trans (z_up_ne (z_tne hf_da hf_mo (m := 206) (n := 2) rfl rfl (by decide)) hf_da)
          have hf_dq : f117 dq = .inr (0, [.int r4, .int r17, .int r30, .int r43, .int r56, .int r77, .int r96, .int 1]) := (congrFun e_f117 dq).trans (z_up_ne (z_tne hf_dq hf_mo (m := 0) (n := 2) rfl rfl (by decide)) hf_dq)
          have hf_mo : f117 mo = .inr (2, [.int v0, .int v1, .int v2, .int v3, .int v4, .int w116, .int v6, .ref la, .ref sa, .ref mi, .ref da]) := (congrFun e_f117 mo).trans z_up_self
          have hfr : ∀ b ∈ L, b ≠ rd → b ≠ mo → b ≠ dq → f117 b = f b := fun b hb h0 h1 h2 => (congrFun e_f117 b).trans (z_up_ne h1 (hfr b hb h0 h1 h2))
          exact z_vret hx hb hr hlk (by decide) (by decide) hw (⟨hsub, hfr, f2_99, p2_100, k2_110, a2_111, n2_112, z2_113, w116, r4, r17, r30, r43, r56, r77, r96, 1, hf_rd, hf_mo, hf_dq, by omega, by omega, by omega, by omega⟩) dX5_readDrive_203
        · skip
          refine z_if_eq (tgt := 186) hx hb (show (0 : Int32).toInt = 0 by decide) dX5_readDrive_179 (by decide) (fun _ => ?_) (fun h => absurd h (by decide))
          refine lv_iconst (v := 0) hx hb dX5_readDrive_186 (by decide) ?_
          refine z_put (C := RX0) (T := TX0) (N := 8) (ci := 0) (v := .int 0) (fs' := [.int r4, .int r17, .int r30, .int r43, .int r56, .int r77, .int r96, .int 0]) hx hb hT zin_X0 tyX0_ok nmX0 hown hK hw hm_dq hf_dq rfl 7 (by decide) (hT _ kw_185) rfl rfl rfl (Nat.le_of_ble_eq_true rfl) rfl dX5_readDrive_187 (fun H locs hw => ?_)
          obtain ⟨f118, e_f118⟩ : ∃ z, z = va_up f109 dq (.inr (0, [.int r4, .int r17, .int r30, .int r43, .int r56, .int r77, .int r96, .int 0])) := ⟨_, rfl⟩
          rw [← e_f118] at hw
          have hf_rd : f118 rd = .inr (5, [.int f2_99, .int p2_100, .ref tp, .ref mo, .int ot_, .int k2_110, .int a2_111, .int n2_112, .int z2_113]) := (congrFun e_f118 rd).trans (z_up_ne (z_tne hf_rd hf_dq (m := 5) (n := 0) rfl rfl (by decide)) hf_rd)
          have hf_tp : f118 tp = .inr (7, [.ref tb, .int tl]) := (congrFun e_f118 tp).trans (z_up_ne (z_tne hf_tp hf_dq (m := 7) (n := 0) rfl rfl (by decide)) hf_tp)
          have hf_tb : f118 tb = .inl (cy 0, 1600, .inl gt) := (congrFun e_f118 tb).trans (z_up_ne (z_tne hf_tb hf_dq (m := 12900) (n := 0) rfl rfl (by decide)) hf_tb)
          have hf_mo : f118 mo = .inr (2, [.int v0, .int v1, .int v2, .int v3, .int v4, .int v5, .int v6, .ref la, .ref sa, .ref mi, .ref da]) := (congrFun e_f118 mo).trans (z_up_ne (z_tne hf_mo hf_dq (m := 2) (n := 0) rfl rfl (by decide)) hf_mo)
          have hf_da : f118 da = .inl (cy 4, 13, .inr (.inr (.inr (.inr gd)))) := (congrFun e_f118 da).trans (z_up_ne (z_tne hf_da hf_dq (m := 206) (n := 0) rfl rfl (by decide)) hf_da)
          have hf_dq : f118 dq = .inr (0, [.int r4, .int r17, .int r30, .int r43, .int r56, .int r77, .int r96, .int 0]) := (congrFun e_f118 dq).trans z_up_self
          have hfr : ∀ b ∈ L, b ≠ rd → b ≠ mo → b ≠ dq → f118 b = f b := fun b hb h0 h1 h2 => (congrFun e_f118 b).trans (z_up_ne h2 (hfr b hb h0 h1 h2))
          refine lv_aload_n hx hb dX5_readDrive_190 rfl (lv_at hl 1 rfl) ?_
          refine z_get (C := RX5) (T := TX5) (N := 9) (ci := 5) (v := .ref mo) hx hb hT zin_X5 hown hK hw hm_rd hf_rd rfl 3 (by decide) (hT _ kw_282) rfl dX5_readDrive_191 ?_
          refine lv_dup hx hb dX5_readDrive_194 rfl ?_
          refine z_get (C := RX2) (T := TX2) (N := 11) (ci := 2) (v := .int v5) hx hb hT zin_X2 hown hK hw hm_mo hf_mo rfl 5 (by decide) (hT _ kw_225) rfl dX5_readDrive_195 ?_
          refine lv_iconst (v := 1) hx hb dX5_readDrive_198 (by decide) ?_
          refine lv_iadd hx hb dX5_readDrive_199 ?_
          refine lv_topi (fun w119 e_w119 => ?_)
          have i_w119 : w119.toInt = (v5.toInt + 1) := z_add e_w119 rfl (show (1 : Int32).toInt = 1 by decide) (by omega)
          refine z_put (C := RX2) (T := TX2) (N := 11) (ci := 2) (v := .int w119) (fs' := [.int v0, .int v1, .int v2, .int v3, .int v4, .int w119, .int v6, .ref la, .ref sa, .ref mi, .ref da]) hx hb hT zin_X2 tyX2_ok nmX2 hown hK hw hm_mo hf_mo rfl 5 (by decide) (hT _ kw_225) rfl rfl rfl (Nat.le_of_ble_eq_true rfl) rfl dX5_readDrive_200 (fun H locs hw => ?_)
          obtain ⟨f120, e_f120⟩ : ∃ z, z = va_up f118 mo (.inr (2, [.int v0, .int v1, .int v2, .int v3, .int v4, .int w119, .int v6, .ref la, .ref sa, .ref mi, .ref da])) := ⟨_, rfl⟩
          rw [← e_f120] at hw
          have hf_rd : f120 rd = .inr (5, [.int f2_99, .int p2_100, .ref tp, .ref mo, .int ot_, .int k2_110, .int a2_111, .int n2_112, .int z2_113]) := (congrFun e_f120 rd).trans (z_up_ne (z_tne hf_rd hf_mo (m := 5) (n := 2) rfl rfl (by decide)) hf_rd)
          have hf_tp : f120 tp = .inr (7, [.ref tb, .int tl]) := (congrFun e_f120 tp).trans (z_up_ne (z_tne hf_tp hf_mo (m := 7) (n := 2) rfl rfl (by decide)) hf_tp)
          have hf_tb : f120 tb = .inl (cy 0, 1600, .inl gt) := (congrFun e_f120 tb).trans (z_up_ne (z_tne hf_tb hf_mo (m := 12900) (n := 2) rfl rfl (by decide)) hf_tb)
          have hf_da : f120 da = .inl (cy 4, 13, .inr (.inr (.inr (.inr gd)))) := (congrFun e_f120 da).trans (z_up_ne (z_tne hf_da hf_mo (m := 206) (n := 2) rfl rfl (by decide)) hf_da)
          have hf_dq : f120 dq = .inr (0, [.int r4, .int r17, .int r30, .int r43, .int r56, .int r77, .int r96, .int 0]) := (congrFun e_f120 dq).trans (z_up_ne (z_tne hf_dq hf_mo (m := 0) (n := 2) rfl rfl (by decide)) hf_dq)
          have hf_mo : f120 mo = .inr (2, [.int v0, .int v1, .int v2, .int v3, .int v4, .int w119, .int v6, .ref la, .ref sa, .ref mi, .ref da]) := (congrFun e_f120 mo).trans z_up_self
          have hfr : ∀ b ∈ L, b ≠ rd → b ≠ mo → b ≠ dq → f120 b = f b := fun b hb h0 h1 h2 => (congrFun e_f120 b).trans (z_up_ne h1 (hfr b hb h0 h1 h2))
          exact z_vret hx hb hr hlk (by decide) (by decide) hw (⟨hsub, hfr, f2_99, p2_100, k2_110, a2_111, n2_112, z2_113, w119, r4, r17, r30, r43, r56, r77, r96, 0, hf_rd, hf_mo, hf_dq, by omega, by omega, by omega, by omega⟩) dX5_readDrive_203
      · skip
        refine z_if_eq (tgt := 165) hx hb (show (0 : Int32).toInt = 0 by decide) dX5_readDrive_151 (by decide) (fun _ => ?_) (fun h => absurd h (by decide))
        refine lv_aload_n hx hb dX5_readDrive_165 rfl (lv_at hl 0 rfl) ?_
        refine z_get (C := RX0) (T := TX0) (N := 8) (ci := 0) (v := .int r4) hx hb hT zin_X0 hown hK hw hm_dq hf_dq rfl 0 (by decide) (hT _ kw_144) rfl dX5_readDrive_166 ?_
        refine z_put (C := RX0) (T := TX0) (N := 8) (ci := 0) (v := .int r4) (fs' := [.int r4, .int r17, .int r30, .int r43, .int r56, .int r77, .int r4, .int o8]) hx hb hT zin_X0 tyX0_ok nmX0 hown hK hw hm_dq hf_dq rfl 6 (by decide) (hT _ kw_180) rfl rfl rfl (Nat.le_of_ble_eq_true rfl) rfl dX5_readDrive_169 (fun H locs hw => ?_)
        obtain ⟨f121, e_f121⟩ : ∃ z, z = va_up f90 dq (.inr (0, [.int r4, .int r17, .int r30, .int r43, .int r56, .int r77, .int r4, .int o8])) := ⟨_, rfl⟩
        rw [← e_f121] at hw
        have hf_rd : f121 rd = .inr (5, [.int f2_80, .int p2_81, .ref tp, .ref mo, .int ot_, .int k2_91, .int a2_92, .int n2_93, .int z2_94]) := (congrFun e_f121 rd).trans (z_up_ne (z_tne hf_rd hf_dq (m := 5) (n := 0) rfl rfl (by decide)) hf_rd)
        have hf_tp : f121 tp = .inr (7, [.ref tb, .int tl]) := (congrFun e_f121 tp).trans (z_up_ne (z_tne hf_tp hf_dq (m := 7) (n := 0) rfl rfl (by decide)) hf_tp)
        have hf_tb : f121 tb = .inl (cy 0, 1600, .inl gt) := (congrFun e_f121 tb).trans (z_up_ne (z_tne hf_tb hf_dq (m := 12900) (n := 0) rfl rfl (by decide)) hf_tb)
        have hf_mo : f121 mo = .inr (2, [.int v0, .int v1, .int v2, .int v3, .int v4, .int v5, .int v6, .ref la, .ref sa, .ref mi, .ref da]) := (congrFun e_f121 mo).trans (z_up_ne (z_tne hf_mo hf_dq (m := 2) (n := 0) rfl rfl (by decide)) hf_mo)
        have hf_da : f121 da = .inl (cy 4, 13, .inr (.inr (.inr (.inr gd)))) := (congrFun e_f121 da).trans (z_up_ne (z_tne hf_da hf_dq (m := 206) (n := 0) rfl rfl (by decide)) hf_da)
        have hf_dq : f121 dq = .inr (0, [.int r4, .int r17, .int r30, .int r43, .int r56, .int r77, .int r4, .int o8]) := (congrFun e_f121 dq).trans z_up_self
        have hfr : ∀ b ∈ L, b ≠ rd → b ≠ mo → b ≠ dq → f121 b = f b := fun b hb h0 h1 h2 => (congrFun e_f121 b).trans (z_up_ne h2 (hfr b hb h0 h1 h2))
        refine lv_aload_n hx hb dX5_readDrive_172 rfl (lv_at hl 0 rfl) ?_
        refine lv_aload_n hx hb dX5_readDrive_173 rfl (lv_at hl 1 rfl) ?_
        refine va_ldcS (index := 219) hx hb hown (hKK.2.2.1 22 (by decide)) dX5_readDrive_174 ?_
        refine z_calliV (cells := 0) (slots := 0) (b := rd) (As := [.ref (adK 22)]) (rest := [.ref dq]) (ci := 5) (q0 := (RX5, TX5, 9)) ⟨hx, hb, hml, hown, hT⟩ (c_X5_tries l hm_rd hm_tp hm_tb hf_rd hf_tp hf_tb (by first | omega | decide | assumption) (by first | omega | decide | assumption) (by first | omega | decide | assumption)) (cwV 1 hT (z_goodV (fun _ h => h) kw_639 kw_641 kw_7 kw_89 kw_642) rfl rfl rfl (by decide +kernel) ⟨by decide, by decide⟩) z_mv hKK hK hw hA hm_rd hf_rd rfl rfl rfl hl.1 rfl (Nat.le_of_ble_eq_true rfl) dX5_readDrive_176 ⟨by decide, by decide⟩ (fun r122 u H locs hp hw => ?_)
        obtain ⟨L123, f124⟩ := u
        obtain ⟨hsb, hfm, k2_125, a2_126, n2_127, z2_128, ha_0, hp⟩ := hp
        have hsb : L = L123 := hsb
        subst hsb
        have hsb : ∀ b ∈ L, b ∈ L := fun _ h => h
        have hw : z_H D vwCl (z_A L sz) s.heap L f124 H locs := hw
        have hfr : ∀ b ∈ L, b ≠ rd → b ≠ mo → b ≠ dq → f124 b = f b := fun b hb h0 h1 h2 => (hfm b hb h0).trans (hfr b hb h0 h1 h2)
        have hf_tp : f124 tp = .inr (7, [.ref tb, .int tl]) := (hfm tp hm_tp (z_tne hf_tp hf_rd (m := 7) (n := 5) rfl rfl (by decide))).trans hf_tp
        have hf_tb : f124 tb = .inl (cy 0, 1600, .inl gt) := (hfm tb hm_tb (z_tne hf_tb hf_rd (m := 12900) (n := 5) rfl rfl (by decide))).trans hf_tb
        have hf_mo : f124 mo = .inr (2, [.int v0, .int v1, .int v2, .int v3, .int v4, .int v5, .int v6, .ref la, .ref sa, .ref mi, .ref da]) := (hfm mo hm_mo (z_tne hf_mo hf_rd (m := 2) (n := 5) rfl rfl (by decide))).trans hf_mo
        have hf_da : f124 da = .inl (cy 4, 13, .inr (.inr (.inr (.inr gd)))) := (hfm da hm_da (z_tne hf_da hf_rd (m := 206) (n := 5) rfl rfl (by decide))).trans hf_da
        have hf_dq : f124 dq = .inr (0, [.int r4, .int r17, .int r30, .int r43, .int r56, .int r77, .int r4, .int o8]) := (hfm dq hm_dq (z_tne hf_dq hf_rd (m := 0) (n := 5) rfl rfl (by decide))).trans hf_dq
        have hf_rd : f124 rd = .inr (5, [.int f2_80, .int p2_81, .ref tp, .ref mo, .int ot_, .int k2_125, .int a2_126, .int n2_127, .int z2_128]) := ha_0
        have hrn := hp.2
        have hp := hp.1
        rcases hp with ⟨rfl, h129⟩ | ⟨rfl, h129⟩
        · skip
          refine z_if_eq (tgt := 186) hx hb (show (1 : Int32).toInt = 1 by decide) dX5_readDrive_179 (by decide) (fun h => absurd h (by decide)) (fun _ => ?_)
          refine lv_iconst (v := 1) hx hb dX5_readDrive_182 (by decide) ?_
          refine lv_goto (tgt := 187) hx hb dX5_readDrive_183 (by decide) ?_
          refine z_put (C := RX0) (T := TX0) (N := 8) (ci := 0) (v := .int 1) (fs' := [.int r4, .int r17, .int r30, .int r43, .int r56, .int r77, .int r4, .int 1]) hx hb hT zin_X0 tyX0_ok nmX0 hown hK hw hm_dq hf_dq rfl 7 (by decide) (hT _ kw_185) rfl rfl rfl (Nat.le_of_ble_eq_true rfl) rfl dX5_readDrive_187 (fun H locs hw => ?_)
          obtain ⟨f130, e_f130⟩ : ∃ z, z = va_up f124 dq (.inr (0, [.int r4, .int r17, .int r30, .int r43, .int r56, .int r77, .int r4, .int 1])) := ⟨_, rfl⟩
          rw [← e_f130] at hw
          have hf_rd : f130 rd = .inr (5, [.int f2_80, .int p2_81, .ref tp, .ref mo, .int ot_, .int k2_125, .int a2_126, .int n2_127, .int z2_128]) := (congrFun e_f130 rd).trans (z_up_ne (z_tne hf_rd hf_dq (m := 5) (n := 0) rfl rfl (by decide)) hf_rd)
          have hf_tp : f130 tp = .inr (7, [.ref tb, .int tl]) := (congrFun e_f130 tp).trans (z_up_ne (z_tne hf_tp hf_dq (m := 7) (n := 0) rfl rfl (by decide)) hf_tp)
          have hf_tb : f130 tb = .inl (cy 0, 1600, .inl gt) := (congrFun e_f130 tb).trans (z_up_ne (z_tne hf_tb hf_dq (m := 12900) (n := 0) rfl rfl (by decide)) hf_tb)
          have hf_mo : f130 mo = .inr (2, [.int v0, .int v1, .int v2, .int v3, .int v4, .int v5, .int v6, .ref la, .ref sa, .ref mi, .ref da]) := (congrFun e_f130 mo).trans (z_up_ne (z_tne hf_mo hf_dq (m := 2) (n := 0) rfl rfl (by decide)) hf_mo)
          have hf_da : f130 da = .inl (cy 4, 13, .inr (.inr (.inr (.inr gd)))) := (congrFun e_f130 da).trans (z_up_ne (z_tne hf_da hf_dq (m := 206) (n := 0) rfl rfl (by decide)) hf_da)
          have hf_dq : f130 dq = .inr (0, [.int r4, .int r17, .int r30, .int r43, .int r56, .int r77, .int r4, .int 1]) := (congrFun e_f130 dq).trans z_up_self
          have hfr : ∀ b ∈ L, b ≠ rd → b ≠ mo → b ≠ dq → f130 b = f b := fun b hb h0 h1 h2 => (congrFun e_f130 b).trans (z_up_ne h2 (hfr b hb h0 h1 h2))
          refine lv_aload_n hx hb dX5_readDrive_190 rfl (lv_at hl 1 rfl) ?_
          refine z_get (C := RX5) (T := TX5) (N := 9) (ci := 5) (v := .ref mo) hx hb hT zin_X5 hown hK hw hm_rd hf_rd rfl 3 (by decide) (hT _ kw_282) rfl dX5_readDrive_191 ?_
          refine lv_dup hx hb dX5_readDrive_194 rfl ?_
          refine z_get (C := RX2) (T := TX2) (N := 11) (ci := 2) (v := .int v5) hx hb hT zin_X2 hown hK hw hm_mo hf_mo rfl 5 (by decide) (hT _ kw_225) rfl dX5_readDrive_195 ?_
          refine lv_iconst (v := 1) hx hb dX5_readDrive_198 (by decide) ?_
          refine lv_iadd hx hb dX5_readDrive_199 ?_
          refine lv_topi (fun w131 e_w131 => ?_)
          have i_w131 : w131.toInt = (v5.toInt + 1) := z_add e_w131 rfl (show (1 : Int32).toInt = 1 by decide) (by omega)
          refine z_put (C := RX2) (T := TX2) (N := 11) (ci := 2) (v := .int w131) (fs' := [.int v0, .int v1, .int v2, .int v3, .int v4, .int w131, .int v6, .ref la, .ref sa, .ref mi, .ref da]) hx hb hT zin_X2 tyX2_ok nmX2 hown hK hw hm_mo hf_mo rfl 5 (by decide) (hT _ kw_225) rfl rfl rfl (Nat.le_of_ble_eq_true rfl) rfl dX5_readDrive_200 (fun H locs hw => ?_)
          obtain ⟨f132, e_f132⟩ : ∃ z, z = va_up f130 mo (.inr (2, [.int v0, .int v1, .int v2, .int v3, .int v4, .int w131, .int v6, .ref la, .ref sa, .ref mi, .ref da])) := ⟨_, rfl⟩
          rw [← e_f132] at hw
          have hf_rd : f132 rd = .inr (5, [.int f2_80, .int p2_81, .ref tp, .ref mo, .int ot_, .int k2_125, .int a2_126, .int n2_127, .int z2_128]) := (congrFun e_f132 rd).trans (z_up_ne (z_tne hf_rd hf_mo (m := 5) (n := 2) rfl rfl (by decide)) hf_rd)
          have hf_tp : f132 tp = .inr (7, [.ref tb, .int tl]) := (congrFun e_f132 tp).trans (z_up_ne (z_tne hf_tp hf_mo (m := 7) (n := 2) rfl rfl (by decide)) hf_tp)
          have hf_tb : f132 tb = .inl (cy 0, 1600, .inl gt) := (congrFun e_f132 tb).trans (z_up_ne (z_tne hf_tb hf_mo (m := 12900) (n := 2) rfl rfl (by decide)) hf_tb)
          have hf_da : f132 da = .inl (cy 4, 13, .inr (.inr (.inr (.inr gd)))) := (congrFun e_f132 da).trans (z_up_ne (z_tne hf_da hf_mo (m := 206) (n := 2) rfl rfl (by decide)) hf_da)
          have hf_dq : f132 dq = .inr (0, [.int r4, .int r17, .int r30, .int r43, .int r56, .int r77, .int r4, .int 1]) := (congrFun e_f132 dq).trans (z_up_ne (z_tne hf_dq hf_mo (m := 0) (n := 2) rfl rfl (by decide)) hf_dq)
          have hf_mo : f132 mo = .inr (2, [.int v0, .int v1, .int v2, .int v3, .int v4, .int w131, .int v6, .ref la, .ref sa, .ref mi, .ref da]) := (congrFun e_f132 mo).trans z_up_self
          have hfr : ∀ b ∈ L, b ≠ rd → b ≠ mo → b ≠ dq → f132 b = f b := fun b hb h0 h1 h2 => (congrFun e_f132 b).trans (z_up_ne h1 (hfr b hb h0 h1 h2))
          exact z_vret hx hb hr hlk (by decide) (by decide) hw (⟨hsub, hfr, f2_80, p2_81, k2_125, a2_126, n2_127, z2_128, w131, r4, r17, r30, r43, r56, r77, r4, 1, hf_rd, hf_mo, hf_dq, by omega, by omega, by omega, by omega⟩) dX5_readDrive_203
        · skip
          refine z_if_eq (tgt := 186) hx hb (show (0 : Int32).toInt = 0 by decide) dX5_readDrive_179 (by decide) (fun _ => ?_) (fun h => absurd h (by decide))
          refine lv_iconst (v := 0) hx hb dX5_readDrive_186 (by decide) ?_
          refine z_put (C := RX0) (T := TX0) (N := 8) (ci := 0) (v := .int 0) (fs' := [.int r4, .int r17, .int r30, .int r43, .int r56, .int r77, .int r4, .int 0]) hx hb hT zin_X0 tyX0_ok nmX0 hown hK hw hm_dq hf_dq rfl 7 (by decide) (hT _ kw_185) rfl rfl rfl (Nat.le_of_ble_eq_true rfl) rfl dX5_readDrive_187 (fun H locs hw => ?_)
          obtain ⟨f133, e_f133⟩ : ∃ z, z = va_up f124 dq (.inr (0, [.int r4, .int r17, .int r30, .int r43, .int r56, .int r77, .int r4, .int 0])) := ⟨_, rfl⟩
          rw [← e_f133] at hw
          have hf_rd : f133 rd = .inr (5, [.int f2_80, .int p2_81, .ref tp, .ref mo, .int ot_, .int k2_125, .int a2_126, .int n2_127, .int z2_128]) := (congrFun e_f133 rd).trans (z_up_ne (z_tne hf_rd hf_dq (m := 5) (n := 0) rfl rfl (by decide)) hf_rd)
          have hf_tp : f133 tp = .inr (7, [.ref tb, .int tl]) := (congrFun e_f133 tp).trans (z_up_ne (z_tne hf_tp hf_dq (m := 7) (n := 0) rfl rfl (by decide)) hf_tp)
          have hf_tb : f133 tb = .inl (cy 0, 1600, .inl gt) := (congrFun e_f133 tb).trans (z_up_ne (z_tne hf_tb hf_dq (m := 12900) (n := 0) rfl rfl (by decide)) hf_tb)
          have hf_mo : f133 mo = .inr (2, [.int v0, .int v1, .int v2, .int v3, .int v4, .int v5, .int v6, .ref la, .ref sa, .ref mi, .ref da]) := (congrFun e_f133 mo).trans (z_up_ne (z_tne hf_mo hf_dq (m := 2) (n := 0) rfl rfl (by decide)) hf_mo)
          have hf_da : f133 da = .inl (cy 4, 13, .inr (.inr (.inr (.inr gd)))) := (congrFun e_f133 da).trans (z_up_ne (z_tne hf_da hf_dq (m := 206) (n := 0) rfl rfl (by decide)) hf_da)
          have hf_dq : f133 dq = .inr (0, [.int r4, .int r17, .int r30, .int r43, .int r56, .int r77, .int r4, .int 0]) := (congrFun e_f133 dq).trans z_up_self
          have hfr : ∀ b ∈ L, b ≠ rd → b ≠ mo → b ≠ dq → f133 b = f b := fun b hb h0 h1 h2 => (congrFun e_f133 b).trans (z_up_ne h2 (hfr b hb h0 h1 h2))
          refine lv_aload_n hx hb dX5_readDrive_190 rfl (lv_at hl 1 rfl) ?_
          refine z_get (C := RX5) (T := TX5) (N := 9) (ci := 5) (v := .ref mo) hx hb hT zin_X5 hown hK hw hm_rd hf_rd rfl 3 (by decide) (hT _ kw_282) rfl dX5_readDrive_191 ?_
          refine lv_dup hx hb dX5_readDrive_194 rfl ?_
          refine z_get (C := RX2) (T := TX2) (N := 11) (ci := 2) (v := .int v5) hx hb hT zin_X2 hown hK hw hm_mo hf_mo rfl 5 (by decide) (hT _ kw_225) rfl dX5_readDrive_195 ?_
          refine lv_iconst (v := 1) hx hb dX5_readDrive_198 (by decide) ?_
          refine lv_iadd hx hb dX5_readDrive_199 ?_
          refine lv_topi (fun w134 e_w134 => ?_)
          have i_w134 : w134.toInt = (v5.toInt + 1) := z_add e_w134 rfl (show (1 : Int32).toInt = 1 by decide) (by omega)
          refine z_put (C := RX2) (T := TX2) (N := 11) (ci := 2) (v := .int w134) (fs' := [.int v0, .int v1, .int v2, .int v3, .int v4, .int w134, .int v6, .ref la, .ref sa, .ref mi, .ref da]) hx hb hT zin_X2 tyX2_ok nmX2 hown hK hw hm_mo hf_mo rfl 5 (by decide) (hT _ kw_225) rfl rfl rfl (Nat.le_of_ble_eq_true rfl) rfl dX5_readDrive_200 (fun H locs hw => ?_)
          obtain ⟨f135, e_f135⟩ : ∃ z, z = va_up f133 mo (.inr (2, [.int v0, .int v1, .int v2, .int v3, .int v4, .int w134, .int v6, .ref la, .ref sa, .ref mi, .ref da])) := ⟨_, rfl⟩
          rw [← e_f135] at hw
          have hf_rd : f135 rd = .inr (5, [.int f2_80, .int p2_81, .ref tp, .ref mo, .int ot_, .int k2_125, .int a2_126, .int n2_127, .int z2_128]) := (congrFun e_f135 rd).trans (z_up_ne (z_tne hf_rd hf_mo (m := 5) (n := 2) rfl rfl (by decide)) hf_rd)
          have hf_tp : f135 tp = .inr (7, [.ref tb, .int tl]) := (congrFun e_f135 tp).trans (z_up_ne (z_tne hf_tp hf_mo (m := 7) (n := 2) rfl rfl (by decide)) hf_tp)
          have hf_tb : f135 tb = .inl (cy 0, 1600, .inl gt) := (congrFun e_f135 tb).trans (z_up_ne (z_tne hf_tb hf_mo (m := 12900) (n := 2) rfl rfl (by decide)) hf_tb)
          have hf_da : f135 da = .inl (cy 4, 13, .inr (.inr (.inr (.inr gd)))) := (congrFun e_f135 da).trans (z_up_ne (z_tne hf_da hf_mo (m := 206) (n := 2) rfl rfl (by decide)) hf_da)
          have hf_dq : f135 dq = .inr (0, [.int r4, .int r17, .int r30, .int r43, .int r56, .int r77, .int r4, .int 0]) := (congrFun e_f135 dq).trans (z_up_ne (z_tne hf_dq hf_mo (m := 0) (n := 2) rfl rfl (by decide)) hf_dq)
          have hf_mo : f135 mo = .inr (2, [.int v0, .int v1, .int v2, .int v3, .int v4, .int w134, .int v6, .ref la, .ref sa, .ref mi, .ref da]) := (congrFun e_f135 mo).trans z_up_self
          have hfr : ∀ b ∈ L, b ≠ rd → b ≠ mo → b ≠ dq → f135 b = f b := fun b hb h0 h1 h2 => (congrFun e_f135 b).trans (z_up_ne h1 (hfr b hb h0 h1 h2))
          exact z_vret hx hb hr hlk (by decide) (by decide) hw (⟨hsub, hfr, f2_80, p2_81, k2_125, a2_126, n2_127, z2_128, w134, r4, r17, r30, r43, r56, r77, r4, 0, hf_rd, hf_mo, hf_dq, by omega, by omega, by omega, by omega⟩) dX5_readDrive_203
    · skip
      refine z_if_eq (tgt := 140) hx hb (show (0 : Int32).toInt = 0 by decide) dX5_readDrive_127 (by decide) (fun _ => ?_) (fun h => absurd h (by decide))
      refine lv_iconst (v := 0) hx hb dX5_readDrive_140 (by decide) ?_
      refine z_put (C := RX0) (T := TX0) (N := 8) (ci := 0) (v := .int 0) (fs' := [.int r4, .int r17, .int r30, .int r43, .int r56, .int 0, .int o7, .int o8]) hx hb hT zin_X0 tyX0_ok nmX0 hown hK hw hm_dq hf_dq rfl 5 (by decide) (hT _ kw_173) rfl rfl rfl (Nat.le_of_ble_eq_true rfl) rfl dX5_readDrive_141 (fun H locs hw => ?_)
      obtain ⟨f136, e_f136⟩ : ∃ z, z = va_up f69 dq (.inr (0, [.int r4, .int r17, .int r30, .int r43, .int r56, .int 0, .int o7, .int o8])) := ⟨_, rfl⟩
      rw [← e_f136] at hw
      have hf_rd : f136 rd = .inr (5, [.int f2_59, .int p2_60, .ref tp, .ref mo, .int ot_, .int k2_70, .int a2_71, .int n2_72, .int z2_73]) := (congrFun e_f136 rd).trans (z_up_ne (z_tne hf_rd hf_dq (m := 5) (n := 0) rfl rfl (by decide)) hf_rd)
      have hf_tp : f136 tp = .inr (7, [.ref tb, .int tl]) := (congrFun e_f136 tp).trans (z_up_ne (z_tne hf_tp hf_dq (m := 7) (n := 0) rfl rfl (by decide)) hf_tp)
      have hf_tb : f136 tb = .inl (cy 0, 1600, .inl gt) := (congrFun e_f136 tb).trans (z_up_ne (z_tne hf_tb hf_dq (m := 12900) (n := 0) rfl rfl (by decide)) hf_tb)
      have hf_mo : f136 mo = .inr (2, [.int v0, .int v1, .int v2, .int v3, .int v4, .int v5, .int v6, .ref la, .ref sa, .ref mi, .ref da]) := (congrFun e_f136 mo).trans (z_up_ne (z_tne hf_mo hf_dq (m := 2) (n := 0) rfl rfl (by decide)) hf_mo)
      have hf_da : f136 da = .inl (cy 4, 13, .inr (.inr (.inr (.inr gd)))) := (congrFun e_f136 da).trans (z_up_ne (z_tne hf_da hf_dq (m := 206) (n := 0) rfl rfl (by decide)) hf_da)
      have hf_dq : f136 dq = .inr (0, [.int r4, .int r17, .int r30, .int r43, .int r56, .int 0, .int o7, .int o8]) := (congrFun e_f136 dq).trans z_up_self
      have hfr : ∀ b ∈ L, b ≠ rd → b ≠ mo → b ≠ dq → f136 b = f b := fun b hb h0 h1 h2 => (congrFun e_f136 b).trans (z_up_ne h2 (hfr b hb h0 h1 h2))
      refine lv_aload_n hx hb dX5_readDrive_144 rfl (lv_at hl 0 rfl) ?_
      refine lv_aload_n hx hb dX5_readDrive_145 rfl (lv_at hl 1 rfl) ?_
      refine va_ldcS (index := 210) hx hb hown (hKK.2.2.1 21 (by decide)) dX5_readDrive_146 ?_
      refine z_calliV (cells := 0) (slots := 0) (b := rd) (As := [.ref (adK 21)]) (rest := [.ref dq]) (ci := 5) (q0 := (RX5, TX5, 9)) ⟨hx, hb, hml, hown, hT⟩ (c_X5_tries l hm_rd hm_tp hm_tb hf_rd hf_tp hf_tb (by first | omega | decide | assumption) (by first | omega | decide | assumption) (by first | omega | decide | assumption)) (cwV 1 hT (z_goodV (fun _ h => h) kw_639 kw_641 kw_7 kw_89 kw_642) rfl rfl rfl (by decide +kernel) ⟨by decide, by decide⟩) z_mv hKK hK hw hA hm_rd hf_rd rfl rfl rfl hl.1 rfl (Nat.le_of_ble_eq_true rfl) dX5_readDrive_148 ⟨by decide, by decide⟩ (fun r137 u H locs hp hw => ?_)
      obtain ⟨L138, f139⟩ := u
      obtain ⟨hsb, hfm, k2_140, a2_141, n2_142, z2_143, ha_0, hp⟩ := hp
      have hsb : L = L138 := hsb
      subst hsb
      have hsb : ∀ b ∈ L, b ∈ L := fun _ h => h
      have hw : z_H D vwCl (z_A L sz) s.heap L f139 H locs := hw
      have hfr : ∀ b ∈ L, b ≠ rd → b ≠ mo → b ≠ dq → f139 b = f b := fun b hb h0 h1 h2 => (hfm b hb h0).trans (hfr b hb h0 h1 h2)
      have hf_tp : f139 tp = .inr (7, [.ref tb, .int tl]) := (hfm tp hm_tp (z_tne hf_tp hf_rd (m := 7) (n := 5) rfl rfl (by decide))).trans hf_tp
      have hf_tb : f139 tb = .inl (cy 0, 1600, .inl gt) := (hfm tb hm_tb (z_tne hf_tb hf_rd (m := 12900) (n := 5) rfl rfl (by decide))).trans hf_tb
      have hf_mo : f139 mo = .inr (2, [.int v0, .int v1, .int v2, .int v3, .int v4, .int v5, .int v6, .ref la, .ref sa, .ref mi, .ref da]) := (hfm mo hm_mo (z_tne hf_mo hf_rd (m := 2) (n := 5) rfl rfl (by decide))).trans hf_mo
      have hf_da : f139 da = .inl (cy 4, 13, .inr (.inr (.inr (.inr gd)))) := (hfm da hm_da (z_tne hf_da hf_rd (m := 206) (n := 5) rfl rfl (by decide))).trans hf_da
      have hf_dq : f139 dq = .inr (0, [.int r4, .int r17, .int r30, .int r43, .int r56, .int 0, .int o7, .int o8]) := (hfm dq hm_dq (z_tne hf_dq hf_rd (m := 0) (n := 5) rfl rfl (by decide))).trans hf_dq
      have hf_rd : f139 rd = .inr (5, [.int f2_59, .int p2_60, .ref tp, .ref mo, .int ot_, .int k2_140, .int a2_141, .int n2_142, .int z2_143]) := ha_0
      have hrn := hp.2
      have hp := hp.1
      rcases hp with ⟨rfl, h144⟩ | ⟨rfl, h144⟩
      · skip
        refine z_if_eq (tgt := 165) hx hb (show (1 : Int32).toInt = 1 by decide) dX5_readDrive_151 (by decide) (fun h => absurd h (by decide)) (fun _ => ?_)
        refine lv_aload_n hx hb dX5_readDrive_154 rfl (lv_at hl 1 rfl) ?_
        refine lv_aload_n hx hb dX5_readDrive_155 rfl (lv_at hl 0 rfl) ?_
        refine z_get (C := RX0) (T := TX0) (N := 8) (ci := 0) (v := .int r4) hx hb hT zin_X0 hown hK hw hm_dq hf_dq rfl 0 (by decide) (hT _ kw_144) rfl dX5_readDrive_156 ?_
        refine z_calliV (cells := 0) (slots := 0) (b := rd) (As := [.int r4]) (rest := [.ref dq]) (ci := 5) (q0 := (RX5, TX5, 9)) ⟨hx, hb, hml, hown, hT⟩ (c_X5_takePainter l hm_rd hm_tp hm_tb hm_mo hf_rd hf_tp hf_tb hf_mo (by first | omega | decide | assumption) (by first | omega | decide | assumption) (by first | omega | decide | assumption)) (cwV 1 hT (z_goodV (fun _ h => h) kw_675 kw_677 kw_12 kw_89 kw_678) rfl rfl rfl (by decide +kernel) ⟨by decide, by decide⟩) z_mv hKK hK hw hA hm_rd hf_rd rfl rfl rfl hl.1 rfl (Nat.le_of_ble_eq_true rfl) dX5_readDrive_159 ⟨by decide, by decide⟩ (fun r145 u H locs hp hw => ?_)
        obtain ⟨L146, f147⟩ := u
        obtain ⟨hsb, hfm, f2_148, p2_149, k2_150, a2_151, n2_152, z2_153, ha_0, hp⟩ := hp
        have hsb : L = L146 := hsb
        subst hsb
        have hsb : ∀ b ∈ L, b ∈ L := fun _ h => h
        have hw : z_H D vwCl (z_A L sz) s.heap L f147 H locs := hw
        have hfr : ∀ b ∈ L, b ≠ rd → b ≠ mo → b ≠ dq → f147 b = f b := fun b hb h0 h1 h2 => (hfm b hb h0).trans (hfr b hb h0 h1 h2)
        have hf_tp : f147 tp = .inr (7, [.ref tb, .int tl]) := (hfm tp hm_tp (z_tne hf_tp hf_rd (m := 7) (n := 5) rfl rfl (by decide))).trans hf_tp
        have hf_tb : f147 tb = .inl (cy 0, 1600, .inl gt) := (hfm tb hm_tb (z_tne hf_tb hf_rd (m := 12900) (n := 5) rfl rfl (by decide))).trans hf_tb
        have hf_mo : f147 mo = .inr (2, [.int v0, .int v1, .int v2, .int v3, .int v4, .int v5, .int v6, .ref la, .ref sa, .ref mi, .ref da]) := (hfm mo hm_mo (z_tne hf_mo hf_rd (m := 2) (n := 5) rfl rfl (by decide))).trans hf_mo
        have hf_da : f147 da = .inl (cy 4, 13, .inr (.inr (.inr (.inr gd)))) := (hfm da hm_da (z_tne hf_da hf_rd (m := 206) (n := 5) rfl rfl (by decide))).trans hf_da
        have hf_dq : f147 dq = .inr (0, [.int r4, .int r17, .int r30, .int r43, .int r56, .int 0, .int o7, .int o8]) := (hfm dq hm_dq (z_tne hf_dq hf_rd (m := 0) (n := 5) rfl rfl (by decide))).trans hf_dq
        have hf_rd : f147 rd = .inr (5, [.int f2_148, .int p2_149, .ref tp, .ref mo, .int ot_, .int k2_150, .int a2_151, .int n2_152, .int z2_153]) := ha_0
        have hq154 := hp
        refine lv_goto (tgt := 169) hx hb dX5_readDrive_162 (by decide) ?_
        refine z_put (C := RX0) (T := TX0) (N := 8) (ci := 0) (v := .int r145) (fs' := [.int r4, .int r17, .int r30, .int r43, .int r56, .int 0, .int r145, .int o8]) hx hb hT zin_X0 tyX0_ok nmX0 hown hK hw hm_dq hf_dq rfl 6 (by decide) (hT _ kw_180) rfl rfl rfl (Nat.le_of_ble_eq_true rfl) rfl dX5_readDrive_169 (fun H locs hw => ?_)
        obtain ⟨f155, e_f155⟩ : ∃ z, z = va_up f147 dq (.inr (0, [.int r4, .int r17, .int r30, .int r43, .int r56, .int 0, .int r145, .int o8])) := ⟨_, rfl⟩
        rw [← e_f155] at hw
        have hf_rd : f155 rd = .inr (5, [.int f2_148, .int p2_149, .ref tp, .ref mo, .int ot_, .int k2_150, .int a2_151, .int n2_152, .int z2_153]) := (congrFun e_f155 rd).trans (z_up_ne (z_tne hf_rd hf_dq (m := 5) (n := 0) rfl rfl (by decide)) hf_rd)
        have hf_tp : f155 tp = .inr (7, [.ref tb, .int tl]) := (congrFun e_f155 tp).trans (z_up_ne (z_tne hf_tp hf_dq (m := 7) (n := 0) rfl rfl (by decide)) hf_tp)
        have hf_tb : f155 tb = .inl (cy 0, 1600, .inl gt) := (congrFun e_f155 tb).trans (z_up_ne (z_tne hf_tb hf_dq (m := 12900) (n := 0) rfl rfl (by decide)) hf_tb)
        have hf_mo : f155 mo = .inr (2, [.int v0, .int v1, .int v2, .int v3, .int v4, .int v5, .int v6, .ref la, .ref sa, .ref mi, .ref da]) := (congrFun e_f155 mo).trans (z_up_ne (z_tne hf_mo hf_dq (m := 2) (n := 0) rfl rfl (by decide)) hf_mo)
        have hf_da : f155 da = .inl (cy 4, 13, .inr (.inr (.inr (.inr gd)))) := (congrFun e_f155 da).trans (z_up_ne (z_tne hf_da hf_dq (m := 206) (n := 0) rfl rfl (by decide)) hf_da)
        have hf_dq : f155 dq = .inr (0, [.int r4, .int r17, .int r30, .int r43, .int r56, .int 0, .int r145, .int o8]) := (congrFun e_f155 dq).trans z_up_self
        have hfr : ∀ b ∈ L, b ≠ rd → b ≠ mo → b ≠ dq → f155 b = f b := fun b hb h0 h1 h2 => (congrFun e_f155 b).trans (z_up_ne h2 (hfr b hb h0 h1 h2))
        refine lv_aload_n hx hb dX5_readDrive_172 rfl (lv_at hl 0 rfl) ?_
        refine lv_aload_n hx hb dX5_readDrive_173 rfl (lv_at hl 1 rfl) ?_
        refine va_ldcS (index := 219) hx hb hown (hKK.2.2.1 22 (by decide)) dX5_readDrive_174 ?_
        refine z_calliV (cells := 0) (slots := 0) (b := rd) (As := [.ref (adK 22)]) (rest := [.ref dq]) (ci := 5) (q0 := (RX5, TX5, 9)) ⟨hx, hb, hml, hown, hT⟩ (c_X5_tries l hm_rd hm_tp hm_tb hf_rd hf_tp hf_tb (by first | omega | decide | assumption) (by first | omega | decide | assumption) (by first | omega | decide | assumption)) (cwV 1 hT (z_goodV (fun _ h => h) kw_639 kw_641 kw_7 kw_89 kw_642) rfl rfl rfl (by decide +kernel) ⟨by decide, by decide⟩) z_mv hKK hK hw hA hm_rd hf_rd rfl rfl rfl hl.1 rfl (Nat.le_of_ble_eq_true rfl) dX5_readDrive_176 ⟨by decide, by decide⟩ (fun r156 u H locs hp hw => ?_)
        obtain ⟨L157, f158⟩ := u
        obtain ⟨hsb, hfm, k2_159, a2_160, n2_161, z2_162, ha_0, hp⟩ := hp
        have hsb : L = L157 := hsb
        subst hsb
        have hsb : ∀ b ∈ L, b ∈ L := fun _ h => h
        have hw : z_H D vwCl (z_A L sz) s.heap L f158 H locs := hw
        have hfr : ∀ b ∈ L, b ≠ rd → b ≠ mo → b ≠ dq → f158 b = f b := fun b hb h0 h1 h2 => (hfm b hb h0).trans (hfr b hb h0 h1 h2)
        have hf_tp : f158 tp = .inr (7, [.ref tb, .int tl]) := (hfm tp hm_tp (z_tne hf_tp hf_rd (m := 7) (n := 5) rfl rfl (by decide))).trans hf_tp
        have hf_tb : f158 tb = .inl (cy 0, 1600, .inl gt) := (hfm tb hm_tb (z_tne hf_tb hf_rd (m := 12900) (n := 5) rfl rfl (by decide))).trans hf_tb
        have hf_mo : f158 mo = .inr (2, [.int v0, .int v1, .int v2, .int v3, .int v4, .int v5, .int v6, .ref la, .ref sa, .ref mi, .ref da]) := (hfm mo hm_mo (z_tne hf_mo hf_rd (m := 2) (n := 5) rfl rfl (by decide))).trans hf_mo
        have hf_da : f158 da = .inl (cy 4, 13, .inr (.inr (.inr (.inr gd)))) := (hfm da hm_da (z_tne hf_da hf_rd (m := 206) (n := 5) rfl rfl (by decide))).trans hf_da
        have hf_dq : f158 dq = .inr (0, [.int r4, .int r17, .int r30, .int r43, .int r56, .int 0, .int r145, .int o8]) := (hfm dq hm_dq (z_tne hf_dq hf_rd (m := 0) (n := 5) rfl rfl (by decide))).trans hf_dq
        have hf_rd : f158 rd = .inr (5, [.int f2_148, .int p2_149, .ref tp, .ref mo, .int ot_, .int k2_159, .int a2_160, .int n2_161, .int z2_162]) := ha_0
        have hrn := hp.2
        have hp := hp.1
        rcases hp with ⟨rfl, h163⟩ | ⟨rfl, h163⟩
        · skip
          refine z_if_eq (tgt := 186) hx hb (show (1 : Int32).toInt = 1 by decide) dX5_readDrive_179 (by decide) (fun h => absurd h (by decide)) (fun _ => ?_)
          refine lv_iconst (v := 1) hx hb dX5_readDrive_182 (by decide) ?_
          refine lv_goto (tgt := 187) hx hb dX5_readDrive_183 (by decide) ?_
          refine z_put (C := RX0) (T := TX0) (N := 8) (ci := 0) (v := .int 1) (fs' := [.int r4, .int r17, .int r30, .int r43, .int r56, .int 0, .int r145, .int 1]) hx hb hT zin_X0 tyX0_ok nmX0 hown hK hw hm_dq hf_dq rfl 7 (by decide) (hT _ kw_185) rfl rfl rfl (Nat.le_of_ble_eq_true rfl) rfl dX5_readDrive_187 (fun H locs hw => ?_)
          obtain ⟨f164, e_f164⟩ : ∃ z, z = va_up f158 dq (.inr (0, [.int r4, .int r17, .int r30, .int r43, .int r56, .int 0, .int r145, .int 1])) := ⟨_, rfl⟩
          rw [← e_f164] at hw
          have hf_rd : f164 rd = .inr (5, [.int f2_148, .int p2_149, .ref tp, .ref mo, .int ot_, .int k2_159, .int a2_160, .int n2_161, .int z2_162]) := (congrFun e_f164 rd).trans (z_up_ne (z_tne hf_rd hf_dq (m := 5) (n := 0) rfl rfl (by decide)) hf_rd)
          have hf_tp : f164 tp = .inr (7, [.ref tb, .int tl]) := (congrFun e_f164 tp).trans (z_up_ne (z_tne hf_tp hf_dq (m := 7) (n := 0) rfl rfl (by decide)) hf_tp)
          have hf_tb : f164 tb = .inl (cy 0, 1600, .inl gt) := (congrFun e_f164 tb).trans (z_up_ne (z_tne hf_tb hf_dq (m := 12900) (n := 0) rfl rfl (by decide)) hf_tb)
          have hf_mo : f164 mo = .inr (2, [.int v0, .int v1, .int v2, .int v3, .int v4, .int v5, .int v6, .ref la, .ref sa, .ref mi, .ref da]) := (congrFun e_f164 mo).trans (z_up_ne (z_tne hf_mo hf_dq (m := 2) (n := 0) rfl rfl (by decide)) hf_mo)
          have hf_da : f164 da = .inl (cy 4, 13, .inr (.inr (.inr (.inr gd)))) := (congrFun e_f164 da).trans (z_up_ne (z_tne hf_da hf_dq (m := 206) (n := 0) rfl rfl (by decide)) hf_da)
          have hf_dq : f164 dq = .inr (0, [.int r4, .int r17, .int r30, .int r43, .int r56, .int 0, .int r145, .int 1]) := (congrFun e_f164 dq).trans z_up_self
          have hfr : ∀ b ∈ L, b ≠ rd → b ≠ mo → b ≠ dq → f164 b = f b := fun b hb h0 h1 h2 => (congrFun e_f164 b).trans (z_up_ne h2 (hfr b hb h0 h1 h2))
          refine lv_aload_n hx hb dX5_readDrive_190 rfl (lv_at hl 1 rfl) ?_
          refine z_get (C := RX5) (T := TX5) (N := 9) (ci := 5) (v := .ref mo) hx hb hT zin_X5 hown hK hw hm_rd hf_rd rfl 3 (by decide) (hT _ kw_282) rfl dX5_readDrive_191 ?_
          refine lv_dup hx hb dX5_readDrive_194 rfl ?_
          refine z_get (C := RX2) (T := TX2) (N := 11) (ci := 2) (v := .int v5) hx hb hT zin_X2 hown hK hw hm_mo hf_mo rfl 5 (by decide) (hT _ kw_225) rfl dX5_readDrive_195 ?_
          refine lv_iconst (v := 1) hx hb dX5_readDrive_198 (by decide) ?_
          refine lv_iadd hx hb dX5_readDrive_199 ?_
          refine lv_topi (fun w165 e_w165 => ?_)
          have i_w165 : w165.toInt = (v5.toInt + 1) := z_add e_w165 rfl (show (1 : Int32).toInt = 1 by decide) (by omega)
          refine z_put (C := RX2) (T := TX2) (N := 11) (ci := 2) (v := .int w165) (fs' := [.int v0, .int v1, .int v2, .int v3, .int v4, .int w165, .int v6, .ref la, .ref sa, .ref mi, .ref da]) hx hb hT zin_X2 tyX2_ok nmX2 hown hK hw hm_mo hf_mo rfl 5 (by decide) (hT _ kw_225) rfl rfl rfl (Nat.le_of_ble_eq_true rfl) rfl dX5_readDrive_200 (fun H locs hw => ?_)
          obtain ⟨f166, e_f166⟩ : ∃ z, z = va_up f164 mo (.inr (2, [.int v0, .int v1, .int v2, .int v3, .int v4, .int w165, .int v6, .ref la, .ref sa, .ref mi, .ref da])) := ⟨_, rfl⟩
          rw [← e_f166] at hw
          have hf_rd : f166 rd = .inr (5, [.int f2_148, .int p2_149, .ref tp, .ref mo, .int ot_, .int k2_159, .int a2_160, .int n2_161, .int z2_162]) := (congrFun e_f166 rd).trans (z_up_ne (z_tne hf_rd hf_mo (m := 5) (n := 2) rfl rfl (by decide)) hf_rd)
          have hf_tp : f166 tp = .inr (7, [.ref tb, .int tl]) := (congrFun e_f166 tp).trans (z_up_ne (z_tne hf_tp hf_mo (m := 7) (n := 2) rfl rfl (by decide)) hf_tp)
          have hf_tb : f166 tb = .inl (cy 0, 1600, .inl gt) := (congrFun e_f166 tb).trans (z_up_ne (z_tne hf_tb hf_mo (m := 12900) (n := 2) rfl rfl (by decide)) hf_tb)
          have hf_da : f166 da = .inl (cy 4, 13, .inr (.inr (.inr (.inr gd)))) := (congrFun e_f166 da).trans (z_up_ne (z_tne hf_da hf_mo (m := 206) (n := 2) rfl rfl (by decide)) hf_da)
          have hf_dq : f166 dq = .inr (0, [.int r4, .int r17, .int r30, .int r43, .int r56, .int 0, .int r145, .int 1]) := (congrFun e_f166 dq).trans (z_up_ne (z_tne hf_dq hf_mo (m := 0) (n := 2) rfl rfl (by decide)) hf_dq)
          have hf_mo : f166 mo = .inr (2, [.int v0, .int v1, .int v2, .int v3, .int v4, .int w165, .int v6, .ref la, .ref sa, .ref mi, .ref da]) := (congrFun e_f166 mo).trans z_up_self
          have hfr : ∀ b ∈ L, b ≠ rd → b ≠ mo → b ≠ dq → f166 b = f b := fun b hb h0 h1 h2 => (congrFun e_f166 b).trans (z_up_ne h1 (hfr b hb h0 h1 h2))
          exact z_vret hx hb hr hlk (by decide) (by decide) hw (⟨hsub, hfr, f2_148, p2_149, k2_159, a2_160, n2_161, z2_162, w165, r4, r17, r30, r43, r56, 0, r145, 1, hf_rd, hf_mo, hf_dq, by omega, by omega, by omega, by omega⟩) dX5_readDrive_203
        · skip
          refine z_if_eq (tgt := 186) hx hb (show (0 : Int32).toInt = 0 by decide) dX5_readDrive_179 (by decide) (fun _ => ?_) (fun h => absurd h (by decide))
          refine lv_iconst (v := 0) hx hb dX5_readDrive_186 (by decide) ?_
          refine z_put (C := RX0) (T := TX0) (N := 8) (ci := 0) (v := .int 0) (fs' := [.int r4, .int r17, .int r30, .int r43, .int r56, .int 0, .int r145, .int 0]) hx hb hT zin_X0 tyX0_ok nmX0 hown hK hw hm_dq hf_dq rfl 7 (by decide) (hT _ kw_185) rfl rfl rfl (Nat.le_of_ble_eq_true rfl) rfl dX5_readDrive_187 (fun H locs hw => ?_)
          obtain ⟨f167, e_f167⟩ : ∃ z, z = va_up f158 dq (.inr (0, [.int r4, .int r17, .int r30, .int r43, .int r56, .int 0, .int r145, .int 0])) := ⟨_, rfl⟩
          rw [← e_f167] at hw
          have hf_rd : f167 rd = .inr (5, [.int f2_148, .int p2_149, .ref tp, .ref mo, .int ot_, .int k2_159, .int a2_160, .int n2_161, .int z2_162]) := (congrFun e_f167 rd).trans (z_up_ne (z_tne hf_rd hf_dq (m := 5) (n := 0) rfl rfl (by decide)) hf_rd)
          have hf_tp : f167 tp = .inr (7, [.ref tb, .int tl]) := (congrFun e_f167 tp).trans (z_up_ne (z_tne hf_tp hf_dq (m := 7) (n := 0) rfl rfl (by decide)) hf_tp)
          have hf_tb : f167 tb = .inl (cy 0, 1600, .inl gt) := (congrFun e_f167 tb).trans (z_up_ne (z_tne hf_tb hf_dq (m := 12900) (n := 0) rfl rfl (by decide)) hf_tb)
          have hf_mo : f167 mo = .inr (2, [.int v0, .int v1, .int v2, .int v3, .int v4, .int v5, .int v6, .ref la, .ref sa, .ref mi, .ref da]) := (congrFun e_f167 mo).trans (z_up_ne (z_tne hf_mo hf_dq (m := 2) (n := 0) rfl rfl (by decide)) hf_mo)
          have hf_da : f167 da = .inl (cy 4, 13, .inr (.inr (.inr (.inr gd)))) := (congrFun e_f167 da).trans (z_up_ne (z_tne hf_da hf_dq (m := 206) (n := 0) rfl rfl (by decide)) hf_da)
          have hf_dq : f167 dq = .inr (0, [.int r4, .int r17, .int r30, .int r43, .int r56, .int 0, .int r145, .int 0]) := (congrFun e_f167 dq).trans z_up_self
          have hfr : ∀ b ∈ L, b ≠ rd → b ≠ mo → b ≠ dq → f167 b = f b := fun b hb h0 h1 h2 => (congrFun e_f167 b).trans (z_up_ne h2 (hfr b hb h0 h1 h2))
          refine lv_aload_n hx hb dX5_readDrive_190 rfl (lv_at hl 1 rfl) ?_
          refine z_get (C := RX5) (T := TX5) (N := 9) (ci := 5) (v := .ref mo) hx hb hT zin_X5 hown hK hw hm_rd hf_rd rfl 3 (by decide) (hT _ kw_282) rfl dX5_readDrive_191 ?_
          refine lv_dup hx hb dX5_readDrive_194 rfl ?_
          refine z_get (C := RX2) (T := TX2) (N := 11) (ci := 2) (v := .int v5) hx hb hT zin_X2 hown hK hw hm_mo hf_mo rfl 5 (by decide) (hT _ kw_225) rfl dX5_readDrive_195 ?_
          refine lv_iconst (v := 1) hx hb dX5_readDrive_198 (by decide) ?_
          refine lv_iadd hx hb dX5_readDrive_199 ?_
          refine lv_topi (fun w168 e_w168 => ?_)
          have i_w168 : w168.toInt = (v5.toInt + 1) := z_add e_w168 rfl (show (1 : Int32).toInt = 1 by decide) (by omega)
          refine z_put (C := RX2) (T := TX2) (N := 11) (ci := 2) (v := .int w168) (fs' := [.int v0, .int v1, .int v2, .int v3, .int v4, .int w168, .int v6, .ref la, .ref sa, .ref mi, .ref da]) hx hb hT zin_X2 tyX2_ok nmX2 hown hK hw hm_mo hf_mo rfl 5 (by decide) (hT _ kw_225) rfl rfl rfl (Nat.le_of_ble_eq_true rfl) rfl dX5_readDrive_200 (fun H locs hw => ?_)
          obtain ⟨f169, e_f169⟩ : ∃ z, z = va_up f167 mo (.inr (2, [.int v0, .int v1, .int v2, .int v3, .int v4, .int w168, .int v6, .ref la, .ref sa, .ref mi, .ref da])) := ⟨_, rfl⟩
          rw [← e_f169] at hw
          have hf_rd : f169 rd = .inr (5, [.int f2_148, .int p2_149, .ref tp, .ref mo, .int ot_, .int k2_159, .int a2_160, .int n2_161, .int z2_162]) := (congrFun e_f169 rd).trans (z_up_ne (z_tne hf_rd hf_mo (m := 5) (n := 2) rfl rfl (by decide)) hf_rd)
          have hf_tp : f169 tp = .inr (7, [.ref tb, .int tl]) := (congrFun e_f169 tp).trans (z_up_ne (z_tne hf_tp hf_mo (m := 7) (n := 2) rfl rfl (by decide)) hf_tp)
          have hf_tb : f169 tb = .inl (cy 0, 1600, .inl gt) := (congrFun e_f169 tb).trans (z_up_ne (z_tne hf_tb hf_mo (m := 12900) (n := 2) rfl rfl (by decide)) hf_tb)
          have hf_da : f169 da = .inl (cy 4, 13, .inr (.inr (.inr (.inr gd)))) := (congrFun e_f169 da).trans (z_up_ne (z_tne hf_da hf_mo (m := 206) (n := 2) rfl rfl (by decide)) hf_da)
          have hf_dq : f169 dq = .inr (0, [.int r4, .int r17, .int r30, .int r43, .int r56, .int 0, .int r145, .int 0]) := (congrFun e_f169 dq).trans (z_up_ne (z_tne hf_dq hf_mo (m := 0) (n := 2) rfl rfl (by decide)) hf_dq)
          have hf_mo : f169 mo = .inr (2, [.int v0, .int v1, .int v2, .int v3, .int v4, .int w168, .int v6, .ref la, .ref sa, .ref mi, .ref da]) := (congrFun e_f169 mo).trans z_up_self
          have hfr : ∀ b ∈ L, b ≠ rd → b ≠ mo → b ≠ dq → f169 b = f b := fun b hb h0 h1 h2 => (congrFun e_f169 b).trans (z_up_ne h1 (hfr b hb h0 h1 h2))
          exact z_vret hx hb hr hlk (by decide) (by decide) hw (⟨hsub, hfr, f2_148, p2_149, k2_159, a2_160, n2_161, z2_162, w168, r4, r17, r30, r43, r56, 0, r145, 0, hf_rd, hf_mo, hf_dq, by omega, by omega, by omega, by omega⟩) dX5_readDrive_203
      · skip
        refine z_if_eq (tgt := 165) hx hb (show (0 : Int32).toInt = 0 by decide) dX5_readDrive_151 (by decide) (fun _ => ?_) (fun h => absurd h (by decide))
        refine lv_aload_n hx hb dX5_readDrive_165 rfl (lv_at hl 0 rfl) ?_
        refine z_get (C := RX0) (T := TX0) (N := 8) (ci := 0) (v := .int r4) hx hb hT zin_X0 hown hK hw hm_dq hf_dq rfl 0 (by decide) (hT _ kw_144) rfl dX5_readDrive_166 ?_
        refine z_put (C := RX0) (T := TX0) (N := 8) (ci := 0) (v := .int r4) (fs' := [.int r4, .int r17, .int r30, .int r43, .int r56, .int 0, .int r4, .int o8]) hx hb hT zin_X0 tyX0_ok nmX0 hown hK hw hm_dq hf_dq rfl 6 (by decide) (hT _ kw_180) rfl rfl rfl (Nat.le_of_ble_eq_true rfl) rfl dX5_readDrive_169 (fun H locs hw => ?_)
        obtain ⟨f170, e_f170⟩ : ∃ z, z = va_up f139 dq (.inr (0, [.int r4, .int r17, .int r30, .int r43, .int r56, .int 0, .int r4, .int o8])) := ⟨_, rfl⟩
        rw [← e_f170] at hw
        have hf_rd : f170 rd = .inr (5, [.int f2_59, .int p2_60, .ref tp, .ref mo, .int ot_, .int k2_140, .int a2_141, .int n2_142, .int z2_143]) := (congrFun e_f170 rd).trans (z_up_ne (z_tne hf_rd hf_dq (m := 5) (n := 0) rfl rfl (by decide)) hf_rd)
        have hf_tp : f170 tp = .inr (7, [.ref tb, .int tl]) := (congrFun e_f170 tp).trans (z_up_ne (z_tne hf_tp hf_dq (m := 7) (n := 0) rfl rfl (by decide)) hf_tp)
        have hf_tb : f170 tb = .inl (cy 0, 1600, .inl gt) := (congrFun e_f170 tb).trans (z_up_ne (z_tne hf_tb hf_dq (m := 12900) (n := 0) rfl rfl (by decide)) hf_tb)
        have hf_mo : f170 mo = .inr (2, [.int v0, .int v1, .int v2, .int v3, .int v4, .int v5, .int v6, .ref la, .ref sa, .ref mi, .ref da]) := (congrFun e_f170 mo).trans (z_up_ne (z_tne hf_mo hf_dq (m := 2) (n := 0) rfl rfl (by decide)) hf_mo)
        have hf_da : f170 da = .inl (cy 4, 13, .inr (.inr (.inr (.inr gd)))) := (congrFun e_f170 da).trans (z_up_ne (z_tne hf_da hf_dq (m := 206) (n := 0) rfl rfl (by decide)) hf_da)
        have hf_dq : f170 dq = .inr (0, [.int r4, .int r17, .int r30, .int r43, .int r56, .int 0, .int r4, .int o8]) := (congrFun e_f170 dq).trans z_up_self
        have hfr : ∀ b ∈ L, b ≠ rd → b ≠ mo → b ≠ dq → f170 b = f b := fun b hb h0 h1 h2 => (congrFun e_f170 b).trans (z_up_ne h2 (hfr b hb h0 h1 h2))
        refine lv_aload_n hx hb dX5_readDrive_172 rfl (lv_at hl 0 rfl) ?_
        refine lv_aload_n hx hb dX5_readDrive_173 rfl (lv_at hl 1 rfl) ?_
        refine va_ldcS (index := 219) hx hb hown (hKK.2.2.1 22 (by decide)) dX5_readDrive_174 ?_
        refine z_calliV (cells := 0) (slots := 0) (b := rd) (As := [.ref (adK 22)]) (rest := [.ref dq]) (ci := 5) (q0 := (RX5, TX5, 9)) ⟨hx, hb, hml, hown, hT⟩ (c_X5_tries l hm_rd hm_tp hm_tb hf_rd hf_tp hf_tb (by first | omega | decide | assumption) (by first | omega | decide | assumption) (by first | omega | decide | assumption)) (cwV 1 hT (z_goodV (fun _ h => h) kw_639 kw_641 kw_7 kw_89 kw_642) rfl rfl rfl (by decide +kernel) ⟨by decide, by decide⟩) z_mv hKK hK hw hA hm_rd hf_rd rfl rfl rfl hl.1 rfl (Nat.le_of_ble_eq_true rfl) dX5_readDrive_176 ⟨by decide, by decide⟩ (fun r171 u H locs hp hw => ?_)
        obtain ⟨L172, f173⟩ := u
        obtain ⟨hsb, hfm, k2_174, a2_175, n2_176, z2_177, ha_0, hp⟩ := hp
        have hsb : L = L172 := hsb
        subst hsb
        have hsb : ∀ b ∈ L, b ∈ L := fun _ h => h
        have hw : z_H D vwCl (z_A L sz) s.heap L f173 H locs := hw
        have hfr : ∀ b ∈ L, b ≠ rd → b ≠ mo → b ≠ dq → f173 b = f b := fun b hb h0 h1 h2 => (hfm b hb h0).trans (hfr b hb h0 h1 h2)
        have hf_tp : f173 tp = .inr (7, [.ref tb, .int tl]) := (hfm tp hm_tp (z_tne hf_tp hf_rd (m := 7) (n := 5) rfl rfl (by decide))).trans hf_tp
        have hf_tb : f173 tb = .inl (cy 0, 1600, .inl gt) := (hfm tb hm_tb (z_tne hf_tb hf_rd (m := 12900) (n := 5) rfl rfl (by decide))).trans hf_tb
        have hf_mo : f173 mo = .inr (2, [.int v0, .int v1, .int v2, .int v3, .int v4, .int v5, .int v6, .ref la, .ref sa, .ref mi, .ref da]) := (hfm mo hm_mo (z_tne hf_mo hf_rd (m := 2) (n := 5) rfl rfl (by decide))).trans hf_mo
        have hf_da : f173 da = .inl (cy 4, 13, .inr (.inr (.inr (.inr gd)))) := (hfm da hm_da (z_tne hf_da hf_rd (m := 206) (n := 5) rfl rfl (by decide))).trans hf_da
        have hf_dq : f173 dq = .inr (0, [.int r4, .int r17, .int r30, .int r43, .int r56, .int 0, .int r4, .int o8]) := (hfm dq hm_dq (z_tne hf_dq hf_rd (m := 0) (n := 5) rfl rfl (by decide))).trans hf_dq
        have hf_rd : f173 rd = .inr (5, [.int f2_59, .int p2_60, .ref tp, .ref mo, .int ot_, .int k2_174, .int a2_175, .int n2_176, .int z2_177]) := ha_0
        have hrn := hp.2
        have hp := hp.1
        rcases hp with ⟨rfl, h178⟩ | ⟨rfl, h178⟩
        · skip
          refine z_if_eq (tgt := 186) hx hb (show (1 : Int32).toInt = 1 by decide) dX5_readDrive_179 (by decide) (fun h => absurd h (by decide)) (fun _ => ?_)
          refine lv_iconst (v := 1) hx hb dX5_readDrive_182 (by decide) ?_
          refine lv_goto (tgt := 187) hx hb dX5_readDrive_183 (by decide) ?_
          refine z_put (C := RX0) (T := TX0) (N := 8) (ci := 0) (v := .int 1) (fs' := [.int r4, .int r17, .int r30, .int r43, .int r56, .int 0, .int r4, .int 1]) hx hb hT zin_X0 tyX0_ok nmX0 hown hK hw hm_dq hf_dq rfl 7 (by decide) (hT _ kw_185) rfl rfl rfl (Nat.le_of_ble_eq_true rfl) rfl dX5_readDrive_187 (fun H locs hw => ?_)
          obtain ⟨f179, e_f179⟩ : ∃ z, z = va_up f173 dq (.inr (0, [.int r4, .int r17, .int r30, .int r43, .int r56, .int 0, .int r4, .int 1])) := ⟨_, rfl⟩
          rw [← e_f179] at hw
          have hf_rd : f179 rd = .inr (5, [.int f2_59, .int p2_60, .ref tp, .ref mo, .int ot_, .int k2_174, .int a2_175, .int n2_176, .int z2_177]) := (congrFun e_f179 rd).trans (z_up_ne (z_tne hf_rd hf_dq (m := 5) (n := 0) rfl rfl (by decide)) hf_rd)
          have hf_tp : f179 tp = .inr (7, [.ref tb, .int tl]) := (congrFun e_f179 tp).trans (z_up_ne (z_tne hf_tp hf_dq (m := 7) (n := 0) rfl rfl (by decide)) hf_tp)
          have hf_tb : f179 tb = .inl (cy 0, 1600, .inl gt) := (congrFun e_f179 tb).trans (z_up_ne (z_tne hf_tb hf_dq (m := 12900) (n := 0) rfl rfl (by decide)) hf_tb)
          have hf_mo : f179 mo = .inr (2, [.int v0, .int v1, .int v2, .int v3, .int v4, .int v5, .int v6, .ref la, .ref sa, .ref mi, .ref da]) := (congrFun e_f179 mo).trans (z_up_ne (z_tne hf_mo hf_dq (m := 2) (n := 0) rfl rfl (by decide)) hf_mo)
          have hf_da : f179 da = .inl (cy 4, 13, .inr (.inr (.inr (.inr gd)))) := (congrFun e_f179 da).trans (z_up_ne (z_tne hf_da hf_dq (m := 206) (n := 0) rfl rfl (by decide)) hf_da)
          have hf_dq : f179 dq = .inr (0, [.int r4, .int r17, .int r30, .int r43, .int r56, .int 0, .int r4, .int 1]) := (congrFun e_f179 dq).trans z_up_self
          have hfr : ∀ b ∈ L, b ≠ rd → b ≠ mo → b ≠ dq → f179 b = f b := fun b hb h0 h1 h2 => (congrFun e_f179 b).trans (z_up_ne h2 (hfr b hb h0 h1 h2))
          refine lv_aload_n hx hb dX5_readDrive_190 rfl (lv_at hl 1 rfl) ?_
          refine z_get (C := RX5) (T := TX5) (N := 9) (ci := 5) (v := .ref mo) hx hb hT zin_X5 hown hK hw hm_rd hf_rd rfl 3 (by decide) (hT _ kw_282) rfl dX5_readDrive_191 ?_
          refine lv_dup hx hb dX5_readDrive_194 rfl ?_
          refine z_get (C := RX2) (T := TX2) (N := 11) (ci := 2) (v := .int v5) hx hb hT zin_X2 hown hK hw hm_mo hf_mo rfl 5 (by decide) (hT _ kw_225) rfl dX5_readDrive_195 ?_
          refine lv_iconst (v := 1) hx hb dX5_readDrive_198 (by decide) ?_
          refine lv_iadd hx hb dX5_readDrive_199 ?_
          refine lv_topi (fun w180 e_w180 => ?_)
          have i_w180 : w180.toInt = (v5.toInt + 1) := z_add e_w180 rfl (show (1 : Int32).toInt = 1 by decide) (by omega)
          refine z_put (C := RX2) (T := TX2) (N := 11) (ci := 2) (v := .int w180) (fs' := [.int v0, .int v1, .int v2, .int v3, .int v4, .int w180, .int v6, .ref la, .ref sa, .ref mi, .ref da]) hx hb hT zin_X2 tyX2_ok nmX2 hown hK hw hm_mo hf_mo rfl 5 (by decide) (hT _ kw_225) rfl rfl rfl (Nat.le_of_ble_eq_true rfl) rfl dX5_readDrive_200 (fun H locs hw => ?_)
          obtain ⟨f181, e_f181⟩ : ∃ z, z = va_up f179 mo (.inr (2, [.int v0, .int v1, .int v2, .int v3, .int v4, .int w180, .int v6, .ref la, .ref sa, .ref mi, .ref da])) := ⟨_, rfl⟩
          rw [← e_f181] at hw
          have hf_rd : f181 rd = .inr (5, [.int f2_59, .int p2_60, .ref tp, .ref mo, .int ot_, .int k2_174, .int a2_175, .int n2_176, .int z2_177]) := (congrFun e_f181 rd).trans (z_up_ne (z_tne hf_rd hf_mo (m := 5) (n := 2) rfl rfl (by decide)) hf_rd)
          have hf_tp : f181 tp = .inr (7, [.ref tb, .int tl]) := (congrFun e_f181 tp).trans (z_up_ne (z_tne hf_tp hf_mo (m := 7) (n := 2) rfl rfl (by decide)) hf_tp)
          have hf_tb : f181 tb = .inl (cy 0, 1600, .inl gt) := (congrFun e_f181 tb).trans (z_up_ne (z_tne hf_tb hf_mo (m := 12900) (n := 2) rfl rfl (by decide)) hf_tb)
          have hf_da : f181 da = .inl (cy 4, 13, .inr (.inr (.inr (.inr gd)))) := (congrFun e_f181 da).trans (z_up_ne (z_tne hf_da hf_mo (m := 206) (n := 2) rfl rfl (by decide)) hf_da)
          have hf_dq : f181 dq = .inr (0, [.int r4, .int r17, .int r30, .int r43, .int r56, .int 0, .int r4, .int 1]) := (congrFun e_f181 dq).trans (z_up_ne (z_tne hf_dq hf_mo (m := 0) (n := 2) rfl rfl (by decide)) hf_dq)
          have hf_mo : f181 mo = .inr (2, [.int v0, .int v1, .int v2, .int v3, .int v4, .int w180, .int v6, .ref la, .ref sa, .ref mi, .ref da]) := (congrFun e_f181 mo).trans z_up_self
          have hfr : ∀ b ∈ L, b ≠ rd → b ≠ mo → b ≠ dq → f181 b = f b := fun b hb h0 h1 h2 => (congrFun e_f181 b).trans (z_up_ne h1 (hfr b hb h0 h1 h2))
          exact z_vret hx hb hr hlk (by decide) (by decide) hw (⟨hsub, hfr, f2_59, p2_60, k2_174, a2_175, n2_176, z2_177, w180, r4, r17, r30, r43, r56, 0, r4, 1, hf_rd, hf_mo, hf_dq, by omega, by omega, by omega, by omega⟩) dX5_readDrive_203
        · skip
          refine z_if_eq (tgt := 186) hx hb (show (0 : Int32).toInt = 0 by decide) dX5_readDrive_179 (by decide) (fun _ => ?_) (fun h => absurd h (by decide))
          refine lv_iconst (v := 0) hx hb dX5_readDrive_186 (by decide) ?_
          refine z_put (C := RX0) (T := TX0) (N := 8) (ci := 0) (v := .int 0) (fs' := [.int r4, .int r17, .int r30, .int r43, .int r56, .int 0, .int r4, .int 0]) hx hb hT zin_X0 tyX0_ok nmX0 hown hK hw hm_dq hf_dq rfl 7 (by decide) (hT _ kw_185) rfl rfl rfl (Nat.le_of_ble_eq_true rfl) rfl dX5_readDrive_187 (fun H locs hw => ?_)
          obtain ⟨f182, e_f182⟩ : ∃ z, z = va_up f173 dq (.inr (0, [.int r4, .int r17, .int r30, .int r43, .int r56, .int 0, .int r4, .int 0])) := ⟨_, rfl⟩
          rw [← e_f182] at hw
          have hf_rd : f182 rd = .inr (5, [.int f2_59, .int p2_60, .ref tp, .ref mo, .int ot_, .int k2_174, .int a2_175, .int n2_176, .int z2_177]) := (congrFun e_f182 rd).trans (z_up_ne (z_tne hf_rd hf_dq (m := 5) (n := 0) rfl rfl (by decide)) hf_rd)
          have hf_tp : f182 tp = .inr (7, [.ref tb, .int tl]) := (congrFun e_f182 tp).trans (z_up_ne (z_tne hf_tp hf_dq (m := 7) (n := 0) rfl rfl (by decide)) hf_tp)
          have hf_tb : f182 tb = .inl (cy 0, 1600, .inl gt) := (congrFun e_f182 tb).trans (z_up_ne (z_tne hf_tb hf_dq (m := 12900) (n := 0) rfl rfl (by decide)) hf_tb)
          have hf_mo : f182 mo = .inr (2, [.int v0, .int v1, .int v2, .int v3, .int v4, .int v5, .int v6, .ref la, .ref sa, .ref mi, .ref da]) := (congrFun e_f182 mo).trans (z_up_ne (z_tne hf_mo hf_dq (m := 2) (n := 0) rfl rfl (by decide)) hf_mo)
          have hf_da : f182 da = .inl (cy 4, 13, .inr (.inr (.inr (.inr gd)))) := (congrFun e_f182 da).trans (z_up_ne (z_tne hf_da hf_dq (m := 206) (n := 0) rfl rfl (by decide)) hf_da)
          have hf_dq : f182 dq = .inr (0, [.int r4, .int r17, .int r30, .int r43, .int r56, .int 0, .int r4, .int 0]) := (congrFun e_f182 dq).trans z_up_self
          have hfr : ∀ b ∈ L, b ≠ rd → b ≠ mo → b ≠ dq → f182 b = f b := fun b hb h0 h1 h2 => (congrFun e_f182 b).trans (z_up_ne h2 (hfr b hb h0 h1 h2))
          refine lv_aload_n hx hb dX5_readDrive_190 rfl (lv_at hl 1 rfl) ?_
          refine z_get (C := RX5) (T := TX5) (N := 9) (ci := 5) (v := .ref mo) hx hb hT zin_X5 hown hK hw hm_rd hf_rd rfl 3 (by decide) (hT _ kw_282) rfl dX5_readDrive_191 ?_
          refine lv_dup hx hb dX5_readDrive_194 rfl ?_
          refine z_get (C := RX2) (T := TX2) (N := 11) (ci := 2) (v := .int v5) hx hb hT zin_X2 hown hK hw hm_mo hf_mo rfl 5 (by decide) (hT _ kw_225) rfl dX5_readDrive_195 ?_
          refine lv_iconst (v := 1) hx hb dX5_readDrive_198 (by decide) ?_
          refine lv_iadd hx hb dX5_readDrive_199 ?_
          refine lv_topi (fun w183 e_w183 => ?_)
          have i_w183 : w183.toInt = (v5.toInt + 1) := z_add e_w183 rfl (show (1 : Int32).toInt = 1 by decide) (by omega)
          refine z_put (C := RX2) (T := TX2) (N := 11) (ci := 2) (v := .int w183) (fs' := [.int v0, .int v1, .int v2, .int v3, .int v4, .int w183, .int v6, .ref la, .ref sa, .ref mi, .ref da]) hx hb hT zin_X2 tyX2_ok nmX2 hown hK hw hm_mo hf_mo rfl 5 (by decide) (hT _ kw_225) rfl rfl rfl (Nat.le_of_ble_eq_true rfl) rfl dX5_readDrive_200 (fun H locs hw => ?_)
          obtain ⟨f184, e_f184⟩ : ∃ z, z = va_up f182 mo (.inr (2, [.int v0, .int v1, .int v2, .int v3, .int v4, .int w183, .int v6, .ref la, .ref sa, .ref mi, .ref da])) := ⟨_, rfl⟩
          rw [← e_f184] at hw
          have hf_rd : f184 rd = .inr (5, [.int f2_59, .int p2_60, .ref tp, .ref mo, .int ot_, .int k2_174, .int a2_175, .int n2_176, .int z2_177]) := (congrFun e_f184 rd).trans (z_up_ne (z_tne hf_rd hf_mo (m := 5) (n := 2) rfl rfl (by decide)) hf_rd)
          have hf_tp : f184 tp = .inr (7, [.ref tb, .int tl]) := (congrFun e_f184 tp).trans (z_up_ne (z_tne hf_tp hf_mo (m := 7) (n := 2) rfl rfl (by decide)) hf_tp)
          have hf_tb : f184 tb = .inl (cy 0, 1600, .inl gt) := (congrFun e_f184 tb).trans (z_up_ne (z_tne hf_tb hf_mo (m := 12900) (n := 2) rfl rfl (by decide)) hf_tb)
          have hf_da : f184 da = .inl (cy 4, 13, .inr (.inr (.inr (.inr gd)))) := (congrFun e_f184 da).trans (z_up_ne (z_tne hf_da hf_mo (m := 206) (n := 2) rfl rfl (by decide)) hf_da)
          have hf_dq : f184 dq = .inr (0, [.int r4, .int r17, .int r30, .int r43, .int r56, .int 0, .int r4, .int 0]) := (congrFun e_f184 dq).trans (z_up_ne (z_tne hf_dq hf_mo (m := 0) (n := 2) rfl rfl (by decide)) hf_dq)
          have hf_mo : f184 mo = .inr (2, [.int v0, .int v1, .int v2, .int v3, .int v4, .int w183, .int v6, .ref la, .ref sa, .ref mi, .ref da]) := (congrFun e_f184 mo).trans z_up_self
          have hfr : ∀ b ∈ L, b ≠ rd → b ≠ mo → b ≠ dq → f184 b = f b := fun b hb h0 h1 h2 => (congrFun e_f184 b).trans (z_up_ne h1 (hfr b hb h0 h1 h2))
          exact z_vret hx hb hr hlk (by decide) (by decide) hw (⟨hsub, hfr, f2_59, p2_60, k2_174, a2_175, n2_176, z2_177, w183, r4, r17, r30, r43, r56, 0, r4, 0, hf_rd, hf_mo, hf_dq, by omega, by omega, by omega, by omega⟩) dX5_readDrive_203
  · skip
    refine lv_aload_n hx hb dX5_readDrive_12 rfl (lv_at hl 0 rfl) ?_
    refine lv_iconst (v := 3) hx hb dX5_readDrive_13 (by decide) ?_
    have hz185 := (show (3 : Int32).toInt = 3 by decide)
    refine z_callvV (cells := 0) (slots := 0) (b := rd) (As := [.int 3]) (rest := []) (ci := 5) (q0 := (RX5, TX5, 9)) ⟨hx, hb, hml, hown, hT⟩ (c_X5_refuse l hm_rd hf_rd (by first | omega | decide | assumption)) (cwV 1 hT (z_goodV (fun _ h => h) kw_622 kw_624 kw_4 kw_89 kw_625) rfl rfl rfl (by decide +kernel) ⟨by decide, by decide⟩) z_mv hKK hK hw hA hm_rd hf_rd rfl rfl rfl hl.1 rfl (Nat.le_of_ble_eq_true rfl) dX5_readDrive_14 ⟨by decide, by decide⟩ (fun u H locs hp hw => ?_)
    obtain ⟨L186, f187⟩ := u
    obtain ⟨hsb, hfm, f2_188, p2_189, ha_0, hp⟩ := hp
    have hsb : L = L186 := hsb
    subst hsb
    have hsb : ∀ b ∈ L, b ∈ L := fun _ h => h
    have hw : z_H D vwCl (z_A L sz) s.heap L f187 H locs := hw
    have hfr : ∀ b ∈ L, b ≠ rd → b ≠ mo → b ≠ dq → f187 b = f b := fun b hb h0 h1 h2 => (hfm b hb h0).trans (hfr b hb h0 h1 h2)
    have hf_tp : f187 tp = .inr (7, [.ref tb, .int tl]) := (hfm tp hm_tp (z_tne hf_tp hf_rd (m := 7) (n := 5) rfl rfl (by decide))).trans hf_tp
    have hf_tb : f187 tb = .inl (cy 0, 1600, .inl gt) := (hfm tb hm_tb (z_tne hf_tb hf_rd (m := 12900) (n := 5) rfl rfl (by decide))).trans hf_tb
    have hf_mo : f187 mo = .inr (2, [.int v0, .int v1, .int v2, .int v3, .int v4, .int v5, .int v6, .ref la, .ref sa, .ref mi, .ref da]) := (hfm mo hm_mo (z_tne hf_mo hf_rd (m := 2) (n := 5) rfl rfl (by decide))).trans hf_mo
    have hf_da : f187 da = .inl (cy 4, 13, .inr (.inr (.inr (.inr gd)))) := (hfm da hm_da (z_tne hf_da hf_rd (m := 206) (n := 5) rfl rfl (by decide))).trans hf_da
    have hf_dq : f187 dq = .inr (0, [.int o1, .int o2, .int o3, .int o4, .int o5, .int o6, .int o7, .int o8]) := (hfm dq hm_dq (z_tne hf_dq hf_rd (m := 0) (n := 5) rfl rfl (by decide))).trans hf_dq
    have hf_rd : f187 rd = .inr (5, [.int f2_188, .int p2_189, .ref tp, .ref mo, .int ot_, .int ki, .int ra, .int rn, .int rv]) := ha_0
    have hq190 := hp
    exact z_vret hx hb hr hlk (by decide) (by decide) hw (⟨hsub, hfr, f2_188, p2_189, ki, ra, rn, rv, v5, o1, o2, o3, o4, o5, o6, o7, o8, hf_rd, hf_mo, hf_dq, by omega, by omega, by omega, by omega⟩) dX5_readDrive_17
