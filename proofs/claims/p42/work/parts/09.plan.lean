set_option maxHeartbeats 2000000 in
set_option maxRecDepth 100000 in
theorem c_X4_countOthers (l : Launch) {D : va_G} {cy : Nat → ClassId} {L : List Nat} {f : Nat → va_E} {sz : Nat} {adK adV : Nat → Nat} {wk : Nat} {pl ot : Nat} {p3 p4 p5 p6 p7 p8 p9 p10 p11 : Int32} {gx : Nat → Int32} {mo la sa mi da : Nat} {v0 v1 v2 v3 v4 v5 v6 : Int32} {gd : Nat → Option Nat} {dv : Nat → Nat} {nu : Int32} (hm_pl : pl ∈ L) (hm_ot : ot ∈ L) (hm_mo : mo ∈ L) (hm_da : da ∈ L) (hf_pl : f pl = .inr (4, [.ref mo, .ref wk, .ref ot, .int p3, .int p4, .int p5, .int p6, .int p7, .int p8, .int p9, .int p10, .int p11])) (hf_ot : f ot = .inl (cy 1, 216, .inl gx)) (hf_mo : f mo = .inr (2, [.int v0, .int v1, .int v2, .int v3, .int v4, .int v5, .int v6, .ref la, .ref sa, .ref mi, .ref da])) (hf_da : f da = .inl (cy 4, 13, .inr (.inr (.inr (.inr gd))))) (hg_da : ∀ i : Nat, i < 13 → gd i = some (dv i)) (hd_da : z_Drv L f dv 13) (hv2 : 0 ≤ v2.toInt ∧ v2.toInt ≤ 9) (hv5 : 0 ≤ v5.toInt ∧ v5.toInt ≤ 13) : Met l yX4_countOthers (z_ws yX4_countOthers cX4_countOthers 4 none) (z_R 2 0 0) (va_Pc [.ref pl, .int nu] (z_Pre D vwCl (z_KK D cy adK adV) L f sz)) (z_Qv D vwCl (fun u => L = u.1 ∧ (∀ b ∈ L, b ≠ ot → u.2 b = f b) ∧ (∃ (g2 : Nat → Int32), (u.2 ot = .inl (cy 1, 216, .inl g2)) ∧ (True))) L sz) 0 0 (z_A L sz) := by
  refine z_met (cc := cX4_countOthers) (maxL := 4) (ret := none) (lv := [(0, .ref pl), (1, .int nu)]) (by decide) rfl (Nat.le_of_ble_eq_true rfl) rfl ?_
  intro p e s m below meth c ls hx hb hr hlk hml hown hnm hts hKK hA hw hl
  have hK := hKK.1.1
  have hown : s.vm.findClass RX4 = some m.cls := hown
  have hT : ∀ w ∈ lw_all, w.before ([.ref pl, .int nu] : List Value).toArray s = true := fun w h => hts w (z_cons w h)
  have hsub : L = L := rfl
  have hfr : ∀ b ∈ L, b ≠ ot → f b = f b := fun _ _ _ => rfl
  refine lv_aload_n hx hb dX4_countOthers_0 rfl (lv_at hl 0 rfl) ?_
  refine z_get (C := RX4) (T := TX4) (N := 12) (ci := 4) (v := .ref ot) hx hb hT zin_X4 hown hK hw hm_pl hf_pl rfl 2 (by decide) (hT _ kw_387) rfl dX4_countOthers_1 ?_
  refine lv_iconst (v := 0) hx hb dX4_countOthers_4 (by decide) ?_
  have hz1 := (show (0 : Int32).toInt = 0 by decide)
  refine z_callvS (cells := 0) (slots := 0) (As := [.ref ot, .int 0]) (rest := []) ⟨hx, hb, hml, hown, hT⟩ (c_J7_fill_53178 l hm_ot hf_ot (by decide)) (va_cwS 2 hT (z_goodS (fun _ h => h) kw_912 kw_317 kw_91 kw_318) rfl rfl rfl (by decide +kernel) ⟨by decide, by decide⟩) z_mv hKK hw hA rfl hl.1 rfl (Nat.le_of_ble_eq_true rfl) dX4_countOthers_5 ⟨by decide, by decide⟩ (fun u H locs hp hw => ?_)
  obtain ⟨L2, f3⟩ := u
  obtain ⟨hsb, hfm, g2_4, ha_0, hp⟩ := hp
  have hsb : L = L2 := hsb
  subst hsb
  have hsb : ∀ b ∈ L, b ∈ L := fun _ h => h
  have hw : z_H D vwCl (z_A L sz) s.heap L f3 H locs := hw
  have hfr : ∀ b ∈ L, b ≠ ot → f3 b = f b := fun b hb h0 => (hfm b hb h0).trans (hfr b hb h0)
  have hd_da : z_Drv L f3 dv 13 := z_Drv_fr hd_da hsb (fun b hb ht => hfm b hb (z_t0 ht hf_ot (m := 1828) rfl (by decide)))
  have hf_pl : f3 pl = .inr (4, [.ref mo, .ref wk, .ref ot, .int p3, .int p4, .int p5, .int p6, .int p7, .int p8, .int p9, .int p10, .int p11]) := (hfm pl hm_pl (z_tne hf_pl hf_ot (m := 4) (n := 1828) rfl rfl (by decide))).trans hf_pl
  have hf_mo : f3 mo = .inr (2, [.int v0, .int v1, .int v2, .int v3, .int v4, .int v5, .int v6, .ref la, .ref sa, .ref mi, .ref da]) := (hfm mo hm_mo (z_tne hf_mo hf_ot (m := 2) (n := 1828) rfl rfl (by decide))).trans hf_mo
  have hf_da : f3 da = .inl (cy 4, 13, .inr (.inr (.inr (.inr gd)))) := (hfm da hm_da (z_tne hf_da hf_ot (m := 206) (n := 1828) rfl rfl (by decide))).trans hf_da
  have hf_ot : f3 ot = .inl (cy 1, 216, .inl g2_4) := ha_0
  refine lv_iconst (v := 0) hx hb dX4_countOthers_8 (by decide) ?_
  refine lv_istore_n (lv' := [(2, .int 0), (0, .ref pl), (1, .int nu)]) hx hb dX4_countOthers_9 rfl hl (by decide) rfl (fun ls hl => ?_)
  have hzk : (0 : Int32).toInt = 0 := by decide
  refine z_loop (fun n H locs ls => ∃ (K5 : Int32) (G7 : Nat → Int32) (f6 : Nat → va_E), (n = (v5.toInt - K5.toInt).toNat) ∧ (0 ≤ K5.toInt) ∧ (K5.toInt ≤ v5.toInt) ∧ (z_H D vwCl (z_A L sz) s.heap L f6 H locs) ∧ (f6 pl = .inr (4, [.ref mo, .ref wk, .ref ot, .int p3, .int p4, .int p5, .int p6, .int p7, .int p8, .int p9, .int p10, .int p11])) ∧ (f6 ot = .inl (cy 1, 216, .inl G7)) ∧ (f6 mo = .inr (2, [.int v0, .int v1, .int v2, .int v3, .int v4, .int v5, .int v6, .ref la, .ref sa, .ref mi, .ref da])) ∧ (f6 da = .inl (cy 4, 13, .inr (.inr (.inr (.inr gd))))) ∧ (∀ b ∈ L, b ≠ ot → f6 b = f b) ∧ (z_Drv L f6 dv 13) ∧ (lv_has ls 4 [(2, .int K5), (0, .ref pl), (1, .int nu)])) _ ⟨0, g2_4, f3, rfl, (by first | decide | omega), (by first | decide | omega), hw, hf_pl, hf_ot, hf_mo, hf_da, hfr, hd_da, (lv_sub hl [0, 1, 2] rfl)⟩ (fun n H locs ls hI ih_10 => ?_)
  obtain ⟨K5, G7, f6, hn, hk0, hk1, hw, hf_pl, hf_ot, hf_mo, hf_da, hfr, hd_da, hl⟩ := hI
  refine lv_iload_n hx hb dX4_countOthers_10 rfl (lv_at hl 0 rfl) ?_
  refine lv_aload_n hx hb dX4_countOthers_11 rfl (lv_at hl 1 rfl) ?_
  refine z_get (C := RX4) (T := TX4) (N := 12) (ci := 4) (v := .ref mo) hx hb hT zin_X4 hown hK hw hm_pl hf_pl rfl 0 (by decide) (hT _ kw_384) rfl dX4_countOthers_12 ?_
  refine z_get (C := RX2) (T := TX2) (N := 11) (ci := 2) (v := .int v5) hx hb hT zin_X2 hown hK hw hm_mo hf_mo rfl 5 (by decide) (hT _ kw_223) rfl dX4_countOthers_15 ?_
  refine z_icmp_ge (tgt := 56) hx hb rfl rfl dX4_countOthers_18 (by decide) (fun c8 => ?_) (fun c8 => ?_)
  · skip
    exact z_vret hx hb hr hlk (by decide) (by decide) hw (⟨hsub, hfr, G7, hf_ot, trivial⟩) dX4_countOthers_56
  · skip
    refine lv_aload_n hx hb dX4_countOthers_21 rfl (lv_at hl 1 rfl) ?_
    refine z_get (C := RX4) (T := TX4) (N := 12) (ci := 4) (v := .ref mo) hx hb hT zin_X4 hown hK hw hm_pl hf_pl rfl 0 (by decide) (hT _ kw_384) rfl dX4_countOthers_22 ?_
    refine lv_iload_n hx hb dX4_countOthers_25 rfl (lv_at hl 0 rfl) ?_
    refine z_calliV (cells := 0) (slots := 0) (b := mo) (As := [.int K5]) (rest := []) (ci := 2) (q0 := (RX2, TX2, 11)) ⟨hx, hb, hml, hown, hT⟩ (c_X2_passage l hm_mo hm_da hf_mo hf_da hg_da hd_da (by first | omega | decide | assumption) (by first | omega | decide | assumption)) (cwV 1 hT (z_goodV (fun _ h => h) kw_913 kw_718 kw_719 kw_87 kw_720) rfl rfl rfl (by decide +kernel) ⟨by decide, by decide⟩) z_mv hKK hK hw hA hm_mo hf_mo rfl rfl rfl hl.1 rfl (Nat.le_of_ble_eq_true rfl) dX4_countOthers_26 ⟨by decide, by decide⟩ (fun r9 u H locs hp hw => ?_)
    obtain ⟨rfl, hp⟩ := hp
    have hw : z_H D vwCl (z_A L sz) s.heap L f6 H locs := hw
    refine lv_istore_n (lv' := [(3, .int r9), (2, .int K5), (0, .ref pl), (1, .int nu)]) hx hb dX4_countOthers_29 rfl hl (by decide) rfl (fun ls hl => ?_)
    refine lv_iload_n hx hb dX4_countOthers_30 rfl (lv_at hl 1 rfl) ?_
    refine lv_iload_n hx hb dX4_countOthers_31 rfl (lv_at hl 3 rfl) ?_
    refine z_icmp_eq (tgt := 50) hx hb rfl rfl dX4_countOthers_32 (by decide) (fun c10 => ?_) (fun c10 => ?_)
    · skip
      obtain ⟨k11, e_k11⟩ : ∃ z : Int32, z = K5 + 1 := ⟨_, rfl⟩
      refine lv_iinc (v := k11) (lv' := [(2, .int k11), (3, .int r9), (0, .ref pl), (1, .int nu)]) hx hb dX4_countOthers_50 hl (k := 1) rfl (by rw [e_k11]; rfl) (by decide) rfl (fun ls hl => ?_)
      have i_k11 : k11.toInt = (K5.toInt + 1) := z_add e_k11 rfl (by decide) (by omega)
      refine lv_goto (tgt := 10) hx hb dX4_countOthers_53 (by decide) ?_
      exact ih_10 _ (by omega) _ _ _ ⟨k11, G7, f6, rfl, (by first | decide | omega), (by first | decide | omega), hw, hf_pl, hf_ot, hf_mo, hf_da, hfr, hd_da, (lv_sub hl [0, 2, 3] rfl)⟩
    · skip
      refine lv_iload_n hx hb dX4_countOthers_35 rfl (lv_at hl 0 rfl) ?_
      refine lv_iconst (v := (-1)) hx hb dX4_countOthers_36 (by decide) ?_
      refine z_icmp_eq (tgt := 50) hx hb rfl (show ((-1) : Int32).toInt = (-1) by decide) dX4_countOthers_37 (by decide) (fun c12 => ?_) (fun c12 => ?_)
      · skip
        obtain ⟨k13, e_k13⟩ : ∃ z : Int32, z = K5 + 1 := ⟨_, rfl⟩
        refine lv_iinc (v := k13) (lv' := [(2, .int k13), (3, .int r9), (0, .ref pl), (1, .int nu)]) hx hb dX4_countOthers_50 hl (k := 1) rfl (by rw [e_k13]; rfl) (by decide) rfl (fun ls hl => ?_)
        have i_k13 : k13.toInt = (K5.toInt + 1) := z_add e_k13 rfl (by decide) (by omega)
        refine lv_goto (tgt := 10) hx hb dX4_countOthers_53 (by decide) ?_
        exact ih_10 _ (by omega) _ _ _ ⟨k13, G7, f6, rfl, (by first | decide | omega), (by first | decide | omega), hw, hf_pl, hf_ot, hf_mo, hf_da, hfr, hd_da, (lv_sub hl [0, 2, 3] rfl)⟩
      · skip
        refine lv_aload_n hx hb dX4_countOthers_40 rfl (lv_at hl 2 rfl) ?_
        refine z_get (C := RX4) (T := TX4) (N := 12) (ci := 4) (v := .ref ot) hx hb hT zin_X4 hown hK hw hm_pl hf_pl rfl 2 (by decide) (hT _ kw_387) rfl dX4_countOthers_41 ?_
        refine lv_iload_n hx hb dX4_countOthers_44 rfl (lv_at hl 0 rfl) ?_
        refine lv_dup2_11 hx hb dX4_countOthers_45 rfl rfl ?_
        refine z_iald hx hb hK hw 1 hm_ot hf_ot rfl (z_ix rfl (by omega)) dX4_countOthers_46 ?_
        refine lv_topi (fun w14 e_w14 => ?_)
        refine lv_iconst (v := 1) hx hb dX4_countOthers_47 (by decide) ?_
        refine lv_iadd hx hb dX4_countOthers_48 ?_
        refine lv_topi (fun w15 e_w15 => ?_)
        refine z_iast hx hb hK hw 1 hm_ot hf_ot rfl (z_ix rfl (by omega)) dX4_countOthers_49 (fun H locs hw => ?_)
        obtain ⟨f17, e_f17⟩ : ∃ z, z = va_up f6 ot (.inl (cy 1, 216, .inl (upd G7 r9.toNatClampNeg w15))) := ⟨_, rfl⟩
        rw [← e_f17] at hw
        have hf_pl : f17 pl = .inr (4, [.ref mo, .ref wk, .ref ot, .int p3, .int p4, .int p5, .int p6, .int p7, .int p8, .int p9, .int p10, .int p11]) := (congrFun e_f17 pl).trans (z_up_ne (z_tne hf_pl hf_ot (m := 4) (n := 1828) rfl rfl (by decide)) hf_pl)
        have hf_mo : f17 mo = .inr (2, [.int v0, .int v1, .int v2, .int v3, .int v4, .int v5, .int v6, .ref la, .ref sa, .ref mi, .ref da]) := (congrFun e_f17 mo).trans (z_up_ne (z_tne hf_mo hf_ot (m := 2) (n := 1828) rfl rfl (by decide)) hf_mo)
        have hf_da : f17 da = .inl (cy 4, 13, .inr (.inr (.inr (.inr gd)))) := (congrFun e_f17 da).trans (z_up_ne (z_tne hf_da hf_ot (m := 206) (n := 1828) rfl rfl (by decide)) hf_da)
        have hd_da : z_Drv L f17 dv 13 := z_Drv_up hd_da e_f17 hf_ot (m := 1828) rfl (by decide)
        have hf_ot : f17 ot = .inl (cy 1, 216, .inl (upd G7 r9.toNatClampNeg w15)) := (congrFun e_f17 ot).trans z_up_self
        have hfr : ∀ b ∈ L, b ≠ ot → f17 b = f b := fun b hb h0 => (congrFun e_f17 b).trans (z_up_ne h0 (hfr b hb h0))
        obtain ⟨g16, e_g16⟩ : ∃ z, z = (upd G7 r9.toNatClampNeg w15) := ⟨_, rfl⟩
        rw [← e_g16] at hf_ot
        obtain ⟨k18, e_k18⟩ : ∃ z : Int32, z = K5 + 1 := ⟨_, rfl⟩
        refine lv_iinc (v := k18) (lv' := [(2, .int k18), (3, .int r9), (0, .ref pl), (1, .int nu)]) hx hb dX4_countOthers_50 hl (k := 1) rfl (by rw [e_k18]; rfl) (by decide) rfl (fun ls hl => ?_)
        have i_k18 : k18.toInt = (K5.toInt + 1) := z_add e_k18 rfl (by decide) (by omega)
        refine lv_goto (tgt := 10) hx hb dX4_countOthers_53 (by decide) ?_
        exact ih_10 _ (by omega) _ _ _ ⟨k18, g16, f17, rfl, (by first | decide | omega), (by first | decide | omega), hw, hf_pl, hf_ot, hf_mo, hf_da, hfr, hd_da, (lv_sub hl [0, 2, 3] rfl)⟩

set_option maxHeartbeats 2000000 in
set_option maxRecDepth 100000 in
theorem c_X4_differs (l : Launch) {D : va_G} {cy : Nat → ClassId} {L : List Nat} {f : Nat → va_E} {sz : Nat} {adK adV : Nat → Nat} {wk : Nat} {pl ot : Nat} {p3 p4 p5 p6 p7 p8 p9 p10 p11 : Int32} {gx : Nat → Int32} {mo la sa mi da : Nat} {v0 v1 v2 v3 v4 v5 v6 : Int32} {gd : Nat → Option Nat} {dv : Nat → Nat} {nu : Int32} (hm_pl : pl ∈ L) (hm_ot : ot ∈ L) (hm_mo : mo ∈ L) (hm_da : da ∈ L) (hf_pl : f pl = .inr (4, [.ref mo, .ref wk, .ref ot, .int p3, .int p4, .int p5, .int p6, .int p7, .int p8, .int p9, .int p10, .int p11])) (hf_ot : f ot = .inl (cy 1, 216, .inl gx)) (hf_mo : f mo = .inr (2, [.int v0, .int v1, .int v2, .int v3, .int v4, .int v5, .int v6, .ref la, .ref sa, .ref mi, .ref da])) (hf_da : f da = .inl (cy 4, 13, .inr (.inr (.inr (.inr gd))))) (hg_da : ∀ i : Nat, i < 13 → gd i = some (dv i)) (hd_da : z_Drv L f dv 13) (hv2 : 0 ≤ v2.toInt ∧ v2.toInt ≤ 9) (hnu : 0 ≤ nu.toInt ∧ nu.toInt ≤ 12) : Met l yX4_differs (z_ws yX4_differs cX4_differs 3 (some .boolean)) (z_R 2 0 0) (va_Pc [.ref pl, .int nu] (z_Pre D vwCl (z_KK D cy adK adV) L f sz)) (z_Qi D vwCl (fun r u => u = (L, f) ∧ ((r = 1 ∧ True) ∨ (r = 0 ∧ True))) L sz) 0 0 (z_A L sz) := by
  refine z_met (cc := cX4_differs) (maxL := 3) (ret := (some .boolean)) (lv := [(0, .ref pl), (1, .int nu)]) (by decide) rfl (Nat.le_of_ble_eq_true rfl) rfl ?_
  intro p e s m below meth c ls hx hb hr hlk hml hown hnm hts hKK hA hw hl
  have hK := hKK.1.1
  have hown : s.vm.findClass RX4 = some m.cls := hown
  have hT : ∀ w ∈ lw_all, w.before ([.ref pl, .int nu] : List Value).toArray s = true := fun w h => hts w (z_cons w h)
  refine lv_aload_n hx hb dX4_differs_0 rfl (lv_at hl 0 rfl) ?_
  refine z_get (C := RX4) (T := TX4) (N := 12) (ci := 4) (v := .ref mo) hx hb hT zin_X4 hown hK hw hm_pl hf_pl rfl 0 (by decide) (hT _ kw_384) rfl dX4_differs_1 ?_
  refine lv_iload_n hx hb dX4_differs_4 rfl (lv_at hl 1 rfl) ?_
  refine z_calliV (cells := 0) (slots := 0) (b := mo) (As := [.int nu]) (rest := []) (ci := 2) (q0 := (RX2, TX2, 11)) ⟨hx, hb, hml, hown, hT⟩ (c_X2_passage l hm_mo hm_da hf_mo hf_da hg_da hd_da (by first | omega | decide | assumption) (by first | omega | decide | assumption)) (cwV 1 hT (z_goodV (fun _ h => h) kw_913 kw_718 kw_719 kw_87 kw_720) rfl rfl rfl (by decide +kernel) ⟨by decide, by decide⟩) z_mv hKK hK hw hA hm_mo hf_mo rfl rfl rfl hl.1 rfl (Nat.le_of_ble_eq_true rfl) dX4_differs_5 ⟨by decide, by decide⟩ (fun r1 u H locs hp hw => ?_)
  obtain ⟨rfl, hp⟩ := hp
  have hw : z_H D vwCl (z_A L sz) s.heap L f H locs := hw
  refine lv_istore_n (lv' := [(2, .int r1), (0, .ref pl), (1, .int nu)]) hx hb dX4_differs_8 rfl hl (by decide) rfl (fun ls hl => ?_)
  refine lv_iload_n hx hb dX4_differs_9 rfl (lv_at hl 0 rfl) ?_
  refine lv_iconst (v := 1) hx hb dX4_differs_10 (by decide) ?_
  refine z_icmp_lt (tgt := 41) hx hb rfl (show (1 : Int32).toInt = 1 by decide) dX4_differs_11 (by decide) (fun c2 => ?_) (fun c2 => ?_)
  · skip
    refine lv_iconst (v := 1) hx hb dX4_differs_41 (by decide) ?_
    refine lv_goto (tgt := 46) hx hb dX4_differs_42 (by decide) ?_
    exact z_zret hx hb hr rfl hlk (by decide) (by decide) hw (⟨rfl, Or.inl ⟨rfl, trivial⟩⟩) dX4_differs_46
  · skip
    refine lv_iload_n hx hb dX4_differs_14 rfl (lv_at hl 0 rfl) ?_
    refine lv_bipush (v := 24) hx hb dX4_differs_15 (by decide) ?_
    refine lv_irem hx hb dX4_differs_17 (by decide) ?_
    refine lv_topi (fun w3 e_w3 => ?_)
    have i_w3 : w3.toInt = (r1.toInt % 24) := z_remI e_w3 rfl (show (24 : Int32).toInt = 24 by decide) (by omega)
    refine z_if_eq (tgt := 41) hx hb i_w3 dX4_differs_18 (by decide) (fun c4 => ?_) (fun c4 => ?_)
    · skip
      refine lv_iconst (v := 1) hx hb dX4_differs_41 (by decide) ?_
      refine lv_goto (tgt := 46) hx hb dX4_differs_42 (by decide) ?_
      exact z_zret hx hb hr rfl hlk (by decide) (by decide) hw (⟨rfl, Or.inl ⟨rfl, trivial⟩⟩) dX4_differs_46
    · skip
      refine lv_aload_n hx hb dX4_differs_21 rfl (lv_at hl 1 rfl) ?_
      refine z_get (C := RX4) (T := TX4) (N := 12) (ci := 4) (v := .ref ot) hx hb hT zin_X4 hown hK hw hm_pl hf_pl rfl 2 (by decide) (hT _ kw_387) rfl dX4_differs_22 ?_
      refine lv_iload_n hx hb dX4_differs_25 rfl (lv_at hl 0 rfl) ?_
      refine z_iald hx hb hK hw 1 hm_ot hf_ot rfl (z_ix rfl (by omega)) dX4_differs_26 ?_
      refine lv_topi (fun w5 e_w5 => ?_)
      refine z_if_gt (tgt := 41) hx hb rfl dX4_differs_27 (by decide) (fun c6 => ?_) (fun c6 => ?_)
      · skip
        refine lv_iconst (v := 1) hx hb dX4_differs_41 (by decide) ?_
        refine lv_goto (tgt := 46) hx hb dX4_differs_42 (by decide) ?_
        exact z_zret hx hb hr rfl hlk (by decide) (by decide) hw (⟨rfl, Or.inl ⟨rfl, trivial⟩⟩) dX4_differs_46
      · skip
        refine lv_aload_n hx hb dX4_differs_30 rfl (lv_at hl 1 rfl) ?_
        refine z_get (C := RX4) (T := TX4) (N := 12) (ci := 4) (v := .ref ot) hx hb hT zin_X4 hown hK hw hm_pl hf_pl rfl 2 (by decide) (hT _ kw_387) rfl dX4_differs_31 ?_
        refine lv_iload_n hx hb dX4_differs_34 rfl (lv_at hl 0 rfl) ?_
        refine lv_iconst (v := 1) hx hb dX4_differs_35 (by decide) ?_
        refine lv_isub hx hb dX4_differs_36 ?_
        refine lv_topi (fun w7 e_w7 => ?_)
        have i_w7 : w7.toInt = (r1.toInt - 1) := z_subI e_w7 rfl (show (1 : Int32).toInt = 1 by decide) (by omega)
        refine z_iald hx hb hK hw 1 hm_ot hf_ot rfl (z_ix i_w7 (by omega)) dX4_differs_37 ?_
        refine lv_topi (fun w8 e_w8 => ?_)
        refine z_if_le (tgt := 45) hx hb rfl dX4_differs_38 (by decide) (fun c9 => ?_) (fun c9 => ?_)
        · skip
          refine lv_iconst (v := 0) hx hb dX4_differs_45 (by decide) ?_
          exact z_zret hx hb hr rfl hlk (by decide) (by decide) hw (⟨rfl, Or.inr ⟨rfl, trivial⟩⟩) dX4_differs_46
        · skip
          refine lv_iconst (v := 1) hx hb dX4_differs_41 (by decide) ?_
          refine lv_goto (tgt := 46) hx hb dX4_differs_42 (by decide) ?_
          exact z_zret hx hb hr rfl hlk (by decide) (by decide) hw (⟨rfl, Or.inl ⟨rfl, trivial⟩⟩) dX4_differs_46

set_option maxHeartbeats 2000000 in
set_option maxRecDepth 100000 in
theorem c_X4_seekBest (l : Launch) {D : va_G} {cy : Nat → ClassId} {L : List Nat} {f : Nat → va_E} {sz : Nat} {adK adV : Nat → Nat} {pl ot : Nat} {p3 p4 p5 p6 p7 p8 p9 p10 p11 : Int32} {gx : Nat → Int32} {wk ks ct se ow : Nat} {wn wt wd wp : Int32} {gk gc gq go : Nat → Int32} {mo la sa mi da : Nat} {v0 v1 v2 v3 v4 v5 v6 : Int32} {gl gs gm : Nat → Int32} {gd : Nat → Option Nat} {dv : Nat → Nat} {nu : Int32} (hm_pl : pl ∈ L) (hm_ot : ot ∈ L) (hm_wk : wk ∈ L) (hm_ks : ks ∈ L) (hm_ct : ct ∈ L) (hm_se : se ∈ L) (hm_ow : ow ∈ L) (hm_mo : mo ∈ L) (hm_la : la ∈ L) (hm_sa : sa ∈ L) (hm_mi : mi ∈ L) (hm_da : da ∈ L) (hf_pl : f pl = .inr (4, [.ref mo, .ref wk, .ref ot, .int p3, .int p4, .int p5, .int p6, .int p7, .int p8, .int p9, .int p10, .int p11])) (hf_ot : f ot = .inl (cy 1, 216, .inl gx)) (hf_wk : f wk = .inr (8, [.ref ks, .int wn, .ref ct, .ref se, .ref ow, .int wt, .int wd, .int wp])) (hf_ks : f ks = .inl (cy 1, 13, .inl gk)) (hf_ct : f ct = .inl (cy 1, 4, .inl gc)) (hf_se : f se = .inl (cy 1, 4, .inl gq)) (hf_ow : f ow = .inl (cy 1, 5, .inl go)) (hf_mo : f mo = .inr (2, [.int v0, .int v1, .int v2, .int v3, .int v4, .int v5, .int v6, .ref la, .ref sa, .ref mi, .ref da])) (hf_la : f la = .inl (cy 1, 5, .inl gl)) (hf_sa : f sa = .inl (cy 1, 4, .inl gs)) (hf_mi : f mi = .inl (cy 1, 36, .inl gm)) (hf_da : f da = .inl (cy 4, 13, .inr (.inr (.inr (.inr gd))))) (ne_ct_se : ct ≠ se) (ne_ct_sa : ct ≠ sa) (ne_se_sa : se ≠ sa) (ne_ow_la : ow ≠ la) (hg_da : ∀ i : Nat, i < 13 → gd i = some (dv i)) (hd_da : z_Drv L f dv 13) (hv2 : 0 ≤ v2.toInt ∧ v2.toInt ≤ 9) (hv5 : 0 ≤ v5.toInt ∧ v5.toInt ≤ 13) (hv1 : 0 ≤ v1.toInt ∧ v1.toInt ≤ 4) (hnu : 0 ≤ nu.toInt ∧ nu.toInt ≤ 12) (hgk : ∀ j : Nat, z_key (gk j)) (hgm : ∀ j : Nat, 0 ≤ (gm j).toInt ∧ (gm j).toInt ≤ 9) (hp4 : 0 ≤ p4.toInt ∧ p4.toInt ≤ 3) (hp5 : 0 ≤ p5.toInt ∧ p5.toInt ≤ 23) (hwn : 0 ≤ wn.toInt ∧ wn.toInt ≤ 13) : Met l yX4_seekBest (z_ws yX4_seekBest cX4_seekBest 8 none) (z_R 5 0 0) (va_Pc [.ref pl, .int nu] (z_Pre D vwCl (z_KK D cy adK adV) L f sz)) (z_Qv D vwCl (fun u => L = u.1 ∧ (∀ b ∈ L, b ≠ pl → b ≠ ot → b ≠ wk → b ≠ ks → b ≠ ct → b ≠ se → b ≠ ow → (∀ i : Nat, i < 13 → b ≠ dv i) → u.2 b = f b) ∧ (∃ (w2 t2 q3 q4 q5 : Int32) (k2 c2 s2 o2 x2 : Nat → Int32), (u.2 pl = .inr (4, [.ref mo, .ref wk, .ref ot, .int q3, .int q4, .int q5, .int p6, .int p7, .int p8, .int p9, .int p10, .int p11])) ∧ (u.2 ot = .inl (cy 1, 216, .inl x2)) ∧ (u.2 wk = .inr (8, [.ref ks, .int w2, .ref ct, .ref se, .ref ow, .int t2, .int wd, .int wp])) ∧ (u.2 ks = .inl (cy 1, 13, .inl k2)) ∧ (u.2 ct = .inl (cy 1, 4, .inl c2)) ∧ (u.2 se = .inl (cy 1, 4, .inl s2)) ∧ (u.2 ow = .inl (cy 1, 5, .inl o2)) ∧ (z_Drv u.1 u.2 dv 13) ∧ ((0 ≤ w2.toInt ∧ w2.toInt ≤ 13) ∧ (0 ≤ q4.toInt ∧ q4.toInt ≤ 3) ∧ (0 ≤ q5.toInt ∧ q5.toInt ≤ 23) ∧ ∀ j : Nat, z_key (k2 j)))) L sz) 0 0 (z_A L sz) := by
  refine z_met (cc := cX4_seekBest) (maxL := 8) (ret := none) (lv := [(0, .ref pl), (1, .int nu)]) (by decide) rfl (Nat.le_of_ble_eq_true rfl) rfl ?_
  intro p e s m below meth c ls hx hb hr hlk hml hown hnm hts hKK hA hw hl
  have hK := hKK.1.1
  have hown : s.vm.findClass RX4 = some m.cls := hown
  have hT : ∀ w ∈ lw_all, w.before ([.ref pl, .int nu] : List Value).toArray s = true := fun w h => hts w (z_cons w h)
  have hsub : L = L := rfl
  have hfr : ∀ b ∈ L, b ≠ pl → b ≠ ot → b ≠ wk → b ≠ ks → b ≠ ct → b ≠ se → b ≠ ow → (∀ i : Nat, i < 13 → b ≠ dv i) → f b = f b := fun _ _ _ _ _ _ _ _ _ _ => rfl
  refine lv_aload_n hx hb dX4_seekBest_0 rfl (lv_at hl 0 rfl) ?_
  refine z_get (C := RX4) (T := TX4) (N := 12) (ci := 4) (v := .ref mo) hx hb hT zin_X4 hown hK hw hm_pl hf_pl rfl 0 (by decide) (hT _ kw_384) rfl dX4_seekBest_1 ?_
  refine z_get (C := RX2) (T := TX2) (N := 11) (ci := 2) (v := .ref da) hx hb hT zin_X2 hown hK hw hm_mo hf_mo rfl 10 (by decide) (hT _ kw_243) rfl dX4_seekBest_4 ?_
  refine lv_iload_n hx hb dX4_seekBest_7 rfl (lv_at hl 1 rfl) ?_
  obtain ⟨dq1, e_dq1⟩ : ∃ z, z = dv nu.toNatClampNeg := ⟨_, rfl⟩
  have hi_dq1 : nu.toNatClampNeg < 13 := z_clI rfl (by omega)
  refine z_aald (b := dq1) hx hb hK hw 4 hm_da hf_da rfl (z_ix rfl (by omega)) (by rw [e_dq1]; exact hg_da _ hi_dq1) dX4_seekBest_8 ?_
  obtain ⟨hm_dq1, do2, dg3, dd4, dh5, ds6, dl7, dp8, dm9, hf_dq1, hr_do2, hr_dg3, hr_dd4, hr_dh5, hr_ds6, hr_dl7, hr_dp8, hr_dm9⟩ := hd_da _ hi_dq1
  rw [← e_dq1] at hm_dq1 hf_dq1
  refine lv_astore_n (lv' := [(2, .ref dq1), (0, .ref pl), (1, .int nu)]) hx hb dX4_seekBest_9 rfl hl (by decide) rfl (fun ls hl => ?_)
  refine lv_aload_n hx hb dX4_seekBest_10 rfl (lv_at hl 0 rfl) ?_
  refine z_get (C := RX0) (T := TX0) (N := 8) (ci := 0) (v := .int dg3) hx hb hT zin_X0 hown hK hw hm_dq1 hf_dq1 rfl 1 (by decide) (hT _ kw_146) rfl dX4_seekBest_11 ?_
  refine lv_istore_n (lv' := [(3, .int dg3), (2, .ref dq1), (0, .ref pl), (1, .int nu)]) hx hb dX4_seekBest_14 rfl hl (by decide) rfl (fun ls hl => ?_)
  refine lv_aload_n hx hb dX4_seekBest_15 rfl (lv_at hl 1 rfl) ?_
  refine z_get (C := RX0) (T := TX0) (N := 8) (ci := 0) (v := .int dh5) hx hb hT zin_X0 hown hK hw hm_dq1 hf_dq1 rfl 3 (by decide) (hT _ kw_158) rfl dX4_seekBest_16 ?_
  refine lv_istore (lv' := [(4, .int dh5), (3, .int dg3), (2, .ref dq1), (0, .ref pl), (1, .int nu)]) hx hb dX4_seekBest_19 hl (by decide) rfl (fun ls hl => ?_)
  refine lv_aload_n hx hb dX4_seekBest_21 rfl (lv_at hl 3 rfl) ?_
  refine lv_iload_n hx hb dX4_seekBest_22 rfl (lv_at hl 4 rfl) ?_
  refine z_callvV (cells := 0) (slots := 0) (b := pl) (As := [.int nu]) (rest := []) (ci := 4) (q0 := (RX4, TX4, 12)) ⟨hx, hb, hml, hown, hT⟩ (c_X4_countOthers l hm_pl hm_ot hm_mo hm_da hf_pl hf_ot hf_mo hf_da hg_da hd_da (by first | omega | decide | assumption) (by first | omega | decide | assumption)) (cwV 1 hT (z_goodV (fun _ h => h) kw_908 kw_910 kw_17 kw_93 kw_911) rfl rfl rfl (by decide +kernel) ⟨by decide, by decide⟩) z_mv hKK hK hw hA hm_pl hf_pl rfl rfl rfl hl.1 rfl (Nat.le_of_ble_eq_true rfl) dX4_seekBest_23 ⟨by decide, by decide⟩ (fun u H locs hp hw => ?_)
  obtain ⟨L10, f11⟩ := u
  obtain ⟨hsb, hfm, g2_12, ha_0, hp⟩ := hp
  have hsb : L = L10 := hsb
  subst hsb
  have hsb : ∀ b ∈ L, b ∈ L := fun _ h => h
  have hw : z_H D vwCl (z_A L sz) s.heap L f11 H locs := hw
  have hfr : ∀ b ∈ L, b ≠ pl → b ≠ ot → b ≠ wk → b ≠ ks → b ≠ ct → b ≠ se → b ≠ ow → (∀ i : Nat, i < 13 → b ≠ dv i) → f11 b = f b := fun b hb h0 h1 h2 h3 h4 h5 h6 hp0 => (hfm b hb h1).trans (hfr b hb h0 h1 h2 h3 h4 h5 h6 hp0)
  have hd_da : z_Drv L f11 dv 13 := z_Drv_fr hd_da hsb (fun b hb ht => hfm b hb (z_t0 ht hf_ot (m := 1828) rfl (by decide)))
  have hf_pl : f11 pl = .inr (4, [.ref mo, .ref wk, .ref ot, .int p3, .int p4, .int p5, .int p6, .int p7, .int p8, .int p9, .int p10, .int p11]) := (hfm pl hm_pl (z_tne hf_pl hf_ot (m := 4) (n := 1828) rfl rfl (by decide))).trans hf_pl
  have hf_wk : f11 wk = .inr (8, [.ref ks, .int wn, .ref ct, .ref se, .ref ow, .int wt, .int wd, .int wp]) := (hfm wk hm_wk (z_tne hf_wk hf_ot (m := 8) (n := 1828) rfl rfl (by decide))).trans hf_wk
  have hf_ks : f11 ks = .inl (cy 1, 13, .inl gk) := (hfm ks hm_ks (z_tne hf_ks hf_ot (m := 204) (n := 1828) rfl rfl (by decide))).trans hf_ks
  have hf_ct : f11 ct = .inl (cy 1, 4, .inl gc) := (hfm ct hm_ct (z_tne hf_ct hf_ot (m := 132) (n := 1828) rfl rfl (by decide))).trans hf_ct
  have hf_se : f11 se = .inl (cy 1, 4, .inl gq) := (hfm se hm_se (z_tne hf_se hf_ot (m := 132) (n := 1828) rfl rfl (by decide))).trans hf_se
  have hf_ow : f11 ow = .inl (cy 1, 5, .inl go) := (hfm ow hm_ow (z_tne hf_ow hf_ot (m := 140) (n := 1828) rfl rfl (by decide))).trans hf_ow
  have hf_mo : f11 mo = .inr (2, [.int v0, .int v1, .int v2, .int v3, .int v4, .int v5, .int v6, .ref la, .ref sa, .ref mi, .ref da]) := (hfm mo hm_mo (z_tne hf_mo hf_ot (m := 2) (n := 1828) rfl rfl (by decide))).trans hf_mo
  have hf_la : f11 la = .inl (cy 1, 5, .inl gl) := (hfm la hm_la (z_tne hf_la hf_ot (m := 140) (n := 1828) rfl rfl (by decide))).trans hf_la
  have hf_sa : f11 sa = .inl (cy 1, 4, .inl gs) := (hfm sa hm_sa (z_tne hf_sa hf_ot (m := 132) (n := 1828) rfl rfl (by decide))).trans hf_sa
  have hf_mi : f11 mi = .inl (cy 1, 36, .inl gm) := (hfm mi hm_mi (z_tne hf_mi hf_ot (m := 388) (n := 1828) rfl rfl (by decide))).trans hf_mi
  have hf_da : f11 da = .inl (cy 4, 13, .inr (.inr (.inr (.inr gd)))) := (hfm da hm_da (z_tne hf_da hf_ot (m := 206) (n := 1828) rfl rfl (by decide))).trans hf_da
  have hf_dq1 : f11 dq1 = .inr (0, [.int do2, .int dg3, .int dd4, .int dh5, .int ds6, .int dl7, .int dp8, .int dm9]) := (hfm dq1 hm_dq1 (z_tne hf_dq1 hf_ot (m := 0) (n := 1828) rfl rfl (by decide))).trans hf_dq1
  have hf_ot : f11 ot = .inl (cy 1, 216, .inl g2_12) := ha_0
  refine lv_aload_n hx hb dX4_seekBest_26 rfl (lv_at hl 3 rfl) ?_
  refine lv_ldc (v := 1000000000) hx hb hown (hT _ kw_914) dX4_seekBest_27 ?_
  refine z_put (C := RX4) (T := TX4) (N := 12) (ci := 4) (v := .int 1000000000) (fs' := [.ref mo, .ref wk, .ref ot, .int 1000000000, .int p4, .int p5, .int p6, .int p7, .int p8, .int p9, .int p10, .int p11]) hx hb hT zin_X4 tyX4_ok nmX4 hown hK hw hm_pl hf_pl rfl 3 (by decide) (hT _ kw_388) rfl rfl rfl (Nat.le_of_ble_eq_true rfl) rfl dX4_seekBest_29 (fun H locs hw => ?_)
  obtain ⟨f13, e_f13⟩ : ∃ z, z = va_up f11 pl (.inr (4, [.ref mo, .ref wk, .ref ot, .int 1000000000, .int p4, .int p5, .int p6, .int p7, .int p8, .int p9, .int p10, .int p11])) := ⟨_, rfl⟩
  rw [← e_f13] at hw
  have hf_ot : f13 ot = .inl (cy 1, 216, .inl g2_12) := (congrFun e_f13 ot).trans (z_up_ne (z_tne hf_ot hf_pl (m := 1828) (n := 4) rfl rfl (by decide)) hf_ot)
  have hf_wk : f13 wk = .inr (8, [.ref ks, .int wn, .ref ct, .ref se, .ref ow, .int wt, .int wd, .int wp]) := (congrFun e_f13 wk).trans (z_up_ne (z_tne hf_wk hf_pl (m := 8) (n := 4) rfl rfl (by decide)) hf_wk)
  have hf_ks : f13 ks = .inl (cy 1, 13, .inl gk) := (congrFun e_f13 ks).trans (z_up_ne (z_tne hf_ks hf_pl (m := 204) (n := 4) rfl rfl (by decide)) hf_ks)
  have hf_ct : f13 ct = .inl (cy 1, 4, .inl gc) := (congrFun e_f13 ct).trans (z_up_ne (z_tne hf_ct hf_pl (m := 132) (n := 4) rfl rfl (by decide)) hf_ct)
  have hf_se : f13 se = .inl (cy 1, 4, .inl gq) := (congrFun e_f13 se).trans (z_up_ne (z_tne hf_se hf_pl (m := 132) (n := 4) rfl rfl (by decide)) hf_se)
  have hf_ow : f13 ow = .inl (cy 1, 5, .inl go) := (congrFun e_f13 ow).trans (z_up_ne (z_tne hf_ow hf_pl (m := 140) (n := 4) rfl rfl (by decide)) hf_ow)
  have hf_mo : f13 mo = .inr (2, [.int v0, .int v1, .int v2, .int v3, .int v4, .int v5, .int v6, .ref la, .ref sa, .ref mi, .ref da]) := (congrFun e_f13 mo).trans (z_up_ne (z_tne hf_mo hf_pl (m := 2) (n := 4) rfl rfl (by decide)) hf_mo)
  have hf_la : f13 la = .inl (cy 1, 5, .inl gl) := (congrFun e_f13 la).trans (z_up_ne (z_tne hf_la hf_pl (m := 140) (n := 4) rfl rfl (by decide)) hf_la)
  have hf_sa : f13 sa = .inl (cy 1, 4, .inl gs) := (congrFun e_f13 sa).trans (z_up_ne (z_tne hf_sa hf_pl (m := 132) (n := 4) rfl rfl (by decide)) hf_sa)
  have hf_mi : f13 mi = .inl (cy 1, 36, .inl gm) := (congrFun e_f13 mi).trans (z_up_ne (z_tne hf_mi hf_pl (m := 388) (n := 4) rfl rfl (by decide)) hf_mi)
  have hf_da : f13 da = .inl (cy 4, 13, .inr (.inr (.inr (.inr gd)))) := (congrFun e_f13 da).trans (z_up_ne (z_tne hf_da hf_pl (m := 206) (n := 4) rfl rfl (by decide)) hf_da)
  have hf_dq1 : f13 dq1 = .inr (0, [.int do2, .int dg3, .int dd4, .int dh5, .int ds6, .int dl7, .int dp8, .int dm9]) := (congrFun e_f13 dq1).trans (z_up_ne (z_tne hf_dq1 hf_pl (m := 0) (n := 4) rfl rfl (by decide)) hf_dq1)
  have hd_da : z_Drv L f13 dv 13 := z_Drv_up hd_da e_f13 hf_pl (m := 4) rfl (by decide)
  have hf_pl : f13 pl = .inr (4, [.ref mo, .ref wk, .ref ot, .int 1000000000, .int p4, .int p5, .int p6, .int p7, .int p8, .int p9, .int p10, .int p11]) := (congrFun e_f13 pl).trans z_up_self
  have hfr : ∀ b ∈ L, b ≠ pl → b ≠ ot → b ≠ wk → b ≠ ks → b ≠ ct → b ≠ se → b ≠ ow → (∀ i : Nat, i < 13 → b ≠ dv i) → f13 b = f b := fun b hb h0 h1 h2 h3 h4 h5 h6 hp0 => (congrFun e_f13 b).trans (z_up_ne h0 (hfr b hb h0 h1 h2 h3 h4 h5 h6 hp0))
  refine lv_iconst (v := 0) hx hb dX4_seekBest_32 (by decide) ?_
  refine lv_istore (lv' := [(5, .int 0), (4, .int dh5), (3, .int dg3), (2, .ref dq1), (0, .ref pl), (1, .int nu)]) hx hb dX4_seekBest_33 hl (by decide) rfl (fun ls hl => ?_)
  have hzk : (0 : Int32).toInt = 0 := by decide
  refine z_loop (fun n H locs ls => ∃ (K14 : Int32) (G21 : Nat → Int32) (G22 : Nat → Int32) (G23 : Nat → Int32) (G24 : Nat → Int32) (PA16 : Int32) (PG17 : Int32) (PH18 : Int32) (WN19 : Int32) (WT20 : Int32) (f15 : Nat → va_E), (n = (v1.toInt - K14.toInt).toNat) ∧ (0 ≤ K14.toInt) ∧ (K14.toInt ≤ v1.toInt) ∧ (0 ≤ PG17.toInt ∧ PG17.toInt ≤ 3) ∧ (0 ≤ PH18.toInt ∧ PH18.toInt ≤ 23) ∧ (0 ≤ WN19.toInt ∧ WN19.toInt ≤ 13) ∧ (∀ j : Nat, z_key (G21 j)) ∧ (z_H D vwCl (z_A L sz) s.heap L f15 H locs) ∧ (f15 pl = .inr (4, [.ref mo, .ref wk, .ref ot, .int PA16, .int PG17, .int PH18, .int p6, .int p7, .int p8, .int p9, .int p10, .int p11])) ∧ (f15 ot = .inl (cy 1, 216, .inl g2_12)) ∧ (f15 wk = .inr (8, [.ref ks, .int WN19, .ref ct, .ref se, .ref ow, .int WT20, .int wd, .int wp])) ∧ (f15 ks = .inl (cy 1, 13, .inl G21)) ∧ (f15 ct = .inl (cy 1, 4, .inl G22)) ∧ (f15 se = .inl (cy 1, 4, .inl G23)) ∧ (f15 ow = .inl (cy 1, 5, .inl G24)) ∧ (f15 mo = .inr (2, [.int v0, .int v1, .int v2, .int v3, .int v4, .int v5, .int v6, .ref la, .ref sa, .ref mi, .ref da])) ∧ (f15 la = .inl (cy 1, 5, .inl gl)) ∧ (f15 sa = .inl (cy 1, 4, .inl gs)) ∧ (f15 mi = .inl (cy 1, 36, .inl gm)) ∧ (f15 da = .inl (cy 4, 13, .inr (.inr (.inr (.inr gd))))) ∧ (∀ b ∈ L, b ≠ pl → b ≠ ot → b ≠ wk → b ≠ ks → b ≠ ct → b ≠ se → b ≠ ow → (∀ i : Nat, i < 13 → b ≠ dv i) → f15 b = f b) ∧ (z_Drv L f15 dv 13) ∧ (lv_has ls 8 [(5, .int K14), (4, .int dh5), (3, .int dg3), (2, .ref dq1), (0, .ref pl), (1, .int nu)])) _ ⟨0, gk, gc, gq, go, 1000000000, p4, p5, wn, wt, f13, rfl, (by first | decide | omega), (by first | decide | omega), (by omega), (by omega), (by omega), hgk, hw, hf_pl, hf_ot, hf_wk, hf_ks, hf_ct, hf_se, hf_ow, hf_mo, hf_la, hf_sa, hf_mi, hf_da, hfr, hd_da, (lv_sub hl [0, 1, 2, 3, 4, 5] rfl)⟩ (fun n H locs ls hI ih_35 => ?_)
  obtain ⟨K14, G21, G22, G23, G24, PA16, PG17, PH18, WN19, WT20, f15, hn, hk0, hk1, hi0, hi1, hi2, hi3, hw, hf_pl, hf_ot, hf_wk, hf_ks, hf_ct, hf_se, hf_ow, hf_mo, hf_la, hf_sa, hf_mi, hf_da, hfr, hd_da, hl⟩ := hI
  refine lv_iload hx hb dX4_seekBest_35 (lv_at hl 0 rfl) ?_
  refine lv_aload_n hx hb dX4_seekBest_37 rfl (lv_at hl 4 rfl) ?_
  refine z_get (C := RX4) (T := TX4) (N := 12) (ci := 4) (v := .ref mo) hx hb hT zin_X4 hown hK hw hm_pl hf_pl rfl 0 (by decide) (hT _ kw_384) rfl dX4_seekBest_38 ?_
  refine z_get (C := RX2) (T := TX2) (N := 11) (ci := 2) (v := .int v1) hx hb hT zin_X2 hown hK hw hm_mo hf_mo rfl 1 (by decide) (hT _ kw_208) rfl dX4_seekBest_41 ?_
  refine z_icmp_ge (tgt := 174) hx hb rfl rfl dX4_seekBest_44 (by decide) (fun c25 => ?_) (fun c25 => ?_)
  · skip
    refine lv_aload_n hx hb dX4_seekBest_174 rfl (lv_at hl 3 rfl) ?_
    refine lv_iload_n hx hb dX4_seekBest_175 rfl (lv_at hl 2 rfl) ?_
    obtain ⟨hm_dq1, do26, dg27, dd28, dh29, ds30, dl31, dp32, dm33, hf_dq1, hr_do26, hr_dg27, hr_dd28, hr_dh29, hr_ds30, hr_dl31, hr_dp32, hr_dm33⟩ := hd_da _ hi_dq1
    rw [← e_dq1] at hm_dq1 hf_dq1
    refine z_put (C := RX0) (T := TX0) (N := 8) (ci := 0) (v := .int dg3) (fs' := [.int do26, .int dg3, .int dd28, .int dh29, .int ds30, .int dl31, .int dp32, .int dm33]) hx hb hT zin_X0 tyX0_ok nmX0 hown hK hw hm_dq1 hf_dq1 rfl 1 (by decide) (hT _ kw_146) rfl rfl rfl (Nat.le_of_ble_eq_true rfl) rfl dX4_seekBest_176 (fun H locs hw => ?_)
    obtain ⟨f34, e_f34⟩ : ∃ z, z = va_up f15 dq1 (.inr (0, [.int do26, .int dg3, .int dd28, .int dh29, .int ds30, .int dl31, .int dp32, .int dm33])) := ⟨_, rfl⟩
    rw [← e_f34] at hw
    have hf_pl : f34 pl = .inr (4, [.ref mo, .ref wk, .ref ot, .int PA16, .int PG17, .int PH18, .int p6, .int p7, .int p8, .int p9, .int p10, .int p11]) := (congrFun e_f34 pl).trans (z_up_ne (z_tne hf_pl hf_dq1 (m := 4) (n := 0) rfl rfl (by decide)) hf_pl)
    have hf_ot : f34 ot = .inl (cy 1, 216, .inl g2_12) := (congrFun e_f34 ot).trans (z_up_ne (z_tne hf_ot hf_dq1 (m := 1828) (n := 0) rfl rfl (by decide)) hf_ot)
    have hf_wk : f34 wk = .inr (8, [.ref ks, .int WN19, .ref ct, .ref se, .ref ow, .int WT20, .int wd, .int wp]) := (congrFun e_f34 wk).trans (z_up_ne (z_tne hf_wk hf_dq1 (m := 8) (n := 0) rfl rfl (by decide)) hf_wk)
    have hf_ks : f34 ks = .inl (cy 1, 13, .inl G21) := (congrFun e_f34 ks).trans (z_up_ne (z_tne hf_ks hf_dq1 (m := 204) (n := 0) rfl rfl (by decide)) hf_ks)
    have hf_ct : f34 ct = .inl (cy 1, 4, .inl G22) := (congrFun e_f34 ct).trans (z_up_ne (z_tne hf_ct hf_dq1 (m := 132) (n := 0) rfl rfl (by decide)) hf_ct)
    have hf_se : f34 se = .inl (cy 1, 4, .inl G23) := (congrFun e_f34 se).trans (z_up_ne (z_tne hf_se hf_dq1 (m := 132) (n := 0) rfl rfl (by decide)) hf_se)
    have hf_ow : f34 ow = .inl (cy 1, 5, .inl G24) := (congrFun e_f34 ow).trans (z_up_ne (z_tne hf_ow hf_dq1 (m := 140) (n := 0) rfl rfl (by decide)) hf_ow)
    have hf_mo : f34 mo = .inr (2, [.int v0, .int v1, .int v2, .int v3, .int v4, .int v5, .int v6, .ref la, .ref sa, .ref mi, .ref da]) := (congrFun e_f34 mo).trans (z_up_ne (z_tne hf_mo hf_dq1 (m := 2) (n := 0) rfl rfl (by decide)) hf_mo)
    have hf_la : f34 la = .inl (cy 1, 5, .inl gl) := (congrFun e_f34 la).trans (z_up_ne (z_tne hf_la hf_dq1 (m := 140) (n := 0) rfl rfl (by decide)) hf_la)
    have hf_sa : f34 sa = .inl (cy 1, 4, .inl gs) := (congrFun e_f34 sa).trans (z_up_ne (z_tne hf_sa hf_dq1 (m := 132) (n := 0) rfl rfl (by decide)) hf_sa)
    have hf_mi : f34 mi = .inl (cy 1, 36, .inl gm) := (congrFun e_f34 mi).trans (z_up_ne (z_tne hf_mi hf_dq1 (m := 388) (n := 0) rfl rfl (by decide)) hf_mi)
    have hf_da : f34 da = .inl (cy 4, 13, .inr (.inr (.inr (.inr gd)))) := (congrFun e_f34 da).trans (z_up_ne (z_tne hf_da hf_dq1 (m := 206) (n := 0) rfl rfl (by decide)) hf_da)
    have hd_da : z_Drv L f34 dv 13 := z_Drv_set hd_da e_f34 ⟨_, _, _, _, _, _, _, _, rfl, by omega, by omega, by omega, by omega, by omega, by omega, by omega, by omega⟩
    have hf_dq1 : f34 dq1 = .inr (0, [.int do26, .int dg3, .int dd28, .int dh29, .int ds30, .int dl31, .int dp32, .int dm33]) := (congrFun e_f34 dq1).trans z_up_self
    have hfr : ∀ b ∈ L, b ≠ pl → b ≠ ot → b ≠ wk → b ≠ ks → b ≠ ct → b ≠ se → b ≠ ow → (∀ i : Nat, i < 13 → b ≠ dv i) → f34 b = f b := fun b hb h0 h1 h2 h3 h4 h5 h6 hp0 => (congrFun e_f34 b).trans (z_up_ne (by rw [e_dq1]; exact hp0 _ hi_dq1) (hfr b hb h0 h1 h2 h3 h4 h5 h6 hp0))
    refine lv_aload_n hx hb dX4_seekBest_179 rfl (lv_at hl 3 rfl) ?_
    refine lv_iload hx hb dX4_seekBest_180 (lv_at hl 1 rfl) ?_
    refine z_put (C := RX0) (T := TX0) (N := 8) (ci := 0) (v := .int dh5) (fs' := [.int do26, .int dg3, .int dd28, .int dh5, .int ds30, .int dl31, .int dp32, .int dm33]) hx hb hT zin_X0 tyX0_ok nmX0 hown hK hw hm_dq1 hf_dq1 rfl 3 (by decide) (hT _ kw_158) rfl rfl rfl (Nat.le_of_ble_eq_true rfl) rfl dX4_seekBest_182 (fun H locs hw => ?_)
    obtain ⟨f35, e_f35⟩ : ∃ z, z = va_up f34 dq1 (.inr (0, [.int do26, .int dg3, .int dd28, .int dh5, .int ds30, .int dl31, .int dp32, .int dm33])) := ⟨_, rfl⟩
    rw [← e_f35] at hw
    have hf_pl : f35 pl = .inr (4, [.ref mo, .ref wk, .ref ot, .int PA16, .int PG17, .int PH18, .int p6, .int p7, .int p8, .int p9, .int p10, .int p11]) := (congrFun e_f35 pl).trans (z_up_ne (z_tne hf_pl hf_dq1 (m := 4) (n := 0) rfl rfl (by decide)) hf_pl)
    have hf_ot : f35 ot = .inl (cy 1, 216, .inl g2_12) := (congrFun e_f35 ot).trans (z_up_ne (z_tne hf_ot hf_dq1 (m := 1828) (n := 0) rfl rfl (by decide)) hf_ot)
    have hf_wk : f35 wk = .inr (8, [.ref ks, .int WN19, .ref ct, .ref se, .ref ow, .int WT20, .int wd, .int wp]) := (congrFun e_f35 wk).trans (z_up_ne (z_tne hf_wk hf_dq1 (m := 8) (n := 0) rfl rfl (by decide)) hf_wk)
    have hf_ks : f35 ks = .inl (cy 1, 13, .inl G21) := (congrFun e_f35 ks).trans (z_up_ne (z_tne hf_ks hf_dq1 (m := 204) (n := 0) rfl rfl (by decide)) hf_ks)
    have hf_ct : f35 ct = .inl (cy 1, 4, .inl G22) := (congrFun e_f35 ct).trans (z_up_ne (z_tne hf_ct hf_dq1 (m := 132) (n := 0) rfl rfl (by decide)) hf_ct)
    have hf_se : f35 se = .inl (cy 1, 4, .inl G23) := (congrFun e_f35 se).trans (z_up_ne (z_tne hf_se hf_dq1 (m := 132) (n := 0) rfl rfl (by decide)) hf_se)
    have hf_ow : f35 ow = .inl (cy 1, 5, .inl G24) := (congrFun e_f35 ow).trans (z_up_ne (z_tne hf_ow hf_dq1 (m := 140) (n := 0) rfl rfl (by decide)) hf_ow)
    have hf_mo : f35 mo = .inr (2, [.int v0, .int v1, .int v2, .int v3, .int v4, .int v5, .int v6, .ref la, .ref sa, .ref mi, .ref da]) := (congrFun e_f35 mo).trans (z_up_ne (z_tne hf_mo hf_dq1 (m := 2) (n := 0) rfl rfl (by decide)) hf_mo)
    have hf_la : f35 la = .inl (cy 1, 5, .inl gl) := (congrFun e_f35 la).trans (z_up_ne (z_tne hf_la hf_dq1 (m := 140) (n := 0) rfl rfl (by decide)) hf_la)
    have hf_sa : f35 sa = .inl (cy 1, 4, .inl gs) := (congrFun e_f35 sa).trans (z_up_ne (z_tne hf_sa hf_dq1 (m := 132) (n := 0) rfl rfl (by decide)) hf_sa)
    have hf_mi : f35 mi = .inl (cy 1, 36, .inl gm) := (congrFun e_f35 mi).trans (z_up_ne (z_tne hf_mi hf_dq1 (m := 388) (n := 0) rfl rfl (by decide)) hf_mi)
    have hf_da : f35 da = .inl (cy 4, 13, .inr (.inr (.inr (.inr gd)))) := (congrFun e_f35 da).trans (z_up_ne (z_tne hf_da hf_dq1 (m := 206) (n := 0) rfl rfl (by decide)) hf_da)
    have hd_da : z_Drv L f35 dv 13 := z_Drv_set hd_da e_f35 ⟨_, _, _, _, _, _, _, _, rfl, by omega, by omega, by omega, by omega, by omega, by omega, by omega, by omega⟩
    have hf_dq1 : f35 dq1 = .inr (0, [.int do26, .int dg3, .int dd28, .int dh5, .int ds30, .int dl31, .int dp32, .int dm33]) := (congrFun e_f35 dq1).trans z_up_self
    have hfr : ∀ b ∈ L, b ≠ pl → b ≠ ot → b ≠ wk → b ≠ ks → b ≠ ct → b ≠ se → b ≠ ow → (∀ i : Nat, i < 13 → b ≠ dv i) → f35 b = f b := fun b hb h0 h1 h2 h3 h4 h5 h6 hp0 => (congrFun e_f35 b).trans (z_up_ne (by rw [e_dq1]; exact hp0 _ hi_dq1) (hfr b hb h0 h1 h2 h3 h4 h5 h6 hp0))
    exact z_vret hx hb hr hlk (by decide) (by decide) hw (⟨hsub, hfr, WN19, WT20, PA16, PG17, PH18, G21, G22, G23, G24, g2_12, hf_pl, hf_ot, hf_wk, hf_ks, hf_ct, hf_se, hf_ow, hd_da, by omega, by omega, by omega, hi3⟩) dX4_seekBest_185
  · skip
    refine lv_aload_n hx hb dX4_seekBest_47 rfl (lv_at hl 4 rfl) ?_
    refine z_get (C := RX4) (T := TX4) (N := 12) (ci := 4) (v := .int PA16) hx hb hT zin_X4 hown hK hw hm_pl hf_pl rfl 3 (by decide) (hT _ kw_388) rfl dX4_seekBest_48 ?_
    refine z_if_le (tgt := 174) hx hb rfl dX4_seekBest_51 (by decide) (fun c36 => ?_) (fun c36 => ?_)
    · skip
      refine lv_aload_n hx hb dX4_seekBest_174 rfl (lv_at hl 3 rfl) ?_
      refine lv_iload_n hx hb dX4_seekBest_175 rfl (lv_at hl 2 rfl) ?_
      obtain ⟨hm_dq1, do37, dg38, dd39, dh40, ds41, dl42, dp43, dm44, hf_dq1, hr_do37, hr_dg38, hr_dd39, hr_dh40, hr_ds41, hr_dl42, hr_dp43, hr_dm44⟩ := hd_da _ hi_dq1
      rw [← e_dq1] at hm_dq1 hf_dq1
      refine z_put (C := RX0) (T := TX0) (N := 8) (ci := 0) (v := .int dg3) (fs' := [.int do37, .int dg3, .int dd39, .int dh40, .int ds41, .int dl42, .int dp43, .int dm44]) hx hb hT zin_X0 tyX0_ok nmX0 hown hK hw hm_dq1 hf_dq1 rfl 1 (by decide) (hT _ kw_146) rfl rfl rfl (Nat.le_of_ble_eq_true rfl) rfl dX4_seekBest_176 (fun H locs hw => ?_)
      obtain ⟨f45, e_f45⟩ : ∃ z, z = va_up f15 dq1 (.inr (0, [.int do37, .int dg3, .int dd39, .int dh40, .int ds41, .int dl42, .int dp43, .int dm44])) := ⟨_, rfl⟩
      rw [← e_f45] at hw
      have hf_pl : f45 pl = .inr (4, [.ref mo, .ref wk, .ref ot, .int PA16, .int PG17, .int PH18, .int p6, .int p7, .int p8, .int p9, .int p10, .int p11]) := (congrFun e_f45 pl).trans (z_up_ne (z_tne hf_pl hf_dq1 (m := 4) (n := 0) rfl rfl (by decide)) hf_pl)
      have hf_ot : f45 ot = .inl (cy 1, 216, .inl g2_12) := (congrFun e_f45 ot).trans (z_up_ne (z_tne hf_ot hf_dq1 (m := 1828) (n := 0) rfl rfl (by decide)) hf_ot)
      have hf_wk : f45 wk = .inr (8, [.ref ks, .int WN19, .ref ct, .ref se, .ref ow, .int WT20, .int wd, .int wp]) := (congrFun e_f45 wk).trans (z_up_ne (z_tne hf_wk hf_dq1 (m := 8) (n := 0) rfl rfl (by decide)) hf_wk)
      have hf_ks : f45 ks = .inl (cy 1, 13, .inl G21) := (congrFun e_f45 ks).trans (z_up_ne (z_tne hf_ks hf_dq1 (m := 204) (n := 0) rfl rfl (by decide)) hf_ks)
      have hf_ct : f45 ct = .inl (cy 1, 4, .inl G22) := (congrFun e_f45 ct).trans (z_up_ne (z_tne hf_ct hf_dq1 (m := 132) (n := 0) rfl rfl (by decide)) hf_ct)
      have hf_se : f45 se = .inl (cy 1, 4, .inl G23) := (congrFun e_f45 se).trans (z_up_ne (z_tne hf_se hf_dq1 (m := 132) (n := 0) rfl rfl (by decide)) hf_se)
      have hf_ow : f45 ow = .inl (cy 1, 5, .inl G24) := (congrFun e_f45 ow).trans (z_up_ne (z_tne hf_ow hf_dq1 (m := 140) (n := 0) rfl rfl (by decide)) hf_ow)
      have hf_mo : f45 mo = .inr (2, [.int v0, .int v1, .int v2, .int v3, .int v4, .int v5, .int v6, .ref la, .ref sa, .ref mi, .ref da]) := (congrFun e_f45 mo).trans (z_up_ne (z_tne hf_mo hf_dq1 (m := 2) (n := 0) rfl rfl (by decide)) hf_mo)
      have hf_la : f45 la = .inl (cy 1, 5, .inl gl) := (congrFun e_f45 la).trans (z_up_ne (z_tne hf_la hf_dq1 (m := 140) (n := 0) rfl rfl (by decide)) hf_la)
      have hf_sa : f45 sa = .inl (cy 1, 4, .inl gs) := (congrFun e_f45 sa).trans (z_up_ne (z_tne hf_sa hf_dq1 (m := 132) (n := 0) rfl rfl (by decide)) hf_sa)
      have hf_mi : f45 mi = .inl (cy 1, 36, .inl gm) := (congrFun e_f45 mi).trans (z_up_ne (z_tne hf_mi hf_dq1 (m := 388) (n := 0) rfl rfl (by decide)) hf_mi)
      have hf_da : f45 da = .inl (cy 4, 13, .inr (.inr (.inr (.inr gd)))) := (congrFun e_f45 da).trans (z_up_ne (z_tne hf_da hf_dq1 (m := 206) (n := 0) rfl rfl (by decide)) hf_da)
      have hd_da : z_Drv L f45 dv 13 := z_Drv_set hd_da e_f45 ⟨_, _, _, _, _, _, _, _, rfl, by omega, by omega, by omega, by omega, by omega, by omega, by omega, by omega⟩
      have hf_dq1 : f45 dq1 = .inr (0, [.int do37, .int dg3, .int dd39, .int dh40, .int ds41, .int dl42, .int dp43, .int dm44]) := (congrFun e_f45 dq1).trans z_up_self
      have hfr : ∀ b ∈ L, b ≠ pl → b ≠ ot → b ≠ wk → b ≠ ks → b ≠ ct → b ≠ se → b ≠ ow → (∀ i : Nat, i < 13 → b ≠ dv i) → f45 b = f b := fun b hb h0 h1 h2 h3 h4 h5 h6 hp0 => (congrFun e_f45 b).trans (z_up_ne (by rw [e_dq1]; exact hp0 _ hi_dq1) (hfr b hb h0 h1 h2 h3 h4 h5 h6 hp0))
      refine lv_aload_n hx hb dX4_seekBest_179 rfl (lv_at hl 3 rfl) ?_
      refine lv_iload hx hb dX4_seekBest_180 (lv_at hl 1 rfl) ?_
      refine z_put (C := RX0) (T := TX0) (N := 8) (ci := 0) (v := .int dh5) (fs' := [.int do37, .int dg3, .int dd39, .int dh5, .int ds41, .int dl42, .int dp43, .int dm44]) hx hb hT zin_X0 tyX0_ok nmX0 hown hK hw hm_dq1 hf_dq1 rfl 3 (by decide) (hT _ kw_158) rfl rfl rfl (Nat.le_of_ble_eq_true rfl) rfl dX4_seekBest_182 (fun H locs hw => ?_)
      obtain ⟨f46, e_f46⟩ : ∃ z, z = va_up f45 dq1 (.inr (0, [.int do37, .int dg3, .int dd39, .int dh5, .int ds41, .int dl42, .int dp43, .int dm44])) := ⟨_, rfl⟩
      rw [← e_f46] at hw
      have hf_pl : f46 pl = .inr (4, [.ref mo, .ref wk, .ref ot, .int PA16, .int PG17, .int PH18, .int p6, .int p7, .int p8, .int p9, .int p10, .int p11]) := (congrFun e_f46 pl).trans (z_up_ne (z_tne hf_pl hf_dq1 (m := 4) (n := 0) rfl rfl (by decide)) hf_pl)
      have hf_ot : f46 ot = .inl (cy 1, 216, .inl g2_12) := (congrFun e_f46 ot).trans (z_up_ne (z_tne hf_ot hf_dq1 (m := 1828) (n := 0) rfl rfl (by decide)) hf_ot)
      have hf_wk : f46 wk = .inr (8, [.ref ks, .int WN19, .ref ct, .ref se, .ref ow, .int WT20, .int wd, .int wp]) := (congrFun e_f46 wk).trans (z_up_ne (z_tne hf_wk hf_dq1 (m := 8) (n := 0) rfl rfl (by decide)) hf_wk)
      have hf_ks : f46 ks = .inl (cy 1, 13, .inl G21) := (congrFun e_f46 ks).trans (z_up_ne (z_tne hf_ks hf_dq1 (m := 204) (n := 0) rfl rfl (by decide)) hf_ks)
      have hf_ct : f46 ct = .inl (cy 1, 4, .inl G22) := (congrFun e_f46 ct).trans (z_up_ne (z_tne hf_ct hf_dq1 (m := 132) (n := 0) rfl rfl (by decide)) hf_ct)
      have hf_se : f46 se = .inl (cy 1, 4, .inl G23) := (congrFun e_f46 se).trans (z_up_ne (z_tne hf_se hf_dq1 (m := 132) (n := 0) rfl rfl (by decide)) hf_se)
      have hf_ow : f46 ow = .inl (cy 1, 5, .inl G24) := (congrFun e_f46 ow).trans (z_up_ne (z_tne hf_ow hf_dq1 (m := 140) (n := 0) rfl rfl (by decide)) hf_ow)
      have hf_mo : f46 mo = .inr (2, [.int v0, .int v1, .int v2, .int v3, .int v4, .int v5, .int v6, .ref la, .ref sa, .ref mi, .ref da]) := (congrFun e_f46 mo).trans (z_up_ne (z_tne hf_mo hf_dq1 (m := 2) (n := 0) rfl rfl (by decide)) hf_mo)
      have hf_la : f46 la = .inl (cy 1, 5, .inl gl) := (congrFun e_f46 la).trans (z_up_ne (z_tne hf_la hf_dq1 (m := 140) (n := 0) rfl rfl (by decide)) hf_la)
      have hf_sa : f46 sa = .inl (cy 1, 4, .inl gs) := (congrFun e_f46 sa).trans (z_up_ne (z_tne hf_sa hf_dq1 (m := 132) (n := 0) rfl rfl (by decide)) hf_sa)
      have hf_mi : f46 mi = .inl (cy 1, 36, .inl gm) := (congrFun e_f46 mi).trans (z_up_ne (z_tne hf_mi hf_dq1 (m := 388) (n := 0) rfl rfl (by decide)) hf_mi)
      have hf_da : f46 da = .inl (cy 4, 13, .inr (.inr (.inr (.inr gd)))) := (congrFun e_f46 da).trans (z_up_ne (z_tne hf_da hf_dq1 (m := 206) (n := 0) rfl rfl (by decide)) hf_da)
      have hd_da : z_Drv L f46 dv 13 := z_Drv_set hd_da e_f46 ⟨_, _, _, _, _, _, _, _, rfl, by omega, by omega, by omega, by omega, by omega, by omega, by omega, by omega⟩
      have hf_dq1 : f46 dq1 = .inr (0, [.int do37, .int dg3, .int dd39, .int dh5, .int ds41, .int dl42, .int dp43, .int dm44]) := (congrFun e_f46 dq1).trans z_up_self
      have hfr : ∀ b ∈ L, b ≠ pl → b ≠ ot → b ≠ wk → b ≠ ks → b ≠ ct → b ≠ se → b ≠ ow → (∀ i : Nat, i < 13 → b ≠ dv i) → f46 b = f b := fun b hb h0 h1 h2 h3 h4 h5 h6 hp0 => (congrFun e_f46 b).trans (z_up_ne (by rw [e_dq1]; exact hp0 _ hi_dq1) (hfr b hb h0 h1 h2 h3 h4 h5 h6 hp0))
      exact z_vret hx hb hr hlk (by decide) (by decide) hw (⟨hsub, hfr, WN19, WT20, PA16, PG17, PH18, G21, G22, G23, G24, g2_12, hf_pl, hf_ot, hf_wk, hf_ks, hf_ct, hf_se, hf_ow, hd_da, by omega, by omega, by omega, hi3⟩) dX4_seekBest_185
    · skip
      refine lv_aload_n hx hb dX4_seekBest_54 rfl (lv_at hl 3 rfl) ?_
      refine lv_iload hx hb dX4_seekBest_55 (lv_at hl 0 rfl) ?_
      obtain ⟨hm_dq1, do47, dg48, dd49, dh50, ds51, dl52, dp53, dm54, hf_dq1, hr_do47, hr_dg48, hr_dd49, hr_dh50, hr_ds51, hr_dl52, hr_dp53, hr_dm54⟩ := hd_da _ hi_dq1
      rw [← e_dq1] at hm_dq1 hf_dq1
      refine z_put (C := RX0) (T := TX0) (N := 8) (ci := 0) (v := .int K14) (fs' := [.int do47, .int K14, .int dd49, .int dh50, .int ds51, .int dl52, .int dp53, .int dm54]) hx hb hT zin_X0 tyX0_ok nmX0 hown hK hw hm_dq1 hf_dq1 rfl 1 (by decide) (hT _ kw_146) rfl rfl rfl (Nat.le_of_ble_eq_true rfl) rfl dX4_seekBest_57 (fun H locs hw => ?_)
      obtain ⟨f55, e_f55⟩ : ∃ z, z = va_up f15 dq1 (.inr (0, [.int do47, .int K14, .int dd49, .int dh50, .int ds51, .int dl52, .int dp53, .int dm54])) := ⟨_, rfl⟩
      rw [← e_f55] at hw
      have hf_pl : f55 pl = .inr (4, [.ref mo, .ref wk, .ref ot, .int PA16, .int PG17, .int PH18, .int p6, .int p7, .int p8, .int p9, .int p10, .int p11]) := (congrFun e_f55 pl).trans (z_up_ne (z_tne hf_pl hf_dq1 (m := 4) (n := 0) rfl rfl (by decide)) hf_pl)
      have hf_ot : f55 ot = .inl (cy 1, 216, .inl g2_12) := (congrFun e_f55 ot).trans (z_up_ne (z_tne hf_ot hf_dq1 (m := 1828) (n := 0) rfl rfl (by decide)) hf_ot)
      have hf_wk : f55 wk = .inr (8, [.ref ks, .int WN19, .ref ct, .ref se, .ref ow, .int WT20, .int wd, .int wp]) := (congrFun e_f55 wk).trans (z_up_ne (z_tne hf_wk hf_dq1 (m := 8) (n := 0) rfl rfl (by decide)) hf_wk)
      have hf_ks : f55 ks = .inl (cy 1, 13, .inl G21) := (congrFun e_f55 ks).trans (z_up_ne (z_tne hf_ks hf_dq1 (m := 204) (n := 0) rfl rfl (by decide)) hf_ks)
      have hf_ct : f55 ct = .inl (cy 1, 4, .inl G22) := (congrFun e_f55 ct).trans (z_up_ne (z_tne hf_ct hf_dq1 (m := 132) (n := 0) rfl rfl (by decide)) hf_ct)
      have hf_se : f55 se = .inl (cy 1, 4, .inl G23) := (congrFun e_f55 se).trans (z_up_ne (z_tne hf_se hf_dq1 (m := 132) (n := 0) rfl rfl (by decide)) hf_se)
      have hf_ow : f55 ow = .inl (cy 1, 5, .inl G24) := (congrFun e_f55 ow).trans (z_up_ne (z_tne hf_ow hf_dq1 (m := 140) (n := 0) rfl rfl (by decide)) hf_ow)
      have hf_mo : f55 mo = .inr (2, [.int v0, .int v1, .int v2, .int v3, .int v4, .int v5, .int v6, .ref la, .ref sa, .ref mi, .ref da]) := (congrFun e_f55 mo).trans (z_up_ne (z_tne hf_mo hf_dq1 (m := 2) (n := 0) rfl rfl (by decide)) hf_mo)
      have hf_la : f55 la = .inl (cy 1, 5, .inl gl) := (congrFun e_f55 la).trans (z_up_ne (z_tne hf_la hf_dq1 (m := 140) (n := 0) rfl rfl (by decide)) hf_la)
      have hf_sa : f55 sa = .inl (cy 1, 4, .inl gs) := (congrFun e_f55 sa).trans (z_up_ne (z_tne hf_sa hf_dq1 (m := 132) (n := 0) rfl rfl (by decide)) hf_sa)
      have hf_mi : f55 mi = .inl (cy 1, 36, .inl gm) := (congrFun e_f55 mi).trans (z_up_ne (z_tne hf_mi hf_dq1 (m := 388) (n := 0) rfl rfl (by decide)) hf_mi)
      have hf_da : f55 da = .inl (cy 4, 13, .inr (.inr (.inr (.inr gd)))) := (congrFun e_f55 da).trans (z_up_ne (z_tne hf_da hf_dq1 (m := 206) (n := 0) rfl rfl (by decide)) hf_da)
      have hd_da : z_Drv L f55 dv 13 := z_Drv_set hd_da e_f55 ⟨_, _, _, _, _, _, _, _, rfl, by omega, by omega, by omega, by omega, by omega, by omega, by omega, by omega⟩
      have hf_dq1 : f55 dq1 = .inr (0, [.int do47, .int K14, .int dd49, .int dh50, .int ds51, .int dl52, .int dp53, .int dm54]) := (congrFun e_f55 dq1).trans z_up_self
      have hfr : ∀ b ∈ L, b ≠ pl → b ≠ ot → b ≠ wk → b ≠ ks → b ≠ ct → b ≠ se → b ≠ ow → (∀ i : Nat, i < 13 → b ≠ dv i) → f55 b = f b := fun b hb h0 h1 h2 h3 h4 h5 h6 hp0 => (congrFun e_f55 b).trans (z_up_ne (by rw [e_dq1]; exact hp0 _ hi_dq1) (hfr b hb h0 h1 h2 h3 h4 h5 h6 hp0))
      refine lv_iconst (v := 0) hx hb dX4_seekBest_60 (by decide) ?_
      refine lv_istore (lv' := [(6, .int 0), (5, .int K14), (4, .int dh5), (3, .int dg3), (2, .ref dq1), (0, .ref pl), (1, .int nu)]) hx hb dX4_seekBest_61 hl (by decide) rfl (fun ls hl => ?_)
      have hzk : (0 : Int32).toInt = 0 := by decide
      refine z_loop (fun n H locs ls => ∃ (K56 : Int32) (G63 : Nat → Int32) (G64 : Nat → Int32) (G65 : Nat → Int32) (G66 : Nat → Int32) (PA58 : Int32) (PG59 : Int32) (PH60 : Int32) (WN61 : Int32) (WT62 : Int32) (f57 : Nat → va_E), (n = (24 - K56.toInt).toNat) ∧ (0 ≤ K56.toInt) ∧ (K56.toInt ≤ 24) ∧ (0 ≤ PG59.toInt ∧ PG59.toInt ≤ 3) ∧ (0 ≤ PH60.toInt ∧ PH60.toInt ≤ 23) ∧ (0 ≤ WN61.toInt ∧ WN61.toInt ≤ 13) ∧ (∀ j : Nat, z_key (G63 j)) ∧ (z_H D vwCl (z_A L sz) s.heap L f57 H locs) ∧ (f57 pl = .inr (4, [.ref mo, .ref wk, .ref ot, .int PA58, .int PG59, .int PH60, .int p6, .int p7, .int p8, .int p9, .int p10, .int p11])) ∧ (f57 ot = .inl (cy 1, 216, .inl g2_12)) ∧ (f57 wk = .inr (8, [.ref ks, .int WN61, .ref ct, .ref se, .ref ow, .int WT62, .int wd, .int wp])) ∧ (f57 ks = .inl (cy 1, 13, .inl G63)) ∧ (f57 ct = .inl (cy 1, 4, .inl G64)) ∧ (f57 se = .inl (cy 1, 4, .inl G65)) ∧ (f57 ow = .inl (cy 1, 5, .inl G66)) ∧ (f57 mo = .inr (2, [.int v0, .int v1, .int v2, .int v3, .int v4, .int v5, .int v6, .ref la, .ref sa, .ref mi, .ref da])) ∧ (f57 la = .inl (cy 1, 5, .inl gl)) ∧ (f57 sa = .inl (cy 1, 4, .inl gs)) ∧ (f57 mi = .inl (cy 1, 36, .inl gm)) ∧ (f57 da = .inl (cy 4, 13, .inr (.inr (.inr (.inr gd))))) ∧ (∀ b ∈ L, b ≠ pl → b ≠ ot → b ≠ wk → b ≠ ks → b ≠ ct → b ≠ se → b ≠ ow → (∀ i : Nat, i < 13 → b ≠ dv i) → f57 b = f b) ∧ (z_Drv L f57 dv 13) ∧ (lv_has ls 8 [(6, .int K56), (5, .int K14), (4, .int dh5), (3, .int dg3), (2, .ref dq1), (0, .ref pl), (1, .int nu)])) _ ⟨0, G21, G22, G23, G24, PA16, PG17, PH18, WN19, WT20, f55, rfl, (by first | decide | omega), (by first | decide | omega), (by omega), (by omega), (by omega), hi3, hw, hf_pl, hf_ot, hf_wk, hf_ks, hf_ct, hf_se, hf_ow, hf_mo, hf_la, hf_sa, hf_mi, hf_da, hfr, hd_da, (lv_sub hl [0, 1, 2, 3, 4, 5, 6] rfl)⟩ (fun n H locs ls hI ih_63 => ?_)
      obtain ⟨K56, G63, G64, G65, G66, PA58, PG59, PH60, WN61, WT62, f57, hn, hk0, hk1, hi0, hi1, hi2, hi3, hw, hf_pl, hf_ot, hf_wk, hf_ks, hf_ct, hf_se, hf_ow, hf_mo, hf_la, hf_sa, hf_mi, hf_da, hfr, hd_da, hl⟩ := hI
      refine lv_iload hx hb dX4_seekBest_63 (lv_at hl 0 rfl) ?_
      refine lv_bipush (v := 24) hx hb dX4_seekBest_65 (by decide) ?_
      refine z_icmp_ge (tgt := 168) hx hb rfl (show (24 : Int32).toInt = 24 by decide) dX4_seekBest_67 (by decide) (fun c67 => ?_) (fun c67 => ?_)
      · skip
        obtain ⟨k68, e_k68⟩ : ∃ z : Int32, z = K14 + 1 := ⟨_, rfl⟩
        refine lv_iinc (v := k68) (lv' := [(5, .int k68), (6, .int K56), (4, .int dh5), (3, .int dg3), (2, .ref dq1), (0, .ref pl), (1, .int nu)]) hx hb dX4_seekBest_168 hl (k := 1) rfl (by rw [e_k68]; rfl) (by decide) rfl (fun ls hl => ?_)
        have i_k68 : k68.toInt = (K14.toInt + 1) := z_add e_k68 rfl (by decide) (by omega)
        refine lv_goto (tgt := 35) hx hb dX4_seekBest_171 (by decide) ?_
        exact ih_35 _ (by omega) _ _ _ ⟨k68, G63, G64, G65, G66, PA58, PG59, PH60, WN61, WT62, f57, rfl, (by first | decide | omega), (by first | decide | omega), (by omega), (by omega), (by omega), hi3, hw, hf_pl, hf_ot, hf_wk, hf_ks, hf_ct, hf_se, hf_ow, hf_mo, hf_la, hf_sa, hf_mi, hf_da, hfr, hd_da, (lv_sub hl [0, 2, 3, 4, 5, 6] rfl)⟩
      · skip
        refine lv_aload_n hx hb dX4_seekBest_70 rfl (lv_at hl 5 rfl) ?_
        refine z_get (C := RX4) (T := TX4) (N := 12) (ci := 4) (v := .int PA58) hx hb hT zin_X4 hown hK hw hm_pl hf_pl rfl 3 (by decide) (hT _ kw_388) rfl dX4_seekBest_71 ?_
        refine z_if_le (tgt := 168) hx hb rfl dX4_seekBest_74 (by decide) (fun c69 => ?_) (fun c69 => ?_)
        · skip
          obtain ⟨k70, e_k70⟩ : ∃ z : Int32, z = K14 + 1 := ⟨_, rfl⟩
          refine lv_iinc (v := k70) (lv' := [(5, .int k70), (6, .int K56), (4, .int dh5), (3, .int dg3), (2, .ref dq1), (0, .ref pl), (1, .int nu)]) hx hb dX4_seekBest_168 hl (k := 1) rfl (by rw [e_k70]; rfl) (by decide) rfl (fun ls hl => ?_)
          have i_k70 : k70.toInt = (K14.toInt + 1) := z_add e_k70 rfl (by decide) (by omega)
          refine lv_goto (tgt := 35) hx hb dX4_seekBest_171 (by decide) ?_
          exact ih_35 _ (by omega) _ _ _ ⟨k70, G63, G64, G65, G66, PA58, PG59, PH60, WN61, WT62, f57, rfl, (by first | decide | omega), (by first | decide | omega), (by omega), (by omega), (by omega), hi3, hw, hf_pl, hf_ot, hf_wk, hf_ks, hf_ct, hf_se, hf_ow, hf_mo, hf_la, hf_sa, hf_mi, hf_da, hfr, hd_da, (lv_sub hl [0, 2, 3, 4, 5, 6] rfl)⟩
        · skip
          refine lv_aload_n hx hb dX4_seekBest_77 rfl (lv_at hl 4 rfl) ?_
          refine lv_iload hx hb dX4_seekBest_78 (lv_at hl 0 rfl) ?_
          obtain ⟨hm_dq1, do71, dg72, dd73, dh74, ds75, dl76, dp77, dm78, hf_dq1, hr_do71, hr_dg72, hr_dd73, hr_dh74, hr_ds75, hr_dl76, hr_dp77, hr_dm78⟩ := hd_da _ hi_dq1
          rw [← e_dq1] at hm_dq1 hf_dq1
          refine z_put (C := RX0) (T := TX0) (N := 8) (ci := 0) (v := .int K56) (fs' := [.int do71, .int dg72, .int dd73, .int K56, .int ds75, .int dl76, .int dp77, .int dm78]) hx hb hT zin_X0 tyX0_ok nmX0 hown hK hw hm_dq1 hf_dq1 rfl 3 (by decide) (hT _ kw_158) rfl rfl rfl (Nat.le_of_ble_eq_true rfl) rfl dX4_seekBest_80 (fun H locs hw => ?_)
          obtain ⟨f79, e_f79⟩ : ∃ z, z = va_up f57 dq1 (.inr (0, [.int do71, .int dg72, .int dd73, .int K56, .int ds75, .int dl76, .int dp77, .int dm78])) := ⟨_, rfl⟩
          rw [← e_f79] at hw
          have hf_pl : f79 pl = .inr (4, [.ref mo, .ref wk, .ref ot, .int PA58, .int PG59, .int PH60, .int p6, .int p7, .int p8, .int p9, .int p10, .int p11]) := (congrFun e_f79 pl).trans (z_up_ne (z_tne hf_pl hf_dq1 (m := 4) (n := 0) rfl rfl (by decide)) hf_pl)
          have hf_ot : f79 ot = .inl (cy 1, 216, .inl g2_12) := (congrFun e_f79 ot).trans (z_up_ne (z_tne hf_ot hf_dq1 (m := 1828) (n := 0) rfl rfl (by decide)) hf_ot)
          have hf_wk : f79 wk = .inr (8, [.ref ks, .int WN61, .ref ct, .ref se, .ref ow, .int WT62, .int wd, .int wp]) := (congrFun e_f79 wk).trans (z_up_ne (z_tne hf_wk hf_dq1 (m := 8) (n := 0) rfl rfl (by decide)) hf_wk)
          have hf_ks : f79 ks = .inl (cy 1, 13, .inl G63) := (congrFun e_f79 ks).trans (z_up_ne (z_tne hf_ks hf_dq1 (m := 204) (n := 0) rfl rfl (by decide)) hf_ks)
          have hf_ct : f79 ct = .inl (cy 1, 4, .inl G64) := (congrFun e_f79 ct).trans (z_up_ne (z_tne hf_ct hf_dq1 (m := 132) (n := 0) rfl rfl (by decide)) hf_ct)
          have hf_se : f79 se = .inl (cy 1, 4, .inl G65) := (congrFun e_f79 se).trans (z_up_ne (z_tne hf_se hf_dq1 (m := 132) (n := 0) rfl rfl (by decide)) hf_se)
          have hf_ow : f79 ow = .inl (cy 1, 5, .inl G66) := (congrFun e_f79 ow).trans (z_up_ne (z_tne hf_ow hf_dq1 (m := 140) (n := 0) rfl rfl (by decide)) hf_ow)
          have hf_mo : f79 mo = .inr (2, [.int v0, .int v1, .int v2, .int v3, .int v4, .int v5, .int v6, .ref la, .ref sa, .ref mi, .ref da]) := (congrFun e_f79 mo).trans (z_up_ne (z_tne hf_mo hf_dq1 (m := 2) (n := 0) rfl rfl (by decide)) hf_mo)
          have hf_la : f79 la = .inl (cy 1, 5, .inl gl) := (congrFun e_f79 la).trans (z_up_ne (z_tne hf_la hf_dq1 (m := 140) (n := 0) rfl rfl (by decide)) hf_la)
          have hf_sa : f79 sa = .inl (cy 1, 4, .inl gs) := (congrFun e_f79 sa).trans (z_up_ne (z_tne hf_sa hf_dq1 (m := 132) (n := 0) rfl rfl (by decide)) hf_sa)
          have hf_mi : f79 mi = .inl (cy 1, 36, .inl gm) := (congrFun e_f79 mi).trans (z_up_ne (z_tne hf_mi hf_dq1 (m := 388) (n := 0) rfl rfl (by decide)) hf_mi)
          have hf_da : f79 da = .inl (cy 4, 13, .inr (.inr (.inr (.inr gd)))) := (congrFun e_f79 da).trans (z_up_ne (z_tne hf_da hf_dq1 (m := 206) (n := 0) rfl rfl (by decide)) hf_da)
          have hd_da : z_Drv L f79 dv 13 := z_Drv_set hd_da e_f79 ⟨_, _, _, _, _, _, _, _, rfl, by omega, by omega, by omega, by omega, by omega, by omega, by omega, by omega⟩
          have hf_dq1 : f79 dq1 = .inr (0, [.int do71, .int dg72, .int dd73, .int K56, .int ds75, .int dl76, .int dp77, .int dm78]) := (congrFun e_f79 dq1).trans z_up_self
          have hfr : ∀ b ∈ L, b ≠ pl → b ≠ ot → b ≠ wk → b ≠ ks → b ≠ ct → b ≠ se → b ≠ ow → (∀ i : Nat, i < 13 → b ≠ dv i) → f79 b = f b := fun b hb h0 h1 h2 h3 h4 h5 h6 hp0 => (congrFun e_f79 b).trans (z_up_ne (by rw [e_dq1]; exact hp0 _ hi_dq1) (hfr b hb h0 h1 h2 h3 h4 h5 h6 hp0))
          refine lv_iload hx hb dX4_seekBest_83 (lv_at hl 0 rfl) ?_
          refine z_if_le (tgt := 99) hx hb rfl dX4_seekBest_85 (by decide) (fun c80 => ?_) (fun c80 => ?_)
          · skip
            refine lv_aload_n hx hb dX4_seekBest_99 rfl (lv_at hl 5 rfl) ?_
            refine z_get (C := RX4) (T := TX4) (N := 12) (ci := 4) (v := .ref wk) hx hb hT zin_X4 hown hK hw hm_pl hf_pl rfl 1 (by decide) (hT _ kw_386) rfl dX4_seekBest_100 ?_
            refine lv_aload_n hx hb dX4_seekBest_103 rfl (lv_at hl 5 rfl) ?_
            refine z_get (C := RX4) (T := TX4) (N := 12) (ci := 4) (v := .ref mo) hx hb hT zin_X4 hown hK hw hm_pl hf_pl rfl 0 (by decide) (hT _ kw_384) rfl dX4_seekBest_104 ?_
            refine z_calliV (cells := 0) (slots := 0) (b := wk) (As := [.ref mo]) (rest := []) (ci := 8) (q0 := (RX8, TX8, 8)) ⟨hx, hb, hml, hown, hT⟩ (c_X8_tally l hm_wk hm_ks hm_ct hm_se hm_ow hm_mo hm_la hm_sa hm_mi hm_da hf_wk hf_ks hf_ct hf_se hf_ow hf_mo hf_la hf_sa hf_mi hf_da ne_ct_se ne_ct_sa ne_se_sa ne_ow_la hg_da hd_da (by first | omega | decide | assumption) (by first | omega | decide | assumption) hi3 hgm) (cwV 1 hT (z_goodV (fun _ h => h) kw_919 kw_835 kw_836 kw_92 kw_837) rfl rfl rfl (by decide +kernel) ⟨by decide, by decide⟩) z_mv hKK hK hw hA hm_wk hf_wk rfl rfl rfl hl.1 rfl (Nat.le_of_ble_eq_true rfl) dX4_seekBest_107 ⟨by decide, by decide⟩ (fun r81 u H locs hp hw => ?_)
            obtain ⟨L82, f83⟩ := u
            obtain ⟨hsb, hfm, w2_84, t2_85, k2_86, c2_87, q2_88, o2_89, ha_0, ha_1, ha_2, ha_3, ha_4, hp⟩ := hp
            have hsb : L = L82 := hsb
            subst hsb
            have hsb : ∀ b ∈ L, b ∈ L := fun _ h => h
            have hw : z_H D vwCl (z_A L sz) s.heap L f83 H locs := hw
            have hfr : ∀ b ∈ L, b ≠ pl → b ≠ ot → b ≠ wk → b ≠ ks → b ≠ ct → b ≠ se → b ≠ ow → (∀ i : Nat, i < 13 → b ≠ dv i) → f83 b = f b := fun b hb h0 h1 h2 h3 h4 h5 h6 hp0 => (hfm b hb h2 h3 h4 h5 h6).trans (hfr b hb h0 h1 h2 h3 h4 h5 h6 hp0)
            have hd_da : z_Drv L f83 dv 13 := z_Drv_fr hd_da hsb (fun b hb ht => hfm b hb (z_t0 ht hf_wk (m := 8) rfl (by decide)) (z_t0 ht hf_ks (m := 204) rfl (by decide)) (z_t0 ht hf_ct (m := 132) rfl (by decide)) (z_t0 ht hf_se (m := 132) rfl (by decide)) (z_t0 ht hf_ow (m := 140) rfl (by decide)))
            have hf_pl : f83 pl = .inr (4, [.ref mo, .ref wk, .ref ot, .int PA58, .int PG59, .int PH60, .int p6, .int p7, .int p8, .int p9, .int p10, .int p11]) := (hfm pl hm_pl (z_tne hf_pl hf_wk (m := 4) (n := 8) rfl rfl (by decide)) (z_tne hf_pl hf_ks (m := 4) (n := 204) rfl rfl (by decide)) (z_tne hf_pl hf_ct (m := 4) (n := 132) rfl rfl (by decide)) (z_tne hf_pl hf_se (m := 4) (n := 132) rfl rfl (by decide)) (z_tne hf_pl hf_ow (m := 4) (n := 140) rfl rfl (by decide))).trans hf_pl
            have hf_ot : f83 ot = .inl (cy 1, 216, .inl g2_12) := (hfm ot hm_ot (z_tne hf_ot hf_wk (m := 1828) (n := 8) rfl rfl (by decide)) (z_tne hf_ot hf_ks (m := 1828) (n := 204) rfl rfl (by decide)) (z_tne hf_ot hf_ct (m := 1828) (n := 132) rfl rfl (by decide)) (z_tne hf_ot hf_se (m := 1828) (n := 132) rfl rfl (by decide)) (z_tne hf_ot hf_ow (m := 1828) (n := 140) rfl rfl (by decide))).trans hf_ot
            have hf_mo : f83 mo = .inr (2, [.int v0, .int v1, .int v2, .int v3, .int v4, .int v5, .int v6, .ref la, .ref sa, .ref mi, .ref da]) := (hfm mo hm_mo (z_tne hf_mo hf_wk (m := 2) (n := 8) rfl rfl (by decide)) (z_tne hf_mo hf_ks (m := 2) (n := 204) rfl rfl (by decide)) (z_tne hf_mo hf_ct (m := 2) (n := 132) rfl rfl (by decide)) (z_tne hf_mo hf_se (m := 2) (n := 132) rfl rfl (by decide)) (z_tne hf_mo hf_ow (m := 2) (n := 140) rfl rfl (by decide))).trans hf_mo
            have hf_la : f83 la = .inl (cy 1, 5, .inl gl) := (hfm la hm_la (z_tne hf_la hf_wk (m := 140) (n := 8) rfl rfl (by decide)) (z_tne hf_la hf_ks (m := 140) (n := 204) rfl rfl (by decide)) (z_tne hf_la hf_ct (m := 140) (n := 132) rfl rfl (by decide)) (z_tne hf_la hf_se (m := 140) (n := 132) rfl rfl (by decide)) (Ne.symm ne_ow_la)).trans hf_la
            have hf_sa : f83 sa = .inl (cy 1, 4, .inl gs) := (hfm sa hm_sa (z_tne hf_sa hf_wk (m := 132) (n := 8) rfl rfl (by decide)) (z_tne hf_sa hf_ks (m := 132) (n := 204) rfl rfl (by decide)) (Ne.symm ne_ct_sa) (Ne.symm ne_se_sa) (z_tne hf_sa hf_ow (m := 132) (n := 140) rfl rfl (by decide))).trans hf_sa
            have hf_mi : f83 mi = .inl (cy 1, 36, .inl gm) := (hfm mi hm_mi (z_tne hf_mi hf_wk (m := 388) (n := 8) rfl rfl (by decide)) (z_tne hf_mi hf_ks (m := 388) (n := 204) rfl rfl (by decide)) (z_tne hf_mi hf_ct (m := 388) (n := 132) rfl rfl (by decide)) (z_tne hf_mi hf_se (m := 388) (n := 132) rfl rfl (by decide)) (z_tne hf_mi hf_ow (m := 388) (n := 140) rfl rfl (by decide))).trans hf_mi
            have hf_da : f83 da = .inl (cy 4, 13, .inr (.inr (.inr (.inr gd)))) := (hfm da hm_da (z_tne hf_da hf_wk (m := 206) (n := 8) rfl rfl (by decide)) (z_tne hf_da hf_ks (m := 206) (n := 204) rfl rfl (by decide)) (z_tne hf_da hf_ct (m := 206) (n := 132) rfl rfl (by decide)) (z_tne hf_da hf_se (m := 206) (n := 132) rfl rfl (by decide)) (z_tne hf_da hf_ow (m := 206) (n := 140) rfl rfl (by decide))).trans hf_da
            have hf_dq1 : f83 dq1 = .inr (0, [.int do71, .int dg72, .int dd73, .int K56, .int ds75, .int dl76, .int dp77, .int dm78]) := (hfm dq1 hm_dq1 (z_tne hf_dq1 hf_wk (m := 0) (n := 8) rfl rfl (by decide)) (z_tne hf_dq1 hf_ks (m := 0) (n := 204) rfl rfl (by decide)) (z_tne hf_dq1 hf_ct (m := 0) (n := 132) rfl rfl (by decide)) (z_tne hf_dq1 hf_se (m := 0) (n := 132) rfl rfl (by decide)) (z_tne hf_dq1 hf_ow (m := 0) (n := 140) rfl rfl (by decide))).trans hf_dq1
            have hf_wk : f83 wk = .inr (8, [.ref ks, .int w2_84, .ref ct, .ref se, .ref ow, .int t2_85, .int wd, .int wp]) := ha_0
            have hf_ks : f83 ks = .inl (cy 1, 13, .inl k2_86) := ha_1
            have hf_ct : f83 ct = .inl (cy 1, 4, .inl c2_87) := ha_2
            have hf_se : f83 se = .inl (cy 1, 4, .inl q2_88) := ha_3
            have hf_ow : f83 ow = .inl (cy 1, 5, .inl o2_89) := ha_4
            have hbg90 := hp
            refine lv_pop hx hb dX4_seekBest_110 rfl ?_
            refine lv_aload_n hx hb dX4_seekBest_111 rfl (lv_at hl 5 rfl) ?_
            refine z_get (C := RX4) (T := TX4) (N := 12) (ci := 4) (v := .ref wk) hx hb hT zin_X4 hown hK hw hm_pl hf_pl rfl 1 (by decide) (hT _ kw_386) rfl dX4_seekBest_112 ?_
            refine z_get (C := RX8) (T := TX8) (N := 8) (ci := 8) (v := .ref ow) hx hb hT zin_X8 hown hK hw hm_wk hf_wk rfl 4 (by decide) (hT _ kw_352) rfl dX4_seekBest_115 ?_
            refine lv_aload_n hx hb dX4_seekBest_118 rfl (lv_at hl 4 rfl) ?_
            refine z_get (C := RX0) (T := TX0) (N := 8) (ci := 0) (v := .int do71) hx hb hT zin_X0 hown hK hw hm_dq1 hf_dq1 rfl 0 (by decide) (hT _ kw_142) rfl dX4_seekBest_119 ?_
            refine z_iald hx hb hK hw 1 hm_ow hf_ow rfl (z_ix rfl (by omega)) dX4_seekBest_122 ?_
            refine lv_topi (fun w91 e_w91 => ?_)
            refine lv_aload_n hx hb dX4_seekBest_123 rfl (lv_at hl 5 rfl) ?_
            refine z_get (C := RX4) (T := TX4) (N := 12) (ci := 4) (v := .ref mo) hx hb hT zin_X4 hown hK hw hm_pl hf_pl rfl 0 (by decide) (hT _ kw_384) rfl dX4_seekBest_124 ?_
            refine z_get (C := RX2) (T := TX2) (N := 11) (ci := 2) (v := .ref la) hx hb hT zin_X2 hown hK hw hm_mo hf_mo rfl 7 (by decide) (hT _ kw_232) rfl dX4_seekBest_127 ?_
            refine lv_iconst (v := 4) hx hb dX4_seekBest_130 (by decide) ?_
            refine z_iald hx hb hK hw 1 hm_la hf_la rfl (z_ix (show (4 : Int32).toInt = 4 by decide) (by decide)) dX4_seekBest_131 ?_
            refine lv_topi (fun w92 e_w92 => ?_)
            refine lv_imul hx hb dX4_seekBest_132 ?_
            refine lv_topi (fun w93 e_w93 => ?_)
            refine lv_istore (lv' := [(7, .int w93), (6, .int K56), (5, .int K14), (4, .int dh5), (3, .int dg3), (2, .ref dq1), (0, .ref pl), (1, .int nu)]) hx hb dX4_seekBest_133 hl (by decide) rfl (fun ls hl => ?_)
            refine lv_iload hx hb dX4_seekBest_135 (lv_at hl 0 rfl) ?_
            refine lv_aload_n hx hb dX4_seekBest_137 rfl (lv_at hl 6 rfl) ?_
            refine z_get (C := RX4) (T := TX4) (N := 12) (ci := 4) (v := .int PA58) hx hb hT zin_X4 hown hK hw hm_pl hf_pl rfl 3 (by decide) (hT _ kw_388) rfl dX4_seekBest_138 ?_
            refine z_icmp_ge (tgt := 162) hx hb rfl rfl dX4_seekBest_141 (by decide) (fun c94 => ?_) (fun c94 => ?_)
            · skip
              obtain ⟨k95, e_k95⟩ : ∃ z : Int32, z = K56 + 1 := ⟨_, rfl⟩
              refine lv_iinc (v := k95) (lv' := [(6, .int k95), (7, .int w93), (5, .int K14), (4, .int dh5), (3, .int dg3), (2, .ref dq1), (0, .ref pl), (1, .int nu)]) hx hb dX4_seekBest_162 hl (k := 1) rfl (by rw [e_k95]; rfl) (by decide) rfl (fun ls hl => ?_)
              have i_k95 : k95.toInt = (K56.toInt + 1) := z_add e_k95 rfl (by decide) (by omega)
              refine lv_goto (tgt := 63) hx hb dX4_seekBest_165 (by decide) ?_
              exact ih_63 _ (by omega) _ _ _ ⟨k95, k2_86, c2_87, q2_88, o2_89, PA58, PG59, PH60, w2_84, t2_85, f83, rfl, (by first | decide | omega), (by first | decide | omega), (by omega), (by omega), (by omega), hbg90.2, hw, hf_pl, hf_ot, hf_wk, hf_ks, hf_ct, hf_se, hf_ow, hf_mo, hf_la, hf_sa, hf_mi, hf_da, hfr, hd_da, (lv_sub hl [0, 2, 3, 4, 5, 6, 7] rfl)⟩
            · skip
              refine lv_aload_n hx hb dX4_seekBest_144 rfl (lv_at hl 6 rfl) ?_
              refine lv_iload hx hb dX4_seekBest_145 (lv_at hl 0 rfl) ?_
              refine z_put (C := RX4) (T := TX4) (N := 12) (ci := 4) (v := .int w93) (fs' := [.ref mo, .ref wk, .ref ot, .int w93, .int PG59, .int PH60, .int p6, .int p7, .int p8, .int p9, .int p10, .int p11]) hx hb hT zin_X4 tyX4_ok nmX4 hown hK hw hm_pl hf_pl rfl 3 (by decide) (hT _ kw_388) rfl rfl rfl (Nat.le_of_ble_eq_true rfl) rfl dX4_seekBest_147 (fun H locs hw => ?_)
              obtain ⟨f96, e_f96⟩ : ∃ z, z = va_up f83 pl (.inr (4, [.ref mo, .ref wk, .ref ot, .int w93, .int PG59, .int PH60, .int p6, .int p7, .int p8, .int p9, .int p10, .int p11])) := ⟨_, rfl⟩
              rw [← e_f96] at hw
              have hf_ot : f96 ot = .inl (cy 1, 216, .inl g2_12) := (congrFun e_f96 ot).trans (z_up_ne (z_tne hf_ot hf_pl (m := 1828) (n := 4) rfl rfl (by decide)) hf_ot)
              have hf_wk : f96 wk = .inr (8, [.ref ks, .int w2_84, .ref ct, .ref se, .ref ow, .int t2_85, .int wd, .int wp]) := (congrFun e_f96 wk).trans (z_up_ne (z_tne hf_wk hf_pl (m := 8) (n := 4) rfl rfl (by decide)) hf_wk)
              have hf_ks : f96 ks = .inl (cy 1, 13, .inl k2_86) := (congrFun e_f96 ks).trans (z_up_ne (z_tne hf_ks hf_pl (m := 204) (n := 4) rfl rfl (by decide)) hf_ks)
              have hf_ct : f96 ct = .inl (cy 1, 4, .inl c2_87) := (congrFun e_f96 ct).trans (z_up_ne (z_tne hf_ct hf_pl (m := 132) (n := 4) rfl rfl (by decide)) hf_ct)
              have hf_se : f96 se = .inl (cy 1, 4, .inl q2_88) := (congrFun e_f96 se).trans (z_up_ne (z_tne hf_se hf_pl (m := 132) (n := 4) rfl rfl (by decide)) hf_se)
              have hf_ow : f96 ow = .inl (cy 1, 5, .inl o2_89) := (congrFun e_f96 ow).trans (z_up_ne (z_tne hf_ow hf_pl (m := 140) (n := 4) rfl rfl (by decide)) hf_ow)
              have hf_mo : f96 mo = .inr (2, [.int v0, .int v1, .int v2, .int v3, .int v4, .int v5, .int v6, .ref la, .ref sa, .ref mi, .ref da]) := (congrFun e_f96 mo).trans (z_up_ne (z_tne hf_mo hf_pl (m := 2) (n := 4) rfl rfl (by decide)) hf_mo)
              have hf_la : f96 la = .inl (cy 1, 5, .inl gl) := (congrFun e_f96 la).trans (z_up_ne (z_tne hf_la hf_pl (m := 140) (n := 4) rfl rfl (by decide)) hf_la)
              have hf_sa : f96 sa = .inl (cy 1, 4, .inl gs) := (congrFun e_f96 sa).trans (z_up_ne (z_tne hf_sa hf_pl (m := 132) (n := 4) rfl rfl (by decide)) hf_sa)
              have hf_mi : f96 mi = .inl (cy 1, 36, .inl gm) := (congrFun e_f96 mi).trans (z_up_ne (z_tne hf_mi hf_pl (m := 388) (n := 4) rfl rfl (by decide)) hf_mi)
              have hf_da : f96 da = .inl (cy 4, 13, .inr (.inr (.inr (.inr gd)))) := (congrFun e_f96 da).trans (z_up_ne (z_tne hf_da hf_pl (m := 206) (n := 4) rfl rfl (by decide)) hf_da)
              have hf_dq1 : f96 dq1 = .inr (0, [.int do71, .int dg72, .int dd73, .int K56, .int ds75, .int dl76, .int dp77, .int dm78]) := (congrFun e_f96 dq1).trans (z_up_ne (z_tne hf_dq1 hf_pl (m := 0) (n := 4) rfl rfl (by decide)) hf_dq1)
              have hd_da : z_Drv L f96 dv 13 := z_Drv_up hd_da e_f96 hf_pl (m := 4) rfl (by decide)
              have hf_pl : f96 pl = .inr (4, [.ref mo, .ref wk, .ref ot, .int w93, .int PG59, .int PH60, .int p6, .int p7, .int p8, .int p9, .int p10, .int p11]) := (congrFun e_f96 pl).trans z_up_self
              have hfr : ∀ b ∈ L, b ≠ pl → b ≠ ot → b ≠ wk → b ≠ ks → b ≠ ct → b ≠ se → b ≠ ow → (∀ i : Nat, i < 13 → b ≠ dv i) → f96 b = f b := fun b hb h0 h1 h2 h3 h4 h5 h6 hp0 => (congrFun e_f96 b).trans (z_up_ne h0 (hfr b hb h0 h1 h2 h3 h4 h5 h6 hp0))
              refine lv_aload_n hx hb dX4_seekBest_150 rfl (lv_at hl 6 rfl) ?_
              refine lv_iload hx hb dX4_seekBest_151 (lv_at hl 2 rfl) ?_
              refine z_put (C := RX4) (T := TX4) (N := 12) (ci := 4) (v := .int K14) (fs' := [.ref mo, .ref wk, .ref ot, .int w93, .int K14, .int PH60, .int p6, .int p7, .int p8, .int p9, .int p10, .int p11]) hx hb hT zin_X4 tyX4_ok nmX4 hown hK hw hm_pl hf_pl rfl 4 (by decide) (hT _ kw_390) rfl rfl rfl (Nat.le_of_ble_eq_true rfl) rfl dX4_seekBest_153 (fun H locs hw => ?_)
              obtain ⟨f97, e_f97⟩ : ∃ z, z = va_up f96 pl (.inr (4, [.ref mo, .ref wk, .ref ot, .int w93, .int K14, .int PH60, .int p6, .int p7, .int p8, .int p9, .int p10, .int p11])) := ⟨_, rfl⟩
              rw [← e_f97] at hw
              have hf_ot : f97 ot = .inl (cy 1, 216, .inl g2_12) := (congrFun e_f97 ot).trans (z_up_ne (z_tne hf_ot hf_pl (m := 1828) (n := 4) rfl rfl (by decide)) hf_ot)
              have hf_wk : f97 wk = .inr (8, [.ref ks, .int w2_84, .ref ct, .ref se, .ref ow, .int t2_85, .int wd, .int wp]) := (congrFun e_f97 wk).trans (z_up_ne (z_tne hf_wk hf_pl (m := 8) (n := 4) rfl rfl (by decide)) hf_wk)
              have hf_ks : f97 ks = .inl (cy 1, 13, .inl k2_86) := (congrFun e_f97 ks).trans (z_up_ne (z_tne hf_ks hf_pl (m := 204) (n := 4) rfl rfl (by decide)) hf_ks)
              have hf_ct : f97 ct = .inl (cy 1, 4, .inl c2_87) := (congrFun e_f97 ct).trans (z_up_ne (z_tne hf_ct hf_pl (m := 132) (n := 4) rfl rfl (by decide)) hf_ct)
              have hf_se : f97 se = .inl (cy 1, 4, .inl q2_88) := (congrFun e_f97 se).trans (z_up_ne (z_tne hf_se hf_pl (m := 132) (n := 4) rfl rfl (by decide)) hf_se)
              have hf_ow : f97 ow = .inl (cy 1, 5, .inl o2_89) := (congrFun e_f97 ow).trans (z_up_ne (z_tne hf_ow hf_pl (m := 140) (n := 4) rfl rfl (by decide)) hf_ow)
              have hf_mo : f97 mo = .inr (2, [.int v0, .int v1, .int v2, .int v3, .int v4, .int v5, .int v6, .ref la, .ref sa, .ref mi, .ref da]) := (congrFun e_f97 mo).trans (z_up_ne (z_tne hf_mo hf_pl (m := 2) (n := 4) rfl rfl (by decide)) hf_mo)
              have hf_la : f97 la = .inl (cy 1, 5, .inl gl) := (congrFun e_f97 la).trans (z_up_ne (z_tne hf_la hf_pl (m := 140) (n := 4) rfl rfl (by decide)) hf_la)
              have hf_sa : f97 sa = .inl (cy 1, 4, .inl gs) := (congrFun e_f97 sa).trans (z_up_ne (z_tne hf_sa hf_pl (m := 132) (n := 4) rfl rfl (by decide)) hf_sa)
              have hf_mi : f97 mi = .inl (cy 1, 36, .inl gm) := (congrFun e_f97 mi).trans (z_up_ne (z_tne hf_mi hf_pl (m := 388) (n := 4) rfl rfl (by decide)) hf_mi)
              have hf_da : f97 da = .inl (cy 4, 13, .inr (.inr (.inr (.inr gd)))) := (congrFun e_f97 da).trans (z_up_ne (z_tne hf_da hf_pl (m := 206) (n := 4) rfl rfl (by decide)) hf_da)
              have hf_dq1 : f97 dq1 = .inr (0, [.int do71, .int dg72, .int dd73, .int K56, .int ds75, .int dl76, .int dp77, .int dm78]) := (congrFun e_f97 dq1).trans (z_up_ne (z_tne hf_dq1 hf_pl (m := 0) (n := 4) rfl rfl (by decide)) hf_dq1)
              have hd_da : z_Drv L f97 dv 13 := z_Drv_up hd_da e_f97 hf_pl (m := 4) rfl (by decide)
              have hf_pl : f97 pl = .inr (4, [.ref mo, .ref wk, .ref ot, .int w93, .int K14, .int PH60, .int p6, .int p7, .int p8, .int p9, .int p10, .int p11]) := (congrFun e_f97 pl).trans z_up_self
              have hfr : ∀ b ∈ L, b ≠ pl → b ≠ ot → b ≠ wk → b ≠ ks → b ≠ ct → b ≠ se → b ≠ ow → (∀ i : Nat, i < 13 → b ≠ dv i) → f97 b = f b := fun b hb h0 h1 h2 h3 h4 h5 h6 hp0 => (congrFun e_f97 b).trans (z_up_ne h0 (hfr b hb h0 h1 h2 h3 h4 h5 h6 hp0))
              refine lv_aload_n hx hb dX4_seekBest_156 rfl (lv_at hl 6 rfl) ?_
              refine lv_iload hx hb dX4_seekBest_157 (lv_at hl 1 rfl) ?_
              refine z_put (C := RX4) (T := TX4) (N := 12) (ci := 4) (v := .int K56) (fs' := [.ref mo, .ref wk, .ref ot, .int w93, .int K14, .int K56, .int p6, .int p7, .int p8, .int p9, .int p10, .int p11]) hx hb hT zin_X4 tyX4_ok nmX4 hown hK hw hm_pl hf_pl rfl 5 (by decide) (hT _ kw_392) rfl rfl rfl (Nat.le_of_ble_eq_true rfl) rfl dX4_seekBest_159 (fun H locs hw => ?_)
              obtain ⟨f98, e_f98⟩ : ∃ z, z = va_up f97 pl (.inr (4, [.ref mo, .ref wk, .ref ot, .int w93, .int K14, .int K56, .int p6, .int p7, .int p8, .int p9, .int p10, .int p11])) := ⟨_, rfl⟩
              rw [← e_f98] at hw
              have hf_ot : f98 ot = .inl (cy 1, 216, .inl g2_12) := (congrFun e_f98 ot).trans (z_up_ne (z_tne hf_ot hf_pl (m := 1828) (n := 4) rfl rfl (by decide)) hf_ot)
              have hf_wk : f98 wk = .inr (8, [.ref ks, .int w2_84, .ref ct, .ref se, .ref ow, .int t2_85, .int wd, .int wp]) := (congrFun e_f98 wk).trans (z_up_ne (z_tne hf_wk hf_pl (m := 8) (n := 4) rfl rfl (by decide)) hf_wk)
              have hf_ks : f98 ks = .inl (cy 1, 13, .inl k2_86) := (congrFun e_f98 ks).trans (z_up_ne (z_tne hf_ks hf_pl (m := 204) (n := 4) rfl rfl (by decide)) hf_ks)
              have hf_ct : f98 ct = .inl (cy 1, 4, .inl c2_87) := (congrFun e_f98 ct).trans (z_up_ne (z_tne hf_ct hf_pl (m := 132) (n := 4) rfl rfl (by decide)) hf_ct)
              have hf_se : f98 se = .inl (cy 1, 4, .inl q2_88) := (congrFun e_f98 se).trans (z_up_ne (z_tne hf_se hf_pl (m := 132) (n := 4) rfl rfl (by decide)) hf_se)
              have hf_ow : f98 ow = .inl (cy 1, 5, .inl o2_89) := (congrFun e_f98 ow).trans (z_up_ne (z_tne hf_ow hf_pl (m := 140) (n := 4) rfl rfl (by decide)) hf_ow)
              have hf_mo : f98 mo = .inr (2, [.int v0, .int v1, .int v2, .int v3, .int v4, .int v5, .int v6, .ref la, .ref sa, .ref mi, .ref da]) := (congrFun e_f98 mo).trans (z_up_ne (z_tne hf_mo hf_pl (m := 2) (n := 4) rfl rfl (by decide)) hf_mo)
              have hf_la : f98 la = .inl (cy 1, 5, .inl gl) := (congrFun e_f98 la).trans (z_up_ne (z_tne hf_la hf_pl (m := 140) (n := 4) rfl rfl (by decide)) hf_la)
              have hf_sa : f98 sa = .inl (cy 1, 4, .inl gs) := (congrFun e_f98 sa).trans (z_up_ne (z_tne hf_sa hf_pl (m := 132) (n := 4) rfl rfl (by decide)) hf_sa)
              have hf_mi : f98 mi = .inl (cy 1, 36, .inl gm) := (congrFun e_f98 mi).trans (z_up_ne (z_tne hf_mi hf_pl (m := 388) (n := 4) rfl rfl (by decide)) hf_mi)
              have hf_da : f98 da = .inl (cy 4, 13, .inr (.inr (.inr (.inr gd)))) := (congrFun e_f98 da).trans (z_up_ne (z_tne hf_da hf_pl (m := 206) (n := 4) rfl rfl (by decide)) hf_da)
              have hf_dq1 : f98 dq1 = .inr (0, [.int do71, .int dg72, .int dd73, .int K56, .int ds75, .int dl76, .int dp77, .int dm78]) := (congrFun e_f98 dq1).trans (z_up_ne (z_tne hf_dq1 hf_pl (m := 0) (n := 4) rfl rfl (by decide)) hf_dq1)
              have hd_da : z_Drv L f98 dv 13 := z_Drv_up hd_da e_f98 hf_pl (m := 4) rfl (by decide)
              have hf_pl : f98 pl = .inr (4, [.ref mo, .ref wk, .ref ot, .int w93, .int K14, .int K56, .int p6, .int p7, .int p8, .int p9, .int p10, .int p11]) := (congrFun e_f98 pl).trans z_up_self
              have hfr : ∀ b ∈ L, b ≠ pl → b ≠ ot → b ≠ wk → b ≠ ks → b ≠ ct → b ≠ se → b ≠ ow → (∀ i : Nat, i < 13 → b ≠ dv i) → f98 b = f b := fun b hb h0 h1 h2 h3 h4 h5 h6 hp0 => (congrFun e_f98 b).trans (z_up_ne h0 (hfr b hb h0 h1 h2 h3 h4 h5 h6 hp0))
              obtain ⟨k99, e_k99⟩ : ∃ z : Int32, z = K56 + 1 := ⟨_, rfl⟩
              refine lv_iinc (v := k99) (lv' := [(6, .int k99), (7, .int w93), (5, .int K14), (4, .int dh5), (3, .int dg3), (2, .ref dq1), (0, .ref pl), (1, .int nu)]) hx hb dX4_seekBest_162 hl (k := 1) rfl (by rw [e_k99]; rfl) (by decide) rfl (fun ls hl => ?_)
              have i_k99 : k99.toInt = (K56.toInt + 1) := z_add e_k99 rfl (by decide) (by omega)
              refine lv_goto (tgt := 63) hx hb dX4_seekBest_165 (by decide) ?_
              exact ih_63 _ (by omega) _ _ _ ⟨k99, k2_86, c2_87, q2_88, o2_89, w93, K14, K56, w2_84, t2_85, f98, rfl, (by first | decide | omega), (by first | decide | omega), (by omega), (by omega), (by omega), hbg90.2, hw, hf_pl, hf_ot, hf_wk, hf_ks, hf_ct, hf_se, hf_ow, hf_mo, hf_la, hf_sa, hf_mi, hf_da, hfr, hd_da, (lv_sub hl [0, 2, 3, 4, 5, 6, 7] rfl)⟩
          · skip
            refine lv_aload_n hx hb dX4_seekBest_88 rfl (lv_at hl 5 rfl) ?_
            refine lv_iload_n hx hb dX4_seekBest_89 rfl (lv_at hl 6 rfl) ?_
            refine z_calliV (cells := 0) (slots := 0) (b := pl) (As := [.int nu]) (rest := []) (ci := 4) (q0 := (RX4, TX4, 12)) ⟨hx, hb, hml, hown, hT⟩ (c_X4_differs l hm_pl hm_ot hm_mo hm_da hf_pl hf_ot hf_mo hf_da hg_da hd_da (by first | omega | decide | assumption) (by first | omega | decide | assumption)) (cwV 1 hT (z_goodV (fun _ h => h) kw_915 kw_917 kw_18 kw_93 kw_918) rfl rfl rfl (by decide +kernel) ⟨by decide, by decide⟩) z_mv hKK hK hw hA hm_pl hf_pl rfl rfl rfl hl.1 rfl (Nat.le_of_ble_eq_true rfl) dX4_seekBest_90 ⟨by decide, by decide⟩ (fun r100 u H locs hp hw => ?_)
            obtain ⟨rfl, hp⟩ := hp
            have hw : z_H D vwCl (z_A L sz) s.heap L f79 H locs := hw
            rcases hp with ⟨rfl, h101⟩ | ⟨rfl, h101⟩
            · skip
              refine z_if_ne (tgt := 99) hx hb (show (1 : Int32).toInt = 1 by decide) dX4_seekBest_93 (by decide) (fun _ => ?_) (fun h => absurd h (by decide))
              refine lv_aload_n hx hb dX4_seekBest_99 rfl (lv_at hl 5 rfl) ?_
              refine z_get (C := RX4) (T := TX4) (N := 12) (ci := 4) (v := .ref wk) hx hb hT zin_X4 hown hK hw hm_pl hf_pl rfl 1 (by decide) (hT _ kw_386) rfl dX4_seekBest_100 ?_
              refine lv_aload_n hx hb dX4_seekBest_103 rfl (lv_at hl 5 rfl) ?_
              refine z_get (C := RX4) (T := TX4) (N := 12) (ci := 4) (v := .ref mo) hx hb hT zin_X4 hown hK hw hm_pl hf_pl rfl 0 (by decide) (hT _ kw_384) rfl dX4_seekBest_104 ?_
              refine z_calliV (cells := 0) (slots := 0) (b := wk) (As := [.ref mo]) (rest := []) (ci := 8) (q0 := (RX8, TX8, 8)) ⟨hx, hb, hml, hown, hT⟩ (c_X8_tally l hm_wk hm_ks hm_ct hm_se hm_ow hm_mo hm_la hm_sa hm_mi hm_da hf_wk hf_ks hf_ct hf_se hf_ow hf_mo hf_la hf_sa hf_mi hf_da ne_ct_se ne_ct_sa ne_se_sa ne_ow_la hg_da hd_da (by first | omega | decide | assumption) (by first | omega | decide | assumption) hi3 hgm) (cwV 1 hT (z_goodV (fun _ h => h) kw_919 kw_835 kw_836 kw_92 kw_837) rfl rfl rfl (by decide +kernel) ⟨by decide, by decide⟩) z_mv hKK hK hw hA hm_wk hf_wk rfl rfl rfl hl.1 rfl (Nat.le_of_ble_eq_true rfl) dX4_seekBest_107 ⟨by decide, by decide⟩ (fun r102 u H locs hp hw => ?_)
              obtain ⟨L103, f104⟩ := u
              obtain ⟨hsb, hfm, w2_105, t2_106, k2_107, c2_108, q2_109, o2_110, ha_0, ha_1, ha_2, ha_3, ha_4, hp⟩ := hp
              have hsb : L = L103 := hsb
              subst hsb
              have hsb : ∀ b ∈ L, b ∈ L := fun _ h => h
              have hw : z_H D vwCl (z_A L sz) s.heap L f104 H locs := hw
              have hfr : ∀ b ∈ L, b ≠ pl → b ≠ ot → b ≠ wk → b ≠ ks → b ≠ ct → b ≠ se → b ≠ ow → (∀ i : Nat, i < 13 → b ≠ dv i) → f104 b = f b := fun b hb h0 h1 h2 h3 h4 h5 h6 hp0 => (hfm b hb h2 h3 h4 h5 h6).trans (hfr b hb h0 h1 h2 h3 h4 h5 h6 hp0)
              have hd_da : z_Drv L f104 dv 13 := z_Drv_fr hd_da hsb (fun b hb ht => hfm b hb (z_t0 ht hf_wk (m := 8) rfl (by decide)) (z_t0 ht hf_ks (m := 204) rfl (by decide)) (z_t0 ht hf_ct (m := 132) rfl (by decide)) (z_t0 ht hf_se (m := 132) rfl (by decide)) (z_t0 ht hf_ow (m := 140) rfl (by decide)))
              have hf_pl : f104 pl = .inr (4, [.ref mo, .ref wk, .ref ot, .int PA58, .int PG59, .int PH60, .int p6, .int p7, .int p8, .int p9, .int p10, .int p11]) := (hfm pl hm_pl (z_tne hf_pl hf_wk (m := 4) (n := 8) rfl rfl (by decide)) (z_tne hf_pl hf_ks (m := 4) (n := 204) rfl rfl (by decide)) (z_tne hf_pl hf_ct (m := 4) (n := 132) rfl rfl (by decide)) (z_tne hf_pl hf_se (m := 4) (n := 132) rfl rfl (by decide)) (z_tne hf_pl hf_ow (m := 4) (n := 140) rfl rfl (by decide))).trans hf_pl
              have hf_ot : f104 ot = .inl (cy 1, 216, .inl g2_12) := (hfm ot hm_ot (z_tne hf_ot hf_wk (m := 1828) (n := 8) rfl rfl (by decide)) (z_tne hf_ot hf_ks (m := 1828) (n := 204) rfl rfl (by decide)) (z_tne hf_ot hf_ct (m := 1828) (n := 132) rfl rfl (by decide)) (z_tne hf_ot hf_se (m := 1828) (n := 132) rfl rfl (by decide)) (z_tne hf_ot hf_ow (m := 1828) (n := 140) rfl rfl (by decide))).trans hf_ot
              have hf_mo : f104 mo = .inr (2, [.int v0, .int v1, .int v2, .int v3, .int v4, .int v5, .int v6, .ref la, .ref sa, .ref mi, .ref da]) := (hfm mo hm_mo (z_tne hf_mo hf_wk (m := 2) (n := 8) rfl rfl (by decide)) (z_tne hf_mo hf_ks (m := 2) (n := 204) rfl rfl (by decide)) (z_tne hf_mo hf_ct (m := 2) (n := 132) rfl rfl (by decide)) (z_tne hf_mo hf_se (m := 2) (n := 132) rfl rfl (by decide)) (z_tne hf_mo hf_ow (m := 2) (n := 140) rfl rfl (by decide))).trans hf_mo
              have hf_la : f104 la = .inl (cy 1, 5, .inl gl) := (hfm la hm_la (z_tne hf_la hf_wk (m := 140) (n := 8) rfl rfl (by decide)) (z_tne hf_la hf_ks (m := 140) (n := 204) rfl rfl (by decide)) (z_tne hf_la hf_ct (m := 140) (n := 132) rfl rfl (by decide)) (z_tne hf_la hf_se (m := 140) (n := 132) rfl rfl (by decide)) (Ne.symm ne_ow_la)).trans hf_la
              have hf_sa : f104 sa = .inl (cy 1, 4, .inl gs) := (hfm sa hm_sa (z_tne hf_sa hf_wk (m := 132) (n := 8) rfl rfl (by decide)) (z_tne hf_sa hf_ks (m := 132) (n := 204) rfl rfl (by decide)) (Ne.symm ne_ct_sa) (Ne.symm ne_se_sa) (z_tne hf_sa hf_ow (m := 132) (n := 140) rfl rfl (by decide))).trans hf_sa
              have hf_mi : f104 mi = .inl (cy 1, 36, .inl gm) := (hfm mi hm_mi (z_tne hf_mi hf_wk (m := 388) (n := 8) rfl rfl (by decide)) (z_tne hf_mi hf_ks (m := 388) (n := 204) rfl rfl (by decide)) (z_tne hf_mi hf_ct (m := 388) (n := 132) rfl rfl (by decide)) (z_tne hf_mi hf_se (m := 388) (n := 132) rfl rfl (by decide)) (z_tne hf_mi hf_ow (m := 388) (n := 140) rfl rfl (by decide))).trans hf_mi
              have hf_da : f104 da = .inl (cy 4, 13, .inr (.inr (.inr (.inr gd)))) := (hfm da hm_da (z_tne hf_da hf_wk (m := 206) (n := 8) rfl rfl (by decide)) (z_tne hf_da hf_ks (m := 206) (n := 204) rfl rfl (by decide)) (z_tne hf_da hf_ct (m := 206) (n := 132) rfl rfl (by decide)) (z_tne hf_da hf_se (m := 206) (n := 132) rfl rfl (by decide)) (z_tne hf_da hf_ow (m := 206) (n := 140) rfl rfl (by decide))).trans hf_da
              have hf_dq1 : f104 dq1 = .inr (0, [.int do71, .int dg72, .int dd73, .int K56, .int ds75, .int dl76, .int dp77, .int dm78]) := (hfm dq1 hm_dq1 (z_tne hf_dq1 hf_wk (m := 0) (n := 8) rfl rfl (by decide)) (z_tne hf_dq1 hf_ks (m := 0) (n := 204) rfl rfl (by decide)) (z_tne hf_dq1 hf_ct (m := 0) (n := 132) rfl rfl (by decide)) (z_tne hf_dq1 hf_se (m := 0) (n := 132) rfl rfl (by decide)) (z_tne hf_dq1 hf_ow (m := 0) (n := 140) rfl rfl (by decide))).trans hf_dq1
              have hf_wk : f104 wk = .inr (8, [.ref ks, .int w2_105, .ref ct, .ref se, .ref ow, .int t2_106, .int wd, .int wp]) := ha_0
              have hf_ks : f104 ks = .inl (cy 1, 13, .inl k2_107) := ha_1
              have hf_ct : f104 ct = .inl (cy 1, 4, .inl c2_108) := ha_2
              have hf_se : f104 se = .inl (cy 1, 4, .inl q2_109) := ha_3
              have hf_ow : f104 ow = .inl (cy 1, 5, .inl o2_110) := ha_4
              have hbg111 := hp
              refine lv_pop hx hb dX4_seekBest_110 rfl ?_
              refine lv_aload_n hx hb dX4_seekBest_111 rfl (lv_at hl 5 rfl) ?_
              refine z_get (C := RX4) (T := TX4) (N := 12) (ci := 4) (v := .ref wk) hx hb hT zin_X4 hown hK hw hm_pl hf_pl rfl 1 (by decide) (hT _ kw_386) rfl dX4_seekBest_112 ?_
              refine z_get (C := RX8) (T := TX8) (N := 8) (ci := 8) (v := .ref ow) hx hb hT zin_X8 hown hK hw hm_wk hf_wk rfl 4 (by decide) (hT _ kw_352) rfl dX4_seekBest_115 ?_
              refine lv_aload_n hx hb dX4_seekBest_118 rfl (lv_at hl 4 rfl) ?_
              refine z_get (C := RX0) (T := TX0) (N := 8) (ci := 0) (v := .int do71) hx hb hT zin_X0 hown hK hw hm_dq1 hf_dq1 rfl 0 (by decide) (hT _ kw_142) rfl dX4_seekBest_119 ?_
              refine z_iald hx hb hK hw 1 hm_ow hf_ow rfl (z_ix rfl (by omega)) dX4_seekBest_122 ?_
              refine lv_topi (fun w112 e_w112 => ?_)
              refine lv_aload_n hx hb dX4_seekBest_123 rfl (lv_at hl 5 rfl) ?_
              refine z_get (C := RX4) (T := TX4) (N := 12) (ci := 4) (v := .ref mo) hx hb hT zin_X4 hown hK hw hm_pl hf_pl rfl 0 (by decide) (hT _ kw_384) rfl dX4_seekBest_124 ?_
              refine z_get (C := RX2) (T := TX2) (N := 11) (ci := 2) (v := .ref la) hx hb hT zin_X2 hown hK hw hm_mo hf_mo rfl 7 (by decide) (hT _ kw_232) rfl dX4_seekBest_127 ?_
              refine lv_iconst (v := 4) hx hb dX4_seekBest_130 (by decide) ?_
              refine z_iald hx hb hK hw 1 hm_la hf_la rfl (z_ix (show (4 : Int32).toInt = 4 by decide) (by decide)) dX4_seekBest_131 ?_
              refine lv_topi (fun w113 e_w113 => ?_)
              refine lv_imul hx hb dX4_seekBest_132 ?_
              refine lv_topi (fun w114 e_w114 => ?_)
              refine lv_istore (lv' := [(7, .int w114), (6, .int K56), (5, .int K14), (4, .int dh5), (3, .int dg3), (2, .ref dq1), (0, .ref pl), (1, .int nu)]) hx hb dX4_seekBest_133 hl (by decide) rfl (fun ls hl => ?_)
              refine lv_iload hx hb dX4_seekBest_135 (lv_at hl 0 rfl) ?_
              refine lv_aload_n hx hb dX4_seekBest_137 rfl (lv_at hl 6 rfl) ?_
              refine z_get (C := RX4) (T := TX4) (N := 12) (ci := 4) (v := .int PA58) hx hb hT zin_X4 hown hK hw hm_pl hf_pl rfl 3 (by decide) (hT _ kw_388) rfl dX4_seekBest_138 ?_
              refine z_icmp_ge (tgt := 162) hx hb rfl rfl dX4_seekBest_141 (by decide) (fun c115 => ?_) (fun c115 => ?_)
              · skip
                obtain ⟨k116, e_k116⟩ : ∃ z : Int32, z = K56 + 1 := ⟨_, rfl⟩
                refine lv_iinc (v := k116) (lv' := [(6, .int k116), (7, .int w114), (5, .int K14), (4, .int dh5), (3, .int dg3), (2, .ref dq1), (0, .ref pl), (1, .int nu)]) hx hb dX4_seekBest_162 hl (k := 1) rfl (by rw [e_k116]; rfl) (by decide) rfl (fun ls hl => ?_)
                have i_k116 : k116.toInt = (K56.toInt + 1) := z_add e_k116 rfl (by decide) (by omega)
                refine lv_goto (tgt := 63) hx hb dX4_seekBest_165 (by decide) ?_
                exact ih_63 _ (by omega) _ _ _ ⟨k116, k2_107, c2_108, q2_109, o2_110, PA58, PG59, PH60, w2_105, t2_106, f104, rfl, (by first | decide | omega), (by first | decide | omega), (by omega), (by omega), (by omega), hbg111.2, hw, hf_pl, hf_ot, hf_wk, hf_ks, hf_ct, hf_se, hf_ow, hf_mo, hf_la, hf_sa, hf_mi, hf_da, hfr, hd_da, (lv_sub hl [0, 2, 3, 4, 5, 6, 7] rfl)⟩
              · skip
                refine lv_aload_n hx hb dX4_seekBest_144 rfl (lv_at hl 6 rfl) ?_
                refine lv_iload hx hb dX4_seekBest_145 (lv_at hl 0 rfl) ?_
                refine z_put (C := RX4) (T := TX4) (N := 12) (ci := 4) (v := .int w114) (fs' := [.ref mo, .ref wk, .ref ot, .int w114, .int PG59, .int PH60, .int p6, .int p7, .int p8, .int p9, .int p10, .int p11]) hx hb hT zin_X4 tyX4_ok nmX4 hown hK hw hm_pl hf_pl rfl 3 (by decide) (hT _ kw_388) rfl rfl rfl (Nat.le_of_ble_eq_true rfl) rfl dX4_seekBest_147 (fun H locs hw => ?_)
                obtain ⟨f117, e_f117⟩ : ∃ z, z = va_up f104 pl (.inr (4, [.ref mo, .ref wk, .ref ot, .int w114, .int PG59, .int PH60, .int p6, .int p7, .int p8, .int p9, .int p10, .int p11])) := ⟨_, rfl⟩
                rw [← e_f117] at hw
                have hf_ot : f117 ot = .inl (cy 1, 216, .inl g2_12) := (congrFun e_f117 ot).trans (z_up_ne (z_tne hf_ot hf_pl (m := 1828) (n := 4) rfl rfl (by decide)) hf_ot)
                have hf_wk : f117 wk = .inr (8, [.ref ks, .int w2_105, .ref ct, .ref se, .ref ow, .int t2_106, .int wd, .int wp]) := (congrFun e_f117 wk).trans (z_up_ne (z_tne hf_wk hf_pl (m := 8) (n := 4) rfl rfl (by decide)) hf_wk)
                have hf_ks : f117 ks = .inl (cy 1, 13, .inl k2_107) := (congrFun e_f117 ks).trans (z_up_ne (z_tne hf_ks hf_pl (m := 204) (n := 4) rfl rfl (by decide)) hf_ks)
                have hf_ct : f117 ct = .inl (cy 1, 4, .inl c2_108) := (congrFun e_f117 ct).trans (z_up_ne (z_tne hf_ct hf_pl (m := 132) (n := 4) rfl rfl (by decide)) hf_ct)
                have hf_se : f117 se = .inl (cy 1, 4, .inl q2_109) := (congrFun e_f117 se).trans (z_up_ne (z_tne hf_se hf_pl (m := 132) (n := 4) rfl rfl (by decide)) hf_se)
                have hf_ow : f117 ow = .inl (cy 1, 5, .inl o2_110) := (congrFun e_f117 ow).trans (z_up_ne (z_tne hf_ow hf_pl (m := 140) (n := 4) rfl rfl (by decide)) hf_ow)
                have hf_mo : f117 mo = .inr (2, [.int v0, .int v1, .int v2, .int v3, .int v4, .int v5, .int v6, .ref la, .ref sa, .ref mi, .ref da]) := (congrFun e_f117 mo).trans (z_up_ne (z_tne hf_mo hf_pl (m := 2) (n := 4) rfl rfl (by decide)) hf_mo)
                have hf_la : f117 la = .inl (cy 1, 5, .inl gl) := (congrFun e_f117 la).trans (z_up_ne (z_tne hf_la hf_pl (m := 140) (n := 4) rfl rfl (by decide)) hf_la)
                have hf_sa : f117 sa = .inl (cy 1, 4, .inl gs) := (congrFun e_f117 sa).trans (z_up_ne (z_tne hf_sa hf_pl (m := 132) (n := 4) rfl rfl (by decide)) hf_sa)
                have hf_mi : f117 mi = .inl (cy 1, 36, .inl gm) := (congrFun e_f117 mi).trans (z_up_ne (z_tne hf_mi hf_pl (m := 388) (n := 4) rfl rfl (by decide)) hf_mi)
                have hf_da : f117 da = .inl (cy 4, 13, .inr (.inr (.inr (.inr gd)))) := (congrFun e_f117 da).trans (z_up_ne (z_tne hf_da hf_pl (m := 206) (n := 4) rfl rfl (by decide)) hf_da)
                have hf_dq1 : f117 dq1 = .inr (0, [.int do71, .int dg72, .int dd73, .int K56, .int ds75, .int dl76, .int dp77, .int dm78]) := (congrFun e_f117 dq1).trans (z_up_ne (z_tne hf_dq1 hf_pl (m := 0) (n := 4) rfl rfl (by decide)) hf_dq1)
                have hd_da : z_Drv L f117 dv 13 := z_Drv_up hd_da e_f117 hf_pl (m := 4) rfl (by decide)
                have hf_pl : f117 pl = .inr (4, [.ref mo, .ref wk, .ref ot, .int w114, .int PG59, .int PH60, .int p6, .int p7, .int p8, .int p9, .int p10, .int p11]) := (congrFun e_f117 pl).trans z_up_self
                have hfr : ∀ b ∈ L, b ≠ pl → b ≠ ot → b ≠ wk → b ≠ ks → b ≠ ct → b ≠ se → b ≠ ow → (∀ i : Nat, i < 13 → b ≠ dv i) → f117 b = f b := fun b hb h0 h1 h2 h3 h4 h5 h6 hp0 => (congrFun e_f117 b).trans (z_up_ne h0 (hfr b hb h0 h1 h2 h3 h4 h5 h6 hp0))
                refine lv_aload_n hx hb dX4_seekBest_150 rfl (lv_at hl 6 rfl) ?_
                refine lv_iload hx hb dX4_seekBest_151 (lv_at hl 2 rfl) ?_
                refine z_put (C := RX4) (T := TX4) (N := 12) (ci := 4) (v := .int K14) (fs' := [.ref mo, .ref wk, .ref ot, .int w114, .int K14, .int PH60, .int p6, .int p7, .int p8, .int p9, .int p10, .int p11]) hx hb hT zin_X4 tyX4_ok nmX4 hown hK hw hm_pl hf_pl rfl 4 (by decide) (hT _ kw_390) rfl rfl rfl (Nat.le_of_ble_eq_true rfl) rfl dX4_seekBest_153 (fun H locs hw => ?_)
                obtain ⟨f118, e_f118⟩ : ∃ z, z = va_up f117 pl (.inr (4, [.ref mo, .ref wk, .ref ot, .int w114, .int K14, .int PH60, .int p6, .int p7, .int p8, .int p9, .int p10, .int p11])) := ⟨_, rfl⟩
                rw [← e_f118] at hw
                have hf_ot : f118 ot = .inl (cy 1, 216, .inl g2_12) := (congrFun e_f118 ot).trans (z_up_ne (z_tne hf_ot hf_pl (m := 1828) (n := 4) rfl rfl (by decide)) hf_ot)
                have hf_wk : f118 wk = .inr (8, [.ref ks, .int w2_105, .ref ct, .ref se, .ref ow, .int t2_106, .int wd, .int wp]) := (congrFun e_f118 wk).trans (z_up_ne (z_tne hf_wk hf_pl (m := 8) (n := 4) rfl rfl (by decide)) hf_wk)
                have hf_ks : f118 ks = .inl (cy 1, 13, .inl k2_107) := (congrFun e_f118 ks).trans (z_up_ne (z_tne hf_ks hf_pl (m := 204) (n := 4) rfl rfl (by decide)) hf_ks)
                have hf_ct : f118 ct = .inl (cy 1, 4, .inl c2_108) := (congrFun e_f118 ct).trans (z_up_ne (z_tne hf_ct hf_pl (m := 132) (n := 4) rfl rfl (by decide)) hf_ct)
                have hf_se : f118 se = .inl (cy 1, 4, .inl q2_109) := (congrFun e_f118 se).trans (z_up_ne (z_tne hf_se hf_pl (m := 132) (n := 4) rfl rfl (by decide)) hf_se)
                have hf_ow : f118 ow = .inl (cy 1, 5, .inl o2_110) := (congrFun e_f118 ow).trans (z_up_ne (z_tne hf_ow hf_pl (m := 140) (n := 4) rfl rfl (by decide)) hf_ow)
                have hf_mo : f118 mo = .inr (2, [.int v0, .int v1, .int v2, .int v3, .int v4, .int v5, .int v6, .ref la, .ref sa, .ref mi, .ref da]) := (congrFun e_f118 mo).trans (z_up_ne (z_tne hf_mo hf_pl (m := 2) (n := 4) rfl rfl (by decide)) hf_mo)
                have hf_la : f118 la = .inl (cy 1, 5, .inl gl) := (congrFun e_f118 la).trans (z_up_ne (z_tne hf_la hf_pl (m := 140) (n := 4) rfl rfl (by decide)) hf_la)
                have hf_sa : f118 sa = .inl (cy 1, 4, .inl gs) := (congrFun e_f118 sa).trans (z_up_ne (z_tne hf_sa hf_pl (m := 132) (n := 4) rfl rfl (by decide)) hf_sa)
                have hf_mi : f118 mi = .inl (cy 1, 36, .inl gm) := (congrFun e_f118 mi).trans (z_up_ne (z_tne hf_mi hf_pl (m := 388) (n := 4) rfl rfl (by decide)) hf_mi)
                have hf_da : f118 da = .inl (cy 4, 13, .inr (.inr (.inr (.inr gd)))) := (congrFun e_f118 da).trans (z_up_ne (z_tne hf_da hf_pl (m := 206) (n := 4) rfl rfl (by decide)) hf_da)
                have hf_dq1 : f118 dq1 = .inr (0, [.int do71, .int dg72, .int dd73, .int K56, .int ds75, .int dl76, .int dp77, .int dm78]) := (congrFun e_f118 dq1).trans (z_up_ne (z_tne hf_dq1 hf_pl (m := 0) (n := 4) rfl rfl (by decide)) hf_dq1)
                have hd_da : z_Drv L f118 dv 13 := z_Drv_up hd_da e_f118 hf_pl (m := 4) rfl (by decide)
                have hf_pl : f118 pl = .inr (4, [.ref mo, .ref wk, .ref ot, .int w114, .int K14, .int PH60, .int p6, .int p7, .int p8, .int p9, .int p10, .int p11]) := (congrFun e_f118 pl).trans z_up_self
                have hfr : ∀ b ∈ L, b ≠ pl → b ≠ ot → b ≠ wk → b ≠ ks → b ≠ ct → b ≠ se → b ≠ ow → (∀ i : Nat, i < 13 → b ≠ dv i) → f118 b = f b := fun b hb h0 h1 h2 h3 h4 h5 h6 hp0 => (congrFun e_f118 b).trans (z_up_ne h0 (hfr b hb h0 h1 h2 h3 h4 h5 h6 hp0))
                refine lv_aload_n hx hb dX4_seekBest_156 rfl (lv_at hl 6 rfl) ?_
                refine lv_iload hx hb dX4_seekBest_157 (lv_at hl 1 rfl) ?_
                refine z_put (C := RX4) (T := TX4) (N := 12) (ci := 4) (v := .int K56) (fs' := [.ref mo, .ref wk, .ref ot, .int w114, .int K14, .int K56, .int p6, .int p7, .int p8, .int p9, .int p10, .int p11]) hx hb hT zin_X4 tyX4_ok nmX4 hown hK hw hm_pl hf_pl rfl 5 (by decide) (hT _ kw_392) rfl rfl rfl (Nat.le_of_ble_eq_true rfl) rfl dX4_seekBest_159 (fun H locs hw => ?_)
                obtain ⟨f119, e_f119⟩ : ∃ z, z = va_up f118 pl (.inr (4, [.ref mo, .ref wk, .ref ot, .int w114, .int K14, .int K56, .int p6, .int p7, .int p8, .int p9, .int p10, .int p11])) := ⟨_, rfl⟩
                rw [← e_f119] at hw
                have hf_ot : f119 ot = .inl (cy 1, 216, .inl g2_12) := (congrFun e_f119 ot).trans (z_up_ne (z_tne hf_ot hf_pl (m := 1828) (n := 4) rfl rfl (by decide)) hf_ot)
                have hf_wk : f119 wk = .inr (8, [.ref ks, .int w2_105, .ref ct, .ref se, .ref ow, .int t2_106, .int wd, .int wp]) := (congrFun e_f119 wk).trans (z_up_ne (z_tne hf_wk hf_pl (m := 8) (n := 4) rfl rfl (by decide)) hf_wk)
                have hf_ks : f119 ks = .inl (cy 1, 13, .inl k2_107) := (congrFun e_f119 ks).trans (z_up_ne (z_tne hf_ks hf_pl (m := 204) (n := 4) rfl rfl (by decide)) hf_ks)
                have hf_ct : f119 ct = .inl (cy 1, 4, .inl c2_108) := (congrFun e_f119 ct).trans (z_up_ne (z_tne hf_ct hf_pl (m := 132) (n := 4) rfl rfl (by decide)) hf_ct)
                have hf_se : f119 se = .inl (cy 1, 4, .inl q2_109) := (congrFun e_f119 se).trans (z_up_ne (z_tne hf_se hf_pl (m := 132) (n := 4) rfl rfl (by decide)) hf_se)
                have hf_ow : f119 ow = .inl (cy 1, 5, .inl o2_110) := (congrFun e_f119 ow).trans (z_up_ne (z_tne hf_ow hf_pl (m := 140) (n := 4) rfl rfl (by decide)) hf_ow)
                have hf_mo : f119 mo = .inr (2, [.int v0, .int v1, .int v2, .int v3, .int v4, .int v5, .int v6, .ref la, .ref sa, .ref mi, .ref da]) := (congrFun e_f119 mo).trans (z_up_ne (z_tne hf_mo hf_pl (m := 2) (n := 4) rfl rfl (by decide)) hf_mo)
                have hf_la : f119 la = .inl (cy 1, 5, .inl gl) := (congrFun e_f119 la).trans (z_up_ne (z_tne hf_la hf_pl (m := 140) (n := 4) rfl rfl (by decide)) hf_la)
                have hf_sa : f119 sa = .inl (cy 1, 4, .inl gs) := (congrFun e_f119 sa).trans (z_up_ne (z_tne hf_sa hf_pl (m := 132) (n := 4) rfl rfl (by decide)) hf_sa)
                have hf_mi : f119 mi = .inl (cy 1, 36, .inl gm) := (congrFun e_f119 mi).trans (z_up_ne (z_tne hf_mi hf_pl (m := 388) (n := 4) rfl rfl (by decide)) hf_mi)
                have hf_da : f119 da = .inl (cy 4, 13, .inr (.inr (.inr (.inr gd)))) := (congrFun e_f119 da).trans (z_up_ne (z_tne hf_da hf_pl (m := 206) (n := 4) rfl rfl (by decide)) hf_da)
                have hf_dq1 : f119 dq1 = .inr (0, [.int do71, .int dg72, .int dd73, .int K56, .int ds75, .int dl76, .int dp77, .int dm78]) := (congrFun e_f119 dq1).trans (z_up_ne (z_tne hf_dq1 hf_pl (m := 0) (n := 4) rfl rfl (by decide)) hf_dq1)
                have hd_da : z_Drv L f119 dv 13 := z_Drv_up hd_da e_f119 hf_pl (m := 4) rfl (by decide)
                have hf_pl : f119 pl = .inr (4, [.ref mo, .ref wk, .ref ot, .int w114, .int K14, .int K56, .int p6, .int p7, .int p8, .int p9, .int p10, .int p11]) := (congrFun e_f119 pl).trans z_up_self
                have hfr : ∀ b ∈ L, b ≠ pl → b ≠ ot → b ≠ wk → b ≠ ks → b ≠ ct → b ≠ se → b ≠ ow → (∀ i : Nat, i < 13 → b ≠ dv i) → f119 b = f b := fun b hb h0 h1 h2 h3 h4 h5 h6 hp0 => (congrFun e_f119 b).trans (z_up_ne h0 (hfr b hb h0 h1 h2 h3 h4 h5 h6 hp0))
                obtain ⟨k120, e_k120⟩ : ∃ z : Int32, z = K56 + 1 := ⟨_, rfl⟩
                refine lv_iinc (v := k120) (lv' := [(6, .int k120), (7, .int w114), (5, .int K14), (4, .int dh5), (3, .int dg3), (2, .ref dq1), (0, .ref pl), (1, .int nu)]) hx hb dX4_seekBest_162 hl (k := 1) rfl (by rw [e_k120]; rfl) (by decide) rfl (fun ls hl => ?_)
                have i_k120 : k120.toInt = (K56.toInt + 1) := z_add e_k120 rfl (by decide) (by omega)
                refine lv_goto (tgt := 63) hx hb dX4_seekBest_165 (by decide) ?_
                exact ih_63 _ (by omega) _ _ _ ⟨k120, k2_107, c2_108, q2_109, o2_110, w114, K14, K56, w2_105, t2_106, f119, rfl, (by first | decide | omega), (by first | decide | omega), (by omega), (by omega), (by omega), hbg111.2, hw, hf_pl, hf_ot, hf_wk, hf_ks, hf_ct, hf_se, hf_ow, hf_mo, hf_la, hf_sa, hf_mi, hf_da, hfr, hd_da, (lv_sub hl [0, 2, 3, 4, 5, 6, 7] rfl)⟩
            · skip
              refine z_if_ne (tgt := 99) hx hb (show (0 : Int32).toInt = 0 by decide) dX4_seekBest_93 (by decide) (fun h => absurd h (by decide)) (fun _ => ?_)
              refine lv_goto (tgt := 162) hx hb dX4_seekBest_96 (by decide) ?_
              obtain ⟨k121, e_k121⟩ : ∃ z : Int32, z = K56 + 1 := ⟨_, rfl⟩
              refine lv_iinc (v := k121) (lv' := [(6, .int k121), (5, .int K14), (4, .int dh5), (3, .int dg3), (2, .ref dq1), (0, .ref pl), (1, .int nu)]) hx hb dX4_seekBest_162 hl (k := 0) rfl (by rw [e_k121]; rfl) (by decide) rfl (fun ls hl => ?_)
              have i_k121 : k121.toInt = (K56.toInt + 1) := z_add e_k121 rfl (by decide) (by omega)
              refine lv_goto (tgt := 63) hx hb dX4_seekBest_165 (by decide) ?_
              exact ih_63 _ (by omega) _ _ _ ⟨k121, G63, G64, G65, G66, PA58, PG59, PH60, WN61, WT62, f79, rfl, (by first | decide | omega), (by first | decide | omega), (by omega), (by omega), (by omega), hi3, hw, hf_pl, hf_ot, hf_wk, hf_ks, hf_ct, hf_se, hf_ow, hf_mo, hf_la, hf_sa, hf_mi, hf_da, hfr, hd_da, (lv_sub hl [0, 1, 2, 3, 4, 5, 6] rfl)⟩

set_option maxHeartbeats 2000000 in
set_option maxRecDepth 100000 in
theorem c_X4_restless (l : Launch) {D : va_G} {cy : Nat → ClassId} {L : List Nat} {f : Nat → va_E} {sz : Nat} {adK adV : Nat → Nat} {pl ot : Nat} {p3 p4 p5 p6 p7 p8 p9 p10 p11 : Int32} {gx : Nat → Int32} {wk ks ct se ow : Nat} {wn wt wd wp : Int32} {gk gc gq go : Nat → Int32} {mo la sa mi da : Nat} {v0 v1 v2 v3 v4 v5 v6 : Int32} {gl gs gm : Nat → Int32} {gd : Nat → Option Nat} {dv : Nat → Nat} (hm_pl : pl ∈ L) (hm_ot : ot ∈ L) (hm_wk : wk ∈ L) (hm_ks : ks ∈ L) (hm_ct : ct ∈ L) (hm_se : se ∈ L) (hm_ow : ow ∈ L) (hm_mo : mo ∈ L) (hm_la : la ∈ L) (hm_sa : sa ∈ L) (hm_mi : mi ∈ L) (hm_da : da ∈ L) (hf_pl : f pl = .inr (4, [.ref mo, .ref wk, .ref ot, .int p3, .int p4, .int p5, .int p6, .int p7, .int p8, .int p9, .int p10, .int p11])) (hf_ot : f ot = .inl (cy 1, 216, .inl gx)) (hf_wk : f wk = .inr (8, [.ref ks, .int wn, .ref ct, .ref se, .ref ow, .int wt, .int wd, .int wp])) (hf_ks : f ks = .inl (cy 1, 13, .inl gk)) (hf_ct : f ct = .inl (cy 1, 4, .inl gc)) (hf_se : f se = .inl (cy 1, 4, .inl gq)) (hf_ow : f ow = .inl (cy 1, 5, .inl go)) (hf_mo : f mo = .inr (2, [.int v0, .int v1, .int v2, .int v3, .int v4, .int v5, .int v6, .ref la, .ref sa, .ref mi, .ref da])) (hf_la : f la = .inl (cy 1, 5, .inl gl)) (hf_sa : f sa = .inl (cy 1, 4, .inl gs)) (hf_mi : f mi = .inl (cy 1, 36, .inl gm)) (hf_da : f da = .inl (cy 4, 13, .inr (.inr (.inr (.inr gd))))) (ne_ct_se : ct ≠ se) (ne_ct_sa : ct ≠ sa) (ne_se_sa : se ≠ sa) (ne_ow_la : ow ≠ la) (hg_da : ∀ i : Nat, i < 13 → gd i = some (dv i)) (hd_da : z_Drv L f dv 13) (hv2 : 0 ≤ v2.toInt ∧ v2.toInt ≤ 9) (hv5 : 0 ≤ v5.toInt ∧ v5.toInt ≤ 13) (hv1 : 0 ≤ v1.toInt ∧ v1.toInt ≤ 4) (hgk : ∀ j : Nat, z_key (gk j)) (hgm : ∀ j : Nat, 0 ≤ (gm j).toInt ∧ (gm j).toInt ≤ 9) (hp4 : 0 ≤ p4.toInt ∧ p4.toInt ≤ 3) (hp5 : 0 ≤ p5.toInt ∧ p5.toInt ≤ 23) (hwn : 0 ≤ wn.toInt ∧ wn.toInt ≤ 13) : Met l yX4_restless (z_ws yX4_restless cX4_restless 3 (some .int)) (z_R 6 0 0) (va_Pc [.ref pl] (z_Pre D vwCl (z_KK D cy adK adV) L f sz)) (z_Qi D vwCl (fun r u => L = u.1 ∧ (∀ b ∈ L, b ≠ pl → b ≠ ot → b ≠ wk → b ≠ ks → b ≠ ct → b ≠ se → b ≠ ow → (∀ i : Nat, i < 13 → b ≠ dv i) → u.2 b = f b) ∧ (∃ (w2 t2 q3 q4 q5 : Int32) (k2 c2 s2 o2 x2 : Nat → Int32), (u.2 pl = .inr (4, [.ref mo, .ref wk, .ref ot, .int q3, .int q4, .int q5, .int p6, .int p7, .int p8, .int p9, .int p10, .int p11])) ∧ (u.2 ot = .inl (cy 1, 216, .inl x2)) ∧ (u.2 wk = .inr (8, [.ref ks, .int w2, .ref ct, .ref se, .ref ow, .int t2, .int wd, .int wp])) ∧ (u.2 ks = .inl (cy 1, 13, .inl k2)) ∧ (u.2 ct = .inl (cy 1, 4, .inl c2)) ∧ (u.2 se = .inl (cy 1, 4, .inl s2)) ∧ (u.2 ow = .inl (cy 1, 5, .inl o2)) ∧ (z_Drv u.1 u.2 dv 13) ∧ ((r.toInt = -1 ∨ (0 ≤ r.toInt ∧ r.toInt ≤ 12)) ∧ (0 ≤ w2.toInt ∧ w2.toInt ≤ 13) ∧ (0 ≤ q4.toInt ∧ q4.toInt ≤ 3) ∧ (0 ≤ q5.toInt ∧ q5.toInt ≤ 23) ∧ ∀ j : Nat, z_key (k2 j)))) L sz) 0 0 (z_A L sz) := by
  refine z_met (cc := cX4_restless) (maxL := 3) (ret := (some .int)) (lv := [(0, .ref pl)]) (by decide) rfl (Nat.le_of_ble_eq_true rfl) rfl ?_
  intro p e s m below meth c ls hx hb hr hlk hml hown hnm hts hKK hA hw hl
  have hK := hKK.1.1
  have hown : s.vm.findClass RX4 = some m.cls := hown
  have hT : ∀ w ∈ lw_all, w.before ([.ref pl] : List Value).toArray s = true := fun w h => hts w (z_cons w h)
  have hsub : L = L := rfl
  have hfr : ∀ b ∈ L, b ≠ pl → b ≠ ot → b ≠ wk → b ≠ ks → b ≠ ct → b ≠ se → b ≠ ow → (∀ i : Nat, i < 13 → b ≠ dv i) → f b = f b := fun _ _ _ _ _ _ _ _ _ _ => rfl
  refine lv_iconst (v := 0) hx hb dX4_restless_0 (by decide) ?_
  refine lv_istore_n (lv' := [(1, .int 0), (0, .ref pl)]) hx hb dX4_restless_1 rfl hl (by decide) rfl (fun ls hl => ?_)
  have hzk : (0 : Int32).toInt = 0 := by decide
  refine z_loop (fun n H locs ls => ∃ (K1 : Int32) (G9 : Nat → Int32) (G10 : Nat → Int32) (G11 : Nat → Int32) (G12 : Nat → Int32) (G6 : Nat → Int32) (PA3 : Int32) (PG4 : Int32) (PH5 : Int32) (WN7 : Int32) (WT8 : Int32) (f2 : Nat → va_E), (n = (v5.toInt - K1.toInt).toNat) ∧ (0 ≤ K1.toInt) ∧ (K1.toInt ≤ v5.toInt) ∧ (0 ≤ PG4.toInt ∧ PG4.toInt ≤ 3) ∧ (0 ≤ PH5.toInt ∧ PH5.toInt ≤ 23) ∧ (0 ≤ WN7.toInt ∧ WN7.toInt ≤ 13) ∧ (∀ j : Nat, z_key (G9 j)) ∧ (z_H D vwCl (z_A L sz) s.heap L f2 H locs) ∧ (f2 pl = .inr (4, [.ref mo, .ref wk, .ref ot, .int PA3, .int PG4, .int PH5, .int p6, .int p7, .int p8, .int p9, .int p10, .int p11])) ∧ (f2 ot = .inl (cy 1, 216, .inl G6)) ∧ (f2 wk = .inr (8, [.ref ks, .int WN7, .ref ct, .ref se, .ref ow, .int WT8, .int wd, .int wp])) ∧ (f2 ks = .inl (cy 1, 13, .inl G9)) ∧ (f2 ct = .inl (cy 1, 4, .inl G10)) ∧ (f2 se = .inl (cy 1, 4, .inl G11)) ∧ (f2 ow = .inl (cy 1, 5, .inl G12)) ∧ (f2 mo = .inr (2, [.int v0, .int v1, .int v2, .int v3, .int v4, .int v5, .int v6, .ref la, .ref sa, .ref mi, .ref da])) ∧ (f2 la = .inl (cy 1, 5, .inl gl)) ∧ (f2 sa = .inl (cy 1, 4, .inl gs)) ∧ (f2 mi = .inl (cy 1, 36, .inl gm)) ∧ (f2 da = .inl (cy 4, 13, .inr (.inr (.inr (.inr gd))))) ∧ (∀ b ∈ L, b ≠ pl → b ≠ ot → b ≠ wk → b ≠ ks → b ≠ ct → b ≠ se → b ≠ ow → (∀ i : Nat, i < 13 → b ≠ dv i) → f2 b = f b) ∧ (z_Drv L f2 dv 13) ∧ (lv_has ls 3 [(1, .int K1), (0, .ref pl)])) _ ⟨0, gk, gc, gq, go, gx, p3, p4, p5, wn, wt, f, rfl, (by first | decide | omega), (by first | decide | omega), (by omega), (by omega), (by omega), hgk, hw, hf_pl, hf_ot, hf_wk, hf_ks, hf_ct, hf_se, hf_ow, hf_mo, hf_la, hf_sa, hf_mi, hf_da, hfr, hd_da, (lv_sub hl [0, 1] rfl)⟩ (fun n H locs ls hI ih_2 => ?_)
  obtain ⟨K1, G9, G10, G11, G12, G6, PA3, PG4, PH5, WN7, WT8, f2, hn, hk0, hk1, hi0, hi1, hi2, hi3, hw, hf_pl, hf_ot, hf_wk, hf_ks, hf_ct, hf_se, hf_ow, hf_mo, hf_la, hf_sa, hf_mi, hf_da, hfr, hd_da, hl⟩ := hI
  refine lv_iload_n hx hb dX4_restless_2 rfl (lv_at hl 0 rfl) ?_
  refine lv_aload_n hx hb dX4_restless_3 rfl (lv_at hl 1 rfl) ?_
  refine z_get (C := RX4) (T := TX4) (N := 12) (ci := 4) (v := .ref mo) hx hb hT zin_X4 hown hK hw hm_pl hf_pl rfl 0 (by decide) (hT _ kw_384) rfl dX4_restless_4 ?_
  refine z_get (C := RX2) (T := TX2) (N := 11) (ci := 2) (v := .int v5) hx hb hT zin_X2 hown hK hw hm_mo hf_mo rfl 5 (by decide) (hT _ kw_223) rfl dX4_restless_7 ?_
  refine z_icmp_ge (tgt := 62) hx hb rfl rfl dX4_restless_10 (by decide) (fun c13 => ?_) (fun c13 => ?_)
  · skip
    refine lv_iconst (v := (-1)) hx hb dX4_restless_62 (by decide) ?_
    exact z_iret hx hb hr hlk (by decide) (by decide) hw (⟨hsub, hfr, WN7, WT8, PA3, PG4, PH5, G9, G10, G11, G12, G6, hf_pl, hf_ot, hf_wk, hf_ks, hf_ct, hf_se, hf_ow, hd_da, Or.inl (by decide), by omega, by omega, by omega, hi3⟩) dX4_restless_63
  · skip
    refine lv_aload_n hx hb dX4_restless_13 rfl (lv_at hl 1 rfl) ?_
    refine z_get (C := RX4) (T := TX4) (N := 12) (ci := 4) (v := .ref wk) hx hb hT zin_X4 hown hK hw hm_pl hf_pl rfl 1 (by decide) (hT _ kw_386) rfl dX4_restless_14 ?_
    refine lv_aload_n hx hb dX4_restless_17 rfl (lv_at hl 1 rfl) ?_
    refine z_get (C := RX4) (T := TX4) (N := 12) (ci := 4) (v := .ref mo) hx hb hT zin_X4 hown hK hw hm_pl hf_pl rfl 0 (by decide) (hT _ kw_384) rfl dX4_restless_18 ?_
    refine lv_aload_n hx hb dX4_restless_21 rfl (lv_at hl 1 rfl) ?_
    refine z_get (C := RX4) (T := TX4) (N := 12) (ci := 4) (v := .ref mo) hx hb hT zin_X4 hown hK hw hm_pl hf_pl rfl 0 (by decide) (hT _ kw_384) rfl dX4_restless_22 ?_
    refine z_get (C := RX2) (T := TX2) (N := 11) (ci := 2) (v := .ref da) hx hb hT zin_X2 hown hK hw hm_mo hf_mo rfl 10 (by decide) (hT _ kw_243) rfl dX4_restless_25 ?_
    refine lv_iload_n hx hb dX4_restless_28 rfl (lv_at hl 0 rfl) ?_
    obtain ⟨dq14, e_dq14⟩ : ∃ z, z = dv K1.toNatClampNeg := ⟨_, rfl⟩
    have hi_dq14 : K1.toNatClampNeg < 13 := z_clI rfl (by omega)
    refine z_aald (b := dq14) hx hb hK hw 4 hm_da hf_da rfl (z_ix rfl (by omega)) (by rw [e_dq14]; exact hg_da _ hi_dq14) dX4_restless_29 ?_
    obtain ⟨hm_dq14, do15, dg16, dd17, dh18, ds19, dl20, dp21, dm22, hf_dq14, hr_do15, hr_dg16, hr_dd17, hr_dh18, hr_ds19, hr_dl20, hr_dp21, hr_dm22⟩ := hd_da _ hi_dq14
    rw [← e_dq14] at hm_dq14 hf_dq14
    refine z_get (C := RX0) (T := TX0) (N := 8) (ci := 0) (v := .int do15) hx hb hT zin_X0 hown hK hw hm_dq14 hf_dq14 rfl 0 (by decide) (hT _ kw_142) rfl dX4_restless_30 ?_
    refine z_calliV (cells := 0) (slots := 0) (b := wk) (As := [.ref mo, .int do15]) (rest := []) (ci := 8) (q0 := (RX8, TX8, 8)) ⟨hx, hb, hml, hown, hT⟩ (c_X8_sumOf l hm_wk hm_ks hm_ct hm_se hm_ow hm_mo hm_la hm_sa hm_mi hm_da hf_wk hf_ks hf_ct hf_se hf_ow hf_mo hf_la hf_sa hf_mi hf_da ne_ct_se ne_ct_sa ne_se_sa ne_ow_la hg_da hd_da (by first | omega | decide | assumption) (by first | omega | decide | assumption) hi3 hgm (by first | omega | decide | assumption)) (cwV 2 hT (z_goodV (fun _ h => h) kw_938 kw_863 kw_864 kw_92 kw_865) rfl rfl rfl (by decide +kernel) ⟨by decide, by decide⟩) z_mv hKK hK hw hA hm_wk hf_wk rfl rfl rfl hl.1 rfl (Nat.le_of_ble_eq_true rfl) dX4_restless_33 ⟨by decide, by decide⟩ (fun r23 u H locs hp hw => ?_)
    obtain ⟨L24, f25⟩ := u
    obtain ⟨hsb, hfm, w2_26, t2_27, k2_28, c2_29, q2_30, o2_31, ha_0, ha_1, ha_2, ha_3, ha_4, hp⟩ := hp
    have hsb : L = L24 := hsb
    subst hsb
    have hsb : ∀ b ∈ L, b ∈ L := fun _ h => h
    have hw : z_H D vwCl (z_A L sz) s.heap L f25 H locs := hw
    have hfr : ∀ b ∈ L, b ≠ pl → b ≠ ot → b ≠ wk → b ≠ ks → b ≠ ct → b ≠ se → b ≠ ow → (∀ i : Nat, i < 13 → b ≠ dv i) → f25 b = f b := fun b hb h0 h1 h2 h3 h4 h5 h6 hp0 => (hfm b hb h2 h3 h4 h5 h6).trans (hfr b hb h0 h1 h2 h3 h4 h5 h6 hp0)
    have hd_da : z_Drv L f25 dv 13 := z_Drv_fr hd_da hsb (fun b hb ht => hfm b hb (z_t0 ht hf_wk (m := 8) rfl (by decide)) (z_t0 ht hf_ks (m := 204) rfl (by decide)) (z_t0 ht hf_ct (m := 132) rfl (by decide)) (z_t0 ht hf_se (m := 132) rfl (by decide)) (z_t0 ht hf_ow (m := 140) rfl (by decide)))
    have hf_pl : f25 pl = .inr (4, [.ref mo, .ref wk, .ref ot, .int PA3, .int PG4, .int PH5, .int p6, .int p7, .int p8, .int p9, .int p10, .int p11]) := (hfm pl hm_pl (z_tne hf_pl hf_wk (m := 4) (n := 8) rfl rfl (by decide)) (z_tne hf_pl hf_ks (m := 4) (n := 204) rfl rfl (by decide)) (z_tne hf_pl hf_ct (m := 4) (n := 132) rfl rfl (by decide)) (z_tne hf_pl hf_se (m := 4) (n := 132) rfl rfl (by decide)) (z_tne hf_pl hf_ow (m := 4) (n := 140) rfl rfl (by decide))).trans hf_pl
    have hf_ot : f25 ot = .inl (cy 1, 216, .inl G6) := (hfm ot hm_ot (z_tne hf_ot hf_wk (m := 1828) (n := 8) rfl rfl (by decide)) (z_tne hf_ot hf_ks (m := 1828) (n := 204) rfl rfl (by decide)) (z_tne hf_ot hf_ct (m := 1828) (n := 132) rfl rfl (by decide)) (z_tne hf_ot hf_se (m := 1828) (n := 132) rfl rfl (by decide)) (z_tne hf_ot hf_ow (m := 1828) (n := 140) rfl rfl (by decide))).trans hf_ot
    have hf_mo : f25 mo = .inr (2, [.int v0, .int v1, .int v2, .int v3, .int v4, .int v5, .int v6, .ref la, .ref sa, .ref mi, .ref da]) := (hfm mo hm_mo (z_tne hf_mo hf_wk (m := 2) (n := 8) rfl rfl (by decide)) (z_tne hf_mo hf_ks (m := 2) (n := 204) rfl rfl (by decide)) (z_tne hf_mo hf_ct (m := 2) (n := 132) rfl rfl (by decide)) (z_tne hf_mo hf_se (m := 2) (n := 132) rfl rfl (by decide)) (z_tne hf_mo hf_ow (m := 2) (n := 140) rfl rfl (by decide))).trans hf_mo
    have hf_la : f25 la = .inl (cy 1, 5, .inl gl) := (hfm la hm_la (z_tne hf_la hf_wk (m := 140) (n := 8) rfl rfl (by decide)) (z_tne hf_la hf_ks (m := 140) (n := 204) rfl rfl (by decide)) (z_tne hf_la hf_ct (m := 140) (n := 132) rfl rfl (by decide)) (z_tne hf_la hf_se (m := 140) (n := 132) rfl rfl (by decide)) (Ne.symm ne_ow_la)).trans hf_la
    have hf_sa : f25 sa = .inl (cy 1, 4, .inl gs) := (hfm sa hm_sa (z_tne hf_sa hf_wk (m := 132) (n := 8) rfl rfl (by decide)) (z_tne hf_sa hf_ks (m := 132) (n := 204) rfl rfl (by decide)) (Ne.symm ne_ct_sa) (Ne.symm ne_se_sa) (z_tne hf_sa hf_ow (m := 132) (n := 140) rfl rfl (by decide))).trans hf_sa
    have hf_mi : f25 mi = .inl (cy 1, 36, .inl gm) := (hfm mi hm_mi (z_tne hf_mi hf_wk (m := 388) (n := 8) rfl rfl (by decide)) (z_tne hf_mi hf_ks (m := 388) (n := 204) rfl rfl (by decide)) (z_tne hf_mi hf_ct (m := 388) (n := 132) rfl rfl (by decide)) (z_tne hf_mi hf_se (m := 388) (n := 132) rfl rfl (by decide)) (z_tne hf_mi hf_ow (m := 388) (n := 140) rfl rfl (by decide))).trans hf_mi
    have hf_da : f25 da = .inl (cy 4, 13, .inr (.inr (.inr (.inr gd)))) := (hfm da hm_da (z_tne hf_da hf_wk (m := 206) (n := 8) rfl rfl (by decide)) (z_tne hf_da hf_ks (m := 206) (n := 204) rfl rfl (by decide)) (z_tne hf_da hf_ct (m := 206) (n := 132) rfl rfl (by decide)) (z_tne hf_da hf_se (m := 206) (n := 132) rfl rfl (by decide)) (z_tne hf_da hf_ow (m := 206) (n := 140) rfl rfl (by decide))).trans hf_da
    have hf_dq14 : f25 dq14 = .inr (0, [.int do15, .int dg16, .int dd17, .int dh18, .int ds19, .int dl20, .int dp21, .int dm22]) := (hfm dq14 hm_dq14 (z_tne hf_dq14 hf_wk (m := 0) (n := 8) rfl rfl (by decide)) (z_tne hf_dq14 hf_ks (m := 0) (n := 204) rfl rfl (by decide)) (z_tne hf_dq14 hf_ct (m := 0) (n := 132) rfl rfl (by decide)) (z_tne hf_dq14 hf_se (m := 0) (n := 132) rfl rfl (by decide)) (z_tne hf_dq14 hf_ow (m := 0) (n := 140) rfl rfl (by decide))).trans hf_dq14
    have hf_wk : f25 wk = .inr (8, [.ref ks, .int w2_26, .ref ct, .ref se, .ref ow, .int t2_27, .int wd, .int wp]) := ha_0
    have hf_ks : f25 ks = .inl (cy 1, 13, .inl k2_28) := ha_1
    have hf_ct : f25 ct = .inl (cy 1, 4, .inl c2_29) := ha_2
    have hf_se : f25 se = .inl (cy 1, 4, .inl q2_30) := ha_3
    have hf_ow : f25 ow = .inl (cy 1, 5, .inl o2_31) := ha_4
    have hbg32 := hp
    refine lv_istore_n (lv' := [(2, .int r23), (1, .int K1), (0, .ref pl)]) hx hb dX4_restless_36 rfl hl (by decide) rfl (fun ls hl => ?_)
    refine lv_iload_n hx hb dX4_restless_37 rfl (lv_at hl 0 rfl) ?_
    refine z_if_le (tgt := 56) hx hb rfl dX4_restless_38 (by decide) (fun c33 => ?_) (fun c33 => ?_)
    · skip
      obtain ⟨k34, e_k34⟩ : ∃ z : Int32, z = K1 + 1 := ⟨_, rfl⟩
      refine lv_iinc (v := k34) (lv' := [(1, .int k34), (2, .int r23), (0, .ref pl)]) hx hb dX4_restless_56 hl (k := 1) rfl (by rw [e_k34]; rfl) (by decide) rfl (fun ls hl => ?_)
      have i_k34 : k34.toInt = (K1.toInt + 1) := z_add e_k34 rfl (by decide) (by omega)
      refine lv_goto (tgt := 2) hx hb dX4_restless_59 (by decide) ?_
      exact ih_2 _ (by omega) _ _ _ ⟨k34, k2_28, c2_29, q2_30, o2_31, G6, PA3, PG4, PH5, w2_26, t2_27, f25, rfl, (by first | decide | omega), (by first | decide | omega), (by omega), (by omega), (by omega), hbg32.2, hw, hf_pl, hf_ot, hf_wk, hf_ks, hf_ct, hf_se, hf_ow, hf_mo, hf_la, hf_sa, hf_mi, hf_da, hfr, hd_da, (lv_sub hl [0, 2] rfl)⟩
    · skip
      refine lv_aload_n hx hb dX4_restless_41 rfl (lv_at hl 2 rfl) ?_
      refine lv_iload_n hx hb dX4_restless_42 rfl (lv_at hl 1 rfl) ?_
      refine z_callvV (cells := 0) (slots := 0) (b := pl) (As := [.int K1]) (rest := []) (ci := 4) (q0 := (RX4, TX4, 12)) ⟨hx, hb, hml, hown, hT⟩ (c_X4_seekBest l hm_pl hm_ot hm_wk hm_ks hm_ct hm_se hm_ow hm_mo hm_la hm_sa hm_mi hm_da hf_pl hf_ot hf_wk hf_ks hf_ct hf_se hf_ow hf_mo hf_la hf_sa hf_mi hf_da ne_ct_se ne_ct_sa ne_se_sa ne_ow_la hg_da hd_da (by first | omega | decide | assumption) (by first | omega | decide | assumption) (by first | omega | decide | assumption) (by first | omega | decide | assumption) hbg32.2 hgm (by first | omega | decide | assumption) (by first | omega | decide | assumption) (by first | omega | decide | assumption)) (cwV 1 hT (z_goodV (fun _ h => h) kw_929 kw_905 kw_906 kw_93 kw_907) rfl rfl rfl (by decide +kernel) ⟨by decide, by decide⟩) z_mv hKK hK hw hA hm_pl hf_pl rfl rfl rfl hl.1 rfl (Nat.le_of_ble_eq_true rfl) dX4_restless_43 ⟨by decide, by decide⟩ (fun u H locs hp hw => ?_)
      obtain ⟨L35, f36⟩ := u
      obtain ⟨hsb, hfm, w2_37, t2_38, q3_39, q4_40, q5_41, k2_42, c2_43, s2_44, o2_45, x2_46, ha_0, ha_1, ha_2, ha_3, ha_4, ha_5, ha_6, hv_da, hp⟩ := hp
      have hsb : L = L35 := hsb
      subst hsb
      have hsb : ∀ b ∈ L, b ∈ L := fun _ h => h
      have hw : z_H D vwCl (z_A L sz) s.heap L f36 H locs := hw
      have hdo_da := hd_da
      have hfr : ∀ b ∈ L, b ≠ pl → b ≠ ot → b ≠ wk → b ≠ ks → b ≠ ct → b ≠ se → b ≠ ow → (∀ i : Nat, i < 13 → b ≠ dv i) → f36 b = f b := fun b hb h0 h1 h2 h3 h4 h5 h6 hp0 => (hfm b hb h0 h1 h2 h3 h4 h5 h6 hp0).trans (hfr b hb h0 h1 h2 h3 h4 h5 h6 hp0)
      have hd_da : z_Drv L f36 dv 13 := hv_da
      have hf_mo : f36 mo = .inr (2, [.int v0, .int v1, .int v2, .int v3, .int v4, .int v5, .int v6, .ref la, .ref sa, .ref mi, .ref da]) := (hfm mo hm_mo (z_tne hf_mo hf_pl (m := 2) (n := 4) rfl rfl (by decide)) (z_tne hf_mo hf_ot (m := 2) (n := 1828) rfl rfl (by decide)) (z_tne hf_mo hf_wk (m := 2) (n := 8) rfl rfl (by decide)) (z_tne hf_mo hf_ks (m := 2) (n := 204) rfl rfl (by decide)) (z_tne hf_mo hf_ct (m := 2) (n := 132) rfl rfl (by decide)) (z_tne hf_mo hf_se (m := 2) (n := 132) rfl rfl (by decide)) (z_tne hf_mo hf_ow (m := 2) (n := 140) rfl rfl (by decide)) (z_Drv_ne hdo_da hf_mo (m := 2) rfl (by decide))).trans hf_mo
      have hf_la : f36 la = .inl (cy 1, 5, .inl gl) := (hfm la hm_la (z_tne hf_la hf_pl (m := 140) (n := 4) rfl rfl (by decide)) (z_tne hf_la hf_ot (m := 140) (n := 1828) rfl rfl (by decide)) (z_tne hf_la hf_wk (m := 140) (n := 8) rfl rfl (by decide)) (z_tne hf_la hf_ks (m := 140) (n := 204) rfl rfl (by decide)) (z_tne hf_la hf_ct (m := 140) (n := 132) rfl rfl (by decide)) (z_tne hf_la hf_se (m := 140) (n := 132) rfl rfl (by decide)) (Ne.symm ne_ow_la) (z_Drv_ne hdo_da hf_la (m := 140) rfl (by decide))).trans hf_la
      have hf_sa : f36 sa = .inl (cy 1, 4, .inl gs) := (hfm sa hm_sa (z_tne hf_sa hf_pl (m := 132) (n := 4) rfl rfl (by decide)) (z_tne hf_sa hf_ot (m := 132) (n := 1828) rfl rfl (by decide)) (z_tne hf_sa hf_wk (m := 132) (n := 8) rfl rfl (by decide)) (z_tne hf_sa hf_ks (m := 132) (n := 204) rfl rfl (by decide)) (Ne.symm ne_ct_sa) (Ne.symm ne_se_sa) (z_tne hf_sa hf_ow (m := 132) (n := 140) rfl rfl (by decide)) (z_Drv_ne hdo_da hf_sa (m := 132) rfl (by decide))).trans hf_sa
      have hf_mi : f36 mi = .inl (cy 1, 36, .inl gm) := (hfm mi hm_mi (z_tne hf_mi hf_pl (m := 388) (n := 4) rfl rfl (by decide)) (z_tne hf_mi hf_ot (m := 388) (n := 1828) rfl rfl (by decide)) (z_tne hf_mi hf_wk (m := 388) (n := 8) rfl rfl (by decide)) (z_tne hf_mi hf_ks (m := 388) (n := 204) rfl rfl (by decide)) (z_tne hf_mi hf_ct (m := 388) (n := 132) rfl rfl (by decide)) (z_tne hf_mi hf_se (m := 388) (n := 132) rfl rfl (by decide)) (z_tne hf_mi hf_ow (m := 388) (n := 140) rfl rfl (by decide)) (z_Drv_ne hdo_da hf_mi (m := 388) rfl (by decide))).trans hf_mi
      have hf_da : f36 da = .inl (cy 4, 13, .inr (.inr (.inr (.inr gd)))) := (hfm da hm_da (z_tne hf_da hf_pl (m := 206) (n := 4) rfl rfl (by decide)) (z_tne hf_da hf_ot (m := 206) (n := 1828) rfl rfl (by decide)) (z_tne hf_da hf_wk (m := 206) (n := 8) rfl rfl (by decide)) (z_tne hf_da hf_ks (m := 206) (n := 204) rfl rfl (by decide)) (z_tne hf_da hf_ct (m := 206) (n := 132) rfl rfl (by decide)) (z_tne hf_da hf_se (m := 206) (n := 132) rfl rfl (by decide)) (z_tne hf_da hf_ow (m := 206) (n := 140) rfl rfl (by decide)) (z_Drv_ne hdo_da hf_da (m := 206) rfl (by decide))).trans hf_da
      have hf_pl : f36 pl = .inr (4, [.ref mo, .ref wk, .ref ot, .int q3_39, .int q4_40, .int q5_41, .int p6, .int p7, .int p8, .int p9, .int p10, .int p11]) := ha_0
      have hf_ot : f36 ot = .inl (cy 1, 216, .inl x2_46) := ha_1
      have hf_wk : f36 wk = .inr (8, [.ref ks, .int w2_37, .ref ct, .ref se, .ref ow, .int t2_38, .int wd, .int wp]) := ha_2
      have hf_ks : f36 ks = .inl (cy 1, 13, .inl k2_42) := ha_3
      have hf_ct : f36 ct = .inl (cy 1, 4, .inl c2_43) := ha_4
      have hf_se : f36 se = .inl (cy 1, 4, .inl s2_44) := ha_5
      have hf_ow : f36 ow = .inl (cy 1, 5, .inl o2_45) := ha_6
      have hbg47 := hp
      refine lv_aload_n hx hb dX4_restless_46 rfl (lv_at hl 2 rfl) ?_
      refine z_get (C := RX4) (T := TX4) (N := 12) (ci := 4) (v := .int q3_39) hx hb hT zin_X4 hown hK hw hm_pl hf_pl rfl 3 (by decide) (hT _ kw_388) rfl dX4_restless_47 ?_
      refine lv_iload_n hx hb dX4_restless_50 rfl (lv_at hl 0 rfl) ?_
      refine z_icmp_ge (tgt := 56) hx hb rfl rfl dX4_restless_51 (by decide) (fun c48 => ?_) (fun c48 => ?_)
      · skip
        obtain ⟨k49, e_k49⟩ : ∃ z : Int32, z = K1 + 1 := ⟨_, rfl⟩
        refine lv_iinc (v := k49) (lv' := [(1, .int k49), (2, .int r23), (0, .ref pl)]) hx hb dX4_restless_56 hl (k := 1) rfl (by rw [e_k49]; rfl) (by decide) rfl (fun ls hl => ?_)
        have i_k49 : k49.toInt = (K1.toInt + 1) := z_add e_k49 rfl (by decide) (by omega)
        refine lv_goto (tgt := 2) hx hb dX4_restless_59 (by decide) ?_
        exact ih_2 _ (by omega) _ _ _ ⟨k49, k2_42, c2_43, s2_44, o2_45, x2_46, q3_39, q4_40, q5_41, w2_37, t2_38, f36, rfl, (by first | decide | omega), (by first | decide | omega), (by omega), (by omega), (by omega), hbg47.2.2.2, hw, hf_pl, hf_ot, hf_wk, hf_ks, hf_ct, hf_se, hf_ow, hf_mo, hf_la, hf_sa, hf_mi, hf_da, hfr, hd_da, (lv_sub hl [0, 2] rfl)⟩
      · skip
        refine lv_iload_n hx hb dX4_restless_54 rfl (lv_at hl 1 rfl) ?_
        exact z_iret hx hb hr hlk (by decide) (by decide) hw (⟨hsub, hfr, w2_37, t2_38, q3_39, q4_40, q5_41, k2_42, c2_43, s2_44, o2_45, x2_46, hf_pl, hf_ot, hf_wk, hf_ks, hf_ct, hf_se, hf_ow, hd_da, Or.inr (by omega), by omega, by omega, by omega, hbg47.2.2.2⟩) dX4_restless_55
