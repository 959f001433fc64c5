set_option maxHeartbeats 2000000 in
set_option maxRecDepth 100000 in
theorem c_X3_gather (l : Launch) {D : va_G} {cy : Nat → ClassId} {L : List Nat} {f : Nat → va_E} {sz : Nat} {adK adV : Nat → Nat} {wk : Nat} {oo ln fi sp : Nat} {om of : Int32} {gn : Nat → Int32} {mo la sa mi da : Nat} {v0 v1 v2 v3 v4 v5 v6 : Int32} {gd : Nat → Option Nat} {dv : Nat → Nat} {ga dy : Int32} (hm_oo : oo ∈ L) (hm_ln : ln ∈ L) (hm_mo : mo ∈ L) (hm_da : da ∈ L) (hf_oo : f oo = .inr (3, [.ref wk, .ref ln, .ref fi, .ref sp, .int om, .int of])) (hf_ln : f ln = .inl (cy 1, 6, .inl gn)) (hf_mo : f mo = .inr (2, [.int v0, .int v1, .int v2, .int v3, .int v4, .int v5, .int v6, .ref la, .ref sa, .ref mi, .ref da])) (hf_da : f da = .inl (cy 4, 13, .inr (.inr (.inr (.inr gd))))) (hg_da : ∀ i : Nat, i < 13 → gd i = some (dv i)) (hd_da : z_Drv L f dv 13) (hv2 : 0 ≤ v2.toInt ∧ v2.toInt ≤ 9) (hv5 : 0 ≤ v5.toInt ∧ v5.toInt ≤ 12) (hom : 0 ≤ om.toInt ∧ om.toInt ≤ 6) (hgn : ∀ j : Nat, z_le11 (gn j)) : Met l yX3_gather (z_ws yX3_gather cX3_gather 6 (some .int)) (z_R 3 0 0) (va_Pc [.ref oo, .ref mo, .int ga, .int dy] (z_Pre D vwCl (z_KK D cy adK adV) L f sz)) (z_Qi D vwCl (fun r u => L = u.1 ∧ (∀ b ∈ L, b ≠ oo → b ≠ ln → u.2 b = f b) ∧ (∃ (m2 : Int32) (g2 : Nat → Int32), (u.2 oo = .inr (3, [.ref wk, .ref ln, .ref fi, .ref sp, .int m2, .int of])) ∧ (u.2 ln = .inl (cy 1, 6, .inl g2)) ∧ ((0 ≤ m2.toInt ∧ m2.toInt ≤ 6) ∧ ∀ j : Nat, z_le11 (g2 j)))) L sz) 0 0 (z_A L sz) := by
  refine z_met (cc := cX3_gather) (maxL := 6) (ret := (some .int)) (lv := [(0, .ref oo), (1, .ref mo), (2, .int ga), (3, .int dy)]) (by decide) rfl (Nat.le_of_ble_eq_true rfl) rfl ?_
  intro p e s m below meth c ls hx hb hr hlk hml hown hnm hts hKK hA hw hl
  have hK := hKK.1.1
  have hown : s.vm.findClass RX3 = some m.cls := hown
  have hT : ∀ w ∈ lw_all, w.before ([.ref oo, .ref mo, .int ga, .int dy] : List Value).toArray s = true := fun w h => hts w (z_cons w h)
  have hsub : L = L := rfl
  have hfr : ∀ b ∈ L, b ≠ oo → b ≠ ln → f b = f b := fun _ _ _ _ => rfl
  refine lv_aload_n hx hb dX3_gather_0 rfl (lv_at hl 0 rfl) ?_
  refine lv_iconst (v := 0) hx hb dX3_gather_1 (by decide) ?_
  refine z_put (C := RX3) (T := TX3) (N := 6) (ci := 3) (v := .int 0) (fs' := [.ref wk, .ref ln, .ref fi, .ref sp, .int 0, .int of]) hx hb hT zin_X3 tyX3_ok nmX3 hown hK hw hm_oo hf_oo rfl 4 (by decide) (hT _ kw_441) rfl rfl rfl (Nat.le_of_ble_eq_true rfl) rfl dX3_gather_2 (fun H locs hw => ?_)
  obtain ⟨f1, e_f1⟩ : ∃ z, z = va_up f oo (.inr (3, [.ref wk, .ref ln, .ref fi, .ref sp, .int 0, .int of])) := ⟨_, rfl⟩
  rw [← e_f1] at hw
  have hf_ln : f1 ln = .inl (cy 1, 6, .inl gn) := (congrFun e_f1 ln).trans (z_up_ne (z_tne hf_ln hf_oo (m := 148) (n := 3) rfl rfl (by decide)) hf_ln)
  have hf_mo : f1 mo = .inr (2, [.int v0, .int v1, .int v2, .int v3, .int v4, .int v5, .int v6, .ref la, .ref sa, .ref mi, .ref da]) := (congrFun e_f1 mo).trans (z_up_ne (z_tne hf_mo hf_oo (m := 2) (n := 3) rfl rfl (by decide)) hf_mo)
  have hf_da : f1 da = .inl (cy 4, 13, .inr (.inr (.inr (.inr gd)))) := (congrFun e_f1 da).trans (z_up_ne (z_tne hf_da hf_oo (m := 206) (n := 3) rfl rfl (by decide)) hf_da)
  have hd_da : z_Drv L f1 dv 13 := z_Drv_up hd_da e_f1 hf_oo (m := 3) rfl (by decide)
  have hf_oo : f1 oo = .inr (3, [.ref wk, .ref ln, .ref fi, .ref sp, .int 0, .int of]) := (congrFun e_f1 oo).trans z_up_self
  have hfr : ∀ b ∈ L, b ≠ oo → b ≠ ln → f1 b = f b := fun b hb h0 h1 => (congrFun e_f1 b).trans (z_up_ne h0 (hfr b hb h0 h1))
  refine lv_iconst (v := 0) hx hb dX3_gather_5 (by decide) ?_
  refine lv_istore (lv' := [(4, .int 0), (0, .ref oo), (1, .ref mo), (2, .int ga), (3, .int dy)]) hx hb dX3_gather_6 hl (by decide) rfl (fun ls hl => ?_)
  refine lv_iconst (v := 0) hx hb dX3_gather_8 (by decide) ?_
  refine lv_istore (lv' := [(5, .int 0), (4, .int 0), (0, .ref oo), (1, .ref mo), (2, .int ga), (3, .int dy)]) hx hb dX3_gather_9 hl (by decide) rfl (fun ls hl => ?_)
  have hzk : (0 : Int32).toInt = 0 := by decide
  refine z_loop (fun n H locs ls => ∃ (K2 : Int32) (G5 : Nat → Int32) (OM4 : Int32) (V6 : Int32) (f3 : Nat → va_E), (n = (v5.toInt - K2.toInt).toNat) ∧ (0 ≤ K2.toInt) ∧ (K2.toInt ≤ v5.toInt) ∧ (0 ≤ OM4.toInt ∧ OM4.toInt ≤ 6) ∧ (∀ j : Nat, z_le11 (G5 j)) ∧ (z_H D vwCl (z_A L sz) s.heap L f3 H locs) ∧ (f3 oo = .inr (3, [.ref wk, .ref ln, .ref fi, .ref sp, .int OM4, .int of])) ∧ (f3 ln = .inl (cy 1, 6, .inl G5)) ∧ (f3 mo = .inr (2, [.int v0, .int v1, .int v2, .int v3, .int v4, .int v5, .int v6, .ref la, .ref sa, .ref mi, .ref da])) ∧ (f3 da = .inl (cy 4, 13, .inr (.inr (.inr (.inr gd))))) ∧ (∀ b ∈ L, b ≠ oo → b ≠ ln → f3 b = f b) ∧ (z_Drv L f3 dv 13) ∧ (lv_has ls 6 [(5, .int K2), (4, .int V6), (0, .ref oo), (1, .ref mo), (2, .int ga), (3, .int dy)])) _ ⟨0, gn, 0, 0, f1, rfl, (by first | decide | omega), (by first | decide | omega), (by decide), hgn, hw, hf_oo, hf_ln, hf_mo, hf_da, hfr, hd_da, (lv_sub hl [0, 1, 2, 3, 4, 5] rfl)⟩ (fun n H locs ls hI ih_11 => ?_)
  obtain ⟨K2, G5, OM4, V6, f3, hn, hk0, hk1, hi0, hi1, hw, hf_oo, hf_ln, hf_mo, hf_da, hfr, hd_da, hl⟩ := hI
  refine lv_iload hx hb dX3_gather_11 (lv_at hl 0 rfl) ?_
  refine lv_aload_n hx hb dX3_gather_13 rfl (lv_at hl 3 rfl) ?_
  refine z_get (C := RX2) (T := TX2) (N := 11) (ci := 2) (v := .int v5) hx hb hT zin_X2 hown hK hw hm_mo hf_mo rfl 5 (by decide) (hT _ kw_221) rfl dX3_gather_14 ?_
  refine z_icmp_ge (tgt := 70) hx hb rfl rfl dX3_gather_17 (by decide) (fun c7 => ?_) (fun c7 => ?_)
  · skip
    refine lv_iload hx hb dX3_gather_70 (lv_at hl 1 rfl) ?_
    exact z_iret hx hb hr hlk (by decide) (by decide) hw (⟨hsub, hfr, OM4, G5, hf_oo, hf_ln, by omega, hi1⟩) dX3_gather_72
  · skip
    refine lv_aload_n hx hb dX3_gather_20 rfl (lv_at hl 3 rfl) ?_
    refine lv_iload hx hb dX3_gather_21 (lv_at hl 0 rfl) ?_
    refine lv_iload_n hx hb dX3_gather_23 rfl (lv_at hl 4 rfl) ?_
    refine lv_iload_n hx hb dX3_gather_24 rfl (lv_at hl 5 rfl) ?_
    refine z_calliV (cells := 0) (slots := 0) (b := mo) (As := [.int K2, .int ga, .int dy]) (rest := []) (ci := 2) (q0 := (RX2, TX2, 11)) ⟨hx, hb, hml, hown, hT⟩ (c_X2_goesBy l hm_mo hm_da hf_mo hf_da hg_da hd_da (by first | omega | decide | assumption) (by first | omega | decide | assumption)) (cwV 3 hT (z_goodV (fun _ h => h) kw_1010 kw_819 kw_820 kw_87 kw_821) rfl rfl rfl (by decide +kernel) ⟨by decide, by decide⟩) z_mv hKK hK hw hA hm_mo hf_mo rfl rfl rfl hl.1 rfl (Nat.le_of_ble_eq_true rfl) dX3_gather_25 ⟨by decide, by decide⟩ (fun r8 u H locs hp hw => ?_)
    obtain ⟨rfl, hp⟩ := hp
    have hw : z_H D vwCl (z_A L sz) s.heap L f3 H locs := hw
    rcases hp with ⟨rfl, h9⟩ | ⟨rfl, h9⟩
    · skip
      refine z_if_eq (tgt := 64) hx hb (show (1 : Int32).toInt = 1 by decide) dX3_gather_28 (by decide) (fun h => absurd h (by decide)) (fun _ => ?_)
      refine lv_aload_n hx hb dX3_gather_31 rfl (lv_at hl 2 rfl) ?_
      refine z_get (C := RX3) (T := TX3) (N := 6) (ci := 3) (v := .int OM4) hx hb hT zin_X3 hown hK hw hm_oo hf_oo rfl 4 (by decide) (hT _ kw_441) rfl dX3_gather_32 ?_
      refine lv_bipush (v := 6) hx hb dX3_gather_35 (by decide) ?_
      refine z_icmp_ge (tgt := 61) hx hb rfl (show (6 : Int32).toInt = 6 by decide) dX3_gather_37 (by decide) (fun c10 => ?_) (fun c10 => ?_)
      · skip
        obtain ⟨k11, e_k11⟩ : ∃ z : Int32, z = V6 + 1 := ⟨_, rfl⟩
        refine lv_iinc (v := k11) (lv' := [(4, .int k11), (5, .int K2), (0, .ref oo), (1, .ref mo), (2, .int ga), (3, .int dy)]) hx hb dX3_gather_61 hl (k := 1) rfl (by rw [e_k11]; rfl) (by decide) rfl (fun ls hl => ?_)
        obtain ⟨k12, e_k12⟩ : ∃ z : Int32, z = K2 + 1 := ⟨_, rfl⟩
        refine lv_iinc (v := k12) (lv' := [(5, .int k12), (4, .int k11), (0, .ref oo), (1, .ref mo), (2, .int ga), (3, .int dy)]) hx hb dX3_gather_64 hl (k := 1) rfl (by rw [e_k12]; rfl) (by decide) rfl (fun ls hl => ?_)
        have i_k12 : k12.toInt = (K2.toInt + 1) := z_add e_k12 rfl (by decide) (by omega)
        refine lv_goto (tgt := 11) hx hb dX3_gather_67 (by decide) ?_
        exact ih_11 _ (by omega) _ _ _ ⟨k12, G5, OM4, k11, f3, rfl, (by first | decide | omega), (by first | decide | omega), (by omega), hi1, hw, hf_oo, hf_ln, hf_mo, hf_da, hfr, hd_da, (lv_sub hl [0, 1, 2, 3, 4, 5] rfl)⟩
      · skip
        refine lv_aload_n hx hb dX3_gather_40 rfl (lv_at hl 2 rfl) ?_
        refine z_get (C := RX3) (T := TX3) (N := 6) (ci := 3) (v := .ref ln) hx hb hT zin_X3 hown hK hw hm_oo hf_oo rfl 1 (by decide) (hT _ kw_436) rfl dX3_gather_41 ?_
        refine lv_aload_n hx hb dX3_gather_44 rfl (lv_at hl 2 rfl) ?_
        refine z_get (C := RX3) (T := TX3) (N := 6) (ci := 3) (v := .int OM4) hx hb hT zin_X3 hown hK hw hm_oo hf_oo rfl 4 (by decide) (hT _ kw_441) rfl dX3_gather_45 ?_
        refine lv_iload hx hb dX3_gather_48 (lv_at hl 0 rfl) ?_
        refine z_iast hx hb hK hw 1 hm_ln hf_ln rfl (z_ix rfl (by omega)) dX3_gather_50 (fun H locs hw => ?_)
        obtain ⟨f14, e_f14⟩ : ∃ z, z = va_up f3 ln (.inl (cy 1, 6, .inl (upd G5 OM4.toNatClampNeg K2))) := ⟨_, rfl⟩
        rw [← e_f14] at hw
        have hf_oo : f14 oo = .inr (3, [.ref wk, .ref ln, .ref fi, .ref sp, .int OM4, .int of]) := (congrFun e_f14 oo).trans (z_up_ne (z_tne hf_oo hf_ln (m := 3) (n := 148) rfl rfl (by decide)) hf_oo)
        have hf_mo : f14 mo = .inr (2, [.int v0, .int v1, .int v2, .int v3, .int v4, .int v5, .int v6, .ref la, .ref sa, .ref mi, .ref da]) := (congrFun e_f14 mo).trans (z_up_ne (z_tne hf_mo hf_ln (m := 2) (n := 148) rfl rfl (by decide)) hf_mo)
        have hf_da : f14 da = .inl (cy 4, 13, .inr (.inr (.inr (.inr gd)))) := (congrFun e_f14 da).trans (z_up_ne (z_tne hf_da hf_ln (m := 206) (n := 148) rfl rfl (by decide)) hf_da)
        have hd_da : z_Drv L f14 dv 13 := z_Drv_up hd_da e_f14 hf_ln (m := 148) rfl (by decide)
        have hf_ln : f14 ln = .inl (cy 1, 6, .inl (upd G5 OM4.toNatClampNeg K2)) := (congrFun e_f14 ln).trans z_up_self
        have hfr : ∀ b ∈ L, b ≠ oo → b ≠ ln → f14 b = f b := fun b hb h0 h1 => (congrFun e_f14 b).trans (z_up_ne h1 (hfr b hb h0 h1))
        obtain ⟨g13, e_g13⟩ : ∃ z, z = (upd G5 OM4.toNatClampNeg K2) := ⟨_, rfl⟩
        rw [← e_g13] at hf_ln
        refine lv_aload_n hx hb dX3_gather_51 rfl (lv_at hl 2 rfl) ?_
        refine lv_dup hx hb dX3_gather_52 rfl ?_
        refine z_get (C := RX3) (T := TX3) (N := 6) (ci := 3) (v := .int OM4) hx hb hT zin_X3 hown hK hw hm_oo hf_oo rfl 4 (by decide) (hT _ kw_441) rfl dX3_gather_53 ?_
        refine lv_iconst (v := 1) hx hb dX3_gather_56 (by decide) ?_
        refine lv_iadd hx hb dX3_gather_57 ?_
        refine lv_topi (fun w15 e_w15 => ?_)
        have i_w15 : w15.toInt = (OM4.toInt + 1) := z_add e_w15 rfl (show (1 : Int32).toInt = 1 by decide) (by omega)
        refine z_put (C := RX3) (T := TX3) (N := 6) (ci := 3) (v := .int w15) (fs' := [.ref wk, .ref ln, .ref fi, .ref sp, .int w15, .int of]) hx hb hT zin_X3 tyX3_ok nmX3 hown hK hw hm_oo hf_oo rfl 4 (by decide) (hT _ kw_441) rfl rfl rfl (Nat.le_of_ble_eq_true rfl) rfl dX3_gather_58 (fun H locs hw => ?_)
        obtain ⟨f16, e_f16⟩ : ∃ z, z = va_up f14 oo (.inr (3, [.ref wk, .ref ln, .ref fi, .ref sp, .int w15, .int of])) := ⟨_, rfl⟩
        rw [← e_f16] at hw
        have hf_ln : f16 ln = .inl (cy 1, 6, .inl g13) := (congrFun e_f16 ln).trans (z_up_ne (z_tne hf_ln hf_oo (m := 148) (n := 3) rfl rfl (by decide)) hf_ln)
        have hf_mo : f16 mo = .inr (2, [.int v0, .int v1, .int v2, .int v3, .int v4, .int v5, .int v6, .ref la, .ref sa, .ref mi, .ref da]) := (congrFun e_f16 mo).trans (z_up_ne (z_tne hf_mo hf_oo (m := 2) (n := 3) rfl rfl (by decide)) hf_mo)
        have hf_da : f16 da = .inl (cy 4, 13, .inr (.inr (.inr (.inr gd)))) := (congrFun e_f16 da).trans (z_up_ne (z_tne hf_da hf_oo (m := 206) (n := 3) rfl rfl (by decide)) hf_da)
        have hd_da : z_Drv L f16 dv 13 := z_Drv_up hd_da e_f16 hf_oo (m := 3) rfl (by decide)
        have hf_oo : f16 oo = .inr (3, [.ref wk, .ref ln, .ref fi, .ref sp, .int w15, .int of]) := (congrFun e_f16 oo).trans z_up_self
        have hfr : ∀ b ∈ L, b ≠ oo → b ≠ ln → f16 b = f b := fun b hb h0 h1 => (congrFun e_f16 b).trans (z_up_ne h0 (hfr b hb h0 h1))
        obtain ⟨k17, e_k17⟩ : ∃ z : Int32, z = V6 + 1 := ⟨_, rfl⟩
        refine lv_iinc (v := k17) (lv' := [(4, .int k17), (5, .int K2), (0, .ref oo), (1, .ref mo), (2, .int ga), (3, .int dy)]) hx hb dX3_gather_61 hl (k := 1) rfl (by rw [e_k17]; rfl) (by decide) rfl (fun ls hl => ?_)
        obtain ⟨k18, e_k18⟩ : ∃ z : Int32, z = K2 + 1 := ⟨_, rfl⟩
        refine lv_iinc (v := k18) (lv' := [(5, .int k18), (4, .int k17), (0, .ref oo), (1, .ref mo), (2, .int ga), (3, .int dy)]) hx hb dX3_gather_64 hl (k := 1) rfl (by rw [e_k18]; rfl) (by decide) rfl (fun ls hl => ?_)
        have i_k18 : k18.toInt = (K2.toInt + 1) := z_add e_k18 rfl (by decide) (by omega)
        refine lv_goto (tgt := 11) hx hb dX3_gather_67 (by decide) ?_
        exact ih_11 _ (by omega) _ _ _ ⟨k18, g13, w15, k17, f16, rfl, (by first | decide | omega), (by first | decide | omega), (by omega), (z_updP hi1 e_g13 (show _ ∧ _ by omega)), hw, hf_oo, hf_ln, hf_mo, hf_da, hfr, hd_da, (lv_sub hl [0, 1, 2, 3, 4, 5] rfl)⟩
    · skip
      refine z_if_eq (tgt := 64) hx hb (show (0 : Int32).toInt = 0 by decide) dX3_gather_28 (by decide) (fun _ => ?_) (fun h => absurd h (by decide))
      obtain ⟨k19, e_k19⟩ : ∃ z : Int32, z = K2 + 1 := ⟨_, rfl⟩
      refine lv_iinc (v := k19) (lv' := [(5, .int k19), (4, .int V6), (0, .ref oo), (1, .ref mo), (2, .int ga), (3, .int dy)]) hx hb dX3_gather_64 hl (k := 0) rfl (by rw [e_k19]; rfl) (by decide) rfl (fun ls hl => ?_)
      have i_k19 : k19.toInt = (K2.toInt + 1) := z_add e_k19 rfl (by decide) (by omega)
      refine lv_goto (tgt := 11) hx hb dX3_gather_67 (by decide) ?_
      exact ih_11 _ (by omega) _ _ _ ⟨k19, G5, OM4, V6, f3, rfl, (by first | decide | omega), (by first | decide | omega), (by omega), hi1, hw, hf_oo, hf_ln, hf_mo, hf_da, hfr, hd_da, (lv_sub hl [0, 1, 2, 3, 4, 5] rfl)⟩

set_option maxHeartbeats 2000000 in
set_option maxRecDepth 100000 in
theorem c_X3_note (l : Launch) {D : va_G} {cy : Nat → ClassId} {L : List Nat} {f : Nat → va_E} {sz : Nat} {adK adV : Nat → Nat} {wk : Nat} {oo ln fi sp : Nat} {om of : Int32} {gn gf gp : Nat → Int32} (hm_oo : oo ∈ L) (hm_ln : ln ∈ L) (hm_fi : fi ∈ L) (hm_sp : sp ∈ L) (hf_oo : f oo = .inr (3, [.ref wk, .ref ln, .ref fi, .ref sp, .int om, .int of])) (hf_ln : f ln = .inl (cy 1, 6, .inl gn)) (hf_fi : f fi = .inl (cy 1, 6, .inl gf)) (hf_sp : f sp = .inl (cy 1, 12, .inl gp)) (ne_ln_fi : ln ≠ fi) (hom : 0 ≤ om.toInt ∧ om.toInt ≤ 6) (hgn : ∀ j : Nat, z_le11 (gn j)) : Met l yX3_note (z_ws yX3_note cX3_note 2 none) (z_R 1 0 0) (va_Pc [.ref oo] (z_Pre D vwCl (z_KK D cy adK adV) L f sz)) (z_Qv D vwCl (fun u => L = u.1 ∧ (∀ b ∈ L, b ≠ oo → b ≠ fi → b ≠ sp → u.2 b = f b) ∧ (∃ (f2 : Int32) (g2 g3 : Nat → Int32), (u.2 oo = .inr (3, [.ref wk, .ref ln, .ref fi, .ref sp, .int om, .int f2])) ∧ (u.2 fi = .inl (cy 1, 6, .inl g2)) ∧ (u.2 sp = .inl (cy 1, 12, .inl g3)) ∧ (True))) L sz) 0 0 (z_A L sz) := by
  refine z_met (cc := cX3_note) (maxL := 2) (ret := none) (lv := [(0, .ref oo)]) (by decide) rfl (Nat.le_of_ble_eq_true rfl) rfl ?_
  intro p e s m below meth c ls hx hb hr hlk hml hown hnm hts hKK hA hw hl
  have hK := hKK.1.1
  have hown : s.vm.findClass RX3 = some m.cls := hown
  have hT : ∀ w ∈ lw_all, w.before ([.ref oo] : List Value).toArray s = true := fun w h => hts w (z_cons w h)
  have hsub : L = L := rfl
  have hfr : ∀ b ∈ L, b ≠ oo → b ≠ fi → b ≠ sp → f b = f b := fun _ _ _ _ _ => rfl
  refine lv_iconst (v := 0) hx hb dX3_note_0 (by decide) ?_
  refine lv_istore_n (lv' := [(1, .int 0), (0, .ref oo)]) hx hb dX3_note_1 rfl hl (by decide) rfl (fun ls hl => ?_)
  have hzk : (0 : Int32).toInt = 0 := by decide
  refine z_loop (fun n H locs ls => ∃ (K1 : Int32) (G3 : Nat → Int32) (G4 : Nat → Int32) (f2 : Nat → va_E), (n = (om.toInt - K1.toInt).toNat) ∧ (0 ≤ K1.toInt) ∧ (K1.toInt ≤ om.toInt) ∧ (z_H D vwCl (z_A L sz) s.heap L f2 H locs) ∧ (f2 oo = .inr (3, [.ref wk, .ref ln, .ref fi, .ref sp, .int om, .int of])) ∧ (f2 ln = .inl (cy 1, 6, .inl gn)) ∧ (f2 fi = .inl (cy 1, 6, .inl G3)) ∧ (f2 sp = .inl (cy 1, 12, .inl G4)) ∧ (∀ b ∈ L, b ≠ oo → b ≠ fi → b ≠ sp → f2 b = f b) ∧ (lv_has ls 2 [(1, .int K1), (0, .ref oo)])) _ ⟨0, gf, gp, f, rfl, (by first | decide | omega), (by first | decide | omega), hw, hf_oo, hf_ln, hf_fi, hf_sp, hfr, (lv_sub hl [0, 1] rfl)⟩ (fun n H locs ls hI ih_2 => ?_)
  obtain ⟨K1, G3, G4, f2, hn, hk0, hk1, hw, hf_oo, hf_ln, hf_fi, hf_sp, hfr, hl⟩ := hI
  refine lv_iload_n hx hb dX3_note_2 rfl (lv_at hl 0 rfl) ?_
  refine lv_aload_n hx hb dX3_note_3 rfl (lv_at hl 1 rfl) ?_
  refine z_get (C := RX3) (T := TX3) (N := 6) (ci := 3) (v := .int om) hx hb hT zin_X3 hown hK hw hm_oo hf_oo rfl 4 (by decide) (hT _ kw_441) rfl dX3_note_4 ?_
  refine z_icmp_ge (tgt := 77) hx hb rfl rfl dX3_note_7 (by decide) (fun c5 => ?_) (fun c5 => ?_)
  · skip
    refine lv_aload_n hx hb dX3_note_77 rfl (lv_at hl 1 rfl) ?_
    refine lv_dup hx hb dX3_note_78 rfl ?_
    refine z_get (C := RX3) (T := TX3) (N := 6) (ci := 3) (v := .int of) hx hb hT zin_X3 hown hK hw hm_oo hf_oo rfl 5 (by decide) (hT _ kw_443) rfl dX3_note_79 ?_
    refine lv_iconst (v := 1) hx hb dX3_note_82 (by decide) ?_
    refine lv_iadd hx hb dX3_note_83 ?_
    refine lv_topi (fun w6 e_w6 => ?_)
    refine z_put (C := RX3) (T := TX3) (N := 6) (ci := 3) (v := .int w6) (fs' := [.ref wk, .ref ln, .ref fi, .ref sp, .int om, .int w6]) hx hb hT zin_X3 tyX3_ok nmX3 hown hK hw hm_oo hf_oo rfl 5 (by decide) (hT _ kw_443) rfl rfl rfl (Nat.le_of_ble_eq_true rfl) rfl dX3_note_84 (fun H locs hw => ?_)
    obtain ⟨f7, e_f7⟩ : ∃ z, z = va_up f2 oo (.inr (3, [.ref wk, .ref ln, .ref fi, .ref sp, .int om, .int w6])) := ⟨_, rfl⟩
    rw [← e_f7] at hw
    have hf_ln : f7 ln = .inl (cy 1, 6, .inl gn) := (congrFun e_f7 ln).trans (z_up_ne (z_tne hf_ln hf_oo (m := 148) (n := 3) rfl rfl (by decide)) hf_ln)
    have hf_fi : f7 fi = .inl (cy 1, 6, .inl G3) := (congrFun e_f7 fi).trans (z_up_ne (z_tne hf_fi hf_oo (m := 148) (n := 3) rfl rfl (by decide)) hf_fi)
    have hf_sp : f7 sp = .inl (cy 1, 12, .inl G4) := (congrFun e_f7 sp).trans (z_up_ne (z_tne hf_sp hf_oo (m := 196) (n := 3) rfl rfl (by decide)) hf_sp)
    have hf_oo : f7 oo = .inr (3, [.ref wk, .ref ln, .ref fi, .ref sp, .int om, .int w6]) := (congrFun e_f7 oo).trans z_up_self
    have hfr : ∀ b ∈ L, b ≠ oo → b ≠ fi → b ≠ sp → f7 b = f b := fun b hb h0 h1 h2 => (congrFun e_f7 b).trans (z_up_ne h0 (hfr b hb h0 h1 h2))
    exact z_vret hx hb hr hlk (by decide) (by decide) hw (⟨hsub, hfr, w6, G3, G4, hf_oo, hf_fi, hf_sp, trivial⟩) dX3_note_87
  · skip
    refine lv_aload_n hx hb dX3_note_10 rfl (lv_at hl 1 rfl) ?_
    refine z_get (C := RX3) (T := TX3) (N := 6) (ci := 3) (v := .int of) hx hb hT zin_X3 hown hK hw hm_oo hf_oo rfl 5 (by decide) (hT _ kw_443) rfl dX3_note_11 ?_
    refine z_if_ne (tgt := 44) hx hb rfl dX3_note_14 (by decide) (fun c8 => ?_) (fun c8 => ?_)
    · skip
      refine lv_aload_n hx hb dX3_note_44 rfl (lv_at hl 1 rfl) ?_
      refine z_get (C := RX3) (T := TX3) (N := 6) (ci := 3) (v := .ref sp) hx hb hT zin_X3 hown hK hw hm_oo hf_oo rfl 3 (by decide) (hT _ kw_439) rfl dX3_note_45 ?_
      refine lv_aload_n hx hb dX3_note_48 rfl (lv_at hl 1 rfl) ?_
      refine z_get (C := RX3) (T := TX3) (N := 6) (ci := 3) (v := .ref ln) hx hb hT zin_X3 hown hK hw hm_oo hf_oo rfl 1 (by decide) (hT _ kw_436) rfl dX3_note_49 ?_
      refine lv_iload_n hx hb dX3_note_52 rfl (lv_at hl 0 rfl) ?_
      refine z_iald hx hb hK hw 1 hm_ln hf_ln rfl (z_ix rfl (by omega)) dX3_note_53 ?_
      refine lv_topi (fun w9 e_w9 => ?_)
      have hl_w9 : 0 ≤ w9.toInt ∧ w9.toInt ≤ 11 := by rw [e_w9]; exact hgn _
      refine z_iald hx hb hK hw 1 hm_sp hf_sp rfl (z_ix rfl (by omega)) dX3_note_54 ?_
      refine lv_topi (fun w10 e_w10 => ?_)
      refine lv_iload_n hx hb dX3_note_55 rfl (lv_at hl 0 rfl) ?_
      refine z_icmp_eq (tgt := 71) hx hb rfl rfl dX3_note_56 (by decide) (fun c11 => ?_) (fun c11 => ?_)
      · skip
        obtain ⟨k12, e_k12⟩ : ∃ z : Int32, z = K1 + 1 := ⟨_, rfl⟩
        refine lv_iinc (v := k12) (lv' := [(1, .int k12), (0, .ref oo)]) hx hb dX3_note_71 hl (k := 0) rfl (by rw [e_k12]; rfl) (by decide) rfl (fun ls hl => ?_)
        have i_k12 : k12.toInt = (K1.toInt + 1) := z_add e_k12 rfl (by decide) (by omega)
        refine lv_goto (tgt := 2) hx hb dX3_note_74 (by decide) ?_
        exact ih_2 _ (by omega) _ _ _ ⟨k12, G3, G4, f2, rfl, (by first | decide | omega), (by first | decide | omega), hw, hf_oo, hf_ln, hf_fi, hf_sp, hfr, (lv_sub hl [0, 1] rfl)⟩
      · skip
        refine lv_aload_n hx hb dX3_note_59 rfl (lv_at hl 1 rfl) ?_
        refine z_get (C := RX3) (T := TX3) (N := 6) (ci := 3) (v := .ref sp) hx hb hT zin_X3 hown hK hw hm_oo hf_oo rfl 3 (by decide) (hT _ kw_439) rfl dX3_note_60 ?_
        refine lv_aload_n hx hb dX3_note_63 rfl (lv_at hl 1 rfl) ?_
        refine z_get (C := RX3) (T := TX3) (N := 6) (ci := 3) (v := .ref ln) hx hb hT zin_X3 hown hK hw hm_oo hf_oo rfl 1 (by decide) (hT _ kw_436) rfl dX3_note_64 ?_
        refine lv_iload_n hx hb dX3_note_67 rfl (lv_at hl 0 rfl) ?_
        refine z_iald hx hb hK hw 1 hm_ln hf_ln rfl (z_ix rfl (by omega)) dX3_note_68 ?_
        refine lv_topi (fun w13 e_w13 => ?_)
        have hl_w13 : 0 ≤ w13.toInt ∧ w13.toInt ≤ 11 := by rw [e_w13]; exact hgn _
        refine lv_iconst (v := (-1)) hx hb dX3_note_69 (by decide) ?_
        refine z_iast hx hb hK hw 1 hm_sp hf_sp rfl (z_ix rfl (by omega)) dX3_note_70 (fun H locs hw => ?_)
        obtain ⟨f15, e_f15⟩ : ∃ z, z = va_up f2 sp (.inl (cy 1, 12, .inl (upd G4 w13.toNatClampNeg (-1)))) := ⟨_, rfl⟩
        rw [← e_f15] at hw
        have hf_oo : f15 oo = .inr (3, [.ref wk, .ref ln, .ref fi, .ref sp, .int om, .int of]) := (congrFun e_f15 oo).trans (z_up_ne (z_tne hf_oo hf_sp (m := 3) (n := 196) rfl rfl (by decide)) hf_oo)
        have hf_ln : f15 ln = .inl (cy 1, 6, .inl gn) := (congrFun e_f15 ln).trans (z_up_ne (z_tne hf_ln hf_sp (m := 148) (n := 196) rfl rfl (by decide)) hf_ln)
        have hf_fi : f15 fi = .inl (cy 1, 6, .inl G3) := (congrFun e_f15 fi).trans (z_up_ne (z_tne hf_fi hf_sp (m := 148) (n := 196) rfl rfl (by decide)) hf_fi)
        have hf_sp : f15 sp = .inl (cy 1, 12, .inl (upd G4 w13.toNatClampNeg (-1))) := (congrFun e_f15 sp).trans z_up_self
        have hfr : ∀ b ∈ L, b ≠ oo → b ≠ fi → b ≠ sp → f15 b = f b := fun b hb h0 h1 h2 => (congrFun e_f15 b).trans (z_up_ne h2 (hfr b hb h0 h1 h2))
        obtain ⟨g14, e_g14⟩ : ∃ z, z = (upd G4 w13.toNatClampNeg (-1)) := ⟨_, rfl⟩
        rw [← e_g14] at hf_sp
        obtain ⟨k16, e_k16⟩ : ∃ z : Int32, z = K1 + 1 := ⟨_, rfl⟩
        refine lv_iinc (v := k16) (lv' := [(1, .int k16), (0, .ref oo)]) hx hb dX3_note_71 hl (k := 0) rfl (by rw [e_k16]; rfl) (by decide) rfl (fun ls hl => ?_)
        have i_k16 : k16.toInt = (K1.toInt + 1) := z_add e_k16 rfl (by decide) (by omega)
        refine lv_goto (tgt := 2) hx hb dX3_note_74 (by decide) ?_
        exact ih_2 _ (by omega) _ _ _ ⟨k16, G3, g14, f15, rfl, (by first | decide | omega), (by first | decide | omega), hw, hf_oo, hf_ln, hf_fi, hf_sp, hfr, (lv_sub hl [0, 1] rfl)⟩
    · skip
      refine lv_aload_n hx hb dX3_note_17 rfl (lv_at hl 1 rfl) ?_
      refine z_get (C := RX3) (T := TX3) (N := 6) (ci := 3) (v := .ref fi) hx hb hT zin_X3 hown hK hw hm_oo hf_oo rfl 2 (by decide) (hT _ kw_437) rfl dX3_note_18 ?_
      refine lv_iload_n hx hb dX3_note_21 rfl (lv_at hl 0 rfl) ?_
      refine lv_aload_n hx hb dX3_note_22 rfl (lv_at hl 1 rfl) ?_
      refine z_get (C := RX3) (T := TX3) (N := 6) (ci := 3) (v := .ref ln) hx hb hT zin_X3 hown hK hw hm_oo hf_oo rfl 1 (by decide) (hT _ kw_436) rfl dX3_note_23 ?_
      refine lv_iload_n hx hb dX3_note_26 rfl (lv_at hl 0 rfl) ?_
      refine z_iald hx hb hK hw 1 hm_ln hf_ln rfl (z_ix rfl (by omega)) dX3_note_27 ?_
      refine lv_topi (fun w17 e_w17 => ?_)
      refine z_iast hx hb hK hw 1 hm_fi hf_fi rfl (z_ix rfl (by omega)) dX3_note_28 (fun H locs hw => ?_)
      obtain ⟨f19, e_f19⟩ : ∃ z, z = va_up f2 fi (.inl (cy 1, 6, .inl (upd G3 K1.toNatClampNeg w17))) := ⟨_, rfl⟩
      rw [← e_f19] at hw
      have hf_oo : f19 oo = .inr (3, [.ref wk, .ref ln, .ref fi, .ref sp, .int om, .int of]) := (congrFun e_f19 oo).trans (z_up_ne (z_tne hf_oo hf_fi (m := 3) (n := 148) rfl rfl (by decide)) hf_oo)
      have hf_ln : f19 ln = .inl (cy 1, 6, .inl gn) := (congrFun e_f19 ln).trans (z_up_ne ne_ln_fi hf_ln)
      have hf_sp : f19 sp = .inl (cy 1, 12, .inl G4) := (congrFun e_f19 sp).trans (z_up_ne (z_tne hf_sp hf_fi (m := 196) (n := 148) rfl rfl (by decide)) hf_sp)
      have hf_fi : f19 fi = .inl (cy 1, 6, .inl (upd G3 K1.toNatClampNeg w17)) := (congrFun e_f19 fi).trans z_up_self
      have hfr : ∀ b ∈ L, b ≠ oo → b ≠ fi → b ≠ sp → f19 b = f b := fun b hb h0 h1 h2 => (congrFun e_f19 b).trans (z_up_ne h1 (hfr b hb h0 h1 h2))
      obtain ⟨g18, e_g18⟩ : ∃ z, z = (upd G3 K1.toNatClampNeg w17) := ⟨_, rfl⟩
      rw [← e_g18] at hf_fi
      refine lv_aload_n hx hb dX3_note_29 rfl (lv_at hl 1 rfl) ?_
      refine z_get (C := RX3) (T := TX3) (N := 6) (ci := 3) (v := .ref sp) hx hb hT zin_X3 hown hK hw hm_oo hf_oo rfl 3 (by decide) (hT _ kw_439) rfl dX3_note_30 ?_
      refine lv_aload_n hx hb dX3_note_33 rfl (lv_at hl 1 rfl) ?_
      refine z_get (C := RX3) (T := TX3) (N := 6) (ci := 3) (v := .ref ln) hx hb hT zin_X3 hown hK hw hm_oo hf_oo rfl 1 (by decide) (hT _ kw_436) rfl dX3_note_34 ?_
      refine lv_iload_n hx hb dX3_note_37 rfl (lv_at hl 0 rfl) ?_
      refine z_iald hx hb hK hw 1 hm_ln hf_ln rfl (z_ix rfl (by omega)) dX3_note_38 ?_
      refine lv_topi (fun w20 e_w20 => ?_)
      have hl_w20 : 0 ≤ w20.toInt ∧ w20.toInt ≤ 11 := by rw [e_w20]; exact hgn _
      refine lv_iload_n hx hb dX3_note_39 rfl (lv_at hl 0 rfl) ?_
      refine z_iast hx hb hK hw 1 hm_sp hf_sp rfl (z_ix rfl (by omega)) dX3_note_40 (fun H locs hw => ?_)
      obtain ⟨f22, e_f22⟩ : ∃ z, z = va_up f19 sp (.inl (cy 1, 12, .inl (upd G4 w20.toNatClampNeg K1))) := ⟨_, rfl⟩
      rw [← e_f22] at hw
      have hf_oo : f22 oo = .inr (3, [.ref wk, .ref ln, .ref fi, .ref sp, .int om, .int of]) := (congrFun e_f22 oo).trans (z_up_ne (z_tne hf_oo hf_sp (m := 3) (n := 196) rfl rfl (by decide)) hf_oo)
      have hf_ln : f22 ln = .inl (cy 1, 6, .inl gn) := (congrFun e_f22 ln).trans (z_up_ne (z_tne hf_ln hf_sp (m := 148) (n := 196) rfl rfl (by decide)) hf_ln)
      have hf_fi : f22 fi = .inl (cy 1, 6, .inl g18) := (congrFun e_f22 fi).trans (z_up_ne (z_tne hf_fi hf_sp (m := 148) (n := 196) rfl rfl (by decide)) hf_fi)
      have hf_sp : f22 sp = .inl (cy 1, 12, .inl (upd G4 w20.toNatClampNeg K1)) := (congrFun e_f22 sp).trans z_up_self
      have hfr : ∀ b ∈ L, b ≠ oo → b ≠ fi → b ≠ sp → f22 b = f b := fun b hb h0 h1 h2 => (congrFun e_f22 b).trans (z_up_ne h2 (hfr b hb h0 h1 h2))
      obtain ⟨g21, e_g21⟩ : ∃ z, z = (upd G4 w20.toNatClampNeg K1) := ⟨_, rfl⟩
      rw [← e_g21] at hf_sp
      refine lv_goto (tgt := 71) hx hb dX3_note_41 (by decide) ?_
      obtain ⟨k23, e_k23⟩ : ∃ z : Int32, z = K1 + 1 := ⟨_, rfl⟩
      refine lv_iinc (v := k23) (lv' := [(1, .int k23), (0, .ref oo)]) hx hb dX3_note_71 hl (k := 0) rfl (by rw [e_k23]; rfl) (by decide) rfl (fun ls hl => ?_)
      have i_k23 : k23.toInt = (K1.toInt + 1) := z_add e_k23 rfl (by decide) (by omega)
      refine lv_goto (tgt := 2) hx hb dX3_note_74 (by decide) ?_
      exact ih_2 _ (by omega) _ _ _ ⟨k23, g18, g21, f22, rfl, (by first | decide | omega), (by first | decide | omega), hw, hf_oo, hf_ln, hf_fi, hf_sp, hfr, (lv_sub hl [0, 1] rfl)⟩

set_option maxHeartbeats 2000000 in
set_option maxRecDepth 100000 in
theorem c_X3_change (l : Launch) {D : va_G} {cy : Nat → ClassId} {L : List Nat} {f : Nat → va_E} {sz : Nat} {adK adV : Nat → Nat} {wk : Nat} {oo ln fi sp : Nat} {om of : Int32} {gn : Nat → Int32} {ia ja : Int32} (hm_oo : oo ∈ L) (hm_ln : ln ∈ L) (hf_oo : f oo = .inr (3, [.ref wk, .ref ln, .ref fi, .ref sp, .int om, .int of])) (hf_ln : f ln = .inl (cy 1, 6, .inl gn)) (hgn : ∀ j : Nat, z_le11 (gn j)) (hia : 0 ≤ ia.toInt ∧ ia.toInt ≤ 5) (hja : 0 ≤ ja.toInt ∧ ja.toInt ≤ 5) : Met l yX3_change (z_ws yX3_change cX3_change 4 none) (z_R 1 0 0) (va_Pc [.ref oo, .int ia, .int ja] (z_Pre D vwCl (z_KK D cy adK adV) L f sz)) (z_Qv D vwCl (fun u => L = u.1 ∧ (∀ b ∈ L, b ≠ ln → u.2 b = f b) ∧ (∃ (g2 : Nat → Int32), (u.2 ln = .inl (cy 1, 6, .inl g2)) ∧ (∀ j : Nat, z_le11 (g2 j)))) L sz) 0 0 (z_A L sz) := by
  refine z_met (cc := cX3_change) (maxL := 4) (ret := none) (lv := [(0, .ref oo), (1, .int ia), (2, .int ja)]) (by decide) rfl (Nat.le_of_ble_eq_true rfl) rfl ?_
  intro p e s m below meth c ls hx hb hr hlk hml hown hnm hts hKK hA hw hl
  have hK := hKK.1.1
  have hown : s.vm.findClass RX3 = some m.cls := hown
  have hT : ∀ w ∈ lw_all, w.before ([.ref oo, .int ia, .int ja] : List Value).toArray s = true := fun w h => hts w (z_cons w h)
  have hsub : L = L := rfl
  have hfr : ∀ b ∈ L, b ≠ ln → f b = f b := fun _ _ _ => rfl
  refine lv_aload_n hx hb dX3_change_0 rfl (lv_at hl 0 rfl) ?_
  refine z_get (C := RX3) (T := TX3) (N := 6) (ci := 3) (v := .ref ln) hx hb hT zin_X3 hown hK hw hm_oo hf_oo rfl 1 (by decide) (hT _ kw_436) rfl dX3_change_1 ?_
  refine lv_iload_n hx hb dX3_change_4 rfl (lv_at hl 1 rfl) ?_
  refine z_iald hx hb hK hw 1 hm_ln hf_ln rfl (z_ix rfl (by omega)) dX3_change_5 ?_
  refine lv_topi (fun w1 e_w1 => ?_)
  refine lv_istore_n (lv' := [(3, .int w1), (0, .ref oo), (1, .int ia), (2, .int ja)]) hx hb dX3_change_6 rfl hl (by decide) rfl (fun ls hl => ?_)
  refine lv_aload_n hx hb dX3_change_7 rfl (lv_at hl 1 rfl) ?_
  refine z_get (C := RX3) (T := TX3) (N := 6) (ci := 3) (v := .ref ln) hx hb hT zin_X3 hown hK hw hm_oo hf_oo rfl 1 (by decide) (hT _ kw_436) rfl dX3_change_8 ?_
  refine lv_iload_n hx hb dX3_change_11 rfl (lv_at hl 2 rfl) ?_
  refine lv_aload_n hx hb dX3_change_12 rfl (lv_at hl 1 rfl) ?_
  refine z_get (C := RX3) (T := TX3) (N := 6) (ci := 3) (v := .ref ln) hx hb hT zin_X3 hown hK hw hm_oo hf_oo rfl 1 (by decide) (hT _ kw_436) rfl dX3_change_13 ?_
  refine lv_iload_n hx hb dX3_change_16 rfl (lv_at hl 3 rfl) ?_
  refine z_iald hx hb hK hw 1 hm_ln hf_ln rfl (z_ix rfl (by omega)) dX3_change_17 ?_
  refine lv_topi (fun w2 e_w2 => ?_)
  refine z_iast hx hb hK hw 1 hm_ln hf_ln rfl (z_ix rfl (by omega)) dX3_change_18 (fun H locs hw => ?_)
  obtain ⟨f4, e_f4⟩ : ∃ z, z = va_up f ln (.inl (cy 1, 6, .inl (upd gn ia.toNatClampNeg w2))) := ⟨_, rfl⟩
  rw [← e_f4] at hw
  have hf_oo : f4 oo = .inr (3, [.ref wk, .ref ln, .ref fi, .ref sp, .int om, .int of]) := (congrFun e_f4 oo).trans (z_up_ne (z_tne hf_oo hf_ln (m := 3) (n := 148) rfl rfl (by decide)) hf_oo)
  have hf_ln : f4 ln = .inl (cy 1, 6, .inl (upd gn ia.toNatClampNeg w2)) := (congrFun e_f4 ln).trans z_up_self
  have hfr : ∀ b ∈ L, b ≠ ln → f4 b = f b := fun b hb h0 => (congrFun e_f4 b).trans (z_up_ne h0 (hfr b hb h0))
  obtain ⟨g3, e_g3⟩ : ∃ z, z = (upd gn ia.toNatClampNeg w2) := ⟨_, rfl⟩
  rw [← e_g3] at hf_ln
  refine lv_aload_n hx hb dX3_change_19 rfl (lv_at hl 1 rfl) ?_
  refine z_get (C := RX3) (T := TX3) (N := 6) (ci := 3) (v := .ref ln) hx hb hT zin_X3 hown hK hw hm_oo hf_oo rfl 1 (by decide) (hT _ kw_436) rfl dX3_change_20 ?_
  refine lv_iload_n hx hb dX3_change_23 rfl (lv_at hl 3 rfl) ?_
  refine lv_iload_n hx hb dX3_change_24 rfl (lv_at hl 0 rfl) ?_
  refine z_iast hx hb hK hw 1 hm_ln hf_ln rfl (z_ix rfl (by omega)) dX3_change_25 (fun H locs hw => ?_)
  obtain ⟨f6, e_f6⟩ : ∃ z, z = va_up f4 ln (.inl (cy 1, 6, .inl (upd g3 ja.toNatClampNeg w1))) := ⟨_, rfl⟩
  rw [← e_f6] at hw
  have hf_oo : f6 oo = .inr (3, [.ref wk, .ref ln, .ref fi, .ref sp, .int om, .int of]) := (congrFun e_f6 oo).trans (z_up_ne (z_tne hf_oo hf_ln (m := 3) (n := 148) rfl rfl (by decide)) hf_oo)
  have hf_ln : f6 ln = .inl (cy 1, 6, .inl (upd g3 ja.toNatClampNeg w1)) := (congrFun e_f6 ln).trans z_up_self
  have hfr : ∀ b ∈ L, b ≠ ln → f6 b = f b := fun b hb h0 => (congrFun e_f6 b).trans (z_up_ne h0 (hfr b hb h0))
  obtain ⟨g5, e_g5⟩ : ∃ z, z = (upd g3 ja.toNatClampNeg w1) := ⟨_, rfl⟩
  rw [← e_g5] at hf_ln
  exact z_vret hx hb hr hlk (by decide) (by decide) hw (⟨hsub, hfr, g5, hf_ln, z_updP (z_updP hgn e_g3 (by rw [e_w2]; exact hgn _)) e_g5 (by rw [e_w1]; exact hgn _)⟩) dX3_change_26

set_option maxHeartbeats 2000000 in
set_option maxRecDepth 100000 in
theorem c_X3_permute (l : Launch) {D : va_G} {cy : Nat → ClassId} {L : List Nat} {f : Nat → va_E} {sz : Nat} {adK adV : Nat → Nat} {wk : Nat} {oo ln fi sp : Nat} {om of : Int32} {gn : Nat → Int32} (hm_oo : oo ∈ L) (hm_ln : ln ∈ L) (hf_oo : f oo = .inr (3, [.ref wk, .ref ln, .ref fi, .ref sp, .int om, .int of])) (hf_ln : f ln = .inl (cy 1, 6, .inl gn)) (hom : 0 ≤ om.toInt ∧ om.toInt ≤ 6) (hgn : ∀ j : Nat, z_le11 (gn j)) : Met l yX3_permute (z_ws yX3_permute cX3_permute 5 (some .boolean)) (z_R 2 0 0) (va_Pc [.ref oo] (z_Pre D vwCl (z_KK D cy adK adV) L f sz)) (z_Qi D vwCl (fun r u => L = u.1 ∧ (∀ b ∈ L, b ≠ ln → u.2 b = f b) ∧ (∃ (g2 : Nat → Int32), (u.2 ln = .inl (cy 1, 6, .inl g2)) ∧ ((r = 1 ∧ ∀ j : Nat, z_le11 (g2 j)) ∨ (r = 0 ∧ ∀ j : Nat, z_le11 (g2 j))))) L sz) 0 0 (z_A L sz) := by
  refine z_met (cc := cX3_permute) (maxL := 5) (ret := (some .boolean)) (lv := [(0, .ref oo)]) (by decide) rfl (Nat.le_of_ble_eq_true rfl) rfl ?_
  intro p e s m below meth c ls hx hb hr hlk hml hown hnm hts hKK hA hw hl
  have hK := hKK.1.1
  have hown : s.vm.findClass RX3 = some m.cls := hown
  have hT : ∀ w ∈ lw_all, w.before ([.ref oo] : List Value).toArray s = true := fun w h => hts w (z_cons w h)
  have hsub : L = L := rfl
  have hfr : ∀ b ∈ L, b ≠ ln → f b = f b := fun _ _ _ => rfl
  refine lv_aload_n hx hb dX3_permute_0 rfl (lv_at hl 0 rfl) ?_
  refine z_get (C := RX3) (T := TX3) (N := 6) (ci := 3) (v := .int om) hx hb hT zin_X3 hown hK hw hm_oo hf_oo rfl 4 (by decide) (hT _ kw_441) rfl dX3_permute_1 ?_
  refine lv_iconst (v := 2) hx hb dX3_permute_4 (by decide) ?_
  refine lv_isub hx hb dX3_permute_5 ?_
  refine lv_topi (fun w1 e_w1 => ?_)
  have i_w1 : w1.toInt = (om.toInt - 2) := z_subI e_w1 rfl (show (2 : Int32).toInt = 2 by decide) (by omega)
  refine lv_istore_n (lv' := [(1, .int w1), (0, .ref oo)]) hx hb dX3_permute_6 rfl hl (by decide) rfl (fun ls hl => ?_)
  refine z_loop (fun n H locs ls => ∃ (K2 : Int32) (f3 : Nat → va_E), (n = (K2.toInt - (-2)).toNat) ∧ (-2 ≤ K2.toInt) ∧ (K2.toInt ≤ om.toInt - 2) ∧ (z_H D vwCl (z_A L sz) s.heap L f3 H locs) ∧ (f3 oo = .inr (3, [.ref wk, .ref ln, .ref fi, .ref sp, .int om, .int of])) ∧ (f3 ln = .inl (cy 1, 6, .inl gn)) ∧ (∀ b ∈ L, b ≠ ln → f3 b = f b) ∧ (lv_has ls 5 [(1, .int K2), (0, .ref oo)])) _ ⟨w1, f, rfl, (by first | decide | omega), (by first | decide | omega), hw, hf_oo, hf_ln, hfr, (lv_sub hl [0, 1] rfl)⟩ (fun n H locs ls hI ih_7 => ?_)
  obtain ⟨K2, f3, hn, hk0, hk1, hw, hf_oo, hf_ln, hfr, hl⟩ := hI
  refine lv_iload_n hx hb dX3_permute_7 rfl (lv_at hl 0 rfl) ?_
  refine z_if_lt (tgt := 34) hx hb rfl dX3_permute_8 (by decide) (fun c4 => ?_) (fun c4 => ?_)
  · skip
    refine lv_iload_n hx hb dX3_permute_34 rfl (lv_at hl 0 rfl) ?_
    refine z_if_ge (tgt := 40) hx hb rfl dX3_permute_35 (by decide) (fun c5 => ?_) (fun c5 => ?_)
    · skip
      refine lv_aload_n hx hb dX3_permute_40 rfl (lv_at hl 1 rfl) ?_
      refine z_get (C := RX3) (T := TX3) (N := 6) (ci := 3) (v := .int om) hx hb hT zin_X3 hown hK hw hm_oo hf_oo rfl 4 (by decide) (hT _ kw_441) rfl dX3_permute_41 ?_
      refine lv_iconst (v := 1) hx hb dX3_permute_44 (by decide) ?_
      refine lv_isub hx hb dX3_permute_45 ?_
      refine lv_topi (fun w6 e_w6 => ?_)
      have i_w6 : w6.toInt = (om.toInt - 1) := z_subI e_w6 rfl (show (1 : Int32).toInt = 1 by decide) (by omega)
      refine lv_istore_n (lv' := [(2, .int w6), (1, .int K2), (0, .ref oo)]) hx hb dX3_permute_46 rfl hl (by decide) rfl (fun ls hl => ?_)
      refine z_loop (fun n H locs ls => ∃ (K7 : Int32) (f8 : Nat → va_E), (n = (K7.toInt).toNat) ∧ (0 ≤ K7.toInt) ∧ (K7.toInt ≤ 5) ∧ (z_H D vwCl (z_A L sz) s.heap L f8 H locs) ∧ (f8 oo = .inr (3, [.ref wk, .ref ln, .ref fi, .ref sp, .int om, .int of])) ∧ (f8 ln = .inl (cy 1, 6, .inl gn)) ∧ (∀ b ∈ L, b ≠ ln → f8 b = f b) ∧ (lv_has ls 5 [(2, .int K7), (1, .int K2), (0, .ref oo)])) _ ⟨w6, f3, rfl, (by first | decide | omega), (by first | decide | omega), hw, hf_oo, hf_ln, hfr, (lv_sub hl [0, 1, 2] rfl)⟩ (fun n H locs ls hI ih_47 => ?_)
      obtain ⟨K7, f8, hn, hk0, hk1, hw, hf_oo, hf_ln, hfr, hl⟩ := hI
      refine lv_iload_n hx hb dX3_permute_47 rfl (lv_at hl 0 rfl) ?_
      refine lv_iload_n hx hb dX3_permute_48 rfl (lv_at hl 1 rfl) ?_
      refine z_icmp_le (tgt := 73) hx hb rfl rfl dX3_permute_49 (by decide) (fun c9 => ?_) (fun c9 => ?_)
      · skip
        refine lv_aload_n hx hb dX3_permute_73 rfl (lv_at hl 2 rfl) ?_
        refine lv_iload_n hx hb dX3_permute_74 rfl (lv_at hl 1 rfl) ?_
        refine lv_iload_n hx hb dX3_permute_75 rfl (lv_at hl 0 rfl) ?_
        refine z_callvV (cells := 0) (slots := 0) (b := oo) (As := [.int K2, .int K7]) (rest := []) (ci := 3) (q0 := (RX3, TX3, 6)) ⟨hx, hb, hml, hown, hT⟩ (c_X3_change l hm_oo hm_ln hf_oo hf_ln hgn (by first | omega | decide | assumption) (by first | omega | decide | assumption)) (cwV 2 hT (z_goodV (fun _ h => h) kw_1039 kw_1041 kw_24 kw_94 kw_1042) rfl rfl rfl (by decide +kernel) ⟨by decide, by decide⟩) z_mv hKK hK hw hA hm_oo hf_oo rfl rfl rfl hl.1 rfl (Nat.le_of_ble_eq_true rfl) dX3_permute_76 ⟨by decide, by decide⟩ (fun u H locs hp hw => ?_)
        obtain ⟨L10, f11⟩ := u
        obtain ⟨hsb, hfm, g2_12, ha_0, hp⟩ := hp
        have hsb : L = L10 := hsb
        subst hsb
        have hsb : ∀ b ∈ L, b ∈ L := fun _ h => h
        have hw : z_H D vwCl (z_A L sz) s.heap L f11 H locs := hw
        have hfr : ∀ b ∈ L, b ≠ ln → f11 b = f b := fun b hb h0 => (hfm b hb h0).trans (hfr b hb h0)
        have hf_oo : f11 oo = .inr (3, [.ref wk, .ref ln, .ref fi, .ref sp, .int om, .int of]) := (hfm oo hm_oo (z_tne hf_oo hf_ln (m := 3) (n := 148) rfl rfl (by decide))).trans hf_oo
        have hf_ln : f11 ln = .inl (cy 1, 6, .inl g2_12) := ha_0
        have hln2 := hp
        refine lv_iload_n hx hb dX3_permute_79 rfl (lv_at hl 1 rfl) ?_
        refine lv_iconst (v := 1) hx hb dX3_permute_80 (by decide) ?_
        refine lv_iadd hx hb dX3_permute_81 ?_
        refine lv_topi (fun w13 e_w13 => ?_)
        have i_w13 : w13.toInt = (K2.toInt + 1) := z_add e_w13 rfl (show (1 : Int32).toInt = 1 by decide) (by omega)
        refine lv_istore_n (lv' := [(3, .int w13), (2, .int K7), (1, .int K2), (0, .ref oo)]) hx hb dX3_permute_82 rfl hl (by decide) rfl (fun ls hl => ?_)
        refine lv_aload_n hx hb dX3_permute_83 rfl (lv_at hl 3 rfl) ?_
        refine z_get (C := RX3) (T := TX3) (N := 6) (ci := 3) (v := .int om) hx hb hT zin_X3 hown hK hw hm_oo hf_oo rfl 4 (by decide) (hT _ kw_441) rfl dX3_permute_84 ?_
        refine lv_iconst (v := 1) hx hb dX3_permute_87 (by decide) ?_
        refine lv_isub hx hb dX3_permute_88 ?_
        refine lv_topi (fun w14 e_w14 => ?_)
        have i_w14 : w14.toInt = (om.toInt - 1) := z_subI e_w14 rfl (show (1 : Int32).toInt = 1 by decide) (by omega)
        refine lv_istore (lv' := [(4, .int w14), (3, .int w13), (2, .int K7), (1, .int K2), (0, .ref oo)]) hx hb dX3_permute_89 hl (by decide) rfl (fun ls hl => ?_)
        refine z_loop (fun n H locs ls => ∃ (K15 : Int32) (G17 : Nat → Int32) (V18 : Int32) (f16 : Nat → va_E), (n = (6 - K15.toInt).toNat) ∧ (0 ≤ K15.toInt) ∧ (K15.toInt ≤ 6) ∧ (-1 ≤ V18.toInt ∧ V18.toInt ≤ 5) ∧ (∀ j : Nat, z_le11 (G17 j)) ∧ (z_H D vwCl (z_A L sz) s.heap L f16 H locs) ∧ (f16 oo = .inr (3, [.ref wk, .ref ln, .ref fi, .ref sp, .int om, .int of])) ∧ (f16 ln = .inl (cy 1, 6, .inl G17)) ∧ (∀ b ∈ L, b ≠ ln → f16 b = f b) ∧ (lv_has ls 5 [(4, .int V18), (3, .int K15), (2, .int K7), (1, .int K2), (0, .ref oo)])) _ ⟨w13, g2_12, w14, f11, rfl, (by first | decide | omega), (by first | decide | omega), (by omega), hln2, hw, hf_oo, hf_ln, hfr, (lv_sub hl [0, 1, 2, 3, 4] rfl)⟩ (fun n H locs ls hI ih_91 => ?_)
        obtain ⟨K15, G17, V18, f16, hn, hk0, hk1, hi0, hi1, hw, hf_oo, hf_ln, hfr, hl⟩ := hI
        refine lv_iload_n hx hb dX3_permute_91 rfl (lv_at hl 1 rfl) ?_
        refine lv_iload hx hb dX3_permute_92 (lv_at hl 0 rfl) ?_
        refine z_icmp_ge (tgt := 113) hx hb rfl rfl dX3_permute_94 (by decide) (fun c19 => ?_) (fun c19 => ?_)
        · skip
          refine lv_iconst (v := 1) hx hb dX3_permute_113 (by decide) ?_
          exact z_zret hx hb hr rfl hlk (by decide) (by decide) hw (⟨hsub, hfr, G17, hf_ln, Or.inl ⟨rfl, hi1⟩⟩) dX3_permute_114
        · skip
          refine lv_aload_n hx hb dX3_permute_97 rfl (lv_at hl 4 rfl) ?_
          refine lv_iload_n hx hb dX3_permute_98 rfl (lv_at hl 1 rfl) ?_
          refine lv_iload hx hb dX3_permute_99 (lv_at hl 0 rfl) ?_
          refine z_callvV (cells := 0) (slots := 0) (b := oo) (As := [.int K15, .int V18]) (rest := []) (ci := 3) (q0 := (RX3, TX3, 6)) ⟨hx, hb, hml, hown, hT⟩ (c_X3_change l hm_oo hm_ln hf_oo hf_ln hi1 (by first | omega | decide | assumption) (by first | omega | decide | assumption)) (cwV 2 hT (z_goodV (fun _ h => h) kw_1039 kw_1041 kw_24 kw_94 kw_1042) rfl rfl rfl (by decide +kernel) ⟨by decide, by decide⟩) z_mv hKK hK hw hA hm_oo hf_oo rfl rfl rfl hl.1 rfl (Nat.le_of_ble_eq_true rfl) dX3_permute_101 ⟨by decide, by decide⟩ (fun u H locs hp hw => ?_)
          obtain ⟨L20, f21⟩ := u
          obtain ⟨hsb, hfm, g2_22, ha_0, hp⟩ := hp
          have hsb : L = L20 := hsb
          subst hsb
          have hsb : ∀ b ∈ L, b ∈ L := fun _ h => h
          have hw : z_H D vwCl (z_A L sz) s.heap L f21 H locs := hw
          have hfr : ∀ b ∈ L, b ≠ ln → f21 b = f b := fun b hb h0 => (hfm b hb h0).trans (hfr b hb h0)
          have hf_oo : f21 oo = .inr (3, [.ref wk, .ref ln, .ref fi, .ref sp, .int om, .int of]) := (hfm oo hm_oo (z_tne hf_oo hf_ln (m := 3) (n := 148) rfl rfl (by decide))).trans hf_oo
          have hf_ln : f21 ln = .inl (cy 1, 6, .inl g2_22) := ha_0
          have hln3 := hp
          obtain ⟨k23, e_k23⟩ : ∃ z : Int32, z = K15 + 1 := ⟨_, rfl⟩
          refine lv_iinc (v := k23) (lv' := [(3, .int k23), (4, .int V18), (2, .int K7), (1, .int K2), (0, .ref oo)]) hx hb dX3_permute_104 hl (k := 1) rfl (by rw [e_k23]; rfl) (by decide) rfl (fun ls hl => ?_)
          have i_k23 : k23.toInt = (K15.toInt + 1) := z_add e_k23 rfl (by decide) (by omega)
          obtain ⟨k24, e_k24⟩ : ∃ z : Int32, z = V18 + (-1) := ⟨_, rfl⟩
          refine lv_iinc (v := k24) (lv' := [(4, .int k24), (3, .int k23), (2, .int K7), (1, .int K2), (0, .ref oo)]) hx hb dX3_permute_107 hl (k := 1) rfl (by rw [e_k24]; rfl) (by decide) rfl (fun ls hl => ?_)
          have i_k24 : k24.toInt = (V18.toInt + (-1)) := z_add e_k24 rfl (by decide) (by omega)
          refine lv_goto (tgt := 91) hx hb dX3_permute_110 (by decide) ?_
          exact ih_91 _ (by omega) _ _ _ ⟨k23, g2_22, k24, f21, rfl, (by first | decide | omega), (by first | decide | omega), (by omega), hln3, hw, hf_oo, hf_ln, hfr, (lv_sub hl [0, 1, 2, 3, 4] rfl)⟩
      · skip
        refine lv_aload_n hx hb dX3_permute_52 rfl (lv_at hl 2 rfl) ?_
        refine z_get (C := RX3) (T := TX3) (N := 6) (ci := 3) (v := .ref ln) hx hb hT zin_X3 hown hK hw hm_oo hf_oo rfl 1 (by decide) (hT _ kw_436) rfl dX3_permute_53 ?_
        refine lv_iload_n hx hb dX3_permute_56 rfl (lv_at hl 0 rfl) ?_
        refine z_iald hx hb hK hw 1 hm_ln hf_ln rfl (z_ix rfl (by omega)) dX3_permute_57 ?_
        refine lv_topi (fun w25 e_w25 => ?_)
        refine lv_aload_n hx hb dX3_permute_58 rfl (lv_at hl 2 rfl) ?_
        refine z_get (C := RX3) (T := TX3) (N := 6) (ci := 3) (v := .ref ln) hx hb hT zin_X3 hown hK hw hm_oo hf_oo rfl 1 (by decide) (hT _ kw_436) rfl dX3_permute_59 ?_
        refine lv_iload_n hx hb dX3_permute_62 rfl (lv_at hl 1 rfl) ?_
        refine z_iald hx hb hK hw 1 hm_ln hf_ln rfl (z_ix rfl (by omega)) dX3_permute_63 ?_
        refine lv_topi (fun w26 e_w26 => ?_)
        refine z_icmp_ge (tgt := 73) hx hb rfl rfl dX3_permute_64 (by decide) (fun c27 => ?_) (fun c27 => ?_)
        · skip
          refine lv_aload_n hx hb dX3_permute_73 rfl (lv_at hl 2 rfl) ?_
          refine lv_iload_n hx hb dX3_permute_74 rfl (lv_at hl 1 rfl) ?_
          refine lv_iload_n hx hb dX3_permute_75 rfl (lv_at hl 0 rfl) ?_
          refine z_callvV (cells := 0) (slots := 0) (b := oo) (As := [.int K2, .int K7]) (rest := []) (ci := 3) (q0 := (RX3, TX3, 6)) ⟨hx, hb, hml, hown, hT⟩ (c_X3_change l hm_oo hm_ln hf_oo hf_ln hgn (by first | omega | decide | assumption) (by first | omega | decide | assumption)) (cwV 2 hT (z_goodV (fun _ h => h) kw_1039 kw_1041 kw_24 kw_94 kw_1042) rfl rfl rfl (by decide +kernel) ⟨by decide, by decide⟩) z_mv hKK hK hw hA hm_oo hf_oo rfl rfl rfl hl.1 rfl (Nat.le_of_ble_eq_true rfl) dX3_permute_76 ⟨by decide, by decide⟩ (fun u H locs hp hw => ?_)
          obtain ⟨L28, f29⟩ := u
          obtain ⟨hsb, hfm, g2_30, ha_0, hp⟩ := hp
          have hsb : L = L28 := hsb
          subst hsb
          have hsb : ∀ b ∈ L, b ∈ L := fun _ h => h
          have hw : z_H D vwCl (z_A L sz) s.heap L f29 H locs := hw
          have hfr : ∀ b ∈ L, b ≠ ln → f29 b = f b := fun b hb h0 => (hfm b hb h0).trans (hfr b hb h0)
          have hf_oo : f29 oo = .inr (3, [.ref wk, .ref ln, .ref fi, .ref sp, .int om, .int of]) := (hfm oo hm_oo (z_tne hf_oo hf_ln (m := 3) (n := 148) rfl rfl (by decide))).trans hf_oo
          have hf_ln : f29 ln = .inl (cy 1, 6, .inl g2_30) := ha_0
          have hln2 := hp
          refine lv_iload_n hx hb dX3_permute_79 rfl (lv_at hl 1 rfl) ?_
          refine lv_iconst (v := 1) hx hb dX3_permute_80 (by decide) ?_
          refine lv_iadd hx hb dX3_permute_81 ?_
          refine lv_topi (fun w31 e_w31 => ?_)
          have i_w31 : w31.toInt = (K2.toInt + 1) := z_add e_w31 rfl (show (1 : Int32).toInt = 1 by decide) (by omega)
          refine lv_istore_n (lv' := [(3, .int w31), (2, .int K7), (1, .int K2), (0, .ref oo)]) hx hb dX3_permute_82 rfl hl (by decide) rfl (fun ls hl => ?_)
          refine lv_aload_n hx hb dX3_permute_83 rfl (lv_at hl 3 rfl) ?_
          refine z_get (C := RX3) (T := TX3) (N := 6) (ci := 3) (v := .int om) hx hb hT zin_X3 hown hK hw hm_oo hf_oo rfl 4 (by decide) (hT _ kw_441) rfl dX3_permute_84 ?_
          refine lv_iconst (v := 1) hx hb dX3_permute_87 (by decide) ?_
          refine lv_isub hx hb dX3_permute_88 ?_
          refine lv_topi (fun w32 e_w32 => ?_)
          have i_w32 : w32.toInt = (om.toInt - 1) := z_subI e_w32 rfl (show (1 : Int32).toInt = 1 by decide) (by omega)
          refine lv_istore (lv' := [(4, .int w32), (3, .int w31), (2, .int K7), (1, .int K2), (0, .ref oo)]) hx hb dX3_permute_89 hl (by decide) rfl (fun ls hl => ?_)
          refine z_loop (fun n H locs ls => ∃ (K33 : Int32) (G35 : Nat → Int32) (V36 : Int32) (f34 : Nat → va_E), (n = (6 - K33.toInt).toNat) ∧ (0 ≤ K33.toInt) ∧ (K33.toInt ≤ 6) ∧ (-1 ≤ V36.toInt ∧ V36.toInt ≤ 5) ∧ (∀ j : Nat, z_le11 (G35 j)) ∧ (z_H D vwCl (z_A L sz) s.heap L f34 H locs) ∧ (f34 oo = .inr (3, [.ref wk, .ref ln, .ref fi, .ref sp, .int om, .int of])) ∧ (f34 ln = .inl (cy 1, 6, .inl G35)) ∧ (∀ b ∈ L, b ≠ ln → f34 b = f b) ∧ (lv_has ls 5 [(4, .int V36), (3, .int K33), (2, .int K7), (1, .int K2), (0, .ref oo)])) _ ⟨w31, g2_30, w32, f29, rfl, (by first | decide | omega), (by first | decide | omega), (by omega), hln2, hw, hf_oo, hf_ln, hfr, (lv_sub hl [0, 1, 2, 3, 4] rfl)⟩ (fun n H locs ls hI ih_91 => ?_)
          obtain ⟨K33, G35, V36, f34, hn, hk0, hk1, hi0, hi1, hw, hf_oo, hf_ln, hfr, hl⟩ := hI
          refine lv_iload_n hx hb dX3_permute_91 rfl (lv_at hl 1 rfl) ?_
          refine lv_iload hx hb dX3_permute_92 (lv_at hl 0 rfl) ?_
          refine z_icmp_ge (tgt := 113) hx hb rfl rfl dX3_permute_94 (by decide) (fun c37 => ?_) (fun c37 => ?_)
          · skip
            refine lv_iconst (v := 1) hx hb dX3_permute_113 (by decide) ?_
            exact z_zret hx hb hr rfl hlk (by decide) (by decide) hw (⟨hsub, hfr, G35, hf_ln, Or.inl ⟨rfl, hi1⟩⟩) dX3_permute_114
          · skip
            refine lv_aload_n hx hb dX3_permute_97 rfl (lv_at hl 4 rfl) ?_
            refine lv_iload_n hx hb dX3_permute_98 rfl (lv_at hl 1 rfl) ?_
            refine lv_iload hx hb dX3_permute_99 (lv_at hl 0 rfl) ?_
            refine z_callvV (cells := 0) (slots := 0) (b := oo) (As := [.int K33, .int V36]) (rest := []) (ci := 3) (q0 := (RX3, TX3, 6)) ⟨hx, hb, hml, hown, hT⟩ (c_X3_change l hm_oo hm_ln hf_oo hf_ln hi1 (by first | omega | decide | assumption) (by first | omega | decide | assumption)) (cwV 2 hT (z_goodV (fun _ h => h) kw_1039 kw_1041 kw_24 kw_94 kw_1042) rfl rfl rfl (by decide +kernel) ⟨by decide, by decide⟩) z_mv hKK hK hw hA hm_oo hf_oo rfl rfl rfl hl.1 rfl (Nat.le_of_ble_eq_true rfl) dX3_permute_101 ⟨by decide, by decide⟩ (fun u H locs hp hw => ?_)
            obtain ⟨L38, f39⟩ := u
            obtain ⟨hsb, hfm, g2_40, ha_0, hp⟩ := hp
            have hsb : L = L38 := hsb
            subst hsb
            have hsb : ∀ b ∈ L, b ∈ L := fun _ h => h
            have hw : z_H D vwCl (z_A L sz) s.heap L f39 H locs := hw
            have hfr : ∀ b ∈ L, b ≠ ln → f39 b = f b := fun b hb h0 => (hfm b hb h0).trans (hfr b hb h0)
            have hf_oo : f39 oo = .inr (3, [.ref wk, .ref ln, .ref fi, .ref sp, .int om, .int of]) := (hfm oo hm_oo (z_tne hf_oo hf_ln (m := 3) (n := 148) rfl rfl (by decide))).trans hf_oo
            have hf_ln : f39 ln = .inl (cy 1, 6, .inl g2_40) := ha_0
            have hln3 := hp
            obtain ⟨k41, e_k41⟩ : ∃ z : Int32, z = K33 + 1 := ⟨_, rfl⟩
            refine lv_iinc (v := k41) (lv' := [(3, .int k41), (4, .int V36), (2, .int K7), (1, .int K2), (0, .ref oo)]) hx hb dX3_permute_104 hl (k := 1) rfl (by rw [e_k41]; rfl) (by decide) rfl (fun ls hl => ?_)
            have i_k41 : k41.toInt = (K33.toInt + 1) := z_add e_k41 rfl (by decide) (by omega)
            obtain ⟨k42, e_k42⟩ : ∃ z : Int32, z = V36 + (-1) := ⟨_, rfl⟩
            refine lv_iinc (v := k42) (lv' := [(4, .int k42), (3, .int k41), (2, .int K7), (1, .int K2), (0, .ref oo)]) hx hb dX3_permute_107 hl (k := 1) rfl (by rw [e_k42]; rfl) (by decide) rfl (fun ls hl => ?_)
            have i_k42 : k42.toInt = (V36.toInt + (-1)) := z_add e_k42 rfl (by decide) (by omega)
            refine lv_goto (tgt := 91) hx hb dX3_permute_110 (by decide) ?_
            exact ih_91 _ (by omega) _ _ _ ⟨k41, g2_40, k42, f39, rfl, (by first | decide | omega), (by first | decide | omega), (by omega), hln3, hw, hf_oo, hf_ln, hfr, (lv_sub hl [0, 1, 2, 3, 4] rfl)⟩
        · skip
          obtain ⟨k43, e_k43⟩ : ∃ z : Int32, z = K7 + (-1) := ⟨_, rfl⟩
          refine lv_iinc (v := k43) (lv' := [(2, .int k43), (1, .int K2), (0, .ref oo)]) hx hb dX3_permute_67 hl (k := 0) rfl (by rw [e_k43]; rfl) (by decide) rfl (fun ls hl => ?_)
          have i_k43 : k43.toInt = (K7.toInt + (-1)) := z_add e_k43 rfl (by decide) (by omega)
          refine lv_goto (tgt := 47) hx hb dX3_permute_70 (by decide) ?_
          exact ih_47 _ (by omega) _ _ _ ⟨k43, f8, rfl, (by first | decide | omega), (by first | decide | omega), hw, hf_oo, hf_ln, hfr, (lv_sub hl [0, 1, 2] rfl)⟩
    · skip
      refine lv_iconst (v := 0) hx hb dX3_permute_38 (by decide) ?_
      exact z_zret hx hb hr rfl hlk (by decide) (by decide) hw (⟨hsub, hfr, gn, hf_ln, Or.inr ⟨rfl, hgn⟩⟩) dX3_permute_39
  · skip
    refine lv_aload_n hx hb dX3_permute_11 rfl (lv_at hl 1 rfl) ?_
    refine z_get (C := RX3) (T := TX3) (N := 6) (ci := 3) (v := .ref ln) hx hb hT zin_X3 hown hK hw hm_oo hf_oo rfl 1 (by decide) (hT _ kw_436) rfl dX3_permute_12 ?_
    refine lv_iload_n hx hb dX3_permute_15 rfl (lv_at hl 0 rfl) ?_
    refine z_iald hx hb hK hw 1 hm_ln hf_ln rfl (z_ix rfl (by omega)) dX3_permute_16 ?_
    refine lv_topi (fun w44 e_w44 => ?_)
    refine lv_aload_n hx hb dX3_permute_17 rfl (lv_at hl 1 rfl) ?_
    refine z_get (C := RX3) (T := TX3) (N := 6) (ci := 3) (v := .ref ln) hx hb hT zin_X3 hown hK hw hm_oo hf_oo rfl 1 (by decide) (hT _ kw_436) rfl dX3_permute_18 ?_
    refine lv_iload_n hx hb dX3_permute_21 rfl (lv_at hl 0 rfl) ?_
    refine lv_iconst (v := 1) hx hb dX3_permute_22 (by decide) ?_
    refine lv_iadd hx hb dX3_permute_23 ?_
    refine lv_topi (fun w45 e_w45 => ?_)
    have i_w45 : w45.toInt = (K2.toInt + 1) := z_add e_w45 rfl (show (1 : Int32).toInt = 1 by decide) (by omega)
    refine z_iald hx hb hK hw 1 hm_ln hf_ln rfl (z_ix i_w45 (by omega)) dX3_permute_24 ?_
    refine lv_topi (fun w46 e_w46 => ?_)
    refine z_icmp_le (tgt := 34) hx hb rfl rfl dX3_permute_25 (by decide) (fun c47 => ?_) (fun c47 => ?_)
    · skip
      refine lv_iload_n hx hb dX3_permute_34 rfl (lv_at hl 0 rfl) ?_
      refine z_if_ge (tgt := 40) hx hb rfl dX3_permute_35 (by decide) (fun c48 => ?_) (fun c48 => ?_)
      · skip
        refine lv_aload_n hx hb dX3_permute_40 rfl (lv_at hl 1 rfl) ?_
        refine z_get (C := RX3) (T := TX3) (N := 6) (ci := 3) (v := .int om) hx hb hT zin_X3 hown hK hw hm_oo hf_oo rfl 4 (by decide) (hT _ kw_441) rfl dX3_permute_41 ?_
        refine lv_iconst (v := 1) hx hb dX3_permute_44 (by decide) ?_
        refine lv_isub hx hb dX3_permute_45 ?_
        refine lv_topi (fun w49 e_w49 => ?_)
        have i_w49 : w49.toInt = (om.toInt - 1) := z_subI e_w49 rfl (show (1 : Int32).toInt = 1 by decide) (by omega)
        refine lv_istore_n (lv' := [(2, .int w49), (1, .int K2), (0, .ref oo)]) hx hb dX3_permute_46 rfl hl (by decide) rfl (fun ls hl => ?_)
        refine z_loop (fun n H locs ls => ∃ (K50 : Int32) (f51 : Nat → va_E), (n = (K50.toInt).toNat) ∧ (0 ≤ K50.toInt) ∧ (K50.toInt ≤ 5) ∧ (z_H D vwCl (z_A L sz) s.heap L f51 H locs) ∧ (f51 oo = .inr (3, [.ref wk, .ref ln, .ref fi, .ref sp, .int om, .int of])) ∧ (f51 ln = .inl (cy 1, 6, .inl gn)) ∧ (∀ b ∈ L, b ≠ ln → f51 b = f b) ∧ (lv_has ls 5 [(2, .int K50), (1, .int K2), (0, .ref oo)])) _ ⟨w49, f3, rfl, (by first | decide | omega), (by first | decide | omega), hw, hf_oo, hf_ln, hfr, (lv_sub hl [0, 1, 2] rfl)⟩ (fun n H locs ls hI ih_47 => ?_)
        obtain ⟨K50, f51, hn, hk0, hk1, hw, hf_oo, hf_ln, hfr, hl⟩ := hI
        refine lv_iload_n hx hb dX3_permute_47 rfl (lv_at hl 0 rfl) ?_
        refine lv_iload_n hx hb dX3_permute_48 rfl (lv_at hl 1 rfl) ?_
        refine z_icmp_le (tgt := 73) hx hb rfl rfl dX3_permute_49 (by decide) (fun c52 => ?_) (fun c52 => ?_)
        · skip
          refine lv_aload_n hx hb dX3_permute_73 rfl (lv_at hl 2 rfl) ?_
          refine lv_iload_n hx hb dX3_permute_74 rfl (lv_at hl 1 rfl) ?_
          refine lv_iload_n hx hb dX3_permute_75 rfl (lv_at hl 0 rfl) ?_
          refine z_callvV (cells := 0) (slots := 0) (b := oo) (As := [.int K2, .int K50]) (rest := []) (ci := 3) (q0 := (RX3, TX3, 6)) ⟨hx, hb, hml, hown, hT⟩ (c_X3_change l hm_oo hm_ln hf_oo hf_ln hgn (by first | omega | decide | assumption) (by first | omega | decide | assumption)) (cwV 2 hT (z_goodV (fun _ h => h) kw_1039 kw_1041 kw_24 kw_94 kw_1042) rfl rfl rfl (by decide +kernel) ⟨by decide, by decide⟩) z_mv hKK hK hw hA hm_oo hf_oo rfl rfl rfl hl.1 rfl (Nat.le_of_ble_eq_true rfl) dX3_permute_76 ⟨by decide, by decide⟩ (fun u H locs hp hw => ?_)
          obtain ⟨L53, f54⟩ := u
          obtain ⟨hsb, hfm, g2_55, ha_0, hp⟩ := hp
          have hsb : L = L53 := hsb
          subst hsb
          have hsb : ∀ b ∈ L, b ∈ L := fun _ h => h
          have hw : z_H D vwCl (z_A L sz) s.heap L f54 H locs := hw
          have hfr : ∀ b ∈ L, b ≠ ln → f54 b = f b := fun b hb h0 => (hfm b hb h0).trans (hfr b hb h0)
          have hf_oo : f54 oo = .inr (3, [.ref wk, .ref ln, .ref fi, .ref sp, .int om, .int of]) := (hfm oo hm_oo (z_tne hf_oo hf_ln (m := 3) (n := 148) rfl rfl (by decide))).trans hf_oo
          have hf_ln : f54 ln = .inl (cy 1, 6, .inl g2_55) := ha_0
          have hln2 := hp
          refine lv_iload_n hx hb dX3_permute_79 rfl (lv_at hl 1 rfl) ?_
          refine lv_iconst (v := 1) hx hb dX3_permute_80 (by decide) ?_
          refine lv_iadd hx hb dX3_permute_81 ?_
          refine lv_topi (fun w56 e_w56 => ?_)
          have i_w56 : w56.toInt = (K2.toInt + 1) := z_add e_w56 rfl (show (1 : Int32).toInt = 1 by decide) (by omega)
          refine lv_istore_n (lv' := [(3, .int w56), (2, .int K50), (1, .int K2), (0, .ref oo)]) hx hb dX3_permute_82 rfl hl (by decide) rfl (fun ls hl => ?_)
          refine lv_aload_n hx hb dX3_permute_83 rfl (lv_at hl 3 rfl) ?_
          refine z_get (C := RX3) (T := TX3) (N := 6) (ci := 3) (v := .int om) hx hb hT zin_X3 hown hK hw hm_oo hf_oo rfl 4 (by decide) (hT _ kw_441) rfl dX3_permute_84 ?_
          refine lv_iconst (v := 1) hx hb dX3_permute_87 (by decide) ?_
          refine lv_isub hx hb dX3_permute_88 ?_
          refine lv_topi (fun w57 e_w57 => ?_)
          have i_w57 : w57.toInt = (om.toInt - 1) := z_subI e_w57 rfl (show (1 : Int32).toInt = 1 by decide) (by omega)
          refine lv_istore (lv' := [(4, .int w57), (3, .int w56), (2, .int K50), (1, .int K2), (0, .ref oo)]) hx hb dX3_permute_89 hl (by decide) rfl (fun ls hl => ?_)
          refine z_loop (fun n H locs ls => ∃ (K58 : Int32) (G60 : Nat → Int32) (V61 : Int32) (f59 : Nat → va_E), (n = (6 - K58.toInt).toNat) ∧ (0 ≤ K58.toInt) ∧ (K58.toInt ≤ 6) ∧ (-1 ≤ V61.toInt ∧ V61.toInt ≤ 5) ∧ (∀ j : Nat, z_le11 (G60 j)) ∧ (z_H D vwCl (z_A L sz) s.heap L f59 H locs) ∧ (f59 oo = .inr (3, [.ref wk, .ref ln, .ref fi, .ref sp, .int om, .int of])) ∧ (f59 ln = .inl (cy 1, 6, .inl G60)) ∧ (∀ b ∈ L, b ≠ ln → f59 b = f b) ∧ (lv_has ls 5 [(4, .int V61), (3, .int K58), (2, .int K50), (1, .int K2), (0, .ref oo)])) _ ⟨w56, g2_55, w57, f54, rfl, (by first | decide | omega), (by first | decide | omega), (by omega), hln2, hw, hf_oo, hf_ln, hfr, (lv_sub hl [0, 1, 2, 3, 4] rfl)⟩ (fun n H locs ls hI ih_91 => ?_)
          obtain ⟨K58, G60, V61, f59, hn, hk0, hk1, hi0, hi1, hw, hf_oo, hf_ln, hfr, hl⟩ := hI
          refine lv_iload_n hx hb dX3_permute_91 rfl (lv_at hl 1 rfl) ?_
          refine lv_iload hx hb dX3_permute_92 (lv_at hl 0 rfl) ?_
          refine z_icmp_ge (tgt := 113) hx hb rfl rfl dX3_permute_94 (by decide) (fun c62 => ?_) (fun c62 => ?_)
          · skip
            refine lv_iconst (v := 1) hx hb dX3_permute_113 (by decide) ?_
            exact z_zret hx hb hr rfl hlk (by decide) (by decide) hw (⟨hsub, hfr, G60, hf_ln, Or.inl ⟨rfl, hi1⟩⟩) dX3_permute_114
          · skip
            refine lv_aload_n hx hb dX3_permute_97 rfl (lv_at hl 4 rfl) ?_
            refine lv_iload_n hx hb dX3_permute_98 rfl (lv_at hl 1 rfl) ?_
            refine lv_iload hx hb dX3_permute_99 (lv_at hl 0 rfl) ?_
            refine z_callvV (cells := 0) (slots := 0) (b := oo) (As := [.int K58, .int V61]) (rest := []) (ci := 3) (q0 := (RX3, TX3, 6)) ⟨hx, hb, hml, hown, hT⟩ (c_X3_change l hm_oo hm_ln hf_oo hf_ln hi1 (by first | omega | decide | assumption) (by first | omega | decide | assumption)) (cwV 2 hT (z_goodV (fun _ h => h) kw_1039 kw_1041 kw_24 kw_94 kw_1042) rfl rfl rfl (by decide +kernel) ⟨by decide, by decide⟩) z_mv hKK hK hw hA hm_oo hf_oo rfl rfl rfl hl.1 rfl (Nat.le_of_ble_eq_true rfl) dX3_permute_101 ⟨by decide, by decide⟩ (fun u H locs hp hw => ?_)
            obtain ⟨L63, f64⟩ := u
            obtain ⟨hsb, hfm, g2_65, ha_0, hp⟩ := hp
            have hsb : L = L63 := hsb
            subst hsb
            have hsb : ∀ b ∈ L, b ∈ L := fun _ h => h
            have hw : z_H D vwCl (z_A L sz) s.heap L f64 H locs := hw
            have hfr : ∀ b ∈ L, b ≠ ln → f64 b = f b := fun b hb h0 => (hfm b hb h0).trans (hfr b hb h0)
            have hf_oo : f64 oo = .inr (3, [.ref wk, .ref ln, .ref fi, .ref sp, .int om, .int of]) := (hfm oo hm_oo (z_tne hf_oo hf_ln (m := 3) (n := 148) rfl rfl (by decide))).trans hf_oo
            have hf_ln : f64 ln = .inl (cy 1, 6, .inl g2_65) := ha_0
            have hln3 := hp
            obtain ⟨k66, e_k66⟩ : ∃ z : Int32, z = K58 + 1 := ⟨_, rfl⟩
            refine lv_iinc (v := k66) (lv' := [(3, .int k66), (4, .int V61), (2, .int K50), (1, .int K2), (0, .ref oo)]) hx hb dX3_permute_104 hl (k := 1) rfl (by rw [e_k66]; rfl) (by decide) rfl (fun ls hl => ?_)
            have i_k66 : k66.toInt = (K58.toInt + 1) := z_add e_k66 rfl (by decide) (by omega)
            obtain ⟨k67, e_k67⟩ : ∃ z : Int32, z = V61 + (-1) := ⟨_, rfl⟩
            refine lv_iinc (v := k67) (lv' := [(4, .int k67), (3, .int k66), (2, .int K50), (1, .int K2), (0, .ref oo)]) hx hb dX3_permute_107 hl (k := 1) rfl (by rw [e_k67]; rfl) (by decide) rfl (fun ls hl => ?_)
            have i_k67 : k67.toInt = (V61.toInt + (-1)) := z_add e_k67 rfl (by decide) (by omega)
            refine lv_goto (tgt := 91) hx hb dX3_permute_110 (by decide) ?_
            exact ih_91 _ (by omega) _ _ _ ⟨k66, g2_65, k67, f64, rfl, (by first | decide | omega), (by first | decide | omega), (by omega), hln3, hw, hf_oo, hf_ln, hfr, (lv_sub hl [0, 1, 2, 3, 4] rfl)⟩
        · skip
          refine lv_aload_n hx hb dX3_permute_52 rfl (lv_at hl 2 rfl) ?_
          refine z_get (C := RX3) (T := TX3) (N := 6) (ci := 3) (v := .ref ln) hx hb hT zin_X3 hown hK hw hm_oo hf_oo rfl 1 (by decide) (hT _ kw_436) rfl dX3_permute_53 ?_
          refine lv_iload_n hx hb dX3_permute_56 rfl (lv_at hl 0 rfl) ?_
          refine z_iald hx hb hK hw 1 hm_ln hf_ln rfl (z_ix rfl (by omega)) dX3_permute_57 ?_
          refine lv_topi (fun w68 e_w68 => ?_)
          refine lv_aload_n hx hb dX3_permute_58 rfl (lv_at hl 2 rfl) ?_
          refine z_get (C := RX3) (T := TX3) (N := 6) (ci := 3) (v := .ref ln) hx hb hT zin_X3 hown hK hw hm_oo hf_oo rfl 1 (by decide) (hT _ kw_436) rfl dX3_permute_59 ?_
          refine lv_iload_n hx hb dX3_permute_62 rfl (lv_at hl 1 rfl) ?_
          refine z_iald hx hb hK hw 1 hm_ln hf_ln rfl (z_ix rfl (by omega)) dX3_permute_63 ?_
          refine lv_topi (fun w69 e_w69 => ?_)
          refine z_icmp_ge (tgt := 73) hx hb rfl rfl dX3_permute_64 (by decide) (fun c70 => ?_) (fun c70 => ?_)
          · skip
            refine lv_aload_n hx hb dX3_permute_73 rfl (lv_at hl 2 rfl) ?_
            refine lv_iload_n hx hb dX3_permute_74 rfl (lv_at hl 1 rfl) ?_
            refine lv_iload_n hx hb dX3_permute_75 rfl (lv_at hl 0 rfl) ?_
            refine z_callvV (cells := 0) (slots := 0) (b := oo) (As := [.int K2, .int K50]) (rest := []) (ci := 3) (q0 := (RX3, TX3, 6)) ⟨hx, hb, hml, hown, hT⟩ (c_X3_change l hm_oo hm_ln hf_oo hf_ln hgn (by first | omega | decide | assumption) (by first | omega | decide | assumption)) (cwV 2 hT (z_goodV (fun _ h => h) kw_1039 kw_1041 kw_24 kw_94 kw_1042) rfl rfl rfl (by decide +kernel) ⟨by decide, by decide⟩) z_mv hKK hK hw hA hm_oo hf_oo rfl rfl rfl hl.1 rfl (Nat.le_of_ble_eq_true rfl) dX3_permute_76 ⟨by decide, by decide⟩ (fun u H locs hp hw => ?_)
            obtain ⟨L71, f72⟩ := u
            obtain ⟨hsb, hfm, g2_73, ha_0, hp⟩ := hp
            have hsb : L = L71 := hsb
            subst hsb
            have hsb : ∀ b ∈ L, b ∈ L := fun _ h => h
            have hw : z_H D vwCl (z_A L sz) s.heap L f72 H locs := hw
            have hfr : ∀ b ∈ L, b ≠ ln → f72 b = f b := fun b hb h0 => (hfm b hb h0).trans (hfr b hb h0)
            have hf_oo : f72 oo = .inr (3, [.ref wk, .ref ln, .ref fi, .ref sp, .int om, .int of]) := (hfm oo hm_oo (z_tne hf_oo hf_ln (m := 3) (n := 148) rfl rfl (by decide))).trans hf_oo
            have hf_ln : f72 ln = .inl (cy 1, 6, .inl g2_73) := ha_0
            have hln2 := hp
            refine lv_iload_n hx hb dX3_permute_79 rfl (lv_at hl 1 rfl) ?_
            refine lv_iconst (v := 1) hx hb dX3_permute_80 (by decide) ?_
            refine lv_iadd hx hb dX3_permute_81 ?_
            refine lv_topi (fun w74 e_w74 => ?_)
            have i_w74 : w74.toInt = (K2.toInt + 1) := z_add e_w74 rfl (show (1 : Int32).toInt = 1 by decide) (by omega)
            refine lv_istore_n (lv' := [(3, .int w74), (2, .int K50), (1, .int K2), (0, .ref oo)]) hx hb dX3_permute_82 rfl hl (by decide) rfl (fun ls hl => ?_)
            refine lv_aload_n hx hb dX3_permute_83 rfl (lv_at hl 3 rfl) ?_
            refine z_get (C := RX3) (T := TX3) (N := 6) (ci := 3) (v := .int om) hx hb hT zin_X3 hown hK hw hm_oo hf_oo rfl 4 (by decide) (hT _ kw_441) rfl dX3_permute_84 ?_
            refine lv_iconst (v := 1) hx hb dX3_permute_87 (by decide) ?_
            refine lv_isub hx hb dX3_permute_88 ?_
            refine lv_topi (fun w75 e_w75 => ?_)
            have i_w75 : w75.toInt = (om.toInt - 1) := z_subI e_w75 rfl (show (1 : Int32).toInt = 1 by decide) (by omega)
            refine lv_istore (lv' := [(4, .int w75), (3, .int w74), (2, .int K50), (1, .int K2), (0, .ref oo)]) hx hb dX3_permute_89 hl (by decide) rfl (fun ls hl => ?_)
            refine z_loop (fun n H locs ls => ∃ (K76 : Int32) (G78 : Nat → Int32) (V79 : Int32) (f77 : Nat → va_E), (n = (6 - K76.toInt).toNat) ∧ (0 ≤ K76.toInt) ∧ (K76.toInt ≤ 6) ∧ (-1 ≤ V79.toInt ∧ V79.toInt ≤ 5) ∧ (∀ j : Nat, z_le11 (G78 j)) ∧ (z_H D vwCl (z_A L sz) s.heap L f77 H locs) ∧ (f77 oo = .inr (3, [.ref wk, .ref ln, .ref fi, .ref sp, .int om, .int of])) ∧ (f77 ln = .inl (cy 1, 6, .inl G78)) ∧ (∀ b ∈ L, b ≠ ln → f77 b = f b) ∧ (lv_has ls 5 [(4, .int V79), (3, .int K76), (2, .int K50), (1, .int K2), (0, .ref oo)])) _ ⟨w74, g2_73, w75, f72, rfl, (by first | decide | omega), (by first | decide | omega), (by omega), hln2, hw, hf_oo, hf_ln, hfr, (lv_sub hl [0, 1, 2, 3, 4] rfl)⟩ (fun n H locs ls hI ih_91 => ?_)
            obtain ⟨K76, G78, V79, f77, hn, hk0, hk1, hi0, hi1, hw, hf_oo, hf_ln, hfr, hl⟩ := hI
            refine lv_iload_n hx hb dX3_permute_91 rfl (lv_at hl 1 rfl) ?_
            refine lv_iload hx hb dX3_permute_92 (lv_at hl 0 rfl) ?_
            refine z_icmp_ge (tgt := 113) hx hb rfl rfl dX3_permute_94 (by decide) (fun c80 => ?_) (fun c80 => ?_)
            · skip
              refine lv_iconst (v := 1) hx hb dX3_permute_113 (by decide) ?_
              exact z_zret hx hb hr rfl hlk (by decide) (by decide) hw (⟨hsub, hfr, G78, hf_ln, Or.inl ⟨rfl, hi1⟩⟩) dX3_permute_114
            · skip
              refine lv_aload_n hx hb dX3_permute_97 rfl (lv_at hl 4 rfl) ?_
              refine lv_iload_n hx hb dX3_permute_98 rfl (lv_at hl 1 rfl) ?_
              refine lv_iload hx hb dX3_permute_99 (lv_at hl 0 rfl) ?_
              refine z_callvV (cells := 0) (slots := 0) (b := oo) (As := [.int K76, .int V79]) (rest := []) (ci := 3) (q0 := (RX3, TX3, 6)) ⟨hx, hb, hml, hown, hT⟩ (c_X3_change l hm_oo hm_ln hf_oo hf_ln hi1 (by first | omega | decide | assumption) (by first | omega | decide | assumption)) (cwV 2 hT (z_goodV (fun _ h => h) kw_1039 kw_1041 kw_24 kw_94 kw_1042) rfl rfl rfl (by decide +kernel) ⟨by decide, by decide⟩) z_mv hKK hK hw hA hm_oo hf_oo rfl rfl rfl hl.1 rfl (Nat.le_of_ble_eq_true rfl) dX3_permute_101 ⟨by decide, by decide⟩ (fun u H locs hp hw => ?_)
              obtain ⟨L81, f82⟩ := u
              obtain ⟨hsb, hfm, g2_83, ha_0, hp⟩ := hp
              have hsb : L = L81 := hsb
              subst hsb
              have hsb : ∀ b ∈ L, b ∈ L := fun _ h => h
              have hw : z_H D vwCl (z_A L sz) s.heap L f82 H locs := hw
              have hfr : ∀ b ∈ L, b ≠ ln → f82 b = f b := fun b hb h0 => (hfm b hb h0).trans (hfr b hb h0)
              have hf_oo : f82 oo = .inr (3, [.ref wk, .ref ln, .ref fi, .ref sp, .int om, .int of]) := (hfm oo hm_oo (z_tne hf_oo hf_ln (m := 3) (n := 148) rfl rfl (by decide))).trans hf_oo
              have hf_ln : f82 ln = .inl (cy 1, 6, .inl g2_83) := ha_0
              have hln3 := hp
              obtain ⟨k84, e_k84⟩ : ∃ z : Int32, z = K76 + 1 := ⟨_, rfl⟩
              refine lv_iinc (v := k84) (lv' := [(3, .int k84), (4, .int V79), (2, .int K50), (1, .int K2), (0, .ref oo)]) hx hb dX3_permute_104 hl (k := 1) rfl (by rw [e_k84]; rfl) (by decide) rfl (fun ls hl => ?_)
              have i_k84 : k84.toInt = (K76.toInt + 1) := z_add e_k84 rfl (by decide) (by omega)
              obtain ⟨k85, e_k85⟩ : ∃ z : Int32, z = V79 + (-1) := ⟨_, rfl⟩
              refine lv_iinc (v := k85) (lv' := [(4, .int k85), (3, .int k84), (2, .int K50), (1, .int K2), (0, .ref oo)]) hx hb dX3_permute_107 hl (k := 1) rfl (by rw [e_k85]; rfl) (by decide) rfl (fun ls hl => ?_)
              have i_k85 : k85.toInt = (V79.toInt + (-1)) := z_add e_k85 rfl (by decide) (by omega)
              refine lv_goto (tgt := 91) hx hb dX3_permute_110 (by decide) ?_
              exact ih_91 _ (by omega) _ _ _ ⟨k84, g2_83, k85, f82, rfl, (by first | decide | omega), (by first | decide | omega), (by omega), hln3, hw, hf_oo, hf_ln, hfr, (lv_sub hl [0, 1, 2, 3, 4] rfl)⟩
          · skip
            obtain ⟨k86, e_k86⟩ : ∃ z : Int32, z = K50 + (-1) := ⟨_, rfl⟩
            refine lv_iinc (v := k86) (lv' := [(2, .int k86), (1, .int K2), (0, .ref oo)]) hx hb dX3_permute_67 hl (k := 0) rfl (by rw [e_k86]; rfl) (by decide) rfl (fun ls hl => ?_)
            have i_k86 : k86.toInt = (K50.toInt + (-1)) := z_add e_k86 rfl (by decide) (by omega)
            refine lv_goto (tgt := 47) hx hb dX3_permute_70 (by decide) ?_
            exact ih_47 _ (by omega) _ _ _ ⟨k86, f51, rfl, (by first | decide | omega), (by first | decide | omega), hw, hf_oo, hf_ln, hfr, (lv_sub hl [0, 1, 2] rfl)⟩
      · skip
        refine lv_iconst (v := 0) hx hb dX3_permute_38 (by decide) ?_
        exact z_zret hx hb hr rfl hlk (by decide) (by decide) hw (⟨hsub, hfr, gn, hf_ln, Or.inr ⟨rfl, hgn⟩⟩) dX3_permute_39
    · skip
      obtain ⟨k87, e_k87⟩ : ∃ z : Int32, z = K2 + (-1) := ⟨_, rfl⟩
      refine lv_iinc (v := k87) (lv' := [(1, .int k87), (0, .ref oo)]) hx hb dX3_permute_28 hl (k := 0) rfl (by rw [e_k87]; rfl) (by decide) rfl (fun ls hl => ?_)
      have i_k87 : k87.toInt = (K2.toInt + (-1)) := z_add e_k87 rfl (by decide) (by omega)
      refine lv_goto (tgt := 7) hx hb dX3_permute_31 (by decide) ?_
      exact ih_7 _ (by omega) _ _ _ ⟨k87, f3, rfl, (by first | decide | omega), (by first | decide | omega), hw, hf_oo, hf_ln, hfr, (lv_sub hl [0, 1] rfl)⟩
