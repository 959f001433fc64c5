set_option maxHeartbeats 2000000 in
set_option maxRecDepth 100000 in
theorem c_X8_raiseN (l : Launch) {D : va_G} {cy : Nat → ClassId} {L : List Nat} {f : Nat → va_E} {sz : Nat} {adK adV : Nat → Nat} {wk ks ct se ow : Nat} {wn wt wd wp : Int32} {gc : Nat → Int32} {wh ea co : Int32} {N : Int} (hm_wk : wk ∈ L) (hm_ct : ct ∈ L) (hf_wk : f wk = .inr (8, [.ref ks, .int wn, .ref ct, .ref se, .ref ow, .int wt, .int wd, .int wp])) (hf_ct : f ct = .inl (cy 1, 4, .inl gc)) (hwh : 0 ≤ wh.toInt ∧ wh.toInt ≤ 3) (hgc : ∀ j : Nat, j < 4 → z_upto (N) (gc j)) (hNN : 0 ≤ N ∧ N ≤ 1000000000) (hea : 0 ≤ ea.toInt ∧ ea.toInt ≤ 999) (hco : 0 ≤ co.toInt ∧ co.toInt ≤ 198) : Met l yX8_raise (z_ws yX8_raise cX8_raise 5 (some .int)) (z_R 1 0 0) (va_Pc [.ref wk, .int wh, .int ea, .int co] (z_Pre D vwCl (z_KK D cy adK adV) L f sz)) (z_Qi D vwCl (fun r u => L = u.1 ∧ (∀ b ∈ L, b ≠ ct → u.2 b = f b) ∧ (∃ (g2 : Nat → Int32), (u.2 ct = .inl (cy 1, 4, .inl g2)) ∧ ((0 ≤ r.toInt ∧ r.toInt ≤ 199) ∧ ∀ j : Nat, j < 4 → z_upto (N + 1000) (g2 j)))) L sz) 0 0 (z_A L sz) := by
  refine z_met (cc := cX8_raise) (maxL := 5) (ret := (some .int)) (lv := [(0, .ref wk), (1, .int wh), (2, .int ea), (3, .int co)]) (by decide) rfl (Nat.le_of_ble_eq_true rfl) rfl ?_
  intro p e s m below meth c ls hx hb hr hlk hml hown hnm hts hKK hA hw hl
  have hK := hKK.1.1
  have hown : s.vm.findClass RX8 = some m.cls := hown
  have hT : ∀ w ∈ lw_all, w.before ([.ref wk, .int wh, .int ea, .int co] : List Value).toArray s = true := fun w h => hts w (z_cons w h)
  have hsub : L = L := rfl
  have hfr : ∀ b ∈ L, b ≠ ct → f b = f b := fun _ _ _ => rfl
  refine lv_iload_n hx hb dX8_raise_0 rfl (lv_at hl 2 rfl) ?_
  refine lv_aload_n hx hb dX8_raise_1 rfl (lv_at hl 0 rfl) ?_
  refine z_get (C := RX8) (T := TX8) (N := 8) (ci := 8) (v := .ref ct) hx hb hT zin_X8 hown hK hw hm_wk hf_wk rfl 2 (by decide) (hT _ kw_346) rfl dX8_raise_2 ?_
  refine lv_iload_n hx hb dX8_raise_5 rfl (lv_at hl 1 rfl) ?_
  refine z_iald hx hb hK hw 1 hm_ct hf_ct rfl (z_ix rfl (by omega)) dX8_raise_6 ?_
  refine lv_topi (fun w1 e_w1 => ?_)
  have hl_w1 : 0 ≤ w1.toInt ∧ w1.toInt ≤ N := by rw [e_w1]; exact hgc _ (z_clI rfl (by omega))
  refine z_icmp_le (tgt := 21) hx hb rfl rfl dX8_raise_7 (by decide) (fun c2 => ?_) (fun c2 => ?_)
  · skip
    refine lv_iconst (v := 1) hx hb dX8_raise_21 (by decide) ?_
    refine lv_istore (lv' := [(4, .int 1), (0, .ref wk), (1, .int wh), (2, .int ea), (3, .int co)]) hx hb dX8_raise_22 hl (by decide) rfl (fun ls hl => ?_)
    refine lv_iload_n hx hb dX8_raise_24 rfl (lv_at hl 4 rfl) ?_
    refine lv_iload hx hb dX8_raise_25 (lv_at hl 0 rfl) ?_
    refine z_icmp_lt (tgt := 35) hx hb rfl (show (1 : Int32).toInt = 1 by decide) dX8_raise_27 (by decide) (fun c3 => ?_) (fun c3 => ?_)
    · skip
      refine lv_aload_n hx hb dX8_raise_35 rfl (lv_at hl 1 rfl) ?_
      refine z_get (C := RX8) (T := TX8) (N := 8) (ci := 8) (v := .ref ct) hx hb hT zin_X8 hown hK hw hm_wk hf_wk rfl 2 (by decide) (hT _ kw_346) rfl dX8_raise_36 ?_
      refine lv_iload_n hx hb dX8_raise_39 rfl (lv_at hl 2 rfl) ?_
      refine lv_dup2_11 hx hb dX8_raise_40 rfl rfl ?_
      refine z_iald hx hb hK hw 1 hm_ct hf_ct rfl (z_ix rfl (by omega)) dX8_raise_41 ?_
      refine lv_topi (fun w4 e_w4 => ?_)
      have hl_w4 : 0 ≤ w4.toInt ∧ w4.toInt ≤ N := by rw [e_w4]; exact hgc _ (z_clI rfl (by omega))
      refine lv_iload_n hx hb dX8_raise_42 rfl (lv_at hl 4 rfl) ?_
      refine lv_iadd hx hb dX8_raise_43 ?_
      refine lv_topi (fun w5 e_w5 => ?_)
      have i_w5 : w5.toInt = (w4.toInt + co.toInt) := z_add e_w5 rfl rfl (by omega)
      refine z_iast hx hb hK hw 1 hm_ct hf_ct rfl (z_ix rfl (by omega)) dX8_raise_44 (fun H locs hw => ?_)
      obtain ⟨f7, e_f7⟩ : ∃ z, z = va_up f ct (.inl (cy 1, 4, .inl (upd gc wh.toNatClampNeg w5))) := ⟨_, rfl⟩
      rw [← e_f7] at hw
      have hf_wk : f7 wk = .inr (8, [.ref ks, .int wn, .ref ct, .ref se, .ref ow, .int wt, .int wd, .int wp]) := (congrFun e_f7 wk).trans (z_up_ne (z_tne hf_wk hf_ct (m := 8) (n := 132) rfl rfl (by decide)) hf_wk)
      have hf_ct : f7 ct = .inl (cy 1, 4, .inl (upd gc wh.toNatClampNeg w5)) := (congrFun e_f7 ct).trans z_up_self
      have hfr : ∀ b ∈ L, b ≠ ct → f7 b = f b := fun b hb h0 => (congrFun e_f7 b).trans (z_up_ne h0 (hfr b hb h0))
      obtain ⟨g6, e_g6⟩ : ∃ z, z = (upd gc wh.toNatClampNeg w5) := ⟨_, rfl⟩
      rw [← e_g6] at hf_ct
      refine lv_iconst (v := 0) hx hb dX8_raise_45 (by decide) ?_
      exact z_iret hx hb hr hlk (by decide) (by decide) hw (⟨hsub, hfr, g6, hf_ct, by decide, z_updPn (z_upto_mono (by omega) hgc) e_g6 (show _ ∧ _ by omega)⟩) dX8_raise_46
    · skip
      refine lv_iload_n hx hb dX8_raise_30 rfl (lv_at hl 3 rfl) ?_
      refine lv_iconst (v := 1) hx hb dX8_raise_31 (by decide) ?_
      refine z_icmp_ge (tgt := 47) hx hb rfl (show (1 : Int32).toInt = 1 by decide) dX8_raise_32 (by decide) (fun c8 => ?_) (fun c8 => ?_)
      · skip
        refine lv_aload_n hx hb dX8_raise_47 rfl (lv_at hl 1 rfl) ?_
        refine z_get (C := RX8) (T := TX8) (N := 8) (ci := 8) (v := .ref ct) hx hb hT zin_X8 hown hK hw hm_wk hf_wk rfl 2 (by decide) (hT _ kw_346) rfl dX8_raise_48 ?_
        refine lv_iload_n hx hb dX8_raise_51 rfl (lv_at hl 2 rfl) ?_
        refine lv_iload_n hx hb dX8_raise_52 rfl (lv_at hl 4 rfl) ?_
        refine lv_iload hx hb dX8_raise_53 (lv_at hl 0 rfl) ?_
        refine lv_isub hx hb dX8_raise_55 ?_
        refine lv_topi (fun w9 e_w9 => ?_)
        have i_w9 : w9.toInt = (co.toInt - 1) := z_subI e_w9 rfl (show (1 : Int32).toInt = 1 by decide) (by omega)
        refine lv_iload_n hx hb dX8_raise_56 rfl (lv_at hl 3 rfl) ?_
        refine lv_irem hx hb dX8_raise_57 (z_ne0 rfl (by omega)) ?_
        refine lv_topi (fun w10 e_w10 => ?_)
        have i_w10 : w10.toInt = ((co.toInt - 1) % ea.toInt) := z_remI e_w10 i_w9 rfl (by omega)
        have hrm := Int.emod_nonneg ((co.toInt - 1)) (b := ea.toInt) (by omega)
        have hrl := Int.emod_lt_of_pos ((co.toInt - 1)) (b := ea.toInt) (by omega)
        refine z_iast hx hb hK hw 1 hm_ct hf_ct rfl (z_ix rfl (by omega)) dX8_raise_58 (fun H locs hw => ?_)
        obtain ⟨f12, e_f12⟩ : ∃ z, z = va_up f ct (.inl (cy 1, 4, .inl (upd gc wh.toNatClampNeg w10))) := ⟨_, rfl⟩
        rw [← e_f12] at hw
        have hf_wk : f12 wk = .inr (8, [.ref ks, .int wn, .ref ct, .ref se, .ref ow, .int wt, .int wd, .int wp]) := (congrFun e_f12 wk).trans (z_up_ne (z_tne hf_wk hf_ct (m := 8) (n := 132) rfl rfl (by decide)) hf_wk)
        have hf_ct : f12 ct = .inl (cy 1, 4, .inl (upd gc wh.toNatClampNeg w10)) := (congrFun e_f12 ct).trans z_up_self
        have hfr : ∀ b ∈ L, b ≠ ct → f12 b = f b := fun b hb h0 => (congrFun e_f12 b).trans (z_up_ne h0 (hfr b hb h0))
        obtain ⟨g11, e_g11⟩ : ∃ z, z = (upd gc wh.toNatClampNeg w10) := ⟨_, rfl⟩
        rw [← e_g11] at hf_ct
        refine lv_iconst (v := 1) hx hb dX8_raise_59 (by decide) ?_
        refine lv_iload_n hx hb dX8_raise_60 rfl (lv_at hl 4 rfl) ?_
        refine lv_iload hx hb dX8_raise_61 (lv_at hl 0 rfl) ?_
        refine lv_isub hx hb dX8_raise_63 ?_
        refine lv_topi (fun w13 e_w13 => ?_)
        have i_w13 : w13.toInt = (co.toInt - 1) := z_subI e_w13 rfl (show (1 : Int32).toInt = 1 by decide) (by omega)
        refine lv_iload_n hx hb dX8_raise_64 rfl (lv_at hl 3 rfl) ?_
        refine lv_idiv hx hb dX8_raise_65 (z_ne0 rfl (by omega)) ?_
        refine lv_topi (fun w14 e_w14 => ?_)
        have i_w14 : w14.toInt = (co.toInt - 1) / ea.toInt := z_div e_w14 i_w13 rfl (by omega)
        have hdn := Int.ediv_nonneg (a := (co.toInt - 1)) (b := ea.toInt) (by omega) (by omega)
        have hdl := Int.ediv_le_self (a := (co.toInt - 1)) (ea.toInt) (by omega)
        refine lv_iadd hx hb dX8_raise_66 ?_
        refine lv_topi (fun w15 e_w15 => ?_)
        have i_w15 : w15.toInt = (1 + ((co.toInt - 1) / ea.toInt)) := z_add e_w15 (show (1 : Int32).toInt = 1 by decide) i_w14 (by omega)
        exact z_iret hx hb hr hlk (by decide) (by decide) hw (⟨hsub, hfr, g11, hf_ct, by omega, z_updPn (z_upto_mono (by omega) hgc) e_g11 (show _ ∧ _ by omega)⟩) dX8_raise_67
      · skip
        refine lv_aload_n hx hb dX8_raise_35 rfl (lv_at hl 1 rfl) ?_
        refine z_get (C := RX8) (T := TX8) (N := 8) (ci := 8) (v := .ref ct) hx hb hT zin_X8 hown hK hw hm_wk hf_wk rfl 2 (by decide) (hT _ kw_346) rfl dX8_raise_36 ?_
        refine lv_iload_n hx hb dX8_raise_39 rfl (lv_at hl 2 rfl) ?_
        refine lv_dup2_11 hx hb dX8_raise_40 rfl rfl ?_
        refine z_iald hx hb hK hw 1 hm_ct hf_ct rfl (z_ix rfl (by omega)) dX8_raise_41 ?_
        refine lv_topi (fun w16 e_w16 => ?_)
        have hl_w16 : 0 ≤ w16.toInt ∧ w16.toInt ≤ N := by rw [e_w16]; exact hgc _ (z_clI rfl (by omega))
        refine lv_iload_n hx hb dX8_raise_42 rfl (lv_at hl 4 rfl) ?_
        refine lv_iadd hx hb dX8_raise_43 ?_
        refine lv_topi (fun w17 e_w17 => ?_)
        have i_w17 : w17.toInt = (w16.toInt + co.toInt) := z_add e_w17 rfl rfl (by omega)
        refine z_iast hx hb hK hw 1 hm_ct hf_ct rfl (z_ix rfl (by omega)) dX8_raise_44 (fun H locs hw => ?_)
        obtain ⟨f19, e_f19⟩ : ∃ z, z = va_up f ct (.inl (cy 1, 4, .inl (upd gc wh.toNatClampNeg w17))) := ⟨_, rfl⟩
        rw [← e_f19] at hw
        have hf_wk : f19 wk = .inr (8, [.ref ks, .int wn, .ref ct, .ref se, .ref ow, .int wt, .int wd, .int wp]) := (congrFun e_f19 wk).trans (z_up_ne (z_tne hf_wk hf_ct (m := 8) (n := 132) rfl rfl (by decide)) hf_wk)
        have hf_ct : f19 ct = .inl (cy 1, 4, .inl (upd gc wh.toNatClampNeg w17)) := (congrFun e_f19 ct).trans z_up_self
        have hfr : ∀ b ∈ L, b ≠ ct → f19 b = f b := fun b hb h0 => (congrFun e_f19 b).trans (z_up_ne h0 (hfr b hb h0))
        obtain ⟨g18, e_g18⟩ : ∃ z, z = (upd gc wh.toNatClampNeg w17) := ⟨_, rfl⟩
        rw [← e_g18] at hf_ct
        refine lv_iconst (v := 0) hx hb dX8_raise_45 (by decide) ?_
        exact z_iret hx hb hr hlk (by decide) (by decide) hw (⟨hsub, hfr, g18, hf_ct, by decide, z_updPn (z_upto_mono (by omega) hgc) e_g18 (show _ ∧ _ by omega)⟩) dX8_raise_46
  · skip
    refine lv_iload_n hx hb dX8_raise_10 rfl (lv_at hl 2 rfl) ?_
    refine lv_aload_n hx hb dX8_raise_11 rfl (lv_at hl 0 rfl) ?_
    refine z_get (C := RX8) (T := TX8) (N := 8) (ci := 8) (v := .ref ct) hx hb hT zin_X8 hown hK hw hm_wk hf_wk rfl 2 (by decide) (hT _ kw_346) rfl dX8_raise_12 ?_
    refine lv_iload_n hx hb dX8_raise_15 rfl (lv_at hl 1 rfl) ?_
    refine z_iald hx hb hK hw 1 hm_ct hf_ct rfl (z_ix rfl (by omega)) dX8_raise_16 ?_
    refine lv_topi (fun w20 e_w20 => ?_)
    have hl_w20 : 0 ≤ w20.toInt ∧ w20.toInt ≤ N := by rw [e_w20]; exact hgc _ (z_clI rfl (by omega))
    have hee : w20.toInt = w1.toInt := by rw [e_w20, e_w1]
    refine lv_isub hx hb dX8_raise_17 ?_
    refine lv_topi (fun w21 e_w21 => ?_)
    have i_w21 : w21.toInt = (ea.toInt - w20.toInt) := z_subI e_w21 rfl rfl (by omega)
    refine lv_goto (tgt := 22) hx hb dX8_raise_18 (by decide) ?_
    refine lv_istore (lv' := [(4, .int w21), (0, .ref wk), (1, .int wh), (2, .int ea), (3, .int co)]) hx hb dX8_raise_22 hl (by decide) rfl (fun ls hl => ?_)
    refine lv_iload_n hx hb dX8_raise_24 rfl (lv_at hl 4 rfl) ?_
    refine lv_iload hx hb dX8_raise_25 (lv_at hl 0 rfl) ?_
    refine z_icmp_lt (tgt := 35) hx hb rfl i_w21 dX8_raise_27 (by decide) (fun c22 => ?_) (fun c22 => ?_)
    · skip
      refine lv_aload_n hx hb dX8_raise_35 rfl (lv_at hl 1 rfl) ?_
      refine z_get (C := RX8) (T := TX8) (N := 8) (ci := 8) (v := .ref ct) hx hb hT zin_X8 hown hK hw hm_wk hf_wk rfl 2 (by decide) (hT _ kw_346) rfl dX8_raise_36 ?_
      refine lv_iload_n hx hb dX8_raise_39 rfl (lv_at hl 2 rfl) ?_
      refine lv_dup2_11 hx hb dX8_raise_40 rfl rfl ?_
      refine z_iald hx hb hK hw 1 hm_ct hf_ct rfl (z_ix rfl (by omega)) dX8_raise_41 ?_
      refine lv_topi (fun w23 e_w23 => ?_)
      have hl_w23 : 0 ≤ w23.toInt ∧ w23.toInt ≤ N := by rw [e_w23]; exact hgc _ (z_clI rfl (by omega))
      refine lv_iload_n hx hb dX8_raise_42 rfl (lv_at hl 4 rfl) ?_
      refine lv_iadd hx hb dX8_raise_43 ?_
      refine lv_topi (fun w24 e_w24 => ?_)
      have i_w24 : w24.toInt = (w23.toInt + co.toInt) := z_add e_w24 rfl rfl (by omega)
      refine z_iast hx hb hK hw 1 hm_ct hf_ct rfl (z_ix rfl (by omega)) dX8_raise_44 (fun H locs hw => ?_)
      obtain ⟨f26, e_f26⟩ : ∃ z, z = va_up f ct (.inl (cy 1, 4, .inl (upd gc wh.toNatClampNeg w24))) := ⟨_, rfl⟩
      rw [← e_f26] at hw
      have hf_wk : f26 wk = .inr (8, [.ref ks, .int wn, .ref ct, .ref se, .ref ow, .int wt, .int wd, .int wp]) := (congrFun e_f26 wk).trans (z_up_ne (z_tne hf_wk hf_ct (m := 8) (n := 132) rfl rfl (by decide)) hf_wk)
      have hf_ct : f26 ct = .inl (cy 1, 4, .inl (upd gc wh.toNatClampNeg w24)) := (congrFun e_f26 ct).trans z_up_self
      have hfr : ∀ b ∈ L, b ≠ ct → f26 b = f b := fun b hb h0 => (congrFun e_f26 b).trans (z_up_ne h0 (hfr b hb h0))
      obtain ⟨g25, e_g25⟩ : ∃ z, z = (upd gc wh.toNatClampNeg w24) := ⟨_, rfl⟩
      rw [← e_g25] at hf_ct
      refine lv_iconst (v := 0) hx hb dX8_raise_45 (by decide) ?_
      exact z_iret hx hb hr hlk (by decide) (by decide) hw (⟨hsub, hfr, g25, hf_ct, by decide, z_updPn (z_upto_mono (by omega) hgc) e_g25 (show _ ∧ _ by omega)⟩) dX8_raise_46
    · skip
      refine lv_iload_n hx hb dX8_raise_30 rfl (lv_at hl 3 rfl) ?_
      refine lv_iconst (v := 1) hx hb dX8_raise_31 (by decide) ?_
      refine z_icmp_ge (tgt := 47) hx hb rfl (show (1 : Int32).toInt = 1 by decide) dX8_raise_32 (by decide) (fun c27 => ?_) (fun c27 => ?_)
      · skip
        refine lv_aload_n hx hb dX8_raise_47 rfl (lv_at hl 1 rfl) ?_
        refine z_get (C := RX8) (T := TX8) (N := 8) (ci := 8) (v := .ref ct) hx hb hT zin_X8 hown hK hw hm_wk hf_wk rfl 2 (by decide) (hT _ kw_346) rfl dX8_raise_48 ?_
        refine lv_iload_n hx hb dX8_raise_51 rfl (lv_at hl 2 rfl) ?_
        refine lv_iload_n hx hb dX8_raise_52 rfl (lv_at hl 4 rfl) ?_
        refine lv_iload hx hb dX8_raise_53 (lv_at hl 0 rfl) ?_
        refine lv_isub hx hb dX8_raise_55 ?_
        refine lv_topi (fun w28 e_w28 => ?_)
        have i_w28 : w28.toInt = (co.toInt - (ea.toInt - w20.toInt)) := z_subI e_w28 rfl i_w21 (by omega)
        refine lv_iload_n hx hb dX8_raise_56 rfl (lv_at hl 3 rfl) ?_
        refine lv_irem hx hb dX8_raise_57 (z_ne0 rfl (by omega)) ?_
        refine lv_topi (fun w29 e_w29 => ?_)
        have i_w29 : w29.toInt = ((co.toInt - (ea.toInt - w20.toInt)) % ea.toInt) := z_remI e_w29 i_w28 rfl (by omega)
        have hrm := Int.emod_nonneg ((co.toInt - (ea.toInt - w20.toInt))) (b := ea.toInt) (by omega)
        have hrl := Int.emod_lt_of_pos ((co.toInt - (ea.toInt - w20.toInt))) (b := ea.toInt) (by omega)
        refine z_iast hx hb hK hw 1 hm_ct hf_ct rfl (z_ix rfl (by omega)) dX8_raise_58 (fun H locs hw => ?_)
        obtain ⟨f31, e_f31⟩ : ∃ z, z = va_up f ct (.inl (cy 1, 4, .inl (upd gc wh.toNatClampNeg w29))) := ⟨_, rfl⟩
        rw [← e_f31] at hw
        have hf_wk : f31 wk = .inr (8, [.ref ks, .int wn, .ref ct, .ref se, .ref ow, .int wt, .int wd, .int wp]) := (congrFun e_f31 wk).trans (z_up_ne (z_tne hf_wk hf_ct (m := 8) (n := 132) rfl rfl (by decide)) hf_wk)
        have hf_ct : f31 ct = .inl (cy 1, 4, .inl (upd gc wh.toNatClampNeg w29)) := (congrFun e_f31 ct).trans z_up_self
        have hfr : ∀ b ∈ L, b ≠ ct → f31 b = f b := fun b hb h0 => (congrFun e_f31 b).trans (z_up_ne h0 (hfr b hb h0))
        obtain ⟨g30, e_g30⟩ : ∃ z, z = (upd gc wh.toNatClampNeg w29) := ⟨_, rfl⟩
        rw [← e_g30] at hf_ct
        refine lv_iconst (v := 1) hx hb dX8_raise_59 (by decide) ?_
        refine lv_iload_n hx hb dX8_raise_60 rfl (lv_at hl 4 rfl) ?_
        refine lv_iload hx hb dX8_raise_61 (lv_at hl 0 rfl) ?_
        refine lv_isub hx hb dX8_raise_63 ?_
        refine lv_topi (fun w32 e_w32 => ?_)
        have i_w32 : w32.toInt = (co.toInt - (ea.toInt - w20.toInt)) := z_subI e_w32 rfl i_w21 (by omega)
        refine lv_iload_n hx hb dX8_raise_64 rfl (lv_at hl 3 rfl) ?_
        refine lv_idiv hx hb dX8_raise_65 (z_ne0 rfl (by omega)) ?_
        refine lv_topi (fun w33 e_w33 => ?_)
        have i_w33 : w33.toInt = (co.toInt - (ea.toInt - w20.toInt)) / ea.toInt := z_div e_w33 i_w32 rfl (by omega)
        have hdn := Int.ediv_nonneg (a := (co.toInt - (ea.toInt - w20.toInt))) (b := ea.toInt) (by omega) (by omega)
        have hdl := Int.ediv_le_self (a := (co.toInt - (ea.toInt - w20.toInt))) (ea.toInt) (by omega)
        refine lv_iadd hx hb dX8_raise_66 ?_
        refine lv_topi (fun w34 e_w34 => ?_)
        have i_w34 : w34.toInt = (1 + ((co.toInt - (ea.toInt - w20.toInt)) / ea.toInt)) := z_add e_w34 (show (1 : Int32).toInt = 1 by decide) i_w33 (by omega)
        exact z_iret hx hb hr hlk (by decide) (by decide) hw (⟨hsub, hfr, g30, hf_ct, by omega, z_updPn (z_upto_mono (by omega) hgc) e_g30 (show _ ∧ _ by omega)⟩) dX8_raise_67
      · skip
        refine lv_aload_n hx hb dX8_raise_35 rfl (lv_at hl 1 rfl) ?_
        refine z_get (C := RX8) (T := TX8) (N := 8) (ci := 8) (v := .ref ct) hx hb hT zin_X8 hown hK hw hm_wk hf_wk rfl 2 (by decide) (hT _ kw_346) rfl dX8_raise_36 ?_
        refine lv_iload_n hx hb dX8_raise_39 rfl (lv_at hl 2 rfl) ?_
        refine lv_dup2_11 hx hb dX8_raise_40 rfl rfl ?_
        refine z_iald hx hb hK hw 1 hm_ct hf_ct rfl (z_ix rfl (by omega)) dX8_raise_41 ?_
        refine lv_topi (fun w35 e_w35 => ?_)
        have hl_w35 : 0 ≤ w35.toInt ∧ w35.toInt ≤ N := by rw [e_w35]; exact hgc _ (z_clI rfl (by omega))
        refine lv_iload_n hx hb dX8_raise_42 rfl (lv_at hl 4 rfl) ?_
        refine lv_iadd hx hb dX8_raise_43 ?_
        refine lv_topi (fun w36 e_w36 => ?_)
        have i_w36 : w36.toInt = (w35.toInt + co.toInt) := z_add e_w36 rfl rfl (by omega)
        refine z_iast hx hb hK hw 1 hm_ct hf_ct rfl (z_ix rfl (by omega)) dX8_raise_44 (fun H locs hw => ?_)
        obtain ⟨f38, e_f38⟩ : ∃ z, z = va_up f ct (.inl (cy 1, 4, .inl (upd gc wh.toNatClampNeg w36))) := ⟨_, rfl⟩
        rw [← e_f38] at hw
        have hf_wk : f38 wk = .inr (8, [.ref ks, .int wn, .ref ct, .ref se, .ref ow, .int wt, .int wd, .int wp]) := (congrFun e_f38 wk).trans (z_up_ne (z_tne hf_wk hf_ct (m := 8) (n := 132) rfl rfl (by decide)) hf_wk)
        have hf_ct : f38 ct = .inl (cy 1, 4, .inl (upd gc wh.toNatClampNeg w36)) := (congrFun e_f38 ct).trans z_up_self
        have hfr : ∀ b ∈ L, b ≠ ct → f38 b = f b := fun b hb h0 => (congrFun e_f38 b).trans (z_up_ne h0 (hfr b hb h0))
        obtain ⟨g37, e_g37⟩ : ∃ z, z = (upd gc wh.toNatClampNeg w36) := ⟨_, rfl⟩
        rw [← e_g37] at hf_ct
        refine lv_iconst (v := 0) hx hb dX8_raise_45 (by decide) ?_
        exact z_iret hx hb hr hlk (by decide) (by decide) hw (⟨hsub, hfr, g37, hf_ct, by decide, z_updPn (z_upto_mono (by omega) hgc) e_g37 (show _ ∧ _ by omega)⟩) dX8_raise_46

set_option maxHeartbeats 2000000 in
set_option maxRecDepth 100000 in
theorem c_X8_dawnN (l : Launch) {D : va_G} {cy : Nat → ClassId} {L : List Nat} {f : Nat → va_E} {sz : Nat} {adK adV : Nat → Nat} {wk ks ct se ow : Nat} {wn wt wd wp : Int32} {gc gq : Nat → Int32} {mo la sa mi da : Nat} {v0 v1 v2 v3 v4 v5 v6 : Int32} {gl : Nat → Int32} {dy : Int32} {N : Int} (hm_wk : wk ∈ L) (hm_ct : ct ∈ L) (hm_se : se ∈ L) (hm_mo : mo ∈ L) (hm_la : la ∈ L) (hf_wk : f wk = .inr (8, [.ref ks, .int wn, .ref ct, .ref se, .ref ow, .int wt, .int wd, .int wp])) (hf_ct : f ct = .inl (cy 1, 4, .inl gc)) (hf_se : f se = .inl (cy 1, 4, .inl gq)) (hf_mo : f mo = .inr (2, [.int v0, .int v1, .int v2, .int v3, .int v4, .int v5, .int v6, .ref la, .ref sa, .ref mi, .ref da])) (hf_la : f la = .inl (cy 1, 5, .inl gl)) (ne_ct_se : ct ≠ se) (hgc : ∀ j : Nat, j < 4 → z_upto (N) (gc j)) (hgq : ∀ j : Nat, j < 4 → z_upto (N) (gq j)) (hNN : 0 ≤ N ∧ N ≤ 1000000000) : Met l yX8_dawn (z_ws yX8_dawn cX8_dawn 3 none) (z_R 2 0 0) (va_Pc [.ref wk, .ref mo, .int dy] (z_Pre D vwCl (z_KK D cy adK adV) L f sz)) (z_Qv D vwCl (fun u => L = u.1 ∧ (∀ b ∈ L, b ≠ wk → b ≠ ct → b ≠ se → u.2 b = f b) ∧ (∃ (t2 : Int32) (g2 g3 : Nat → Int32), (u.2 wk = .inr (8, [.ref ks, .int wn, .ref ct, .ref se, .ref ow, .int t2, .int wd, .int wp])) ∧ (u.2 ct = .inl (cy 1, 4, .inl g2)) ∧ (u.2 se = .inl (cy 1, 4, .inl g3)) ∧ ((∀ j : Nat, j < 4 → z_upto (N) (g2 j)) ∧ (∀ j : Nat, j < 4 → z_upto (N) (g3 j))))) L sz) 0 0 (z_A L sz) := by
  refine z_met (cc := cX8_dawn) (maxL := 3) (ret := none) (lv := [(0, .ref wk), (1, .ref mo), (2, .int dy)]) (by decide) rfl (Nat.le_of_ble_eq_true rfl) rfl ?_
  intro p e s m below meth c ls hx hb hr hlk hml hown hnm hts hKK hA hw hl
  have hK := hKK.1.1
  have hown : s.vm.findClass RX8 = some m.cls := hown
  have hT : ∀ w ∈ lw_all, w.before ([.ref wk, .ref mo, .int dy] : List Value).toArray s = true := fun w h => hts w (z_cons w h)
  have hsub : L = L := rfl
  have hfr : ∀ b ∈ L, b ≠ wk → b ≠ ct → b ≠ se → f b = f b := fun _ _ _ _ _ => rfl
  refine lv_iload_n hx hb dX8_dawn_0 rfl (lv_at hl 2 rfl) ?_
  refine lv_aload_n hx hb dX8_dawn_1 rfl (lv_at hl 0 rfl) ?_
  refine z_get (C := RX8) (T := TX8) (N := 8) (ci := 8) (v := .int wt) hx hb hT zin_X8 hown hK hw hm_wk hf_wk rfl 5 (by decide) (hT _ kw_354) rfl dX8_dawn_2 ?_
  refine z_icmp_gt (tgt := 9) hx hb rfl rfl dX8_dawn_5 (by decide) (fun c1 => ?_) (fun c1 => ?_)
  · skip
    refine lv_aload_n hx hb dX8_dawn_9 rfl (lv_at hl 0 rfl) ?_
    refine lv_iload_n hx hb dX8_dawn_10 rfl (lv_at hl 2 rfl) ?_
    refine z_put (C := RX8) (T := TX8) (N := 8) (ci := 8) (v := .int dy) (fs' := [.ref ks, .int wn, .ref ct, .ref se, .ref ow, .int dy, .int wd, .int wp]) hx hb hT zin_X8 tyX8_ok nmX8 hown hK hw hm_wk hf_wk rfl 5 (by decide) (hT _ kw_354) rfl rfl rfl (Nat.le_of_ble_eq_true rfl) rfl dX8_dawn_11 (fun H locs hw => ?_)
    obtain ⟨f2, e_f2⟩ : ∃ z, z = va_up f wk (.inr (8, [.ref ks, .int wn, .ref ct, .ref se, .ref ow, .int dy, .int wd, .int wp])) := ⟨_, rfl⟩
    rw [← e_f2] at hw
    have hf_ct : f2 ct = .inl (cy 1, 4, .inl gc) := (congrFun e_f2 ct).trans (z_up_ne (z_tne hf_ct hf_wk (m := 132) (n := 8) rfl rfl (by decide)) hf_ct)
    have hf_se : f2 se = .inl (cy 1, 4, .inl gq) := (congrFun e_f2 se).trans (z_up_ne (z_tne hf_se hf_wk (m := 132) (n := 8) rfl rfl (by decide)) hf_se)
    have hf_mo : f2 mo = .inr (2, [.int v0, .int v1, .int v2, .int v3, .int v4, .int v5, .int v6, .ref la, .ref sa, .ref mi, .ref da]) := (congrFun e_f2 mo).trans (z_up_ne (z_tne hf_mo hf_wk (m := 2) (n := 8) rfl rfl (by decide)) hf_mo)
    have hf_la : f2 la = .inl (cy 1, 5, .inl gl) := (congrFun e_f2 la).trans (z_up_ne (z_tne hf_la hf_wk (m := 140) (n := 8) rfl rfl (by decide)) hf_la)
    have hf_wk : f2 wk = .inr (8, [.ref ks, .int wn, .ref ct, .ref se, .ref ow, .int dy, .int wd, .int wp]) := (congrFun e_f2 wk).trans z_up_self
    have hfr : ∀ b ∈ L, b ≠ wk → b ≠ ct → b ≠ se → f2 b = f b := fun b hb h0 h1 h2 => (congrFun e_f2 b).trans (z_up_ne h0 (hfr b hb h0 h1 h2))
    refine lv_aload_n hx hb dX8_dawn_14 rfl (lv_at hl 0 rfl) ?_
    refine z_get (C := RX8) (T := TX8) (N := 8) (ci := 8) (v := .ref se) hx hb hT zin_X8 hown hK hw hm_wk hf_wk rfl 3 (by decide) (hT _ kw_349) rfl dX8_dawn_15 ?_
    refine lv_iconst (v := 0) hx hb dX8_dawn_18 (by decide) ?_
    have hz3 := (show (0 : Int32).toInt = 0 by decide)
    refine z_callvS (cells := 0) (slots := 0) (As := [.ref se, .int 0]) (rest := []) ⟨hx, hb, hml, hown, hT⟩ (c_J7_fill_53178 l hm_se hf_se (by decide)) (va_cwS 2 hT (z_goodS (fun _ h => h) kw_771 kw_317 kw_91 kw_318) rfl rfl rfl (by decide +kernel) ⟨by decide, by decide⟩) z_mv hKK hw hA rfl hl.1 rfl (Nat.le_of_ble_eq_true rfl) dX8_dawn_19 ⟨by decide, by decide⟩ (fun u H locs hp hw => ?_)
    obtain ⟨L4, f5⟩ := u
    obtain ⟨hsb, hfm, g2_6, ha_0, hp⟩ := hp
    have hsb : L = L4 := hsb
    subst hsb
    have hsb : ∀ b ∈ L, b ∈ L := fun _ h => h
    have hw : z_H D vwCl (z_A L sz) s.heap L f5 H locs := hw
    have hfr : ∀ b ∈ L, b ≠ wk → b ≠ ct → b ≠ se → f5 b = f b := fun b hb h0 h1 h2 => (hfm b hb h2).trans (hfr b hb h0 h1 h2)
    have hf_wk : f5 wk = .inr (8, [.ref ks, .int wn, .ref ct, .ref se, .ref ow, .int dy, .int wd, .int wp]) := (hfm wk hm_wk (z_tne hf_wk hf_se (m := 8) (n := 132) rfl rfl (by decide))).trans hf_wk
    have hf_ct : f5 ct = .inl (cy 1, 4, .inl gc) := (hfm ct hm_ct ne_ct_se).trans hf_ct
    have hf_mo : f5 mo = .inr (2, [.int v0, .int v1, .int v2, .int v3, .int v4, .int v5, .int v6, .ref la, .ref sa, .ref mi, .ref da]) := (hfm mo hm_mo (z_tne hf_mo hf_se (m := 2) (n := 132) rfl rfl (by decide))).trans hf_mo
    have hf_la : f5 la = .inl (cy 1, 5, .inl gl) := (hfm la hm_la (z_tne hf_la hf_se (m := 140) (n := 132) rfl rfl (by decide))).trans hf_la
    have hf_se : f5 se = .inl (cy 1, 4, .inl g2_6) := ha_0
    have hq2 := z_upto_fill (N := N) hNN.1 hp
    refine lv_aload_n hx hb dX8_dawn_22 rfl (lv_at hl 1 rfl) ?_
    refine z_get (C := RX2) (T := TX2) (N := 11) (ci := 2) (v := .ref la) hx hb hT zin_X2 hown hK hw hm_mo hf_mo rfl 7 (by decide) (hT _ kw_233) rfl dX8_dawn_23 ?_
    refine lv_iconst (v := 1) hx hb dX8_dawn_26 (by decide) ?_
    refine z_iald hx hb hK hw 1 hm_la hf_la rfl (z_ix (show (1 : Int32).toInt = 1 by decide) (by decide)) dX8_dawn_27 ?_
    refine lv_topi (fun w7 e_w7 => ?_)
    refine lv_iconst (v := 1) hx hb dX8_dawn_28 (by decide) ?_
    refine z_icmp_ne (tgt := 40) hx hb rfl (show (1 : Int32).toInt = 1 by decide) dX8_dawn_29 (by decide) (fun c8 => ?_) (fun c8 => ?_)
    · skip
      exact z_vret hx hb hr hlk (by decide) (by decide) hw (⟨hsub, hfr, dy, gc, g2_6, hf_wk, hf_ct, hf_se, hgc, hq2⟩) dX8_dawn_40
    · skip
      refine lv_aload_n hx hb dX8_dawn_32 rfl (lv_at hl 0 rfl) ?_
      refine z_get (C := RX8) (T := TX8) (N := 8) (ci := 8) (v := .ref ct) hx hb hT zin_X8 hown hK hw hm_wk hf_wk rfl 2 (by decide) (hT _ kw_346) rfl dX8_dawn_33 ?_
      refine lv_iconst (v := 0) hx hb dX8_dawn_36 (by decide) ?_
      have hz9 := (show (0 : Int32).toInt = 0 by decide)
      refine z_callvS (cells := 0) (slots := 0) (As := [.ref ct, .int 0]) (rest := []) ⟨hx, hb, hml, hown, hT⟩ (c_J7_fill_53178 l hm_ct hf_ct (by decide)) (va_cwS 2 hT (z_goodS (fun _ h => h) kw_771 kw_317 kw_91 kw_318) rfl rfl rfl (by decide +kernel) ⟨by decide, by decide⟩) z_mv hKK hw hA rfl hl.1 rfl (Nat.le_of_ble_eq_true rfl) dX8_dawn_37 ⟨by decide, by decide⟩ (fun u H locs hp hw => ?_)
      obtain ⟨L10, f11⟩ := u
      obtain ⟨hsb, hfm, g2_12, ha_0, hp⟩ := hp
      have hsb : L = L10 := hsb
      subst hsb
      have hsb : ∀ b ∈ L, b ∈ L := fun _ h => h
      have hw : z_H D vwCl (z_A L sz) s.heap L f11 H locs := hw
      have hfr : ∀ b ∈ L, b ≠ wk → b ≠ ct → b ≠ se → f11 b = f b := fun b hb h0 h1 h2 => (hfm b hb h1).trans (hfr b hb h0 h1 h2)
      have hf_wk : f11 wk = .inr (8, [.ref ks, .int wn, .ref ct, .ref se, .ref ow, .int dy, .int wd, .int wp]) := (hfm wk hm_wk (z_tne hf_wk hf_ct (m := 8) (n := 132) rfl rfl (by decide))).trans hf_wk
      have hf_se : f11 se = .inl (cy 1, 4, .inl g2_6) := (hfm se hm_se (Ne.symm ne_ct_se)).trans hf_se
      have hf_mo : f11 mo = .inr (2, [.int v0, .int v1, .int v2, .int v3, .int v4, .int v5, .int v6, .ref la, .ref sa, .ref mi, .ref da]) := (hfm mo hm_mo (z_tne hf_mo hf_ct (m := 2) (n := 132) rfl rfl (by decide))).trans hf_mo
      have hf_la : f11 la = .inl (cy 1, 5, .inl gl) := (hfm la hm_la (z_tne hf_la hf_ct (m := 140) (n := 132) rfl rfl (by decide))).trans hf_la
      have hf_ct : f11 ct = .inl (cy 1, 4, .inl g2_12) := ha_0
      have hc2 := z_upto_fill (N := N) hNN.1 hp
      exact z_vret hx hb hr hlk (by decide) (by decide) hw (⟨hsub, hfr, dy, g2_12, g2_6, hf_wk, hf_ct, hf_se, hc2, hq2⟩) dX8_dawn_40
  · skip
    exact z_vret hx hb hr hlk (by decide) (by decide) hw (⟨hsub, hfr, wt, gc, gq, hf_wk, hf_ct, hf_se, hgc, hgq⟩) dX8_dawn_8

set_option maxHeartbeats 2000000 in
set_option maxRecDepth 100000 in
theorem c_X8_passN (l : Launch) {D : va_G} {cy : Nat → ClassId} {L : List Nat} {f : Nat → va_E} {sz : Nat} {adK adV : Nat → Nat} {wk ks ct se ow : Nat} {wn wt wd wp : Int32} {gc gq : Nat → Int32} {mo la sa mi da : Nat} {v0 v1 v2 v3 v4 v5 v6 : Int32} {gl gm : Nat → Int32} {gd : Nat → Option Nat} {dv : Nat → Nat} {key : Int32} {N : Int} (hm_wk : wk ∈ L) (hm_ct : ct ∈ L) (hm_se : se ∈ L) (hm_mo : mo ∈ L) (hm_la : la ∈ L) (hm_mi : mi ∈ L) (hm_da : da ∈ L) (hf_wk : f wk = .inr (8, [.ref ks, .int wn, .ref ct, .ref se, .ref ow, .int wt, .int wd, .int wp])) (hf_ct : f ct = .inl (cy 1, 4, .inl gc)) (hf_se : f se = .inl (cy 1, 4, .inl gq)) (hf_mo : f mo = .inr (2, [.int v0, .int v1, .int v2, .int v3, .int v4, .int v5, .int v6, .ref la, .ref sa, .ref mi, .ref da])) (hf_la : f la = .inl (cy 1, 5, .inl gl)) (hf_mi : f mi = .inl (cy 1, 36, .inl gm)) (hf_da : f da = .inl (cy 4, 13, .inr (.inr (.inr (.inr gd))))) (ne_ct_se : ct ≠ se) (hg_da : ∀ i : Nat, i < 13 → gd i = some (dv i)) (hd_da : z_Drv L f dv 13) (hkey : z_key key) (hgm : ∀ j : Nat, 0 ≤ (gm j).toInt ∧ (gm j).toInt ≤ 9) (hgl : ∀ j : Nat, 0 ≤ (gl j).toInt ∧ (gl j).toInt ≤ 999) (hgc : ∀ j : Nat, j < 4 → z_upto (N) (gc j)) (hgq : ∀ j : Nat, j < 4 → z_upto (N) (gq j)) (hNN : 0 ≤ N ∧ N ≤ 1000000000) : Met l yX8_pass (z_ws yX8_pass cX8_pass 8 (some .int)) (z_R 3 0 0) (va_Pc [.ref wk, .ref mo, .int key] (z_Pre D vwCl (z_KK D cy adK adV) L f sz)) (z_Qi D vwCl (fun r u => L = u.1 ∧ (∀ b ∈ L, b ≠ wk → b ≠ ct → b ≠ se → u.2 b = f b) ∧ (∃ (t2 : Int32) (c2 q2 : Nat → Int32), (u.2 wk = .inr (8, [.ref ks, .int wn, .ref ct, .ref se, .ref ow, .int t2, .int wd, .int wp])) ∧ (u.2 ct = .inl (cy 1, 4, .inl c2)) ∧ (u.2 se = .inl (cy 1, 4, .inl q2)) ∧ ((0 ≤ r.toInt ∧ r.toInt ≤ 199) ∧ (∀ j : Nat, j < 4 → z_upto (N + 1000) (c2 j)) ∧ (∀ j : Nat, j < 4 → z_upto (N + 1000) (q2 j))))) L sz) 0 0 (z_A L sz) := by
  refine z_met (cc := cX8_pass) (maxL := 8) (ret := (some .int)) (lv := [(0, .ref wk), (1, .ref mo), (2, .int key)]) (by decide) rfl (Nat.le_of_ble_eq_true rfl) rfl ?_
  intro p e s m below meth c ls hx hb hr hlk hml hown hnm hts hKK hA hw hl
  have hK := hKK.1.1
  have hown : s.vm.findClass RX8 = some m.cls := hown
  have hT : ∀ w ∈ lw_all, w.before ([.ref wk, .ref mo, .int key] : List Value).toArray s = true := fun w h => hts w (z_cons w h)
  have hsub : L = L := rfl
  have hfr : ∀ b ∈ L, b ≠ wk → b ≠ ct → b ≠ se → f b = f b := fun _ _ _ _ _ => rfl
  refine lv_iload_n hx hb dX8_pass_0 rfl (lv_at hl 2 rfl) ?_
  refine z_calliS (cells := 0) (slots := 0) (As := [.int key]) (rest := []) ⟨hx, hb, hml, hown, hT⟩ (c_X8_gapOf l hkey) (va_cwS 1 hT (z_goodS (fun _ h => h) kw_783 kw_784 kw_92 kw_785) rfl rfl rfl (by decide +kernel) ⟨by decide, by decide⟩) z_mv hKK hw hA rfl hl.1 rfl (Nat.le_of_ble_eq_true rfl) dX8_pass_1 ⟨by decide, by decide⟩ (fun r1 u H locs hp hw => ?_)
  obtain ⟨rfl, hp⟩ := hp
  have hw : z_H D vwCl (z_A L sz) s.heap L f H locs := hw
  refine lv_istore_n (lv' := [(3, .int r1), (0, .ref wk), (1, .ref mo), (2, .int key)]) hx hb dX8_pass_4 rfl hl (by decide) rfl (fun ls hl => ?_)
  refine lv_iload_n hx hb dX8_pass_5 rfl (lv_at hl 3 rfl) ?_
  refine z_calliS (cells := 0) (slots := 0) (As := [.int key]) (rest := []) ⟨hx, hb, hml, hown, hT⟩ (c_X8_timeOf l hkey) (va_cwS 1 hT (z_goodS (fun _ h => h) kw_776 kw_777 kw_92 kw_778) rfl rfl rfl (by decide +kernel) ⟨by decide, by decide⟩) z_mv hKK hw hA rfl hl.1 rfl (Nat.le_of_ble_eq_true rfl) dX8_pass_6 ⟨by decide, by decide⟩ (fun r2 u H locs hp hw => ?_)
  obtain ⟨rfl, hp⟩ := hp
  have hw : z_H D vwCl (z_A L sz) s.heap L f H locs := hw
  refine lv_bipush (v := 24) hx hb dX8_pass_9 (by decide) ?_
  refine lv_idiv hx hb dX8_pass_11 (by decide) ?_
  refine lv_topi (fun w3 e_w3 => ?_)
  have i_w3 : w3.toInt = r2.toInt / 24 := z_div e_w3 rfl (show (24 : Int32).toInt = 24 by decide) (by omega)
  refine lv_istore (lv' := [(4, .int w3), (3, .int r1), (0, .ref wk), (1, .ref mo), (2, .int key)]) hx hb dX8_pass_12 hl (by decide) rfl (fun ls hl => ?_)
  refine lv_aload_n hx hb dX8_pass_14 rfl (lv_at hl 2 rfl) ?_
  refine lv_aload_n hx hb dX8_pass_15 rfl (lv_at hl 3 rfl) ?_
  refine lv_iload hx hb dX8_pass_16 (lv_at hl 0 rfl) ?_
  refine z_callvV (cells := 0) (slots := 0) (b := wk) (As := [.ref mo, .int w3]) (rest := []) (ci := 8) (q0 := (RX8, TX8, 8)) ⟨hx, hb, hml, hown, hT⟩ (c_X8_dawnN l hm_wk hm_ct hm_se hm_mo hm_la hf_wk hf_ct hf_se hf_mo hf_la ne_ct_se hgc hgq hNN) (cwV 2 hT (z_goodV (fun _ h => h) kw_786 kw_787 kw_788 kw_92 kw_789) rfl rfl rfl (by decide +kernel) ⟨by decide, by decide⟩) z_mv hKK hK hw hA hm_wk hf_wk rfl rfl rfl hl.1 rfl (Nat.le_of_ble_eq_true rfl) dX8_pass_18 ⟨by decide, by decide⟩ (fun u H locs hp hw => ?_)
  obtain ⟨L4, f5⟩ := u
  obtain ⟨hsb, hfm, t2_6, g2_7, g3_8, ha_0, ha_1, ha_2, hp⟩ := hp
  have hsb : L = L4 := hsb
  subst hsb
  have hsb : ∀ b ∈ L, b ∈ L := fun _ h => h
  have hw : z_H D vwCl (z_A L sz) s.heap L f5 H locs := hw
  have hfr : ∀ b ∈ L, b ≠ wk → b ≠ ct → b ≠ se → f5 b = f b := fun b hb h0 h1 h2 => (hfm b hb h0 h1 h2).trans (hfr b hb h0 h1 h2)
  have hd_da : z_Drv L f5 dv 13 := z_Drv_fr hd_da hsb (fun b hb ht => hfm b hb (z_t0 ht hf_wk (m := 8) rfl (by decide)) (z_t0 ht hf_ct (m := 132) rfl (by decide)) (z_t0 ht hf_se (m := 132) rfl (by decide)))
  have hf_mo : f5 mo = .inr (2, [.int v0, .int v1, .int v2, .int v3, .int v4, .int v5, .int v6, .ref la, .ref sa, .ref mi, .ref da]) := (hfm mo hm_mo (z_tne hf_mo hf_wk (m := 2) (n := 8) rfl rfl (by decide)) (z_tne hf_mo hf_ct (m := 2) (n := 132) rfl rfl (by decide)) (z_tne hf_mo hf_se (m := 2) (n := 132) rfl rfl (by decide))).trans hf_mo
  have hf_la : f5 la = .inl (cy 1, 5, .inl gl) := (hfm la hm_la (z_tne hf_la hf_wk (m := 140) (n := 8) rfl rfl (by decide)) (z_tne hf_la hf_ct (m := 140) (n := 132) rfl rfl (by decide)) (z_tne hf_la hf_se (m := 140) (n := 132) rfl rfl (by decide))).trans hf_la
  have hf_mi : f5 mi = .inl (cy 1, 36, .inl gm) := (hfm mi hm_mi (z_tne hf_mi hf_wk (m := 388) (n := 8) rfl rfl (by decide)) (z_tne hf_mi hf_ct (m := 388) (n := 132) rfl rfl (by decide)) (z_tne hf_mi hf_se (m := 388) (n := 132) rfl rfl (by decide))).trans hf_mi
  have hf_da : f5 da = .inl (cy 4, 13, .inr (.inr (.inr (.inr gd)))) := (hfm da hm_da (z_tne hf_da hf_wk (m := 206) (n := 8) rfl rfl (by decide)) (z_tne hf_da hf_ct (m := 206) (n := 132) rfl rfl (by decide)) (z_tne hf_da hf_se (m := 206) (n := 132) rfl rfl (by decide))).trans hf_da
  have hf_wk : f5 wk = .inr (8, [.ref ks, .int wn, .ref ct, .ref se, .ref ow, .int t2_6, .int wd, .int wp]) := ha_0
  have hf_ct : f5 ct = .inl (cy 1, 4, .inl g2_7) := ha_1
  have hf_se : f5 se = .inl (cy 1, 4, .inl g3_8) := ha_2
  have hcA := hp.1
  have hqA := hp.2
  refine lv_aload_n hx hb dX8_pass_21 rfl (lv_at hl 3 rfl) ?_
  refine z_get (C := RX2) (T := TX2) (N := 11) (ci := 2) (v := .ref da) hx hb hT zin_X2 hown hK hw hm_mo hf_mo rfl 10 (by decide) (hT _ kw_246) rfl dX8_pass_22 ?_
  refine lv_iload_n hx hb dX8_pass_25 rfl (lv_at hl 4 rfl) ?_
  refine z_calliS (cells := 0) (slots := 0) (As := [.int key]) (rest := [.ref da]) ⟨hx, hb, hml, hown, hT⟩ (c_X8_numberOf l hkey) (va_cwS 1 hT (z_goodS (fun _ h => h) kw_790 kw_791 kw_92 kw_792) rfl rfl rfl (by decide +kernel) ⟨by decide, by decide⟩) z_mv hKK hw hA rfl hl.1 rfl (Nat.le_of_ble_eq_true rfl) dX8_pass_26 ⟨by decide, by decide⟩ (fun r9 u H locs hp hw => ?_)
  obtain ⟨rfl, hp⟩ := hp
  have hw : z_H D vwCl (z_A L sz) s.heap L f5 H locs := hw
  obtain ⟨dq10, e_dq10⟩ : ∃ z, z = dv r9.toNatClampNeg := ⟨_, rfl⟩
  have hi_dq10 : r9.toNatClampNeg < 13 := z_clI rfl (by omega)
  refine z_aald (b := dq10) hx hb hK hw 4 hm_da hf_da rfl (z_ix rfl (by omega)) (by rw [e_dq10]; exact hg_da _ hi_dq10) dX8_pass_29 ?_
  obtain ⟨hm_dq10, do11, dg12, dd13, dh14, ds15, dl16, dp17, dm18, hf_dq10, hr_do11, hr_dg12, hr_dd13, hr_dh14, hr_ds15, hr_dl16, hr_dp17, hr_dm18⟩ := hd_da _ hi_dq10
  rw [← e_dq10] at hm_dq10 hf_dq10
  refine lv_aload_n hx hb dX8_pass_30 rfl (lv_at hl 3 rfl) ?_
  refine lv_iload hx hb dX8_pass_31 (lv_at hl 0 rfl) ?_
  refine z_calliV (cells := 0) (slots := 0) (b := mo) (As := [.int w3]) (rest := [.ref dq10]) (ci := 2) (q0 := (RX2, TX2, 11)) ⟨hx, hb, hml, hown, hT⟩ (c_X2_lambsCount l hm_mo hm_la hf_mo hf_la) (cwV 1 hT (z_goodV (fun _ h => h) kw_793 kw_794 kw_795 kw_87 kw_796) rfl rfl rfl (by decide +kernel) ⟨by decide, by decide⟩) z_mv hKK hK hw hA hm_mo hf_mo rfl rfl rfl hl.1 rfl (Nat.le_of_ble_eq_true rfl) dX8_pass_33 ⟨by decide, by decide⟩ (fun r19 u H locs hp hw => ?_)
  obtain ⟨rfl, hp⟩ := hp
  have hw : z_H D vwCl (z_A L sz) s.heap L f5 H locs := hw
  refine z_calliV (cells := 0) (slots := 0) (b := dq10) (As := [.int r19]) (rest := []) (ci := 0) (q0 := (RX0, TX0, 8)) ⟨hx, hb, hml, hown, hT⟩ (c_X0_countable l hm_dq10 hf_dq10 (by first | omega | decide | assumption) (by first | omega | decide | assumption)) (cwV 1 hT (z_goodV (fun _ h => h) kw_797 kw_798 kw_799 kw_88 kw_800) rfl rfl rfl (by decide +kernel) ⟨by decide, by decide⟩) z_mv hKK hK hw hA hm_dq10 hf_dq10 rfl rfl rfl hl.1 rfl (Nat.le_of_ble_eq_true rfl) dX8_pass_36 ⟨by decide, by decide⟩ (fun r20 u H locs hp hw => ?_)
  obtain ⟨rfl, hp⟩ := hp
  have hw : z_H D vwCl (z_A L sz) s.heap L f5 H locs := hw
  refine lv_istore (lv' := [(5, .int r20), (4, .int w3), (3, .int r1), (0, .ref wk), (1, .ref mo), (2, .int key)]) hx hb dX8_pass_39 hl (by decide) rfl (fun ls hl => ?_)
  refine lv_aload_n hx hb dX8_pass_41 rfl (lv_at hl 3 rfl) ?_
  refine z_get (C := RX8) (T := TX8) (N := 8) (ci := 8) (v := .ref se) hx hb hT zin_X8 hown hK hw hm_wk hf_wk rfl 3 (by decide) (hT _ kw_349) rfl dX8_pass_42 ?_
  refine lv_iload_n hx hb dX8_pass_45 rfl (lv_at hl 2 rfl) ?_
  refine z_iald hx hb hK hw 1 hm_se hf_se rfl (z_ix rfl (by omega)) dX8_pass_46 ?_
  refine lv_topi (fun w21 e_w21 => ?_)
  have hl_w21 : 0 ≤ w21.toInt ∧ w21.toInt ≤ N := by rw [e_w21]; exact hqA _ (z_clI rfl (by omega))
  refine lv_istore (lv' := [(6, .int w21), (5, .int r20), (4, .int w3), (3, .int r1), (0, .ref wk), (1, .ref mo), (2, .int key)]) hx hb dX8_pass_47 hl (by decide) rfl (fun ls hl => ?_)
  refine lv_aload_n hx hb dX8_pass_49 rfl (lv_at hl 4 rfl) ?_
  refine z_get (C := RX8) (T := TX8) (N := 8) (ci := 8) (v := .ref se) hx hb hT zin_X8 hown hK hw hm_wk hf_wk rfl 3 (by decide) (hT _ kw_349) rfl dX8_pass_50 ?_
  refine lv_iload_n hx hb dX8_pass_53 rfl (lv_at hl 3 rfl) ?_
  refine lv_iload hx hb dX8_pass_54 (lv_at hl 0 rfl) ?_
  refine lv_iload hx hb dX8_pass_56 (lv_at hl 1 rfl) ?_
  refine lv_iadd hx hb dX8_pass_58 ?_
  refine lv_topi (fun w22 e_w22 => ?_)
  have i_w22 : w22.toInt = (w21.toInt + r20.toInt) := z_add e_w22 rfl rfl (by omega)
  refine z_iast hx hb hK hw 1 hm_se hf_se rfl (z_ix rfl (by omega)) dX8_pass_59 (fun H locs hw => ?_)
  obtain ⟨f24, e_f24⟩ : ∃ z, z = va_up f5 se (.inl (cy 1, 4, .inl (upd g3_8 r1.toNatClampNeg w22))) := ⟨_, rfl⟩
  rw [← e_f24] at hw
  have hf_wk : f24 wk = .inr (8, [.ref ks, .int wn, .ref ct, .ref se, .ref ow, .int t2_6, .int wd, .int wp]) := (congrFun e_f24 wk).trans (z_up_ne (z_tne hf_wk hf_se (m := 8) (n := 132) rfl rfl (by decide)) hf_wk)
  have hf_ct : f24 ct = .inl (cy 1, 4, .inl g2_7) := (congrFun e_f24 ct).trans (z_up_ne ne_ct_se hf_ct)
  have hf_mo : f24 mo = .inr (2, [.int v0, .int v1, .int v2, .int v3, .int v4, .int v5, .int v6, .ref la, .ref sa, .ref mi, .ref da]) := (congrFun e_f24 mo).trans (z_up_ne (z_tne hf_mo hf_se (m := 2) (n := 132) rfl rfl (by decide)) hf_mo)
  have hf_la : f24 la = .inl (cy 1, 5, .inl gl) := (congrFun e_f24 la).trans (z_up_ne (z_tne hf_la hf_se (m := 140) (n := 132) rfl rfl (by decide)) hf_la)
  have hf_mi : f24 mi = .inl (cy 1, 36, .inl gm) := (congrFun e_f24 mi).trans (z_up_ne (z_tne hf_mi hf_se (m := 388) (n := 132) rfl rfl (by decide)) hf_mi)
  have hf_da : f24 da = .inl (cy 4, 13, .inr (.inr (.inr (.inr gd)))) := (congrFun e_f24 da).trans (z_up_ne (z_tne hf_da hf_se (m := 206) (n := 132) rfl rfl (by decide)) hf_da)
  have hf_dq10 : f24 dq10 = .inr (0, [.int do11, .int dg12, .int dd13, .int dh14, .int ds15, .int dl16, .int dp17, .int dm18]) := (congrFun e_f24 dq10).trans (z_up_ne (z_tne hf_dq10 hf_se (m := 0) (n := 132) rfl rfl (by decide)) hf_dq10)
  have hd_da : z_Drv L f24 dv 13 := z_Drv_up hd_da e_f24 hf_se (m := 132) rfl (by decide)
  have hf_se : f24 se = .inl (cy 1, 4, .inl (upd g3_8 r1.toNatClampNeg w22)) := (congrFun e_f24 se).trans z_up_self
  have hfr : ∀ b ∈ L, b ≠ wk → b ≠ ct → b ≠ se → f24 b = f b := fun b hb h0 h1 h2 => (congrFun e_f24 b).trans (z_up_ne h2 (hfr b hb h0 h1 h2))
  obtain ⟨g23, e_g23⟩ : ∃ z, z = (upd g3_8 r1.toNatClampNeg w22) := ⟨_, rfl⟩
  rw [← e_g23] at hf_se
  have hqB : ∀ j : Nat, j < 4 → z_upto (N + 1000) (g23 j) := z_updPn (z_upto_mono (by omega) hqA) e_g23 (show _ ∧ _ by omega)
  refine lv_aload_n hx hb dX8_pass_60 rfl (lv_at hl 5 rfl) ?_
  refine lv_iload_n hx hb dX8_pass_61 rfl (lv_at hl 3 rfl) ?_
  refine lv_iload hx hb dX8_pass_62 (lv_at hl 2 rfl) ?_
  refine z_calliV (cells := 0) (slots := 0) (b := mo) (As := [.int r1, .int w3]) (rest := []) (ci := 2) (q0 := (RX2, TX2, 11)) ⟨hx, hb, hml, hown, hT⟩ (c_X2_fogOf l hm_mo hm_mi hf_mo hf_mi (by first | omega | decide | assumption) (by first | omega | decide | assumption) hgm) (cwV 2 hT (z_goodV (fun _ h => h) kw_801 kw_802 kw_803 kw_87 kw_804) rfl rfl rfl (by decide +kernel) ⟨by decide, by decide⟩) z_mv hKK hK hw hA hm_mo hf_mo rfl rfl rfl hl.1 rfl (Nat.le_of_ble_eq_true rfl) dX8_pass_64 ⟨by decide, by decide⟩ (fun r25 u H locs hp hw => ?_)
  obtain ⟨rfl, hp⟩ := hp
  have hw : z_H D vwCl (z_A L sz) s.heap L f24 H locs := hw
  refine lv_istore (lv' := [(7, .int r25), (6, .int w21), (5, .int r20), (4, .int w3), (3, .int r1), (0, .ref wk), (1, .ref mo), (2, .int key)]) hx hb dX8_pass_67 hl (by decide) rfl (fun ls hl => ?_)
  refine lv_iload hx hb dX8_pass_69 (lv_at hl 0 rfl) ?_
  refine z_if_le (tgt := 93) hx hb rfl dX8_pass_71 (by decide) (fun c26 => ?_) (fun c26 => ?_)
  · skip
    refine lv_aload_n hx hb dX8_pass_93 rfl (lv_at hl 5 rfl) ?_
    refine lv_aload_n hx hb dX8_pass_94 rfl (lv_at hl 6 rfl) ?_
    refine lv_iload_n hx hb dX8_pass_95 rfl (lv_at hl 4 rfl) ?_
    refine z_calliV (cells := 0) (slots := 0) (b := mo) (As := [.int r1]) (rest := [.ref wk]) (ci := 2) (q0 := (RX2, TX2, 11)) ⟨hx, hb, hml, hown, hT⟩ (c_X2_counterOf l hm_mo hm_la hf_mo hf_la (by first | omega | decide | assumption)) (cwV 1 hT (z_goodV (fun _ h => h) kw_772 kw_773 kw_774 kw_87 kw_775) rfl rfl rfl (by decide +kernel) ⟨by decide, by decide⟩) z_mv hKK hK hw hA hm_mo hf_mo rfl rfl rfl hl.1 rfl (Nat.le_of_ble_eq_true rfl) dX8_pass_96 ⟨by decide, by decide⟩ (fun r27 u H locs hp hw => ?_)
    obtain ⟨rfl, hp⟩ := hp
    have hw : z_H D vwCl (z_A L sz) s.heap L f24 H locs := hw
    refine lv_aload_n hx hb dX8_pass_99 rfl (lv_at hl 6 rfl) ?_
    refine z_get (C := RX2) (T := TX2) (N := 11) (ci := 2) (v := .ref la) hx hb hT zin_X2 hown hK hw hm_mo hf_mo rfl 7 (by decide) (hT _ kw_233) rfl dX8_pass_100 ?_
    refine lv_iconst (v := 3) hx hb dX8_pass_103 (by decide) ?_
    refine z_iald hx hb hK hw 1 hm_la hf_la rfl (z_ix (show (3 : Int32).toInt = 3 by decide) (by decide)) dX8_pass_104 ?_
    refine lv_topi (fun w28 e_w28 => ?_)
    have hl_w28 : 0 ≤ w28.toInt ∧ w28.toInt ≤ 999 := by rw [e_w28]; exact hgl _
    refine lv_iload hx hb dX8_pass_105 (lv_at hl 2 rfl) ?_
    refine z_calliV (cells := 0) (slots := 0) (b := wk) (As := [.int r27, .int w28, .int r20]) (rest := []) (ci := 8) (q0 := (RX8, TX8, 8)) ⟨hx, hb, hml, hown, hT⟩ (c_X8_raiseN l hm_wk hm_ct hf_wk hf_ct (by first | omega | decide | assumption) hcA hNN (by first | omega | decide | assumption) (by first | omega | decide | assumption)) (cwV 3 hT (z_goodV (fun _ h => h) kw_805 kw_806 kw_807 kw_92 kw_808) rfl rfl rfl (by decide +kernel) ⟨by decide, by decide⟩) z_mv hKK hK hw hA hm_wk hf_wk rfl rfl rfl hl.1 rfl (Nat.le_of_ble_eq_true rfl) dX8_pass_107 ⟨by decide, by decide⟩ (fun r29 u H locs hp hw => ?_)
    obtain ⟨L30, f31⟩ := u
    obtain ⟨hsb, hfm, g2_32, ha_0, hp⟩ := hp
    have hsb : L = L30 := hsb
    subst hsb
    have hsb : ∀ b ∈ L, b ∈ L := fun _ h => h
    have hw : z_H D vwCl (z_A L sz) s.heap L f31 H locs := hw
    have hfr : ∀ b ∈ L, b ≠ wk → b ≠ ct → b ≠ se → f31 b = f b := fun b hb h0 h1 h2 => (hfm b hb h1).trans (hfr b hb h0 h1 h2)
    have hd_da : z_Drv L f31 dv 13 := z_Drv_fr hd_da hsb (fun b hb ht => hfm b hb (z_t0 ht hf_ct (m := 132) rfl (by decide)))
    have hf_wk : f31 wk = .inr (8, [.ref ks, .int wn, .ref ct, .ref se, .ref ow, .int t2_6, .int wd, .int wp]) := (hfm wk hm_wk (z_tne hf_wk hf_ct (m := 8) (n := 132) rfl rfl (by decide))).trans hf_wk
    have hf_se : f31 se = .inl (cy 1, 4, .inl g23) := (hfm se hm_se (Ne.symm ne_ct_se)).trans hf_se
    have hf_mo : f31 mo = .inr (2, [.int v0, .int v1, .int v2, .int v3, .int v4, .int v5, .int v6, .ref la, .ref sa, .ref mi, .ref da]) := (hfm mo hm_mo (z_tne hf_mo hf_ct (m := 2) (n := 132) rfl rfl (by decide))).trans hf_mo
    have hf_la : f31 la = .inl (cy 1, 5, .inl gl) := (hfm la hm_la (z_tne hf_la hf_ct (m := 140) (n := 132) rfl rfl (by decide))).trans hf_la
    have hf_mi : f31 mi = .inl (cy 1, 36, .inl gm) := (hfm mi hm_mi (z_tne hf_mi hf_ct (m := 388) (n := 132) rfl rfl (by decide))).trans hf_mi
    have hf_da : f31 da = .inl (cy 4, 13, .inr (.inr (.inr (.inr gd)))) := (hfm da hm_da (z_tne hf_da hf_ct (m := 206) (n := 132) rfl rfl (by decide))).trans hf_da
    have hf_dq10 : f31 dq10 = .inr (0, [.int do11, .int dg12, .int dd13, .int dh14, .int ds15, .int dl16, .int dp17, .int dm18]) := (hfm dq10 hm_dq10 (z_tne hf_dq10 hf_ct (m := 0) (n := 132) rfl rfl (by decide))).trans hf_dq10
    have hf_ct : f31 ct = .inl (cy 1, 4, .inl g2_32) := ha_0
    have hcB := hp
    exact z_iret hx hb hr hlk (by decide) (by decide) hw (⟨hsub, hfr, t2_6, g2_32, g23, hf_wk, hf_ct, hf_se, hcB.1, hcB.2, hqB⟩) dX8_pass_110
  · skip
    refine lv_iload hx hb dX8_pass_74 (lv_at hl 2 rfl) ?_
    refine lv_iload hx hb dX8_pass_76 (lv_at hl 1 rfl) ?_
    refine lv_iload hx hb dX8_pass_78 (lv_at hl 2 rfl) ?_
    refine lv_iadd hx hb dX8_pass_80 ?_
    refine lv_topi (fun w33 e_w33 => ?_)
    have i_w33 : w33.toInt = (w21.toInt + r20.toInt) := z_add e_w33 rfl rfl (by omega)
    refine lv_iload hx hb dX8_pass_81 (lv_at hl 0 rfl) ?_
    refine lv_idiv hx hb dX8_pass_83 (z_ne0 rfl (by omega)) ?_
    refine lv_topi (fun w34 e_w34 => ?_)
    have i_w34 : w34.toInt = (w21.toInt + r20.toInt) / r25.toInt := z_div e_w34 i_w33 rfl (by omega)
    refine lv_iload hx hb dX8_pass_84 (lv_at hl 1 rfl) ?_
    refine lv_iload hx hb dX8_pass_86 (lv_at hl 0 rfl) ?_
    refine lv_idiv hx hb dX8_pass_88 (z_ne0 rfl (by omega)) ?_
    refine lv_topi (fun w35 e_w35 => ?_)
    have i_w35 : w35.toInt = w21.toInt / r25.toInt := z_div e_w35 rfl rfl (by omega)
    have hfg := z_fog (b := w21.toInt) (c := r20.toInt) (f := r25.toInt) (by omega) (by omega) (by omega)
    refine lv_isub hx hb dX8_pass_89 ?_
    refine lv_topi (fun w36 e_w36 => ?_)
    have i_w36 : w36.toInt = (((w21.toInt + r20.toInt) / r25.toInt) - (w21.toInt / r25.toInt)) := z_subI e_w36 i_w34 i_w35 (by omega)
    refine lv_isub hx hb dX8_pass_90 ?_
    refine lv_topi (fun w37 e_w37 => ?_)
    have i_w37 : w37.toInt = (r20.toInt - (((w21.toInt + r20.toInt) / r25.toInt) - (w21.toInt / r25.toInt))) := z_subI e_w37 rfl i_w36 (by omega)
    refine lv_istore (lv' := [(5, .int w37), (7, .int r25), (6, .int w21), (4, .int w3), (3, .int r1), (0, .ref wk), (1, .ref mo), (2, .int key)]) hx hb dX8_pass_91 hl (by decide) rfl (fun ls hl => ?_)
    refine lv_aload_n hx hb dX8_pass_93 rfl (lv_at hl 5 rfl) ?_
    refine lv_aload_n hx hb dX8_pass_94 rfl (lv_at hl 6 rfl) ?_
    refine lv_iload_n hx hb dX8_pass_95 rfl (lv_at hl 4 rfl) ?_
    refine z_calliV (cells := 0) (slots := 0) (b := mo) (As := [.int r1]) (rest := [.ref wk]) (ci := 2) (q0 := (RX2, TX2, 11)) ⟨hx, hb, hml, hown, hT⟩ (c_X2_counterOf l hm_mo hm_la hf_mo hf_la (by first | omega | decide | assumption)) (cwV 1 hT (z_goodV (fun _ h => h) kw_772 kw_773 kw_774 kw_87 kw_775) rfl rfl rfl (by decide +kernel) ⟨by decide, by decide⟩) z_mv hKK hK hw hA hm_mo hf_mo rfl rfl rfl hl.1 rfl (Nat.le_of_ble_eq_true rfl) dX8_pass_96 ⟨by decide, by decide⟩ (fun r38 u H locs hp hw => ?_)
    obtain ⟨rfl, hp⟩ := hp
    have hw : z_H D vwCl (z_A L sz) s.heap L f24 H locs := hw
    refine lv_aload_n hx hb dX8_pass_99 rfl (lv_at hl 6 rfl) ?_
    refine z_get (C := RX2) (T := TX2) (N := 11) (ci := 2) (v := .ref la) hx hb hT zin_X2 hown hK hw hm_mo hf_mo rfl 7 (by decide) (hT _ kw_233) rfl dX8_pass_100 ?_
    refine lv_iconst (v := 3) hx hb dX8_pass_103 (by decide) ?_
    refine z_iald hx hb hK hw 1 hm_la hf_la rfl (z_ix (show (3 : Int32).toInt = 3 by decide) (by decide)) dX8_pass_104 ?_
    refine lv_topi (fun w39 e_w39 => ?_)
    have hl_w39 : 0 ≤ w39.toInt ∧ w39.toInt ≤ 999 := by rw [e_w39]; exact hgl _
    refine lv_iload hx hb dX8_pass_105 (lv_at hl 0 rfl) ?_
    refine z_calliV (cells := 0) (slots := 0) (b := wk) (As := [.int r38, .int w39, .int w37]) (rest := []) (ci := 8) (q0 := (RX8, TX8, 8)) ⟨hx, hb, hml, hown, hT⟩ (c_X8_raiseN l hm_wk hm_ct hf_wk hf_ct (by first | omega | decide | assumption) hcA hNN (by first | omega | decide | assumption) (by first | omega | decide | assumption)) (cwV 3 hT (z_goodV (fun _ h => h) kw_805 kw_806 kw_807 kw_92 kw_808) rfl rfl rfl (by decide +kernel) ⟨by decide, by decide⟩) z_mv hKK hK hw hA hm_wk hf_wk rfl rfl rfl hl.1 rfl (Nat.le_of_ble_eq_true rfl) dX8_pass_107 ⟨by decide, by decide⟩ (fun r40 u H locs hp hw => ?_)
    obtain ⟨L41, f42⟩ := u
    obtain ⟨hsb, hfm, g2_43, ha_0, hp⟩ := hp
    have hsb : L = L41 := hsb
    subst hsb
    have hsb : ∀ b ∈ L, b ∈ L := fun _ h => h
    have hw : z_H D vwCl (z_A L sz) s.heap L f42 H locs := hw
    have hfr : ∀ b ∈ L, b ≠ wk → b ≠ ct → b ≠ se → f42 b = f b := fun b hb h0 h1 h2 => (hfm b hb h1).trans (hfr b hb h0 h1 h2)
    have hd_da : z_Drv L f42 dv 13 := z_Drv_fr hd_da hsb (fun b hb ht => hfm b hb (z_t0 ht hf_ct (m := 132) rfl (by decide)))
    have hf_wk : f42 wk = .inr (8, [.ref ks, .int wn, .ref ct, .ref se, .ref ow, .int t2_6, .int wd, .int wp]) := (hfm wk hm_wk (z_tne hf_wk hf_ct (m := 8) (n := 132) rfl rfl (by decide))).trans hf_wk
    have hf_se : f42 se = .inl (cy 1, 4, .inl g23) := (hfm se hm_se (Ne.symm ne_ct_se)).trans hf_se
    have hf_mo : f42 mo = .inr (2, [.int v0, .int v1, .int v2, .int v3, .int v4, .int v5, .int v6, .ref la, .ref sa, .ref mi, .ref da]) := (hfm mo hm_mo (z_tne hf_mo hf_ct (m := 2) (n := 132) rfl rfl (by decide))).trans hf_mo
    have hf_la : f42 la = .inl (cy 1, 5, .inl gl) := (hfm la hm_la (z_tne hf_la hf_ct (m := 140) (n := 132) rfl rfl (by decide))).trans hf_la
    have hf_mi : f42 mi = .inl (cy 1, 36, .inl gm) := (hfm mi hm_mi (z_tne hf_mi hf_ct (m := 388) (n := 132) rfl rfl (by decide))).trans hf_mi
    have hf_da : f42 da = .inl (cy 4, 13, .inr (.inr (.inr (.inr gd)))) := (hfm da hm_da (z_tne hf_da hf_ct (m := 206) (n := 132) rfl rfl (by decide))).trans hf_da
    have hf_dq10 : f42 dq10 = .inr (0, [.int do11, .int dg12, .int dd13, .int dh14, .int ds15, .int dl16, .int dp17, .int dm18]) := (hfm dq10 hm_dq10 (z_tne hf_dq10 hf_ct (m := 0) (n := 132) rfl rfl (by decide))).trans hf_dq10
    have hf_ct : f42 ct = .inl (cy 1, 4, .inl g2_43) := ha_0
    have hcB := hp
    exact z_iret hx hb hr hlk (by decide) (by decide) hw (⟨hsub, hfr, t2_6, g2_43, g23, hf_wk, hf_ct, hf_se, hcB.1, hcB.2, hqB⟩) dX8_pass_110

set_option maxHeartbeats 2000000 in
set_option maxRecDepth 100000 in
theorem c_X8_beginN (l : Launch) {D : va_G} {cy : Nat → ClassId} {L : List Nat} {f : Nat → va_E} {sz : Nat} {adK adV : Nat → Nat} {wk ks ct se ow : Nat} {wn wt wd wp : Int32} {gk gc gq go : Nat → Int32} {mo la sa mi da : Nat} {v0 v1 v2 v3 v4 v5 v6 : Int32} {gl gs : Nat → Int32} {gd : Nat → Option Nat} {dv : Nat → Nat} (hm_wk : wk ∈ L) (hm_ks : ks ∈ L) (hm_ct : ct ∈ L) (hm_se : se ∈ L) (hm_ow : ow ∈ L) (hm_mo : mo ∈ L) (hm_la : la ∈ L) (hm_sa : sa ∈ L) (hm_da : da ∈ L) (hf_wk : f wk = .inr (8, [.ref ks, .int wn, .ref ct, .ref se, .ref ow, .int wt, .int wd, .int wp])) (hf_ks : f ks = .inl (cy 1, 13, .inl gk)) (hf_ct : f ct = .inl (cy 1, 4, .inl gc)) (hf_se : f se = .inl (cy 1, 4, .inl gq)) (hf_ow : f ow = .inl (cy 1, 5, .inl go)) (hf_mo : f mo = .inr (2, [.int v0, .int v1, .int v2, .int v3, .int v4, .int v5, .int v6, .ref la, .ref sa, .ref mi, .ref da])) (hf_la : f la = .inl (cy 1, 5, .inl gl)) (hf_sa : f sa = .inl (cy 1, 4, .inl gs)) (hf_da : f da = .inl (cy 4, 13, .inr (.inr (.inr (.inr gd))))) (ne_ct_se : ct ≠ se) (ne_ct_sa : ct ≠ sa) (ne_se_sa : se ≠ sa) (ne_ow_la : ow ≠ la) (hg_da : ∀ i : Nat, i < 13 → gd i = some (dv i)) (hd_da : z_Drv L f dv 13) (hv2 : 0 ≤ v2.toInt ∧ v2.toInt ≤ 9) (hv5 : 0 ≤ v5.toInt ∧ v5.toInt ≤ 13) (hgk : ∀ j : Nat, z_key (gk j)) (hgs : ∀ j : Nat, 0 ≤ (gs j).toInt ∧ (gs j).toInt ≤ 999) : Met l yX8_begin (z_ws yX8_begin cX8_begin 4 none) (z_R 3 0 0) (va_Pc [.ref wk, .ref mo] (z_Pre D vwCl (z_KK D cy adK adV) L f sz)) (z_Qv D vwCl (fun u => L = u.1 ∧ (∀ b ∈ L, b ≠ wk → b ≠ ks → b ≠ ct → b ≠ se → b ≠ ow → u.2 b = f b) ∧ (∃ (w2 t2 : Int32) (k2 c2 q2 o2 : Nat → Int32), (u.2 wk = .inr (8, [.ref ks, .int w2, .ref ct, .ref se, .ref ow, .int t2, .int wd, .int wp])) ∧ (u.2 ks = .inl (cy 1, 13, .inl k2)) ∧ (u.2 ct = .inl (cy 1, 4, .inl c2)) ∧ (u.2 se = .inl (cy 1, 4, .inl q2)) ∧ (u.2 ow = .inl (cy 1, 5, .inl o2)) ∧ ((0 ≤ w2.toInt ∧ w2.toInt ≤ 13) ∧ (∀ j : Nat, z_key (k2 j)) ∧ (∀ j : Nat, j < 4 → z_upto (1000) (c2 j)) ∧ (∀ j : Nat, j < 4 → z_upto (1000) (q2 j))))) L sz) 0 0 (z_A L sz) := by
  refine z_met (cc := cX8_begin) (maxL := 4) (ret := none) (lv := [(0, .ref wk), (1, .ref mo)]) (by decide) rfl (Nat.le_of_ble_eq_true rfl) rfl ?_
  intro p e s m below meth c ls hx hb hr hlk hml hown hnm hts hKK hA hw hl
  have hK := hKK.1.1
  have hown : s.vm.findClass RX8 = some m.cls := hown
  have hT : ∀ w ∈ lw_all, w.before ([.ref wk, .ref mo] : List Value).toArray s = true := fun w h => hts w (z_cons w h)
  have hsub : L = L := rfl
  have hfr : ∀ b ∈ L, b ≠ wk → b ≠ ks → b ≠ ct → b ≠ se → b ≠ ow → f b = f b := fun _ _ _ _ _ _ _ => rfl
  refine lv_aload_n hx hb dX8_begin_0 rfl (lv_at hl 0 rfl) ?_
  refine lv_iconst (v := 0) hx hb dX8_begin_1 (by decide) ?_
  refine z_put (C := RX8) (T := TX8) (N := 8) (ci := 8) (v := .int 0) (fs' := [.ref ks, .int 0, .ref ct, .ref se, .ref ow, .int wt, .int wd, .int wp]) hx hb hT zin_X8 tyX8_ok nmX8 hown hK hw hm_wk hf_wk rfl 1 (by decide) (hT _ kw_345) rfl rfl rfl (Nat.le_of_ble_eq_true rfl) rfl dX8_begin_2 (fun H locs hw => ?_)
  obtain ⟨f1, e_f1⟩ : ∃ z, z = va_up f wk (.inr (8, [.ref ks, .int 0, .ref ct, .ref se, .ref ow, .int wt, .int wd, .int wp])) := ⟨_, rfl⟩
  rw [← e_f1] at hw
  have hf_ks : f1 ks = .inl (cy 1, 13, .inl gk) := (congrFun e_f1 ks).trans (z_up_ne (z_tne hf_ks hf_wk (m := 204) (n := 8) rfl rfl (by decide)) hf_ks)
  have hf_ct : f1 ct = .inl (cy 1, 4, .inl gc) := (congrFun e_f1 ct).trans (z_up_ne (z_tne hf_ct hf_wk (m := 132) (n := 8) rfl rfl (by decide)) hf_ct)
  have hf_se : f1 se = .inl (cy 1, 4, .inl gq) := (congrFun e_f1 se).trans (z_up_ne (z_tne hf_se hf_wk (m := 132) (n := 8) rfl rfl (by decide)) hf_se)
  have hf_ow : f1 ow = .inl (cy 1, 5, .inl go) := (congrFun e_f1 ow).trans (z_up_ne (z_tne hf_ow hf_wk (m := 140) (n := 8) rfl rfl (by decide)) hf_ow)
  have hf_mo : f1 mo = .inr (2, [.int v0, .int v1, .int v2, .int v3, .int v4, .int v5, .int v6, .ref la, .ref sa, .ref mi, .ref da]) := (congrFun e_f1 mo).trans (z_up_ne (z_tne hf_mo hf_wk (m := 2) (n := 8) rfl rfl (by decide)) hf_mo)
  have hf_la : f1 la = .inl (cy 1, 5, .inl gl) := (congrFun e_f1 la).trans (z_up_ne (z_tne hf_la hf_wk (m := 140) (n := 8) rfl rfl (by decide)) hf_la)
  have hf_sa : f1 sa = .inl (cy 1, 4, .inl gs) := (congrFun e_f1 sa).trans (z_up_ne (z_tne hf_sa hf_wk (m := 132) (n := 8) rfl rfl (by decide)) hf_sa)
  have hf_da : f1 da = .inl (cy 4, 13, .inr (.inr (.inr (.inr gd)))) := (congrFun e_f1 da).trans (z_up_ne (z_tne hf_da hf_wk (m := 206) (n := 8) rfl rfl (by decide)) hf_da)
  have hd_da : z_Drv L f1 dv 13 := z_Drv_up hd_da e_f1 hf_wk (m := 8) rfl (by decide)
  have hf_wk : f1 wk = .inr (8, [.ref ks, .int 0, .ref ct, .ref se, .ref ow, .int wt, .int wd, .int wp]) := (congrFun e_f1 wk).trans z_up_self
  have hfr : ∀ b ∈ L, b ≠ wk → b ≠ ks → b ≠ ct → b ≠ se → b ≠ ow → f1 b = f b := fun b hb h0 h1 h2 h3 h4 => (congrFun e_f1 b).trans (z_up_ne h0 (hfr b hb h0 h1 h2 h3 h4))
  refine lv_iconst (v := 0) hx hb dX8_begin_5 (by decide) ?_
  refine lv_istore_n (lv' := [(2, .int 0), (0, .ref wk), (1, .ref mo)]) hx hb dX8_begin_6 rfl hl (by decide) rfl (fun ls hl => ?_)
  have hzk : (0 : Int32).toInt = 0 := by decide
  refine z_loop (fun n H locs ls => ∃ (K2 : Int32) (G5 : Nat → Int32) (WN4 : Int32) (f3 : Nat → va_E), (n = (v5.toInt - K2.toInt).toNat) ∧ (0 ≤ K2.toInt) ∧ (K2.toInt ≤ v5.toInt) ∧ (0 ≤ WN4.toInt ∧ WN4.toInt ≤ K2.toInt) ∧ (∀ j : Nat, z_key (G5 j)) ∧ (z_H D vwCl (z_A L sz) s.heap L f3 H locs) ∧ (f3 wk = .inr (8, [.ref ks, .int WN4, .ref ct, .ref se, .ref ow, .int wt, .int wd, .int wp])) ∧ (f3 ks = .inl (cy 1, 13, .inl G5)) ∧ (f3 ct = .inl (cy 1, 4, .inl gc)) ∧ (f3 se = .inl (cy 1, 4, .inl gq)) ∧ (f3 ow = .inl (cy 1, 5, .inl go)) ∧ (f3 mo = .inr (2, [.int v0, .int v1, .int v2, .int v3, .int v4, .int v5, .int v6, .ref la, .ref sa, .ref mi, .ref da])) ∧ (f3 la = .inl (cy 1, 5, .inl gl)) ∧ (f3 sa = .inl (cy 1, 4, .inl gs)) ∧ (f3 da = .inl (cy 4, 13, .inr (.inr (.inr (.inr gd))))) ∧ (∀ b ∈ L, b ≠ wk → b ≠ ks → b ≠ ct → b ≠ se → b ≠ ow → f3 b = f b) ∧ (z_Drv L f3 dv 13) ∧ (lv_has ls 4 [(2, .int K2), (0, .ref wk), (1, .ref mo)])) _ ⟨0, gk, 0, f1, rfl, (by first | decide | omega), (by first | decide | omega), (by decide), hgk, hw, hf_wk, hf_ks, hf_ct, hf_se, hf_ow, hf_mo, hf_la, hf_sa, hf_da, hfr, hd_da, (lv_sub hl [0, 1, 2] rfl)⟩ (fun n H locs ls hI ih_7 => ?_)
  obtain ⟨K2, G5, WN4, f3, hn, hk0, hk1, hi0, hi1, hw, hf_wk, hf_ks, hf_ct, hf_se, hf_ow, hf_mo, hf_la, hf_sa, hf_da, hfr, hd_da, hl⟩ := hI
  refine lv_iload_n hx hb dX8_begin_7 rfl (lv_at hl 0 rfl) ?_
  refine lv_aload_n hx hb dX8_begin_8 rfl (lv_at hl 2 rfl) ?_
  refine z_get (C := RX2) (T := TX2) (N := 11) (ci := 2) (v := .int v5) hx hb hT zin_X2 hown hK hw hm_mo hf_mo rfl 5 (by decide) (hT _ kw_224) rfl dX8_begin_9 ?_
  refine z_icmp_ge (tgt := 56) hx hb rfl rfl dX8_begin_12 (by decide) (fun c6 => ?_) (fun c6 => ?_)
  · skip
    have hgkE := hi1
    refine lv_aload_n hx hb dX8_begin_56 rfl (lv_at hl 1 rfl) ?_
    refine z_get (C := RX8) (T := TX8) (N := 8) (ci := 8) (v := .ref se) hx hb hT zin_X8 hown hK hw hm_wk hf_wk rfl 3 (by decide) (hT _ kw_349) rfl dX8_begin_57 ?_
    refine lv_iconst (v := 0) hx hb dX8_begin_60 (by decide) ?_
    have hz7 := (show (0 : Int32).toInt = 0 by decide)
    refine z_callvS (cells := 0) (slots := 0) (As := [.ref se, .int 0]) (rest := []) ⟨hx, hb, hml, hown, hT⟩ (c_J7_fill_53178 l hm_se hf_se (by decide)) (va_cwS 2 hT (z_goodS (fun _ h => h) kw_771 kw_317 kw_91 kw_318) rfl rfl rfl (by decide +kernel) ⟨by decide, by decide⟩) z_mv hKK hw hA rfl hl.1 rfl (Nat.le_of_ble_eq_true rfl) dX8_begin_61 ⟨by decide, by decide⟩ (fun u H locs hp hw => ?_)
    obtain ⟨L8, f9⟩ := u
    obtain ⟨hsb, hfm, g2_10, ha_0, hp⟩ := hp
    have hsb : L = L8 := hsb
    subst hsb
    have hsb : ∀ b ∈ L, b ∈ L := fun _ h => h
    have hw : z_H D vwCl (z_A L sz) s.heap L f9 H locs := hw
    have hfr : ∀ b ∈ L, b ≠ wk → b ≠ ks → b ≠ ct → b ≠ se → b ≠ ow → f9 b = f b := fun b hb h0 h1 h2 h3 h4 => (hfm b hb h3).trans (hfr b hb h0 h1 h2 h3 h4)
    have hd_da : z_Drv L f9 dv 13 := z_Drv_fr hd_da hsb (fun b hb ht => hfm b hb (z_t0 ht hf_se (m := 132) rfl (by decide)))
    have hf_wk : f9 wk = .inr (8, [.ref ks, .int WN4, .ref ct, .ref se, .ref ow, .int wt, .int wd, .int wp]) := (hfm wk hm_wk (z_tne hf_wk hf_se (m := 8) (n := 132) rfl rfl (by decide))).trans hf_wk
    have hf_ks : f9 ks = .inl (cy 1, 13, .inl G5) := (hfm ks hm_ks (z_tne hf_ks hf_se (m := 204) (n := 132) rfl rfl (by decide))).trans hf_ks
    have hf_ct : f9 ct = .inl (cy 1, 4, .inl gc) := (hfm ct hm_ct ne_ct_se).trans hf_ct
    have hf_ow : f9 ow = .inl (cy 1, 5, .inl go) := (hfm ow hm_ow (z_tne hf_ow hf_se (m := 140) (n := 132) rfl rfl (by decide))).trans hf_ow
    have hf_mo : f9 mo = .inr (2, [.int v0, .int v1, .int v2, .int v3, .int v4, .int v5, .int v6, .ref la, .ref sa, .ref mi, .ref da]) := (hfm mo hm_mo (z_tne hf_mo hf_se (m := 2) (n := 132) rfl rfl (by decide))).trans hf_mo
    have hf_la : f9 la = .inl (cy 1, 5, .inl gl) := (hfm la hm_la (z_tne hf_la hf_se (m := 140) (n := 132) rfl rfl (by decide))).trans hf_la
    have hf_sa : f9 sa = .inl (cy 1, 4, .inl gs) := (hfm sa hm_sa (Ne.symm ne_se_sa)).trans hf_sa
    have hf_da : f9 da = .inl (cy 4, 13, .inr (.inr (.inr (.inr gd)))) := (hfm da hm_da (z_tne hf_da hf_se (m := 206) (n := 132) rfl rfl (by decide))).trans hf_da
    have hf_se : f9 se = .inl (cy 1, 4, .inl g2_10) := ha_0
    have hqE := z_upto_fill (N := 1000) (by decide) hp
    refine lv_aload_n hx hb dX8_begin_64 rfl (lv_at hl 1 rfl) ?_
    refine z_get (C := RX8) (T := TX8) (N := 8) (ci := 8) (v := .ref ow) hx hb hT zin_X8 hown hK hw hm_wk hf_wk rfl 4 (by decide) (hT _ kw_351) rfl dX8_begin_65 ?_
    refine lv_iconst (v := 0) hx hb dX8_begin_68 (by decide) ?_
    have hz11 := (show (0 : Int32).toInt = 0 by decide)
    refine z_callvS (cells := 0) (slots := 0) (As := [.ref ow, .int 0]) (rest := []) ⟨hx, hb, hml, hown, hT⟩ (c_J7_fill_53178 l hm_ow hf_ow (by decide)) (va_cwS 2 hT (z_goodS (fun _ h => h) kw_771 kw_317 kw_91 kw_318) rfl rfl rfl (by decide +kernel) ⟨by decide, by decide⟩) z_mv hKK hw hA rfl hl.1 rfl (Nat.le_of_ble_eq_true rfl) dX8_begin_69 ⟨by decide, by decide⟩ (fun u H locs hp hw => ?_)
    obtain ⟨L12, f13⟩ := u
    obtain ⟨hsb, hfm, g2_14, ha_0, hp⟩ := hp
    have hsb : L = L12 := hsb
    subst hsb
    have hsb : ∀ b ∈ L, b ∈ L := fun _ h => h
    have hw : z_H D vwCl (z_A L sz) s.heap L f13 H locs := hw
    have hfr : ∀ b ∈ L, b ≠ wk → b ≠ ks → b ≠ ct → b ≠ se → b ≠ ow → f13 b = f b := fun b hb h0 h1 h2 h3 h4 => (hfm b hb h4).trans (hfr b hb h0 h1 h2 h3 h4)
    have hd_da : z_Drv L f13 dv 13 := z_Drv_fr hd_da hsb (fun b hb ht => hfm b hb (z_t0 ht hf_ow (m := 140) rfl (by decide)))
    have hf_wk : f13 wk = .inr (8, [.ref ks, .int WN4, .ref ct, .ref se, .ref ow, .int wt, .int wd, .int wp]) := (hfm wk hm_wk (z_tne hf_wk hf_ow (m := 8) (n := 140) rfl rfl (by decide))).trans hf_wk
    have hf_ks : f13 ks = .inl (cy 1, 13, .inl G5) := (hfm ks hm_ks (z_tne hf_ks hf_ow (m := 204) (n := 140) rfl rfl (by decide))).trans hf_ks
    have hf_ct : f13 ct = .inl (cy 1, 4, .inl gc) := (hfm ct hm_ct (z_tne hf_ct hf_ow (m := 132) (n := 140) rfl rfl (by decide))).trans hf_ct
    have hf_se : f13 se = .inl (cy 1, 4, .inl g2_10) := (hfm se hm_se (z_tne hf_se hf_ow (m := 132) (n := 140) rfl rfl (by decide))).trans hf_se
    have hf_mo : f13 mo = .inr (2, [.int v0, .int v1, .int v2, .int v3, .int v4, .int v5, .int v6, .ref la, .ref sa, .ref mi, .ref da]) := (hfm mo hm_mo (z_tne hf_mo hf_ow (m := 2) (n := 140) rfl rfl (by decide))).trans hf_mo
    have hf_la : f13 la = .inl (cy 1, 5, .inl gl) := (hfm la hm_la (Ne.symm ne_ow_la)).trans hf_la
    have hf_sa : f13 sa = .inl (cy 1, 4, .inl gs) := (hfm sa hm_sa (z_tne hf_sa hf_ow (m := 132) (n := 140) rfl rfl (by decide))).trans hf_sa
    have hf_da : f13 da = .inl (cy 4, 13, .inr (.inr (.inr (.inr gd)))) := (hfm da hm_da (z_tne hf_da hf_ow (m := 206) (n := 140) rfl rfl (by decide))).trans hf_da
    have hf_ow : f13 ow = .inl (cy 1, 5, .inl g2_14) := ha_0
    refine lv_iconst (v := 0) hx hb dX8_begin_72 (by decide) ?_
    refine lv_istore_n (lv' := [(2, .int 0), (0, .ref wk), (1, .ref mo)]) hx hb dX8_begin_73 rfl hl (by decide) rfl (fun ls hl => ?_)
    have hzk : (0 : Int32).toInt = 0 := by decide
    refine z_loop (fun n H locs ls => ∃ (K15 : Int32) (G17 : Nat → Int32) (f16 : Nat → va_E), (n = (4 - K15.toInt).toNat) ∧ (0 ≤ K15.toInt) ∧ (K15.toInt ≤ 4) ∧ (∀ j : Nat, (j : Int) < K15.toInt → z_upto 1000 (G17 j)) ∧ (z_H D vwCl (z_A L sz) s.heap L f16 H locs) ∧ (f16 wk = .inr (8, [.ref ks, .int WN4, .ref ct, .ref se, .ref ow, .int wt, .int wd, .int wp])) ∧ (f16 ks = .inl (cy 1, 13, .inl G5)) ∧ (f16 ct = .inl (cy 1, 4, .inl G17)) ∧ (f16 se = .inl (cy 1, 4, .inl g2_10)) ∧ (f16 ow = .inl (cy 1, 5, .inl g2_14)) ∧ (f16 mo = .inr (2, [.int v0, .int v1, .int v2, .int v3, .int v4, .int v5, .int v6, .ref la, .ref sa, .ref mi, .ref da])) ∧ (f16 la = .inl (cy 1, 5, .inl gl)) ∧ (f16 sa = .inl (cy 1, 4, .inl gs)) ∧ (f16 da = .inl (cy 4, 13, .inr (.inr (.inr (.inr gd))))) ∧ (∀ b ∈ L, b ≠ wk → b ≠ ks → b ≠ ct → b ≠ se → b ≠ ow → f16 b = f b) ∧ (z_Drv L f16 dv 13) ∧ (lv_has ls 4 [(2, .int K15), (0, .ref wk), (1, .ref mo)])) _ ⟨0, gc, f13, rfl, (by first | decide | omega), (by first | decide | omega), (fun j hj => absurd hj (by rw [show (0 : Int32).toInt = 0 from rfl]; omega)), hw, hf_wk, hf_ks, hf_ct, hf_se, hf_ow, hf_mo, hf_la, hf_sa, hf_da, hfr, hd_da, (lv_sub hl [0, 1, 2] rfl)⟩ (fun n H locs ls hI ih_74 => ?_)
    obtain ⟨K15, G17, f16, hn, hk0, hk1, hi0, hw, hf_wk, hf_ks, hf_ct, hf_se, hf_ow, hf_mo, hf_la, hf_sa, hf_da, hfr, hd_da, hl⟩ := hI
    refine lv_iload_n hx hb dX8_begin_74 rfl (lv_at hl 0 rfl) ?_
    refine lv_iconst (v := 4) hx hb dX8_begin_75 (by decide) ?_
    refine z_icmp_ge (tgt := 101) hx hb rfl (show (4 : Int32).toInt = 4 by decide) dX8_begin_76 (by decide) (fun c18 => ?_) (fun c18 => ?_)
    · skip
      refine lv_aload_n hx hb dX8_begin_101 rfl (lv_at hl 1 rfl) ?_
      refine lv_iconst (v := 0) hx hb dX8_begin_102 (by decide) ?_
      refine z_put (C := RX8) (T := TX8) (N := 8) (ci := 8) (v := .int 0) (fs' := [.ref ks, .int WN4, .ref ct, .ref se, .ref ow, .int 0, .int wd, .int wp]) hx hb hT zin_X8 tyX8_ok nmX8 hown hK hw hm_wk hf_wk rfl 5 (by decide) (hT _ kw_354) rfl rfl rfl (Nat.le_of_ble_eq_true rfl) rfl dX8_begin_103 (fun H locs hw => ?_)
      obtain ⟨f19, e_f19⟩ : ∃ z, z = va_up f16 wk (.inr (8, [.ref ks, .int WN4, .ref ct, .ref se, .ref ow, .int 0, .int wd, .int wp])) := ⟨_, rfl⟩
      rw [← e_f19] at hw
      have hf_ks : f19 ks = .inl (cy 1, 13, .inl G5) := (congrFun e_f19 ks).trans (z_up_ne (z_tne hf_ks hf_wk (m := 204) (n := 8) rfl rfl (by decide)) hf_ks)
      have hf_ct : f19 ct = .inl (cy 1, 4, .inl G17) := (congrFun e_f19 ct).trans (z_up_ne (z_tne hf_ct hf_wk (m := 132) (n := 8) rfl rfl (by decide)) hf_ct)
      have hf_se : f19 se = .inl (cy 1, 4, .inl g2_10) := (congrFun e_f19 se).trans (z_up_ne (z_tne hf_se hf_wk (m := 132) (n := 8) rfl rfl (by decide)) hf_se)
      have hf_ow : f19 ow = .inl (cy 1, 5, .inl g2_14) := (congrFun e_f19 ow).trans (z_up_ne (z_tne hf_ow hf_wk (m := 140) (n := 8) rfl rfl (by decide)) hf_ow)
      have hf_mo : f19 mo = .inr (2, [.int v0, .int v1, .int v2, .int v3, .int v4, .int v5, .int v6, .ref la, .ref sa, .ref mi, .ref da]) := (congrFun e_f19 mo).trans (z_up_ne (z_tne hf_mo hf_wk (m := 2) (n := 8) rfl rfl (by decide)) hf_mo)
      have hf_la : f19 la = .inl (cy 1, 5, .inl gl) := (congrFun e_f19 la).trans (z_up_ne (z_tne hf_la hf_wk (m := 140) (n := 8) rfl rfl (by decide)) hf_la)
      have hf_sa : f19 sa = .inl (cy 1, 4, .inl gs) := (congrFun e_f19 sa).trans (z_up_ne (z_tne hf_sa hf_wk (m := 132) (n := 8) rfl rfl (by decide)) hf_sa)
      have hf_da : f19 da = .inl (cy 4, 13, .inr (.inr (.inr (.inr gd)))) := (congrFun e_f19 da).trans (z_up_ne (z_tne hf_da hf_wk (m := 206) (n := 8) rfl rfl (by decide)) hf_da)
      have hd_da : z_Drv L f19 dv 13 := z_Drv_up hd_da e_f19 hf_wk (m := 8) rfl (by decide)
      have hf_wk : f19 wk = .inr (8, [.ref ks, .int WN4, .ref ct, .ref se, .ref ow, .int 0, .int wd, .int wp]) := (congrFun e_f19 wk).trans z_up_self
      have hfr : ∀ b ∈ L, b ≠ wk → b ≠ ks → b ≠ ct → b ≠ se → b ≠ ow → f19 b = f b := fun b hb h0 h1 h2 h3 h4 => (congrFun e_f19 b).trans (z_up_ne h0 (hfr b hb h0 h1 h2 h3 h4))
      exact z_vret hx hb hr hlk (by decide) (by decide) hw (⟨hsub, hfr, WN4, 0, G5, G17, g2_10, g2_14, hf_wk, hf_ks, hf_ct, hf_se, hf_ow, by omega, hgkE, fun j hj => hi0 j (by omega), hqE⟩) dX8_begin_106
    · skip
      refine lv_aload_n hx hb dX8_begin_79 rfl (lv_at hl 1 rfl) ?_
      refine z_get (C := RX8) (T := TX8) (N := 8) (ci := 8) (v := .ref ct) hx hb hT zin_X8 hown hK hw hm_wk hf_wk rfl 2 (by decide) (hT _ kw_346) rfl dX8_begin_80 ?_
      refine lv_iload_n hx hb dX8_begin_83 rfl (lv_at hl 0 rfl) ?_
      refine lv_aload_n hx hb dX8_begin_84 rfl (lv_at hl 2 rfl) ?_
      refine z_get (C := RX2) (T := TX2) (N := 11) (ci := 2) (v := .ref sa) hx hb hT zin_X2 hown hK hw hm_mo hf_mo rfl 8 (by decide) (hT _ kw_237) rfl dX8_begin_85 ?_
      refine lv_aload_n hx hb dX8_begin_88 rfl (lv_at hl 2 rfl) ?_
      refine lv_iload_n hx hb dX8_begin_89 rfl (lv_at hl 0 rfl) ?_
      refine z_calliV (cells := 0) (slots := 0) (b := mo) (As := [.int K15]) (rest := [.ref sa, .int K15, .ref ct]) (ci := 2) (q0 := (RX2, TX2, 11)) ⟨hx, hb, hml, hown, hT⟩ (c_X2_counterOf l hm_mo hm_la hf_mo hf_la (by first | omega | decide | assumption)) (cwV 1 hT (z_goodV (fun _ h => h) kw_772 kw_773 kw_774 kw_87 kw_775) rfl rfl rfl (by decide +kernel) ⟨by decide, by decide⟩) z_mv hKK hK hw hA hm_mo hf_mo rfl rfl rfl hl.1 rfl (Nat.le_of_ble_eq_true rfl) dX8_begin_90 ⟨by decide, by decide⟩ (fun r20 u H locs hp hw => ?_)
      obtain ⟨rfl, hp⟩ := hp
      have hw : z_H D vwCl (z_A L sz) s.heap L f16 H locs := hw
      refine z_iald hx hb hK hw 1 hm_sa hf_sa rfl (z_ix rfl (by omega)) dX8_begin_93 ?_
      refine lv_topi (fun w21 e_w21 => ?_)
      have hv94 : z_upto 1000 w21 := z_upto_of (by rw [e_w21]; exact hgs _)
      refine z_iast hx hb hK hw 1 hm_ct hf_ct rfl (z_ix rfl (by omega)) dX8_begin_94 (fun H locs hw => ?_)
      obtain ⟨f23, e_f23⟩ : ∃ z, z = va_up f16 ct (.inl (cy 1, 4, .inl (upd G17 K15.toNatClampNeg w21))) := ⟨_, rfl⟩
      rw [← e_f23] at hw
      have hf_wk : f23 wk = .inr (8, [.ref ks, .int WN4, .ref ct, .ref se, .ref ow, .int wt, .int wd, .int wp]) := (congrFun e_f23 wk).trans (z_up_ne (z_tne hf_wk hf_ct (m := 8) (n := 132) rfl rfl (by decide)) hf_wk)
      have hf_ks : f23 ks = .inl (cy 1, 13, .inl G5) := (congrFun e_f23 ks).trans (z_up_ne (z_tne hf_ks hf_ct (m := 204) (n := 132) rfl rfl (by decide)) hf_ks)
      have hf_se : f23 se = .inl (cy 1, 4, .inl g2_10) := (congrFun e_f23 se).trans (z_up_ne (Ne.symm ne_ct_se) hf_se)
      have hf_ow : f23 ow = .inl (cy 1, 5, .inl g2_14) := (congrFun e_f23 ow).trans (z_up_ne (z_tne hf_ow hf_ct (m := 140) (n := 132) rfl rfl (by decide)) hf_ow)
      have hf_mo : f23 mo = .inr (2, [.int v0, .int v1, .int v2, .int v3, .int v4, .int v5, .int v6, .ref la, .ref sa, .ref mi, .ref da]) := (congrFun e_f23 mo).trans (z_up_ne (z_tne hf_mo hf_ct (m := 2) (n := 132) rfl rfl (by decide)) hf_mo)
      have hf_la : f23 la = .inl (cy 1, 5, .inl gl) := (congrFun e_f23 la).trans (z_up_ne (z_tne hf_la hf_ct (m := 140) (n := 132) rfl rfl (by decide)) hf_la)
      have hf_sa : f23 sa = .inl (cy 1, 4, .inl gs) := (congrFun e_f23 sa).trans (z_up_ne (Ne.symm ne_ct_sa) hf_sa)
      have hf_da : f23 da = .inl (cy 4, 13, .inr (.inr (.inr (.inr gd)))) := (congrFun e_f23 da).trans (z_up_ne (z_tne hf_da hf_ct (m := 206) (n := 132) rfl rfl (by decide)) hf_da)
      have hd_da : z_Drv L f23 dv 13 := z_Drv_up hd_da e_f23 hf_ct (m := 132) rfl (by decide)
      have hf_ct : f23 ct = .inl (cy 1, 4, .inl (upd G17 K15.toNatClampNeg w21)) := (congrFun e_f23 ct).trans z_up_self
      have hfr : ∀ b ∈ L, b ≠ wk → b ≠ ks → b ≠ ct → b ≠ se → b ≠ ow → f23 b = f b := fun b hb h0 h1 h2 h3 h4 => (congrFun e_f23 b).trans (z_up_ne h2 (hfr b hb h0 h1 h2 h3 h4))
      obtain ⟨g22, e_g22⟩ : ∃ z, z = (upd G17 K15.toNatClampNeg w21) := ⟨_, rfl⟩
      rw [← e_g22] at hf_ct
      obtain ⟨k24, e_k24⟩ : ∃ z : Int32, z = K15 + 1 := ⟨_, rfl⟩
      refine lv_iinc (v := k24) (lv' := [(2, .int k24), (0, .ref wk), (1, .ref mo)]) hx hb dX8_begin_95 hl (k := 0) rfl (by rw [e_k24]; rfl) (by decide) rfl (fun ls hl => ?_)
      have i_k24 : k24.toInt = (K15.toInt + 1) := z_add e_k24 rfl (by decide) (by omega)
      refine lv_goto (tgt := 74) hx hb dX8_begin_98 (by decide) ?_
      exact ih_74 _ (by omega) _ _ _ ⟨k24, g22, f23, rfl, (by first | decide | omega), (by first | decide | omega), (z_updPk hk0 i_k24 e_g22 hi0 hv94), hw, hf_wk, hf_ks, hf_ct, hf_se, hf_ow, hf_mo, hf_la, hf_sa, hf_da, hfr, hd_da, (lv_sub hl [0, 1, 2] rfl)⟩
  · skip
    refine lv_iload_n hx hb dX8_begin_15 rfl (lv_at hl 0 rfl) ?_
    refine lv_bipush (v := 12) hx hb dX8_begin_16 (by decide) ?_
    refine z_icmp_gt (tgt := 56) hx hb rfl (show (12 : Int32).toInt = 12 by decide) dX8_begin_18 (by decide) (fun c25 => ?_) (fun c25 => ?_)
    · skip
      have hgkE := hi1
      refine lv_aload_n hx hb dX8_begin_56 rfl (lv_at hl 1 rfl) ?_
      refine z_get (C := RX8) (T := TX8) (N := 8) (ci := 8) (v := .ref se) hx hb hT zin_X8 hown hK hw hm_wk hf_wk rfl 3 (by decide) (hT _ kw_349) rfl dX8_begin_57 ?_
      refine lv_iconst (v := 0) hx hb dX8_begin_60 (by decide) ?_
      have hz26 := (show (0 : Int32).toInt = 0 by decide)
      refine z_callvS (cells := 0) (slots := 0) (As := [.ref se, .int 0]) (rest := []) ⟨hx, hb, hml, hown, hT⟩ (c_J7_fill_53178 l hm_se hf_se (by decide)) (va_cwS 2 hT (z_goodS (fun _ h => h) kw_771 kw_317 kw_91 kw_318) rfl rfl rfl (by decide +kernel) ⟨by decide, by decide⟩) z_mv hKK hw hA rfl hl.1 rfl (Nat.le_of_ble_eq_true rfl) dX8_begin_61 ⟨by decide, by decide⟩ (fun u H locs hp hw => ?_)
      obtain ⟨L27, f28⟩ := u
      obtain ⟨hsb, hfm, g2_29, ha_0, hp⟩ := hp
      have hsb : L = L27 := hsb
      subst hsb
      have hsb : ∀ b ∈ L, b ∈ L := fun _ h => h
      have hw : z_H D vwCl (z_A L sz) s.heap L f28 H locs := hw
      have hfr : ∀ b ∈ L, b ≠ wk → b ≠ ks → b ≠ ct → b ≠ se → b ≠ ow → f28 b = f b := fun b hb h0 h1 h2 h3 h4 => (hfm b hb h3).trans (hfr b hb h0 h1 h2 h3 h4)
      have hd_da : z_Drv L f28 dv 13 := z_Drv_fr hd_da hsb (fun b hb ht => hfm b hb (z_t0 ht hf_se (m := 132) rfl (by decide)))
      have hf_wk : f28 wk = .inr (8, [.ref ks, .int WN4, .ref ct, .ref se, .ref ow, .int wt, .int wd, .int wp]) := (hfm wk hm_wk (z_tne hf_wk hf_se (m := 8) (n := 132) rfl rfl (by decide))).trans hf_wk
      have hf_ks : f28 ks = .inl (cy 1, 13, .inl G5) := (hfm ks hm_ks (z_tne hf_ks hf_se (m := 204) (n := 132) rfl rfl (by decide))).trans hf_ks
      have hf_ct : f28 ct = .inl (cy 1, 4, .inl gc) := (hfm ct hm_ct ne_ct_se).trans hf_ct
      have hf_ow : f28 ow = .inl (cy 1, 5, .inl go) := (hfm ow hm_ow (z_tne hf_ow hf_se (m := 140) (n := 132) rfl rfl (by decide))).trans hf_ow
      have hf_mo : f28 mo = .inr (2, [.int v0, .int v1, .int v2, .int v3, .int v4, .int v5, .int v6, .ref la, .ref sa, .ref mi, .ref da]) := (hfm mo hm_mo (z_tne hf_mo hf_se (m := 2) (n := 132) rfl rfl (by decide))).trans hf_mo
      have hf_la : f28 la = .inl (cy 1, 5, .inl gl) := (hfm la hm_la (z_tne hf_la hf_se (m := 140) (n := 132) rfl rfl (by decide))).trans hf_la
      have hf_sa : f28 sa = .inl (cy 1, 4, .inl gs) := (hfm sa hm_sa (Ne.symm ne_se_sa)).trans hf_sa
      have hf_da : f28 da = .inl (cy 4, 13, .inr (.inr (.inr (.inr gd)))) := (hfm da hm_da (z_tne hf_da hf_se (m := 206) (n := 132) rfl rfl (by decide))).trans hf_da
      have hf_se : f28 se = .inl (cy 1, 4, .inl g2_29) := ha_0
      have hqE := z_upto_fill (N := 1000) (by decide) hp
      refine lv_aload_n hx hb dX8_begin_64 rfl (lv_at hl 1 rfl) ?_
      refine z_get (C := RX8) (T := TX8) (N := 8) (ci := 8) (v := .ref ow) hx hb hT zin_X8 hown hK hw hm_wk hf_wk rfl 4 (by decide) (hT _ kw_351) rfl dX8_begin_65 ?_
      refine lv_iconst (v := 0) hx hb dX8_begin_68 (by decide) ?_
      have hz30 := (show (0 : Int32).toInt = 0 by decide)
      refine z_callvS (cells := 0) (slots := 0) (As := [.ref ow, .int 0]) (rest := []) ⟨hx, hb, hml, hown, hT⟩ (c_J7_fill_53178 l hm_ow hf_ow (by decide)) (va_cwS 2 hT (z_goodS (fun _ h => h) kw_771 kw_317 kw_91 kw_318) rfl rfl rfl (by decide +kernel) ⟨by decide, by decide⟩) z_mv hKK hw hA rfl hl.1 rfl (Nat.le_of_ble_eq_true rfl) dX8_begin_69 ⟨by decide, by decide⟩ (fun u H locs hp hw => ?_)
      obtain ⟨L31, f32⟩ := u
      obtain ⟨hsb, hfm, g2_33, ha_0, hp⟩ := hp
      have hsb : L = L31 := hsb
      subst hsb
      have hsb : ∀ b ∈ L, b ∈ L := fun _ h => h
      have hw : z_H D vwCl (z_A L sz) s.heap L f32 H locs := hw
      have hfr : ∀ b ∈ L, b ≠ wk → b ≠ ks → b ≠ ct → b ≠ se → b ≠ ow → f32 b = f b := fun b hb h0 h1 h2 h3 h4 => (hfm b hb h4).trans (hfr b hb h0 h1 h2 h3 h4)
      have hd_da : z_Drv L f32 dv 13 := z_Drv_fr hd_da hsb (fun b hb ht => hfm b hb (z_t0 ht hf_ow (m := 140) rfl (by decide)))
      have hf_wk : f32 wk = .inr (8, [.ref ks, .int WN4, .ref ct, .ref se, .ref ow, .int wt, .int wd, .int wp]) := (hfm wk hm_wk (z_tne hf_wk hf_ow (m := 8) (n := 140) rfl rfl (by decide))).trans hf_wk
      have hf_ks : f32 ks = .inl (cy 1, 13, .inl G5) := (hfm ks hm_ks (z_tne hf_ks hf_ow (m := 204) (n := 140) rfl rfl (by decide))).trans hf_ks
      have hf_ct : f32 ct = .inl (cy 1, 4, .inl gc) := (hfm ct hm_ct (z_tne hf_ct hf_ow (m := 132) (n := 140) rfl rfl (by decide))).trans hf_ct
      have hf_se : f32 se = .inl (cy 1, 4, .inl g2_29) := (hfm se hm_se (z_tne hf_se hf_ow (m := 132) (n := 140) rfl rfl (by decide))).trans hf_se
      have hf_mo : f32 mo = .inr (2, [.int v0, .int v1, .int v2, .int v3, .int v4, .int v5, .int v6, .ref la, .ref sa, .ref mi, .ref da]) := (hfm mo hm_mo (z_tne hf_mo hf_ow (m := 2) (n := 140) rfl rfl (by decide))).trans hf_mo
      have hf_la : f32 la = .inl (cy 1, 5, .inl gl) := (hfm la hm_la (Ne.symm ne_ow_la)).trans hf_la
      have hf_sa : f32 sa = .inl (cy 1, 4, .inl gs) := (hfm sa hm_sa (z_tne hf_sa hf_ow (m := 132) (n := 140) rfl rfl (by decide))).trans hf_sa
      have hf_da : f32 da = .inl (cy 4, 13, .inr (.inr (.inr (.inr gd)))) := (hfm da hm_da (z_tne hf_da hf_ow (m := 206) (n := 140) rfl rfl (by decide))).trans hf_da
      have hf_ow : f32 ow = .inl (cy 1, 5, .inl g2_33) := ha_0
      refine lv_iconst (v := 0) hx hb dX8_begin_72 (by decide) ?_
      refine lv_istore_n (lv' := [(2, .int 0), (0, .ref wk), (1, .ref mo)]) hx hb dX8_begin_73 rfl hl (by decide) rfl (fun ls hl => ?_)
      have hzk : (0 : Int32).toInt = 0 := by decide
      refine z_loop (fun n H locs ls => ∃ (K34 : Int32) (G36 : Nat → Int32) (f35 : Nat → va_E), (n = (4 - K34.toInt).toNat) ∧ (0 ≤ K34.toInt) ∧ (K34.toInt ≤ 4) ∧ (∀ j : Nat, (j : Int) < K34.toInt → z_upto 1000 (G36 j)) ∧ (z_H D vwCl (z_A L sz) s.heap L f35 H locs) ∧ (f35 wk = .inr (8, [.ref ks, .int WN4, .ref ct, .ref se, .ref ow, .int wt, .int wd, .int wp])) ∧ (f35 ks = .inl (cy 1, 13, .inl G5)) ∧ (f35 ct = .inl (cy 1, 4, .inl G36)) ∧ (f35 se = .inl (cy 1, 4, .inl g2_29)) ∧ (f35 ow = .inl (cy 1, 5, .inl g2_33)) ∧ (f35 mo = .inr (2, [.int v0, .int v1, .int v2, .int v3, .int v4, .int v5, .int v6, .ref la, .ref sa, .ref mi, .ref da])) ∧ (f35 la = .inl (cy 1, 5, .inl gl)) ∧ (f35 sa = .inl (cy 1, 4, .inl gs)) ∧ (f35 da = .inl (cy 4, 13, .inr (.inr (.inr (.inr gd))))) ∧ (∀ b ∈ L, b ≠ wk → b ≠ ks → b ≠ ct → b ≠ se → b ≠ ow → f35 b = f b) ∧ (z_Drv L f35 dv 13) ∧ (lv_has ls 4 [(2, .int K34), (0, .ref wk), (1, .ref mo)])) _ ⟨0, gc, f32, rfl, (by first | decide | omega), (by first | decide | omega), (fun j hj => absurd hj (by rw [show (0 : Int32).toInt = 0 from rfl]; omega)), hw, hf_wk, hf_ks, hf_ct, hf_se, hf_ow, hf_mo, hf_la, hf_sa, hf_da, hfr, hd_da, (lv_sub hl [0, 1, 2] rfl)⟩ (fun n H locs ls hI ih_74 => ?_)
      obtain ⟨K34, G36, f35, hn, hk0, hk1, hi0, hw, hf_wk, hf_ks, hf_ct, hf_se, hf_ow, hf_mo, hf_la, hf_sa, hf_da, hfr, hd_da, hl⟩ := hI
      refine lv_iload_n hx hb dX8_begin_74 rfl (lv_at hl 0 rfl) ?_
      refine lv_iconst (v := 4) hx hb dX8_begin_75 (by decide) ?_
      refine z_icmp_ge (tgt := 101) hx hb rfl (show (4 : Int32).toInt = 4 by decide) dX8_begin_76 (by decide) (fun c37 => ?_) (fun c37 => ?_)
      · skip
        refine lv_aload_n hx hb dX8_begin_101 rfl (lv_at hl 1 rfl) ?_
        refine lv_iconst (v := 0) hx hb dX8_begin_102 (by decide) ?_
        refine z_put (C := RX8) (T := TX8) (N := 8) (ci := 8) (v := .int 0) (fs' := [.ref ks, .int WN4, .ref ct, .ref se, .ref ow, .int 0, .int wd, .int wp]) hx hb hT zin_X8 tyX8_ok nmX8 hown hK hw hm_wk hf_wk rfl 5 (by decide) (hT _ kw_354) rfl rfl rfl (Nat.le_of_ble_eq_true rfl) rfl dX8_begin_103 (fun H locs hw => ?_)
        obtain ⟨f38, e_f38⟩ : ∃ z, z = va_up f35 wk (.inr (8, [.ref ks, .int WN4, .ref ct, .ref se, .ref ow, .int 0, .int wd, .int wp])) := ⟨_, rfl⟩
        rw [← e_f38] at hw
        have hf_ks : f38 ks = .inl (cy 1, 13, .inl G5) := (congrFun e_f38 ks).trans (z_up_ne (z_tne hf_ks hf_wk (m := 204) (n := 8) rfl rfl (by decide)) hf_ks)
        have hf_ct : f38 ct = .inl (cy 1, 4, .inl G36) := (congrFun e_f38 ct).trans (z_up_ne (z_tne hf_ct hf_wk (m := 132) (n := 8) rfl rfl (by decide)) hf_ct)
        have hf_se : f38 se = .inl (cy 1, 4, .inl g2_29) := (congrFun e_f38 se).trans (z_up_ne (z_tne hf_se hf_wk (m := 132) (n := 8) rfl rfl (by decide)) hf_se)
        have hf_ow : f38 ow = .inl (cy 1, 5, .inl g2_33) := (congrFun e_f38 ow).trans (z_up_ne (z_tne hf_ow hf_wk (m := 140) (n := 8) rfl rfl (by decide)) hf_ow)
        have hf_mo : f38 mo = .inr (2, [.int v0, .int v1, .int v2, .int v3, .int v4, .int v5, .int v6, .ref la, .ref sa, .ref mi, .ref da]) := (congrFun e_f38 mo).trans (z_up_ne (z_tne hf_mo hf_wk (m := 2) (n := 8) rfl rfl (by decide)) hf_mo)
        have hf_la : f38 la = .inl (cy 1, 5, .inl gl) := (congrFun e_f38 la).trans (z_up_ne (z_tne hf_la hf_wk (m := 140) (n := 8) rfl rfl (by decide)) hf_la)
        have hf_sa : f38 sa = .inl (cy 1, 4, .inl gs) := (congrFun e_f38 sa).trans (z_up_ne (z_tne hf_sa hf_wk (m := 132) (n := 8) rfl rfl (by decide)) hf_sa)
        have hf_da : f38 da = .inl (cy 4, 13, .inr (.inr (.inr (.inr gd)))) := (congrFun e_f38 da).trans (z_up_ne (z_tne hf_da hf_wk (m := 206) (n := 8) rfl rfl (by decide)) hf_da)
        have hd_da : z_Drv L f38 dv 13 := z_Drv_up hd_da e_f38 hf_wk (m := 8) rfl (by decide)
        have hf_wk : f38 wk = .inr (8, [.ref ks, .int WN4, .ref ct, .ref se, .ref ow, .int 0, .int wd, .int wp]) := (congrFun e_f38 wk).trans z_up_self
        have hfr : ∀ b ∈ L, b ≠ wk → b ≠ ks → b ≠ ct → b ≠ se → b ≠ ow → f38 b = f b := fun b hb h0 h1 h2 h3 h4 => (congrFun e_f38 b).trans (z_up_ne h0 (hfr b hb h0 h1 h2 h3 h4))
        exact z_vret hx hb hr hlk (by decide) (by decide) hw (⟨hsub, hfr, WN4, 0, G5, G36, g2_29, g2_33, hf_wk, hf_ks, hf_ct, hf_se, hf_ow, by omega, hgkE, fun j hj => hi0 j (by omega), hqE⟩) dX8_begin_106
      · skip
        refine lv_aload_n hx hb dX8_begin_79 rfl (lv_at hl 1 rfl) ?_
        refine z_get (C := RX8) (T := TX8) (N := 8) (ci := 8) (v := .ref ct) hx hb hT zin_X8 hown hK hw hm_wk hf_wk rfl 2 (by decide) (hT _ kw_346) rfl dX8_begin_80 ?_
        refine lv_iload_n hx hb dX8_begin_83 rfl (lv_at hl 0 rfl) ?_
        refine lv_aload_n hx hb dX8_begin_84 rfl (lv_at hl 2 rfl) ?_
        refine z_get (C := RX2) (T := TX2) (N := 11) (ci := 2) (v := .ref sa) hx hb hT zin_X2 hown hK hw hm_mo hf_mo rfl 8 (by decide) (hT _ kw_237) rfl dX8_begin_85 ?_
        refine lv_aload_n hx hb dX8_begin_88 rfl (lv_at hl 2 rfl) ?_
        refine lv_iload_n hx hb dX8_begin_89 rfl (lv_at hl 0 rfl) ?_
        refine z_calliV (cells := 0) (slots := 0) (b := mo) (As := [.int K34]) (rest := [.ref sa, .int K34, .ref ct]) (ci := 2) (q0 := (RX2, TX2, 11)) ⟨hx, hb, hml, hown, hT⟩ (c_X2_counterOf l hm_mo hm_la hf_mo hf_la (by first | omega | decide | assumption)) (cwV 1 hT (z_goodV (fun _ h => h) kw_772 kw_773 kw_774 kw_87 kw_775) rfl rfl rfl (by decide +kernel) ⟨by decide, by decide⟩) z_mv hKK hK hw hA hm_mo hf_mo rfl rfl rfl hl.1 rfl (Nat.le_of_ble_eq_true rfl) dX8_begin_90 ⟨by decide, by decide⟩ (fun r39 u H locs hp hw => ?_)
        obtain ⟨rfl, hp⟩ := hp
        have hw : z_H D vwCl (z_A L sz) s.heap L f35 H locs := hw
        refine z_iald hx hb hK hw 1 hm_sa hf_sa rfl (z_ix rfl (by omega)) dX8_begin_93 ?_
        refine lv_topi (fun w40 e_w40 => ?_)
        have hv94 : z_upto 1000 w40 := z_upto_of (by rw [e_w40]; exact hgs _)
        refine z_iast hx hb hK hw 1 hm_ct hf_ct rfl (z_ix rfl (by omega)) dX8_begin_94 (fun H locs hw => ?_)
        obtain ⟨f42, e_f42⟩ : ∃ z, z = va_up f35 ct (.inl (cy 1, 4, .inl (upd G36 K34.toNatClampNeg w40))) := ⟨_, rfl⟩
        rw [← e_f42] at hw
        have hf_wk : f42 wk = .inr (8, [.ref ks, .int WN4, .ref ct, .ref se, .ref ow, .int wt, .int wd, .int wp]) := (congrFun e_f42 wk).trans (z_up_ne (z_tne hf_wk hf_ct (m := 8) (n := 132) rfl rfl (by decide)) hf_wk)
        have hf_ks : f42 ks = .inl (cy 1, 13, .inl G5) := (congrFun e_f42 ks).trans (z_up_ne (z_tne hf_ks hf_ct (m := 204) (n := 132) rfl rfl (by decide)) hf_ks)
        have hf_se : f42 se = .inl (cy 1, 4, .inl g2_29) := (congrFun e_f42 se).trans (z_up_ne (Ne.symm ne_ct_se) hf_se)
        have hf_ow : f42 ow = .inl (cy 1, 5, .inl g2_33) := (congrFun e_f42 ow).trans (z_up_ne (z_tne hf_ow hf_ct (m := 140) (n := 132) rfl rfl (by decide)) hf_ow)
        have hf_mo : f42 mo = .inr (2, [.int v0, .int v1, .int v2, .int v3, .int v4, .int v5, .int v6, .ref la, .ref sa, .ref mi, .ref da]) := (congrFun e_f42 mo).trans (z_up_ne (z_tne hf_mo hf_ct (m := 2) (n := 132) rfl rfl (by decide)) hf_mo)
        have hf_la : f42 la = .inl (cy 1, 5, .inl gl) := (congrFun e_f42 la).trans (z_up_ne (z_tne hf_la hf_ct (m := 140) (n := 132) rfl rfl (by decide)) hf_la)
        have hf_sa : f42 sa = .inl (cy 1, 4, .inl gs) := (congrFun e_f42 sa).trans (z_up_ne (Ne.symm ne_ct_sa) hf_sa)
        have hf_da : f42 da = .inl (cy 4, 13, .inr (.inr (.inr (.inr gd)))) := (congrFun e_f42 da).trans (z_up_ne (z_tne hf_da hf_ct (m := 206) (n := 132) rfl rfl (by decide)) hf_da)
        have hd_da : z_Drv L f42 dv 13 := z_Drv_up hd_da e_f42 hf_ct (m := 132) rfl (by decide)
        have hf_ct : f42 ct = .inl (cy 1, 4, .inl (upd G36 K34.toNatClampNeg w40)) := (congrFun e_f42 ct).trans z_up_self
        have hfr : ∀ b ∈ L, b ≠ wk → b ≠ ks → b ≠ ct → b ≠ se → b ≠ ow → f42 b = f b := fun b hb h0 h1 h2 h3 h4 => (congrFun e_f42 b).trans (z_up_ne h2 (hfr b hb h0 h1 h2 h3 h4))
        obtain ⟨g41, e_g41⟩ : ∃ z, z = (upd G36 K34.toNatClampNeg w40) := ⟨_, rfl⟩
        rw [← e_g41] at hf_ct
        obtain ⟨k43, e_k43⟩ : ∃ z : Int32, z = K34 + 1 := ⟨_, rfl⟩
        refine lv_iinc (v := k43) (lv' := [(2, .int k43), (0, .ref wk), (1, .ref mo)]) hx hb dX8_begin_95 hl (k := 0) rfl (by rw [e_k43]; rfl) (by decide) rfl (fun ls hl => ?_)
        have i_k43 : k43.toInt = (K34.toInt + 1) := z_add e_k43 rfl (by decide) (by omega)
        refine lv_goto (tgt := 74) hx hb dX8_begin_98 (by decide) ?_
        exact ih_74 _ (by omega) _ _ _ ⟨k43, g41, f42, rfl, (by first | decide | omega), (by first | decide | omega), (z_updPk hk0 i_k43 e_g41 hi0 hv94), hw, hf_wk, hf_ks, hf_ct, hf_se, hf_ow, hf_mo, hf_la, hf_sa, hf_da, hfr, hd_da, (lv_sub hl [0, 1, 2] rfl)⟩
    · skip
      refine lv_aload_n hx hb dX8_begin_21 rfl (lv_at hl 2 rfl) ?_
      refine lv_iload_n hx hb dX8_begin_22 rfl (lv_at hl 0 rfl) ?_
      refine z_calliV (cells := 0) (slots := 0) (b := mo) (As := [.int K2]) (rest := []) (ci := 2) (q0 := (RX2, TX2, 11)) ⟨hx, hb, hml, hown, hT⟩ (c_X2_passage l hm_mo hm_da hf_mo hf_da hg_da hd_da (by first | omega | decide | assumption) (by first | omega | decide | assumption)) (cwV 1 hT (z_goodV (fun _ h => h) kw_763 kw_718 kw_719 kw_87 kw_720) rfl rfl rfl (by decide +kernel) ⟨by decide, by decide⟩) z_mv hKK hK hw hA hm_mo hf_mo rfl rfl rfl hl.1 rfl (Nat.le_of_ble_eq_true rfl) dX8_begin_23 ⟨by decide, by decide⟩ (fun r44 u H locs hp hw => ?_)
      obtain ⟨rfl, hp⟩ := hp
      have hw : z_H D vwCl (z_A L sz) s.heap L f3 H locs := hw
      refine lv_istore_n (lv' := [(3, .int r44), (2, .int K2), (0, .ref wk), (1, .ref mo)]) hx hb dX8_begin_26 rfl hl (by decide) rfl (fun ls hl => ?_)
      refine lv_iload_n hx hb dX8_begin_27 rfl (lv_at hl 0 rfl) ?_
      refine lv_iconst (v := (-1)) hx hb dX8_begin_28 (by decide) ?_
      refine z_icmp_eq (tgt := 50) hx hb rfl (show ((-1) : Int32).toInt = (-1) by decide) dX8_begin_29 (by decide) (fun c45 => ?_) (fun c45 => ?_)
      · skip
        obtain ⟨k46, e_k46⟩ : ∃ z : Int32, z = K2 + 1 := ⟨_, rfl⟩
        refine lv_iinc (v := k46) (lv' := [(2, .int k46), (3, .int r44), (0, .ref wk), (1, .ref mo)]) hx hb dX8_begin_50 hl (k := 1) rfl (by rw [e_k46]; rfl) (by decide) rfl (fun ls hl => ?_)
        have i_k46 : k46.toInt = (K2.toInt + 1) := z_add e_k46 rfl (by decide) (by omega)
        refine lv_goto (tgt := 7) hx hb dX8_begin_53 (by decide) ?_
        exact ih_7 _ (by omega) _ _ _ ⟨k46, G5, WN4, f3, rfl, (by first | decide | omega), (by first | decide | omega), (by omega), hi1, hw, hf_wk, hf_ks, hf_ct, hf_se, hf_ow, hf_mo, hf_la, hf_sa, hf_da, hfr, hd_da, (lv_sub hl [0, 2, 3] rfl)⟩
      · skip
        refine lv_aload_n hx hb dX8_begin_32 rfl (lv_at hl 2 rfl) ?_
        refine lv_iload_n hx hb dX8_begin_33 rfl (lv_at hl 0 rfl) ?_
        refine lv_aload_n hx hb dX8_begin_34 rfl (lv_at hl 3 rfl) ?_
        refine z_get (C := RX2) (T := TX2) (N := 11) (ci := 2) (v := .ref da) hx hb hT zin_X2 hown hK hw hm_mo hf_mo rfl 10 (by decide) (hT _ kw_246) rfl dX8_begin_35 ?_
        refine lv_iload_n hx hb dX8_begin_38 rfl (lv_at hl 1 rfl) ?_
        obtain ⟨dq47, e_dq47⟩ : ∃ z, z = dv K2.toNatClampNeg := ⟨_, rfl⟩
        have hi_dq47 : K2.toNatClampNeg < 13 := z_clI rfl (by omega)
        refine z_aald (b := dq47) hx hb hK hw 4 hm_da hf_da rfl (z_ix rfl (by omega)) (by rw [e_dq47]; exact hg_da _ hi_dq47) dX8_begin_39 ?_
        obtain ⟨hm_dq47, do48, dg49, dd50, dh51, ds52, dl53, dp54, dm55, hf_dq47, hr_do48, hr_dg49, hr_dd50, hr_dh51, hr_ds52, hr_dl53, hr_dp54, hr_dm55⟩ := hd_da _ hi_dq47
        rw [← e_dq47] at hm_dq47 hf_dq47
        refine z_get (C := RX0) (T := TX0) (N := 8) (ci := 0) (v := .int dg49) hx hb hT zin_X0 hown hK hw hm_dq47 hf_dq47 rfl 1 (by decide) (hT _ kw_148) rfl dX8_begin_40 ?_
        refine lv_iload_n hx hb dX8_begin_43 rfl (lv_at hl 1 rfl) ?_
        refine z_calliS (cells := 0) (slots := 0) (As := [.int r44, .int dg49, .int K2]) (rest := [.ref wk]) ⟨hx, hb, hml, hown, hT⟩ (c_X8_keyOf l (by first | omega | decide | assumption) (by first | omega | decide | assumption) (by first | omega | decide | assumption)) (va_cwS 3 hT (z_goodS (fun _ h => h) kw_764 kw_765 kw_92 kw_766) rfl rfl rfl (by decide +kernel) ⟨by decide, by decide⟩) z_mv hKK hw hA rfl hl.1 rfl (Nat.le_of_ble_eq_true rfl) dX8_begin_44 ⟨by decide, by decide⟩ (fun r56 u H locs hp hw => ?_)
        obtain ⟨rfl, hp⟩ := hp
        have hw : z_H D vwCl (z_A L sz) s.heap L f3 H locs := hw
        have hky := hp
        refine z_callvV (cells := 0) (slots := 0) (b := wk) (As := [.int r56]) (rest := []) (ci := 8) (q0 := (RX8, TX8, 8)) ⟨hx, hb, hml, hown, hT⟩ (c_X8_lineUp l hm_wk hm_ks hf_wk hf_ks (by first | omega | decide | assumption) hky hi1) (cwV 1 hT (z_goodV (fun _ h => h) kw_767 kw_769 kw_15 kw_92 kw_770) rfl rfl rfl (by decide +kernel) ⟨by decide, by decide⟩) z_mv hKK hK hw hA hm_wk hf_wk rfl rfl rfl hl.1 rfl (Nat.le_of_ble_eq_true rfl) dX8_begin_47 ⟨by decide, by decide⟩ (fun u H locs hp hw => ?_)
        obtain ⟨L57, f58⟩ := u
        obtain ⟨hsb, hfm, w2_59, g2_60, ha_0, ha_1, hp⟩ := hp
        have hsb : L = L57 := hsb
        subst hsb
        have hsb : ∀ b ∈ L, b ∈ L := fun _ h => h
        have hw : z_H D vwCl (z_A L sz) s.heap L f58 H locs := hw
        have hfr : ∀ b ∈ L, b ≠ wk → b ≠ ks → b ≠ ct → b ≠ se → b ≠ ow → f58 b = f b := fun b hb h0 h1 h2 h3 h4 => (hfm b hb h0 h1).trans (hfr b hb h0 h1 h2 h3 h4)
        have hd_da : z_Drv L f58 dv 13 := z_Drv_fr hd_da hsb (fun b hb ht => hfm b hb (z_t0 ht hf_wk (m := 8) rfl (by decide)) (z_t0 ht hf_ks (m := 204) rfl (by decide)))
        have hf_ct : f58 ct = .inl (cy 1, 4, .inl gc) := (hfm ct hm_ct (z_tne hf_ct hf_wk (m := 132) (n := 8) rfl rfl (by decide)) (z_tne hf_ct hf_ks (m := 132) (n := 204) rfl rfl (by decide))).trans hf_ct
        have hf_se : f58 se = .inl (cy 1, 4, .inl gq) := (hfm se hm_se (z_tne hf_se hf_wk (m := 132) (n := 8) rfl rfl (by decide)) (z_tne hf_se hf_ks (m := 132) (n := 204) rfl rfl (by decide))).trans hf_se
        have hf_ow : f58 ow = .inl (cy 1, 5, .inl go) := (hfm ow hm_ow (z_tne hf_ow hf_wk (m := 140) (n := 8) rfl rfl (by decide)) (z_tne hf_ow hf_ks (m := 140) (n := 204) rfl rfl (by decide))).trans hf_ow
        have hf_mo : f58 mo = .inr (2, [.int v0, .int v1, .int v2, .int v3, .int v4, .int v5, .int v6, .ref la, .ref sa, .ref mi, .ref da]) := (hfm mo hm_mo (z_tne hf_mo hf_wk (m := 2) (n := 8) rfl rfl (by decide)) (z_tne hf_mo hf_ks (m := 2) (n := 204) rfl rfl (by decide))).trans hf_mo
        have hf_la : f58 la = .inl (cy 1, 5, .inl gl) := (hfm la hm_la (z_tne hf_la hf_wk (m := 140) (n := 8) rfl rfl (by decide)) (z_tne hf_la hf_ks (m := 140) (n := 204) rfl rfl (by decide))).trans hf_la
        have hf_sa : f58 sa = .inl (cy 1, 4, .inl gs) := (hfm sa hm_sa (z_tne hf_sa hf_wk (m := 132) (n := 8) rfl rfl (by decide)) (z_tne hf_sa hf_ks (m := 132) (n := 204) rfl rfl (by decide))).trans hf_sa
        have hf_da : f58 da = .inl (cy 4, 13, .inr (.inr (.inr (.inr gd)))) := (hfm da hm_da (z_tne hf_da hf_wk (m := 206) (n := 8) rfl rfl (by decide)) (z_tne hf_da hf_ks (m := 206) (n := 204) rfl rfl (by decide))).trans hf_da
        have hf_dq47 : f58 dq47 = .inr (0, [.int do48, .int dg49, .int dd50, .int dh51, .int ds52, .int dl53, .int dp54, .int dm55]) := (hfm dq47 hm_dq47 (z_tne hf_dq47 hf_wk (m := 0) (n := 8) rfl rfl (by decide)) (z_tne hf_dq47 hf_ks (m := 0) (n := 204) rfl rfl (by decide))).trans hf_dq47
        have hf_wk : f58 wk = .inr (8, [.ref ks, .int w2_59, .ref ct, .ref se, .ref ow, .int wt, .int wd, .int wp]) := ha_0
        have hf_ks : f58 ks = .inl (cy 1, 13, .inl g2_60) := ha_1
        have hwn2 := hp.1
        have hks2 := hp.2
        obtain ⟨k61, e_k61⟩ : ∃ z : Int32, z = K2 + 1 := ⟨_, rfl⟩
        refine lv_iinc (v := k61) (lv' := [(2, .int k61), (3, .int r44), (0, .ref wk), (1, .ref mo)]) hx hb dX8_begin_50 hl (k := 1) rfl (by rw [e_k61]; rfl) (by decide) rfl (fun ls hl => ?_)
        have i_k61 : k61.toInt = (K2.toInt + 1) := z_add e_k61 rfl (by decide) (by omega)
        refine lv_goto (tgt := 7) hx hb dX8_begin_53 (by decide) ?_
        exact ih_7 _ (by omega) _ _ _ ⟨k61, g2_60, w2_59, f58, rfl, (by first | decide | omega), (by first | decide | omega), (by omega), hks2, hw, hf_wk, hf_ks, hf_ct, hf_se, hf_ow, hf_mo, hf_la, hf_sa, hf_da, hfr, hd_da, (lv_sub hl [0, 2, 3] rfl)⟩

set_option maxHeartbeats 2000000 in
set_option maxRecDepth 100000 in
theorem c_X8_goAheadN (l : Launch) {D : va_G} {cy : Nat → ClassId} {L : List Nat} {f : Nat → va_E} {sz : Nat} {adK adV : Nat → Nat} {wk ks ct se ow : Nat} {wn wt wd wp : Int32} {gk gc gq go : Nat → Int32} {mo la sa mi da : Nat} {v0 v1 v2 v3 v4 v5 v6 : Int32} {gl gs gm : Nat → Int32} {gd : Nat → Option Nat} {dv : Nat → Nat} {ga dy : Int32} (hm_wk : wk ∈ L) (hm_ks : ks ∈ L) (hm_ct : ct ∈ L) (hm_se : se ∈ L) (hm_ow : ow ∈ L) (hm_mo : mo ∈ L) (hm_la : la ∈ L) (hm_sa : sa ∈ L) (hm_mi : mi ∈ L) (hm_da : da ∈ L) (hf_wk : f wk = .inr (8, [.ref ks, .int wn, .ref ct, .ref se, .ref ow, .int wt, .int wd, .int wp])) (hf_ks : f ks = .inl (cy 1, 13, .inl gk)) (hf_ct : f ct = .inl (cy 1, 4, .inl gc)) (hf_se : f se = .inl (cy 1, 4, .inl gq)) (hf_ow : f ow = .inl (cy 1, 5, .inl go)) (hf_mo : f mo = .inr (2, [.int v0, .int v1, .int v2, .int v3, .int v4, .int v5, .int v6, .ref la, .ref sa, .ref mi, .ref da])) (hf_la : f la = .inl (cy 1, 5, .inl gl)) (hf_sa : f sa = .inl (cy 1, 4, .inl gs)) (hf_mi : f mi = .inl (cy 1, 36, .inl gm)) (hf_da : f da = .inl (cy 4, 13, .inr (.inr (.inr (.inr gd))))) (ne_ct_se : ct ≠ se) (ne_ct_sa : ct ≠ sa) (ne_se_sa : se ≠ sa) (ne_ow_la : ow ≠ la) (hg_da : ∀ i : Nat, i < 13 → gd i = some (dv i)) (hd_da : z_Drv L f dv 13) (hv2 : 0 ≤ v2.toInt ∧ v2.toInt ≤ 9) (hv5 : 0 ≤ v5.toInt ∧ v5.toInt ≤ 13) (hgk : ∀ j : Nat, z_key (gk j)) (hgm : ∀ j : Nat, 0 ≤ (gm j).toInt ∧ (gm j).toInt ≤ 9) (hgl : ∀ j : Nat, 0 ≤ (gl j).toInt ∧ (gl j).toInt ≤ 999) (hgs : ∀ j : Nat, 0 ≤ (gs j).toInt ∧ (gs j).toInt ≤ 999) : Met l yX8_goAhead (z_ws yX8_goAhead cX8_goAhead 6 none) (z_R 4 0 0) (va_Pc [.ref wk, .ref mo, .int ga, .int dy] (z_Pre D vwCl (z_KK D cy adK adV) L f sz)) (z_Qv D vwCl (fun u => L = u.1 ∧ (∀ b ∈ L, b ≠ wk → b ≠ ks → b ≠ ct → b ≠ se → b ≠ ow → u.2 b = f b) ∧ (∃ (w2 t2 : Int32) (k2 c2 q2 o2 : Nat → Int32), (u.2 wk = .inr (8, [.ref ks, .int w2, .ref ct, .ref se, .ref ow, .int t2, .int wd, .int wp])) ∧ (u.2 ks = .inl (cy 1, 13, .inl k2)) ∧ (u.2 ct = .inl (cy 1, 4, .inl c2)) ∧ (u.2 se = .inl (cy 1, 4, .inl q2)) ∧ (u.2 ow = .inl (cy 1, 5, .inl o2)) ∧ ((0 ≤ w2.toInt ∧ w2.toInt ≤ 13) ∧ (∀ j : Nat, z_key (k2 j)) ∧ (∀ j : Nat, j < 4 → z_upto (20000) (c2 j)) ∧ (∀ j : Nat, j < 4 → z_upto (20000) (q2 j))))) L sz) 0 0 (z_A L sz) := by
  refine z_met (cc := cX8_goAhead) (maxL := 6) (ret := none) (lv := [(0, .ref wk), (1, .ref mo), (2, .int ga), (3, .int dy)]) (by decide) rfl (Nat.le_of_ble_eq_true rfl) rfl ?_
  intro p e s m below meth c ls hx hb hr hlk hml hown hnm hts hKK hA hw hl
  have hK := hKK.1.1
  have hown : s.vm.findClass RX8 = some m.cls := hown
  have hT : ∀ w ∈ lw_all, w.before ([.ref wk, .ref mo, .int ga, .int dy] : List Value).toArray s = true := fun w h => hts w (z_cons w h)
  have hsub : L = L := rfl
  have hfr : ∀ b ∈ L, b ≠ wk → b ≠ ks → b ≠ ct → b ≠ se → b ≠ ow → f b = f b := fun _ _ _ _ _ _ _ => rfl
  refine lv_aload_n hx hb dX8_goAhead_0 rfl (lv_at hl 0 rfl) ?_
  refine lv_aload_n hx hb dX8_goAhead_1 rfl (lv_at hl 1 rfl) ?_
  refine z_callvV (cells := 0) (slots := 0) (b := wk) (As := [.ref mo]) (rest := []) (ci := 8) (q0 := (RX8, TX8, 8)) ⟨hx, hb, hml, hown, hT⟩ (c_X8_beginN l hm_wk hm_ks hm_ct hm_se hm_ow hm_mo hm_la hm_sa hm_da hf_wk hf_ks hf_ct hf_se hf_ow hf_mo hf_la hf_sa hf_da ne_ct_se ne_ct_sa ne_se_sa ne_ow_la hg_da hd_da (by first | omega | decide | assumption) (by first | omega | decide | assumption) hgk hgs) (cwV 1 hT (z_goodV (fun _ h => h) kw_759 kw_760 kw_761 kw_92 kw_762) rfl rfl rfl (by decide +kernel) ⟨by decide, by decide⟩) z_mv hKK hK hw hA hm_wk hf_wk rfl rfl rfl hl.1 rfl (Nat.le_of_ble_eq_true rfl) dX8_goAhead_2 ⟨by decide, by decide⟩ (fun u H locs hp hw => ?_)
  obtain ⟨L1, f2⟩ := u
  obtain ⟨hsb, hfm, w2_3, t2_4, k2_5, c2_6, q2_7, o2_8, ha_0, ha_1, ha_2, ha_3, ha_4, hp⟩ := hp
  have hsb : L = L1 := hsb
  subst hsb
  have hsb : ∀ b ∈ L, b ∈ L := fun _ h => h
  have hw : z_H D vwCl (z_A L sz) s.heap L f2 H locs := hw
  have hfr : ∀ b ∈ L, b ≠ wk → b ≠ ks → b ≠ ct → b ≠ se → b ≠ ow → f2 b = f b := fun b hb h0 h1 h2 h3 h4 => (hfm b hb h0 h1 h2 h3 h4).trans (hfr b hb h0 h1 h2 h3 h4)
  have hd_da : z_Drv L f2 dv 13 := z_Drv_fr hd_da hsb (fun b hb ht => hfm b hb (z_t0 ht hf_wk (m := 8) rfl (by decide)) (z_t0 ht hf_ks (m := 204) rfl (by decide)) (z_t0 ht hf_ct (m := 132) rfl (by decide)) (z_t0 ht hf_se (m := 132) rfl (by decide)) (z_t0 ht hf_ow (m := 140) rfl (by decide)))
  have hf_mo : f2 mo = .inr (2, [.int v0, .int v1, .int v2, .int v3, .int v4, .int v5, .int v6, .ref la, .ref sa, .ref mi, .ref da]) := (hfm mo hm_mo (z_tne hf_mo hf_wk (m := 2) (n := 8) rfl rfl (by decide)) (z_tne hf_mo hf_ks (m := 2) (n := 204) rfl rfl (by decide)) (z_tne hf_mo hf_ct (m := 2) (n := 132) rfl rfl (by decide)) (z_tne hf_mo hf_se (m := 2) (n := 132) rfl rfl (by decide)) (z_tne hf_mo hf_ow (m := 2) (n := 140) rfl rfl (by decide))).trans hf_mo
  have hf_la : f2 la = .inl (cy 1, 5, .inl gl) := (hfm la hm_la (z_tne hf_la hf_wk (m := 140) (n := 8) rfl rfl (by decide)) (z_tne hf_la hf_ks (m := 140) (n := 204) rfl rfl (by decide)) (z_tne hf_la hf_ct (m := 140) (n := 132) rfl rfl (by decide)) (z_tne hf_la hf_se (m := 140) (n := 132) rfl rfl (by decide)) (Ne.symm ne_ow_la)).trans hf_la
  have hf_sa : f2 sa = .inl (cy 1, 4, .inl gs) := (hfm sa hm_sa (z_tne hf_sa hf_wk (m := 132) (n := 8) rfl rfl (by decide)) (z_tne hf_sa hf_ks (m := 132) (n := 204) rfl rfl (by decide)) (Ne.symm ne_ct_sa) (Ne.symm ne_se_sa) (z_tne hf_sa hf_ow (m := 132) (n := 140) rfl rfl (by decide))).trans hf_sa
  have hf_mi : f2 mi = .inl (cy 1, 36, .inl gm) := (hfm mi hm_mi (z_tne hf_mi hf_wk (m := 388) (n := 8) rfl rfl (by decide)) (z_tne hf_mi hf_ks (m := 388) (n := 204) rfl rfl (by decide)) (z_tne hf_mi hf_ct (m := 388) (n := 132) rfl rfl (by decide)) (z_tne hf_mi hf_se (m := 388) (n := 132) rfl rfl (by decide)) (z_tne hf_mi hf_ow (m := 388) (n := 140) rfl rfl (by decide))).trans hf_mi
  have hf_da : f2 da = .inl (cy 4, 13, .inr (.inr (.inr (.inr gd)))) := (hfm da hm_da (z_tne hf_da hf_wk (m := 206) (n := 8) rfl rfl (by decide)) (z_tne hf_da hf_ks (m := 206) (n := 204) rfl rfl (by decide)) (z_tne hf_da hf_ct (m := 206) (n := 132) rfl rfl (by decide)) (z_tne hf_da hf_se (m := 206) (n := 132) rfl rfl (by decide)) (z_tne hf_da hf_ow (m := 206) (n := 140) rfl rfl (by decide))).trans hf_da
  have hf_wk : f2 wk = .inr (8, [.ref ks, .int w2_3, .ref ct, .ref se, .ref ow, .int t2_4, .int wd, .int wp]) := ha_0
  have hf_ks : f2 ks = .inl (cy 1, 13, .inl k2_5) := ha_1
  have hf_ct : f2 ct = .inl (cy 1, 4, .inl c2_6) := ha_2
  have hf_se : f2 se = .inl (cy 1, 4, .inl q2_7) := ha_3
  have hf_ow : f2 ow = .inl (cy 1, 5, .inl o2_8) := ha_4
  have hbg := hp
  refine lv_iconst (v := 0) hx hb dX8_goAhead_5 (by decide) ?_
  refine lv_istore (lv' := [(4, .int 0), (0, .ref wk), (1, .ref mo), (2, .int ga), (3, .int dy)]) hx hb dX8_goAhead_6 hl (by decide) rfl (fun ls hl => ?_)
  have hzk : (0 : Int32).toInt = 0 := by decide
  refine z_loop (fun n H locs ls => ∃ (K9 : Int32) (G12 : Nat → Int32) (G13 : Nat → Int32) (G14 : Nat → Int32) (WT11 : Int32) (f10 : Nat → va_E), (n = (w2_3.toInt - K9.toInt).toNat) ∧ (0 ≤ K9.toInt) ∧ (K9.toInt ≤ w2_3.toInt) ∧ (∀ j : Nat, j < 4 → z_upto (1000 + 1000 * K9.toInt) (G12 j)) ∧ (∀ j : Nat, j < 4 → z_upto (1000 + 1000 * K9.toInt) (G13 j)) ∧ (z_H D vwCl (z_A L sz) s.heap L f10 H locs) ∧ (f10 wk = .inr (8, [.ref ks, .int w2_3, .ref ct, .ref se, .ref ow, .int WT11, .int wd, .int wp])) ∧ (f10 ks = .inl (cy 1, 13, .inl k2_5)) ∧ (f10 ct = .inl (cy 1, 4, .inl G12)) ∧ (f10 se = .inl (cy 1, 4, .inl G13)) ∧ (f10 ow = .inl (cy 1, 5, .inl G14)) ∧ (f10 mo = .inr (2, [.int v0, .int v1, .int v2, .int v3, .int v4, .int v5, .int v6, .ref la, .ref sa, .ref mi, .ref da])) ∧ (f10 la = .inl (cy 1, 5, .inl gl)) ∧ (f10 sa = .inl (cy 1, 4, .inl gs)) ∧ (f10 mi = .inl (cy 1, 36, .inl gm)) ∧ (f10 da = .inl (cy 4, 13, .inr (.inr (.inr (.inr gd))))) ∧ (∀ b ∈ L, b ≠ wk → b ≠ ks → b ≠ ct → b ≠ se → b ≠ ow → f10 b = f b) ∧ (z_Drv L f10 dv 13) ∧ (lv_has ls 6 [(4, .int K9), (0, .ref wk), (1, .ref mo), (2, .int ga), (3, .int dy)])) _ ⟨0, c2_6, q2_7, o2_8, t2_4, f2, rfl, (by first | decide | omega), (by first | decide | omega), (z_upto_mono (by omega) hbg.2.2.1), (z_upto_mono (by omega) hbg.2.2.2), hw, hf_wk, hf_ks, hf_ct, hf_se, hf_ow, hf_mo, hf_la, hf_sa, hf_mi, hf_da, hfr, hd_da, (lv_sub hl [0, 1, 2, 3, 4] rfl)⟩ (fun n H locs ls hI ih_8 => ?_)
  obtain ⟨K9, G12, G13, G14, WT11, f10, hn, hk0, hk1, hi0, hi1, hw, hf_wk, hf_ks, hf_ct, hf_se, hf_ow, hf_mo, hf_la, hf_sa, hf_mi, hf_da, hfr, hd_da, hl⟩ := hI
  refine lv_iload hx hb dX8_goAhead_8 (lv_at hl 0 rfl) ?_
  refine lv_aload_n hx hb dX8_goAhead_10 rfl (lv_at hl 1 rfl) ?_
  refine z_get (C := RX8) (T := TX8) (N := 8) (ci := 8) (v := .int w2_3) hx hb hT zin_X8 hown hK hw hm_wk hf_wk rfl 1 (by decide) (hT _ kw_345) rfl dX8_goAhead_11 ?_
  refine z_icmp_ge (tgt := 77) hx hb rfl rfl dX8_goAhead_14 (by decide) (fun c15 => ?_) (fun c15 => ?_)
  · skip
    refine lv_aload_n hx hb dX8_goAhead_77 rfl (lv_at hl 1 rfl) ?_
    refine lv_aload_n hx hb dX8_goAhead_78 rfl (lv_at hl 2 rfl) ?_
    refine lv_iload_n hx hb dX8_goAhead_79 rfl (lv_at hl 4 rfl) ?_
    refine z_callvV (cells := 0) (slots := 0) (b := wk) (As := [.ref mo, .int dy]) (rest := []) (ci := 8) (q0 := (RX8, TX8, 8)) ⟨hx, hb, hml, hown, hT⟩ (c_X8_dawnN l hm_wk hm_ct hm_se hm_mo hm_la hf_wk hf_ct hf_se hf_mo hf_la ne_ct_se hi0 hi1 (by first | omega | decide | assumption)) (cwV 2 hT (z_goodV (fun _ h => h) kw_786 kw_787 kw_788 kw_92 kw_789) rfl rfl rfl (by decide +kernel) ⟨by decide, by decide⟩) z_mv hKK hK hw hA hm_wk hf_wk rfl rfl rfl hl.1 rfl (Nat.le_of_ble_eq_true rfl) dX8_goAhead_80 ⟨by decide, by decide⟩ (fun u H locs hp hw => ?_)
    obtain ⟨L16, f17⟩ := u
    obtain ⟨hsb, hfm, t2_18, g2_19, g3_20, ha_0, ha_1, ha_2, hp⟩ := hp
    have hsb : L = L16 := hsb
    subst hsb
    have hsb : ∀ b ∈ L, b ∈ L := fun _ h => h
    have hw : z_H D vwCl (z_A L sz) s.heap L f17 H locs := hw
    have hfr : ∀ b ∈ L, b ≠ wk → b ≠ ks → b ≠ ct → b ≠ se → b ≠ ow → f17 b = f b := fun b hb h0 h1 h2 h3 h4 => (hfm b hb h0 h2 h3).trans (hfr b hb h0 h1 h2 h3 h4)
    have hd_da : z_Drv L f17 dv 13 := z_Drv_fr hd_da hsb (fun b hb ht => hfm b hb (z_t0 ht hf_wk (m := 8) rfl (by decide)) (z_t0 ht hf_ct (m := 132) rfl (by decide)) (z_t0 ht hf_se (m := 132) rfl (by decide)))
    have hf_ks : f17 ks = .inl (cy 1, 13, .inl k2_5) := (hfm ks hm_ks (z_tne hf_ks hf_wk (m := 204) (n := 8) rfl rfl (by decide)) (z_tne hf_ks hf_ct (m := 204) (n := 132) rfl rfl (by decide)) (z_tne hf_ks hf_se (m := 204) (n := 132) rfl rfl (by decide))).trans hf_ks
    have hf_ow : f17 ow = .inl (cy 1, 5, .inl G14) := (hfm ow hm_ow (z_tne hf_ow hf_wk (m := 140) (n := 8) rfl rfl (by decide)) (z_tne hf_ow hf_ct (m := 140) (n := 132) rfl rfl (by decide)) (z_tne hf_ow hf_se (m := 140) (n := 132) rfl rfl (by decide))).trans hf_ow
    have hf_mo : f17 mo = .inr (2, [.int v0, .int v1, .int v2, .int v3, .int v4, .int v5, .int v6, .ref la, .ref sa, .ref mi, .ref da]) := (hfm mo hm_mo (z_tne hf_mo hf_wk (m := 2) (n := 8) rfl rfl (by decide)) (z_tne hf_mo hf_ct (m := 2) (n := 132) rfl rfl (by decide)) (z_tne hf_mo hf_se (m := 2) (n := 132) rfl rfl (by decide))).trans hf_mo
    have hf_la : f17 la = .inl (cy 1, 5, .inl gl) := (hfm la hm_la (z_tne hf_la hf_wk (m := 140) (n := 8) rfl rfl (by decide)) (z_tne hf_la hf_ct (m := 140) (n := 132) rfl rfl (by decide)) (z_tne hf_la hf_se (m := 140) (n := 132) rfl rfl (by decide))).trans hf_la
    have hf_sa : f17 sa = .inl (cy 1, 4, .inl gs) := (hfm sa hm_sa (z_tne hf_sa hf_wk (m := 132) (n := 8) rfl rfl (by decide)) (Ne.symm ne_ct_sa) (Ne.symm ne_se_sa)).trans hf_sa
    have hf_mi : f17 mi = .inl (cy 1, 36, .inl gm) := (hfm mi hm_mi (z_tne hf_mi hf_wk (m := 388) (n := 8) rfl rfl (by decide)) (z_tne hf_mi hf_ct (m := 388) (n := 132) rfl rfl (by decide)) (z_tne hf_mi hf_se (m := 388) (n := 132) rfl rfl (by decide))).trans hf_mi
    have hf_da : f17 da = .inl (cy 4, 13, .inr (.inr (.inr (.inr gd)))) := (hfm da hm_da (z_tne hf_da hf_wk (m := 206) (n := 8) rfl rfl (by decide)) (z_tne hf_da hf_ct (m := 206) (n := 132) rfl rfl (by decide)) (z_tne hf_da hf_se (m := 206) (n := 132) rfl rfl (by decide))).trans hf_da
    have hf_wk : f17 wk = .inr (8, [.ref ks, .int w2_3, .ref ct, .ref se, .ref ow, .int t2_18, .int wd, .int wp]) := ha_0
    have hf_ct : f17 ct = .inl (cy 1, 4, .inl g2_19) := ha_1
    have hf_se : f17 se = .inl (cy 1, 4, .inl g3_20) := ha_2
    have hdw := hp
    exact z_vret hx hb hr hlk (by decide) (by decide) hw (⟨hsub, hfr, w2_3, t2_18, k2_5, g2_19, g3_20, G14, hf_wk, hf_ks, hf_ct, hf_se, hf_ow, by omega, hbg.2.1, z_upto_mono (by omega) hdw.1, z_upto_mono (by omega) hdw.2⟩) dX8_goAhead_83
  · skip
    refine lv_aload_n hx hb dX8_goAhead_17 rfl (lv_at hl 1 rfl) ?_
    refine z_get (C := RX8) (T := TX8) (N := 8) (ci := 8) (v := .ref ks) hx hb hT zin_X8 hown hK hw hm_wk hf_wk rfl 0 (by decide) (hT _ kw_342) rfl dX8_goAhead_18 ?_
    refine lv_iload hx hb dX8_goAhead_21 (lv_at hl 0 rfl) ?_
    refine z_iald hx hb hK hw 1 hm_ks hf_ks rfl (z_ix rfl (by omega)) dX8_goAhead_23 ?_
    refine lv_topi (fun w21 e_w21 => ?_)
    have hkx : z_key w21 := by rw [e_w21]; exact hbg.2.1 _
    refine z_calliS (cells := 0) (slots := 0) (As := [.int w21]) (rest := []) ⟨hx, hb, hml, hown, hT⟩ (c_X8_timeOf l (by first | assumption | exact hkx)) (va_cwS 1 hT (z_goodS (fun _ h => h) kw_776 kw_777 kw_92 kw_778) rfl rfl rfl (by decide +kernel) ⟨by decide, by decide⟩) z_mv hKK hw hA rfl hl.1 rfl (Nat.le_of_ble_eq_true rfl) dX8_goAhead_24 ⟨by decide, by decide⟩ (fun r22 u H locs hp hw => ?_)
    obtain ⟨rfl, hp⟩ := hp
    have hw : z_H D vwCl (z_A L sz) s.heap L f10 H locs := hw
    refine lv_bipush (v := 24) hx hb dX8_goAhead_27 (by decide) ?_
    refine lv_idiv hx hb dX8_goAhead_29 (by decide) ?_
    refine lv_topi (fun w23 e_w23 => ?_)
    have i_w23 : w23.toInt = r22.toInt / 24 := z_div e_w23 rfl (show (24 : Int32).toInt = 24 by decide) (by omega)
    refine lv_istore (lv' := [(5, .int w23), (4, .int K9), (0, .ref wk), (1, .ref mo), (2, .int ga), (3, .int dy)]) hx hb dX8_goAhead_30 hl (by decide) rfl (fun ls hl => ?_)
    refine lv_iload hx hb dX8_goAhead_32 (lv_at hl 0 rfl) ?_
    refine lv_iload_n hx hb dX8_goAhead_34 rfl (lv_at hl 5 rfl) ?_
    refine z_icmp_lt (tgt := 58) hx hb i_w23 rfl dX8_goAhead_35 (by decide) (fun c24 => ?_) (fun c24 => ?_)
    · skip
      refine lv_aload_n hx hb dX8_goAhead_58 rfl (lv_at hl 2 rfl) ?_
      refine lv_aload_n hx hb dX8_goAhead_59 rfl (lv_at hl 3 rfl) ?_
      refine lv_aload_n hx hb dX8_goAhead_60 rfl (lv_at hl 2 rfl) ?_
      refine z_get (C := RX8) (T := TX8) (N := 8) (ci := 8) (v := .ref ks) hx hb hT zin_X8 hown hK hw hm_wk hf_wk rfl 0 (by decide) (hT _ kw_342) rfl dX8_goAhead_61 ?_
      refine lv_iload hx hb dX8_goAhead_64 (lv_at hl 1 rfl) ?_
      refine z_iald hx hb hK hw 1 hm_ks hf_ks rfl (z_ix rfl (by omega)) dX8_goAhead_66 ?_
      refine lv_topi (fun w25 e_w25 => ?_)
      have hkx : z_key w25 := by rw [e_w25]; exact hbg.2.1 _
      refine z_calliV (cells := 0) (slots := 0) (b := wk) (As := [.ref mo, .int w25]) (rest := []) (ci := 8) (q0 := (RX8, TX8, 8)) ⟨hx, hb, hml, hown, hT⟩ (c_X8_passN l hm_wk hm_ct hm_se hm_mo hm_la hm_mi hm_da hf_wk hf_ct hf_se hf_mo hf_la hf_mi hf_da ne_ct_se hg_da hd_da hkx hgm hgl hi0 hi1 (by first | omega | decide | assumption)) (cwV 2 hT (z_goodV (fun _ h => h) kw_779 kw_780 kw_781 kw_92 kw_782) rfl rfl rfl (by decide +kernel) ⟨by decide, by decide⟩) z_mv hKK hK hw hA hm_wk hf_wk rfl rfl rfl hl.1 rfl (Nat.le_of_ble_eq_true rfl) dX8_goAhead_67 ⟨by decide, by decide⟩ (fun r26 u H locs hp hw => ?_)
      obtain ⟨L27, f28⟩ := u
      obtain ⟨hsb, hfm, t2_29, c2_30, q2_31, ha_0, ha_1, ha_2, hp⟩ := hp
      have hsb : L = L27 := hsb
      subst hsb
      have hsb : ∀ b ∈ L, b ∈ L := fun _ h => h
      have hw : z_H D vwCl (z_A L sz) s.heap L f28 H locs := hw
      have hfr : ∀ b ∈ L, b ≠ wk → b ≠ ks → b ≠ ct → b ≠ se → b ≠ ow → f28 b = f b := fun b hb h0 h1 h2 h3 h4 => (hfm b hb h0 h2 h3).trans (hfr b hb h0 h1 h2 h3 h4)
      have hd_da : z_Drv L f28 dv 13 := z_Drv_fr hd_da hsb (fun b hb ht => hfm b hb (z_t0 ht hf_wk (m := 8) rfl (by decide)) (z_t0 ht hf_ct (m := 132) rfl (by decide)) (z_t0 ht hf_se (m := 132) rfl (by decide)))
      have hf_ks : f28 ks = .inl (cy 1, 13, .inl k2_5) := (hfm ks hm_ks (z_tne hf_ks hf_wk (m := 204) (n := 8) rfl rfl (by decide)) (z_tne hf_ks hf_ct (m := 204) (n := 132) rfl rfl (by decide)) (z_tne hf_ks hf_se (m := 204) (n := 132) rfl rfl (by decide))).trans hf_ks
      have hf_ow : f28 ow = .inl (cy 1, 5, .inl G14) := (hfm ow hm_ow (z_tne hf_ow hf_wk (m := 140) (n := 8) rfl rfl (by decide)) (z_tne hf_ow hf_ct (m := 140) (n := 132) rfl rfl (by decide)) (z_tne hf_ow hf_se (m := 140) (n := 132) rfl rfl (by decide))).trans hf_ow
      have hf_mo : f28 mo = .inr (2, [.int v0, .int v1, .int v2, .int v3, .int v4, .int v5, .int v6, .ref la, .ref sa, .ref mi, .ref da]) := (hfm mo hm_mo (z_tne hf_mo hf_wk (m := 2) (n := 8) rfl rfl (by decide)) (z_tne hf_mo hf_ct (m := 2) (n := 132) rfl rfl (by decide)) (z_tne hf_mo hf_se (m := 2) (n := 132) rfl rfl (by decide))).trans hf_mo
      have hf_la : f28 la = .inl (cy 1, 5, .inl gl) := (hfm la hm_la (z_tne hf_la hf_wk (m := 140) (n := 8) rfl rfl (by decide)) (z_tne hf_la hf_ct (m := 140) (n := 132) rfl rfl (by decide)) (z_tne hf_la hf_se (m := 140) (n := 132) rfl rfl (by decide))).trans hf_la
      have hf_sa : f28 sa = .inl (cy 1, 4, .inl gs) := (hfm sa hm_sa (z_tne hf_sa hf_wk (m := 132) (n := 8) rfl rfl (by decide)) (Ne.symm ne_ct_sa) (Ne.symm ne_se_sa)).trans hf_sa
      have hf_mi : f28 mi = .inl (cy 1, 36, .inl gm) := (hfm mi hm_mi (z_tne hf_mi hf_wk (m := 388) (n := 8) rfl rfl (by decide)) (z_tne hf_mi hf_ct (m := 388) (n := 132) rfl rfl (by decide)) (z_tne hf_mi hf_se (m := 388) (n := 132) rfl rfl (by decide))).trans hf_mi
      have hf_da : f28 da = .inl (cy 4, 13, .inr (.inr (.inr (.inr gd)))) := (hfm da hm_da (z_tne hf_da hf_wk (m := 206) (n := 8) rfl rfl (by decide)) (z_tne hf_da hf_ct (m := 206) (n := 132) rfl rfl (by decide)) (z_tne hf_da hf_se (m := 206) (n := 132) rfl rfl (by decide))).trans hf_da
      have hf_wk : f28 wk = .inr (8, [.ref ks, .int w2_3, .ref ct, .ref se, .ref ow, .int t2_29, .int wd, .int wp]) := ha_0
      have hf_ct : f28 ct = .inl (cy 1, 4, .inl c2_30) := ha_1
      have hf_se : f28 se = .inl (cy 1, 4, .inl q2_31) := ha_2
      have hcP := hp.2.1
      have hqP := hp.2.2
      refine lv_pop hx hb dX8_goAhead_70 rfl ?_
      obtain ⟨k32, e_k32⟩ : ∃ z : Int32, z = K9 + 1 := ⟨_, rfl⟩
      refine lv_iinc (v := k32) (lv' := [(4, .int k32), (5, .int w23), (0, .ref wk), (1, .ref mo), (2, .int ga), (3, .int dy)]) hx hb dX8_goAhead_71 hl (k := 1) rfl (by rw [e_k32]; rfl) (by decide) rfl (fun ls hl => ?_)
      have i_k32 : k32.toInt = (K9.toInt + 1) := z_add e_k32 rfl (by decide) (by omega)
      refine lv_goto (tgt := 8) hx hb dX8_goAhead_74 (by decide) ?_
      exact ih_8 _ (by omega) _ _ _ ⟨k32, c2_30, q2_31, G14, t2_29, f28, rfl, (by first | decide | omega), (by first | decide | omega), (z_upto_mono (by omega) hcP), (z_upto_mono (by omega) hqP), hw, hf_wk, hf_ks, hf_ct, hf_se, hf_ow, hf_mo, hf_la, hf_sa, hf_mi, hf_da, hfr, hd_da, (lv_sub hl [0, 2, 3, 4, 5] rfl)⟩
    · skip
      refine lv_iload hx hb dX8_goAhead_38 (lv_at hl 0 rfl) ?_
      refine lv_iload_n hx hb dX8_goAhead_40 rfl (lv_at hl 5 rfl) ?_
      refine z_icmp_ne (tgt := 71) hx hb i_w23 rfl dX8_goAhead_41 (by decide) (fun c33 => ?_) (fun c33 => ?_)
      · skip
        obtain ⟨k34, e_k34⟩ : ∃ z : Int32, z = K9 + 1 := ⟨_, rfl⟩
        refine lv_iinc (v := k34) (lv' := [(4, .int k34), (5, .int w23), (0, .ref wk), (1, .ref mo), (2, .int ga), (3, .int dy)]) hx hb dX8_goAhead_71 hl (k := 1) rfl (by rw [e_k34]; rfl) (by decide) rfl (fun ls hl => ?_)
        have i_k34 : k34.toInt = (K9.toInt + 1) := z_add e_k34 rfl (by decide) (by omega)
        refine lv_goto (tgt := 8) hx hb dX8_goAhead_74 (by decide) ?_
        exact ih_8 _ (by omega) _ _ _ ⟨k34, G12, G13, G14, WT11, f10, rfl, (by first | decide | omega), (by first | decide | omega), (z_upto_mono (by omega) hi0), (z_upto_mono (by omega) hi1), hw, hf_wk, hf_ks, hf_ct, hf_se, hf_ow, hf_mo, hf_la, hf_sa, hf_mi, hf_da, hfr, hd_da, (lv_sub hl [0, 2, 3, 4, 5] rfl)⟩
      · skip
        refine lv_aload_n hx hb dX8_goAhead_44 rfl (lv_at hl 2 rfl) ?_
        refine z_get (C := RX8) (T := TX8) (N := 8) (ci := 8) (v := .ref ks) hx hb hT zin_X8 hown hK hw hm_wk hf_wk rfl 0 (by decide) (hT _ kw_342) rfl dX8_goAhead_45 ?_
        refine lv_iload hx hb dX8_goAhead_48 (lv_at hl 1 rfl) ?_
        refine z_iald hx hb hK hw 1 hm_ks hf_ks rfl (z_ix rfl (by omega)) dX8_goAhead_50 ?_
        refine lv_topi (fun w35 e_w35 => ?_)
        have hkx : z_key w35 := by rw [e_w35]; exact hbg.2.1 _
        refine z_calliS (cells := 0) (slots := 0) (As := [.int w35]) (rest := []) ⟨hx, hb, hml, hown, hT⟩ (c_X8_gapOf l (by first | assumption | exact hkx)) (va_cwS 1 hT (z_goodS (fun _ h => h) kw_783 kw_784 kw_92 kw_785) rfl rfl rfl (by decide +kernel) ⟨by decide, by decide⟩) z_mv hKK hw hA rfl hl.1 rfl (Nat.le_of_ble_eq_true rfl) dX8_goAhead_51 ⟨by decide, by decide⟩ (fun r36 u H locs hp hw => ?_)
        obtain ⟨rfl, hp⟩ := hp
        have hw : z_H D vwCl (z_A L sz) s.heap L f10 H locs := hw
        refine lv_iload_n hx hb dX8_goAhead_54 rfl (lv_at hl 4 rfl) ?_
        refine z_icmp_eq (tgt := 71) hx hb rfl rfl dX8_goAhead_55 (by decide) (fun c37 => ?_) (fun c37 => ?_)
        · skip
          obtain ⟨k38, e_k38⟩ : ∃ z : Int32, z = K9 + 1 := ⟨_, rfl⟩
          refine lv_iinc (v := k38) (lv' := [(4, .int k38), (5, .int w23), (0, .ref wk), (1, .ref mo), (2, .int ga), (3, .int dy)]) hx hb dX8_goAhead_71 hl (k := 1) rfl (by rw [e_k38]; rfl) (by decide) rfl (fun ls hl => ?_)
          have i_k38 : k38.toInt = (K9.toInt + 1) := z_add e_k38 rfl (by decide) (by omega)
          refine lv_goto (tgt := 8) hx hb dX8_goAhead_74 (by decide) ?_
          exact ih_8 _ (by omega) _ _ _ ⟨k38, G12, G13, G14, WT11, f10, rfl, (by first | decide | omega), (by first | decide | omega), (z_upto_mono (by omega) hi0), (z_upto_mono (by omega) hi1), hw, hf_wk, hf_ks, hf_ct, hf_se, hf_ow, hf_mo, hf_la, hf_sa, hf_mi, hf_da, hfr, hd_da, (lv_sub hl [0, 2, 3, 4, 5] rfl)⟩
        · skip
          refine lv_aload_n hx hb dX8_goAhead_58 rfl (lv_at hl 2 rfl) ?_
          refine lv_aload_n hx hb dX8_goAhead_59 rfl (lv_at hl 3 rfl) ?_
          refine lv_aload_n hx hb dX8_goAhead_60 rfl (lv_at hl 2 rfl) ?_
          refine z_get (C := RX8) (T := TX8) (N := 8) (ci := 8) (v := .ref ks) hx hb hT zin_X8 hown hK hw hm_wk hf_wk rfl 0 (by decide) (hT _ kw_342) rfl dX8_goAhead_61 ?_
          refine lv_iload hx hb dX8_goAhead_64 (lv_at hl 1 rfl) ?_
          refine z_iald hx hb hK hw 1 hm_ks hf_ks rfl (z_ix rfl (by omega)) dX8_goAhead_66 ?_
          refine lv_topi (fun w39 e_w39 => ?_)
          have hkx : z_key w39 := by rw [e_w39]; exact hbg.2.1 _
          refine z_calliV (cells := 0) (slots := 0) (b := wk) (As := [.ref mo, .int w39]) (rest := []) (ci := 8) (q0 := (RX8, TX8, 8)) ⟨hx, hb, hml, hown, hT⟩ (c_X8_passN l hm_wk hm_ct hm_se hm_mo hm_la hm_mi hm_da hf_wk hf_ct hf_se hf_mo hf_la hf_mi hf_da ne_ct_se hg_da hd_da hkx hgm hgl hi0 hi1 (by first | omega | decide | assumption)) (cwV 2 hT (z_goodV (fun _ h => h) kw_779 kw_780 kw_781 kw_92 kw_782) rfl rfl rfl (by decide +kernel) ⟨by decide, by decide⟩) z_mv hKK hK hw hA hm_wk hf_wk rfl rfl rfl hl.1 rfl (Nat.le_of_ble_eq_true rfl) dX8_goAhead_67 ⟨by decide, by decide⟩ (fun r40 u H locs hp hw => ?_)
          obtain ⟨L41, f42⟩ := u
          obtain ⟨hsb, hfm, t2_43, c2_44, q2_45, ha_0, ha_1, ha_2, hp⟩ := hp
          have hsb : L = L41 := hsb
          subst hsb
          have hsb : ∀ b ∈ L, b ∈ L := fun _ h => h
          have hw : z_H D vwCl (z_A L sz) s.heap L f42 H locs := hw
          have hfr : ∀ b ∈ L, b ≠ wk → b ≠ ks → b ≠ ct → b ≠ se → b ≠ ow → f42 b = f b := fun b hb h0 h1 h2 h3 h4 => (hfm b hb h0 h2 h3).trans (hfr b hb h0 h1 h2 h3 h4)
          have hd_da : z_Drv L f42 dv 13 := z_Drv_fr hd_da hsb (fun b hb ht => hfm b hb (z_t0 ht hf_wk (m := 8) rfl (by decide)) (z_t0 ht hf_ct (m := 132) rfl (by decide)) (z_t0 ht hf_se (m := 132) rfl (by decide)))
          have hf_ks : f42 ks = .inl (cy 1, 13, .inl k2_5) := (hfm ks hm_ks (z_tne hf_ks hf_wk (m := 204) (n := 8) rfl rfl (by decide)) (z_tne hf_ks hf_ct (m := 204) (n := 132) rfl rfl (by decide)) (z_tne hf_ks hf_se (m := 204) (n := 132) rfl rfl (by decide))).trans hf_ks
          have hf_ow : f42 ow = .inl (cy 1, 5, .inl G14) := (hfm ow hm_ow (z_tne hf_ow hf_wk (m := 140) (n := 8) rfl rfl (by decide)) (z_tne hf_ow hf_ct (m := 140) (n := 132) rfl rfl (by decide)) (z_tne hf_ow hf_se (m := 140) (n := 132) rfl rfl (by decide))).trans hf_ow
          have hf_mo : f42 mo = .inr (2, [.int v0, .int v1, .int v2, .int v3, .int v4, .int v5, .int v6, .ref la, .ref sa, .ref mi, .ref da]) := (hfm mo hm_mo (z_tne hf_mo hf_wk (m := 2) (n := 8) rfl rfl (by decide)) (z_tne hf_mo hf_ct (m := 2) (n := 132) rfl rfl (by decide)) (z_tne hf_mo hf_se (m := 2) (n := 132) rfl rfl (by decide))).trans hf_mo
          have hf_la : f42 la = .inl (cy 1, 5, .inl gl) := (hfm la hm_la (z_tne hf_la hf_wk (m := 140) (n := 8) rfl rfl (by decide)) (z_tne hf_la hf_ct (m := 140) (n := 132) rfl rfl (by decide)) (z_tne hf_la hf_se (m := 140) (n := 132) rfl rfl (by decide))).trans hf_la
          have hf_sa : f42 sa = .inl (cy 1, 4, .inl gs) := (hfm sa hm_sa (z_tne hf_sa hf_wk (m := 132) (n := 8) rfl rfl (by decide)) (Ne.symm ne_ct_sa) (Ne.symm ne_se_sa)).trans hf_sa
          have hf_mi : f42 mi = .inl (cy 1, 36, .inl gm) := (hfm mi hm_mi (z_tne hf_mi hf_wk (m := 388) (n := 8) rfl rfl (by decide)) (z_tne hf_mi hf_ct (m := 388) (n := 132) rfl rfl (by decide)) (z_tne hf_mi hf_se (m := 388) (n := 132) rfl rfl (by decide))).trans hf_mi
          have hf_da : f42 da = .inl (cy 4, 13, .inr (.inr (.inr (.inr gd)))) := (hfm da hm_da (z_tne hf_da hf_wk (m := 206) (n := 8) rfl rfl (by decide)) (z_tne hf_da hf_ct (m := 206) (n := 132) rfl rfl (by decide)) (z_tne hf_da hf_se (m := 206) (n := 132) rfl rfl (by decide))).trans hf_da
          have hf_wk : f42 wk = .inr (8, [.ref ks, .int w2_3, .ref ct, .ref se, .ref ow, .int t2_43, .int wd, .int wp]) := ha_0
          have hf_ct : f42 ct = .inl (cy 1, 4, .inl c2_44) := ha_1
          have hf_se : f42 se = .inl (cy 1, 4, .inl q2_45) := ha_2
          have hcP := hp.2.1
          have hqP := hp.2.2
          refine lv_pop hx hb dX8_goAhead_70 rfl ?_
          obtain ⟨k46, e_k46⟩ : ∃ z : Int32, z = K9 + 1 := ⟨_, rfl⟩
          refine lv_iinc (v := k46) (lv' := [(4, .int k46), (5, .int w23), (0, .ref wk), (1, .ref mo), (2, .int ga), (3, .int dy)]) hx hb dX8_goAhead_71 hl (k := 1) rfl (by rw [e_k46]; rfl) (by decide) rfl (fun ls hl => ?_)
          have i_k46 : k46.toInt = (K9.toInt + 1) := z_add e_k46 rfl (by decide) (by omega)
          refine lv_goto (tgt := 8) hx hb dX8_goAhead_74 (by decide) ?_
          exact ih_8 _ (by omega) _ _ _ ⟨k46, c2_44, q2_45, G14, t2_43, f42, rfl, (by first | decide | omega), (by first | decide | omega), (z_upto_mono (by omega) hcP), (z_upto_mono (by omega) hqP), hw, hf_wk, hf_ks, hf_ct, hf_se, hf_ow, hf_mo, hf_la, hf_sa, hf_mi, hf_da, hfr, hd_da, (lv_sub hl [0, 2, 3, 4, 5] rfl)⟩
