set_option maxHeartbeats 2000000 in
set_option maxRecDepth 100000 in
theorem c_X2_forgetN (l : Launch) {D : va_G} {cy : Nat → ClassId} {L : List Nat} {f : Nat → va_E} {sz : Nat} {adK adV : Nat → Nat} {mo la sa mi da : Nat} {v0 v1 v2 v3 v4 v5 v6 : Int32} {gl gs gm : Nat → Int32} (hm_mo : mo ∈ L) (hm_la : la ∈ L) (hm_sa : sa ∈ L) (hm_mi : mi ∈ L) (hf_mo : f mo = .inr (2, [.int v0, .int v1, .int v2, .int v3, .int v4, .int v5, .int v6, .ref la, .ref sa, .ref mi, .ref da])) (hf_la : f la = .inl (cy 1, 5, .inl gl)) (hf_sa : f sa = .inl (cy 1, 4, .inl gs)) (hf_mi : f mi = .inl (cy 1, 36, .inl gm)) : Met l yX2_forget (z_ws yX2_forget cX2_forget 1 none) (z_R 2 0 0) (va_Pc [.ref mo] (z_Pre D vwCl (z_KK D cy adK adV) L f sz)) (z_Qv D vwCl (fun u => L = u.1 ∧ (∀ b ∈ L, b ≠ mo → b ≠ la → b ≠ sa → b ≠ mi → u.2 b = f b) ∧ ((u.2 mo = .inr (2, [.int 0, .int 0, .int 0, .int 0, .int 0, .int 0, .int 0, .ref la, .ref sa, .ref mi, .ref da])) ∧ (u.2 la = .inl (cy 1, 5, .inl (fun _ => 0))) ∧ (u.2 sa = .inl (cy 1, 4, .inl (fun _ => 0))) ∧ (u.2 mi = .inl (cy 1, 36, .inl (fun _ => 0))) ∧ (True))) L sz) 0 0 (z_A L sz) := by
  refine z_met (cc := cX2_forget) (maxL := 1) (ret := none) (lv := [(0, .ref mo)]) (by decide) rfl (Nat.le_of_ble_eq_true rfl) rfl ?_
  intro p e s m below meth c ls hx hb hr hlk hml hown hnm hts hKK hA hw hl
  have hK := hKK.1.1
  have hown : s.vm.findClass RX2 = some m.cls := hown
  have hT : ∀ w ∈ lw_all, w.before ([.ref mo] : List Value).toArray s = true := fun w h => hts w (z_cons w h)
  have hsub : L = L := rfl
  have hfr : ∀ b ∈ L, b ≠ mo → b ≠ la → b ≠ sa → b ≠ mi → f b = f b := fun _ _ _ _ _ _ => rfl
  refine lv_aload_n hx hb dX2_forget_0 rfl (lv_at hl 0 rfl) ?_
  refine lv_iconst (v := 0) hx hb dX2_forget_1 (by decide) ?_
  refine z_put (C := RX2) (T := TX2) (N := 11) (ci := 2) (v := .int 0) (fs' := [.int 0, .int v1, .int v2, .int v3, .int v4, .int v5, .int v6, .ref la, .ref sa, .ref mi, .ref da]) hx hb hT zin_X2 tyX2_ok nmX2 hown hK hw hm_mo hf_mo rfl 0 (by decide) (hT _ kw_204) rfl rfl rfl (Nat.le_of_ble_eq_true rfl) rfl dX2_forget_2 (fun H locs hw => ?_)
  obtain ⟨f1, e_f1⟩ : ∃ z, z = va_up f mo (.inr (2, [.int 0, .int v1, .int v2, .int v3, .int v4, .int v5, .int v6, .ref la, .ref sa, .ref mi, .ref da])) := ⟨_, rfl⟩
  rw [← e_f1] at hw
  have hf_la : f1 la = .inl (cy 1, 5, .inl gl) := (congrFun e_f1 la).trans (z_up_ne (z_tne hf_la hf_mo (m := 140) (n := 2) rfl rfl (by decide)) hf_la)
  have hf_sa : f1 sa = .inl (cy 1, 4, .inl gs) := (congrFun e_f1 sa).trans (z_up_ne (z_tne hf_sa hf_mo (m := 132) (n := 2) rfl rfl (by decide)) hf_sa)
  have hf_mi : f1 mi = .inl (cy 1, 36, .inl gm) := (congrFun e_f1 mi).trans (z_up_ne (z_tne hf_mi hf_mo (m := 388) (n := 2) rfl rfl (by decide)) hf_mi)
  have hf_mo : f1 mo = .inr (2, [.int 0, .int v1, .int v2, .int v3, .int v4, .int v5, .int v6, .ref la, .ref sa, .ref mi, .ref da]) := (congrFun e_f1 mo).trans z_up_self
  have hfr : ∀ b ∈ L, b ≠ mo → b ≠ la → b ≠ sa → b ≠ mi → f1 b = f b := fun b hb h0 h1 h2 h3 => (congrFun e_f1 b).trans (z_up_ne h0 (hfr b hb h0 h1 h2 h3))
  refine lv_aload_n hx hb dX2_forget_5 rfl (lv_at hl 0 rfl) ?_
  refine lv_iconst (v := 0) hx hb dX2_forget_6 (by decide) ?_
  refine z_put (C := RX2) (T := TX2) (N := 11) (ci := 2) (v := .int 0) (fs' := [.int 0, .int 0, .int v2, .int v3, .int v4, .int v5, .int v6, .ref la, .ref sa, .ref mi, .ref da]) hx hb hT zin_X2 tyX2_ok nmX2 hown hK hw hm_mo hf_mo rfl 1 (by decide) (hT _ kw_207) rfl rfl rfl (Nat.le_of_ble_eq_true rfl) rfl dX2_forget_7 (fun H locs hw => ?_)
  obtain ⟨f2, e_f2⟩ : ∃ z, z = va_up f1 mo (.inr (2, [.int 0, .int 0, .int v2, .int v3, .int v4, .int v5, .int v6, .ref la, .ref sa, .ref mi, .ref da])) := ⟨_, rfl⟩
  rw [← e_f2] at hw
  have hf_la : f2 la = .inl (cy 1, 5, .inl gl) := (congrFun e_f2 la).trans (z_up_ne (z_tne hf_la hf_mo (m := 140) (n := 2) rfl rfl (by decide)) hf_la)
  have hf_sa : f2 sa = .inl (cy 1, 4, .inl gs) := (congrFun e_f2 sa).trans (z_up_ne (z_tne hf_sa hf_mo (m := 132) (n := 2) rfl rfl (by decide)) hf_sa)
  have hf_mi : f2 mi = .inl (cy 1, 36, .inl gm) := (congrFun e_f2 mi).trans (z_up_ne (z_tne hf_mi hf_mo (m := 388) (n := 2) rfl rfl (by decide)) hf_mi)
  have hf_mo : f2 mo = .inr (2, [.int 0, .int 0, .int v2, .int v3, .int v4, .int v5, .int v6, .ref la, .ref sa, .ref mi, .ref da]) := (congrFun e_f2 mo).trans z_up_self
  have hfr : ∀ b ∈ L, b ≠ mo → b ≠ la → b ≠ sa → b ≠ mi → f2 b = f b := fun b hb h0 h1 h2 h3 => (congrFun e_f2 b).trans (z_up_ne h0 (hfr b hb h0 h1 h2 h3))
  refine lv_aload_n hx hb dX2_forget_10 rfl (lv_at hl 0 rfl) ?_
  refine lv_iconst (v := 0) hx hb dX2_forget_11 (by decide) ?_
  refine z_put (C := RX2) (T := TX2) (N := 11) (ci := 2) (v := .int 0) (fs' := [.int 0, .int 0, .int 0, .int v3, .int v4, .int v5, .int v6, .ref la, .ref sa, .ref mi, .ref da]) hx hb hT zin_X2 tyX2_ok nmX2 hown hK hw hm_mo hf_mo rfl 2 (by decide) (hT _ kw_211) rfl rfl rfl (Nat.le_of_ble_eq_true rfl) rfl dX2_forget_12 (fun H locs hw => ?_)
  obtain ⟨f3, e_f3⟩ : ∃ z, z = va_up f2 mo (.inr (2, [.int 0, .int 0, .int 0, .int v3, .int v4, .int v5, .int v6, .ref la, .ref sa, .ref mi, .ref da])) := ⟨_, rfl⟩
  rw [← e_f3] at hw
  have hf_la : f3 la = .inl (cy 1, 5, .inl gl) := (congrFun e_f3 la).trans (z_up_ne (z_tne hf_la hf_mo (m := 140) (n := 2) rfl rfl (by decide)) hf_la)
  have hf_sa : f3 sa = .inl (cy 1, 4, .inl gs) := (congrFun e_f3 sa).trans (z_up_ne (z_tne hf_sa hf_mo (m := 132) (n := 2) rfl rfl (by decide)) hf_sa)
  have hf_mi : f3 mi = .inl (cy 1, 36, .inl gm) := (congrFun e_f3 mi).trans (z_up_ne (z_tne hf_mi hf_mo (m := 388) (n := 2) rfl rfl (by decide)) hf_mi)
  have hf_mo : f3 mo = .inr (2, [.int 0, .int 0, .int 0, .int v3, .int v4, .int v5, .int v6, .ref la, .ref sa, .ref mi, .ref da]) := (congrFun e_f3 mo).trans z_up_self
  have hfr : ∀ b ∈ L, b ≠ mo → b ≠ la → b ≠ sa → b ≠ mi → f3 b = f b := fun b hb h0 h1 h2 h3 => (congrFun e_f3 b).trans (z_up_ne h0 (hfr b hb h0 h1 h2 h3))
  refine lv_aload_n hx hb dX2_forget_15 rfl (lv_at hl 0 rfl) ?_
  refine lv_iconst (v := 0) hx hb dX2_forget_16 (by decide) ?_
  refine z_put (C := RX2) (T := TX2) (N := 11) (ci := 2) (v := .int 0) (fs' := [.int 0, .int 0, .int 0, .int 0, .int v4, .int v5, .int v6, .ref la, .ref sa, .ref mi, .ref da]) hx hb hT zin_X2 tyX2_ok nmX2 hown hK hw hm_mo hf_mo rfl 3 (by decide) (hT _ kw_215) rfl rfl rfl (Nat.le_of_ble_eq_true rfl) rfl dX2_forget_17 (fun H locs hw => ?_)
  obtain ⟨f4, e_f4⟩ : ∃ z, z = va_up f3 mo (.inr (2, [.int 0, .int 0, .int 0, .int 0, .int v4, .int v5, .int v6, .ref la, .ref sa, .ref mi, .ref da])) := ⟨_, rfl⟩
  rw [← e_f4] at hw
  have hf_la : f4 la = .inl (cy 1, 5, .inl gl) := (congrFun e_f4 la).trans (z_up_ne (z_tne hf_la hf_mo (m := 140) (n := 2) rfl rfl (by decide)) hf_la)
  have hf_sa : f4 sa = .inl (cy 1, 4, .inl gs) := (congrFun e_f4 sa).trans (z_up_ne (z_tne hf_sa hf_mo (m := 132) (n := 2) rfl rfl (by decide)) hf_sa)
  have hf_mi : f4 mi = .inl (cy 1, 36, .inl gm) := (congrFun e_f4 mi).trans (z_up_ne (z_tne hf_mi hf_mo (m := 388) (n := 2) rfl rfl (by decide)) hf_mi)
  have hf_mo : f4 mo = .inr (2, [.int 0, .int 0, .int 0, .int 0, .int v4, .int v5, .int v6, .ref la, .ref sa, .ref mi, .ref da]) := (congrFun e_f4 mo).trans z_up_self
  have hfr : ∀ b ∈ L, b ≠ mo → b ≠ la → b ≠ sa → b ≠ mi → f4 b = f b := fun b hb h0 h1 h2 h3 => (congrFun e_f4 b).trans (z_up_ne h0 (hfr b hb h0 h1 h2 h3))
  refine lv_aload_n hx hb dX2_forget_20 rfl (lv_at hl 0 rfl) ?_
  refine lv_iconst (v := 0) hx hb dX2_forget_21 (by decide) ?_
  refine z_put (C := RX2) (T := TX2) (N := 11) (ci := 2) (v := .int 0) (fs' := [.int 0, .int 0, .int 0, .int 0, .int 0, .int v5, .int v6, .ref la, .ref sa, .ref mi, .ref da]) hx hb hT zin_X2 tyX2_ok nmX2 hown hK hw hm_mo hf_mo rfl 4 (by decide) (hT _ kw_218) rfl rfl rfl (Nat.le_of_ble_eq_true rfl) rfl dX2_forget_22 (fun H locs hw => ?_)
  obtain ⟨f5, e_f5⟩ : ∃ z, z = va_up f4 mo (.inr (2, [.int 0, .int 0, .int 0, .int 0, .int 0, .int v5, .int v6, .ref la, .ref sa, .ref mi, .ref da])) := ⟨_, rfl⟩
  rw [← e_f5] at hw
  have hf_la : f5 la = .inl (cy 1, 5, .inl gl) := (congrFun e_f5 la).trans (z_up_ne (z_tne hf_la hf_mo (m := 140) (n := 2) rfl rfl (by decide)) hf_la)
  have hf_sa : f5 sa = .inl (cy 1, 4, .inl gs) := (congrFun e_f5 sa).trans (z_up_ne (z_tne hf_sa hf_mo (m := 132) (n := 2) rfl rfl (by decide)) hf_sa)
  have hf_mi : f5 mi = .inl (cy 1, 36, .inl gm) := (congrFun e_f5 mi).trans (z_up_ne (z_tne hf_mi hf_mo (m := 388) (n := 2) rfl rfl (by decide)) hf_mi)
  have hf_mo : f5 mo = .inr (2, [.int 0, .int 0, .int 0, .int 0, .int 0, .int v5, .int v6, .ref la, .ref sa, .ref mi, .ref da]) := (congrFun e_f5 mo).trans z_up_self
  have hfr : ∀ b ∈ L, b ≠ mo → b ≠ la → b ≠ sa → b ≠ mi → f5 b = f b := fun b hb h0 h1 h2 h3 => (congrFun e_f5 b).trans (z_up_ne h0 (hfr b hb h0 h1 h2 h3))
  refine lv_aload_n hx hb dX2_forget_25 rfl (lv_at hl 0 rfl) ?_
  refine lv_iconst (v := 0) hx hb dX2_forget_26 (by decide) ?_
  refine z_put (C := RX2) (T := TX2) (N := 11) (ci := 2) (v := .int 0) (fs' := [.int 0, .int 0, .int 0, .int 0, .int 0, .int 0, .int v6, .ref la, .ref sa, .ref mi, .ref da]) hx hb hT zin_X2 tyX2_ok nmX2 hown hK hw hm_mo hf_mo rfl 5 (by decide) (hT _ kw_222) rfl rfl rfl (Nat.le_of_ble_eq_true rfl) rfl dX2_forget_27 (fun H locs hw => ?_)
  obtain ⟨f6, e_f6⟩ : ∃ z, z = va_up f5 mo (.inr (2, [.int 0, .int 0, .int 0, .int 0, .int 0, .int 0, .int v6, .ref la, .ref sa, .ref mi, .ref da])) := ⟨_, rfl⟩
  rw [← e_f6] at hw
  have hf_la : f6 la = .inl (cy 1, 5, .inl gl) := (congrFun e_f6 la).trans (z_up_ne (z_tne hf_la hf_mo (m := 140) (n := 2) rfl rfl (by decide)) hf_la)
  have hf_sa : f6 sa = .inl (cy 1, 4, .inl gs) := (congrFun e_f6 sa).trans (z_up_ne (z_tne hf_sa hf_mo (m := 132) (n := 2) rfl rfl (by decide)) hf_sa)
  have hf_mi : f6 mi = .inl (cy 1, 36, .inl gm) := (congrFun e_f6 mi).trans (z_up_ne (z_tne hf_mi hf_mo (m := 388) (n := 2) rfl rfl (by decide)) hf_mi)
  have hf_mo : f6 mo = .inr (2, [.int 0, .int 0, .int 0, .int 0, .int 0, .int 0, .int v6, .ref la, .ref sa, .ref mi, .ref da]) := (congrFun e_f6 mo).trans z_up_self
  have hfr : ∀ b ∈ L, b ≠ mo → b ≠ la → b ≠ sa → b ≠ mi → f6 b = f b := fun b hb h0 h1 h2 h3 => (congrFun e_f6 b).trans (z_up_ne h0 (hfr b hb h0 h1 h2 h3))
  refine lv_aload_n hx hb dX2_forget_30 rfl (lv_at hl 0 rfl) ?_
  refine lv_iconst (v := 0) hx hb dX2_forget_31 (by decide) ?_
  refine z_put (C := RX2) (T := TX2) (N := 11) (ci := 2) (v := .int 0) (fs' := [.int 0, .int 0, .int 0, .int 0, .int 0, .int 0, .int 0, .ref la, .ref sa, .ref mi, .ref da]) hx hb hT zin_X2 tyX2_ok nmX2 hown hK hw hm_mo hf_mo rfl 6 (by decide) (hT _ kw_227) rfl rfl rfl (Nat.le_of_ble_eq_true rfl) rfl dX2_forget_32 (fun H locs hw => ?_)
  obtain ⟨f7, e_f7⟩ : ∃ z, z = va_up f6 mo (.inr (2, [.int 0, .int 0, .int 0, .int 0, .int 0, .int 0, .int 0, .ref la, .ref sa, .ref mi, .ref da])) := ⟨_, rfl⟩
  rw [← e_f7] at hw
  have hf_la : f7 la = .inl (cy 1, 5, .inl gl) := (congrFun e_f7 la).trans (z_up_ne (z_tne hf_la hf_mo (m := 140) (n := 2) rfl rfl (by decide)) hf_la)
  have hf_sa : f7 sa = .inl (cy 1, 4, .inl gs) := (congrFun e_f7 sa).trans (z_up_ne (z_tne hf_sa hf_mo (m := 132) (n := 2) rfl rfl (by decide)) hf_sa)
  have hf_mi : f7 mi = .inl (cy 1, 36, .inl gm) := (congrFun e_f7 mi).trans (z_up_ne (z_tne hf_mi hf_mo (m := 388) (n := 2) rfl rfl (by decide)) hf_mi)
  have hf_mo : f7 mo = .inr (2, [.int 0, .int 0, .int 0, .int 0, .int 0, .int 0, .int 0, .ref la, .ref sa, .ref mi, .ref da]) := (congrFun e_f7 mo).trans z_up_self
  have hfr : ∀ b ∈ L, b ≠ mo → b ≠ la → b ≠ sa → b ≠ mi → f7 b = f b := fun b hb h0 h1 h2 h3 => (congrFun e_f7 b).trans (z_up_ne h0 (hfr b hb h0 h1 h2 h3))
  refine lv_aload_n hx hb dX2_forget_35 rfl (lv_at hl 0 rfl) ?_
  refine z_get (C := RX2) (T := TX2) (N := 11) (ci := 2) (v := .ref la) hx hb hT zin_X2 hown hK hw hm_mo hf_mo rfl 7 (by decide) (hT _ kw_230) rfl dX2_forget_36 ?_
  refine lv_iconst (v := 0) hx hb dX2_forget_39 (by decide) ?_
  have hz8 := (show (0 : Int32).toInt = 0 by decide)
  refine z_callvS (cells := 0) (slots := 0) (As := [.ref la, .int 0]) (rest := []) ⟨hx, hb, hml, hown, hT⟩ (c_J7_fill_53178 l hm_la hf_la (by decide)) (va_cwS 2 hT (z_goodS (fun _ h => h) kw_535 kw_317 kw_91 kw_318) rfl rfl rfl (by decide +kernel) ⟨by decide, by decide⟩) z_mv hKK hw hA rfl hl.1 rfl (Nat.le_of_ble_eq_true rfl) dX2_forget_40 ⟨by decide, by decide⟩ (fun u H locs hp hw => ?_)
  obtain ⟨L9, f10⟩ := u
  obtain ⟨hsb, hfm, g2_11, ha_0, hp⟩ := hp
  have hsb : L = L9 := hsb
  subst hsb
  have hsb : ∀ b ∈ L, b ∈ L := fun _ h => h
  have hw : z_H D vwCl (z_A L sz) s.heap L f10 H locs := hw
  have hfr : ∀ b ∈ L, b ≠ mo → b ≠ la → b ≠ sa → b ≠ mi → f10 b = f b := fun b hb h0 h1 h2 h3 => (hfm b hb h1).trans (hfr b hb h0 h1 h2 h3)
  have hf_mo : f10 mo = .inr (2, [.int 0, .int 0, .int 0, .int 0, .int 0, .int 0, .int 0, .ref la, .ref sa, .ref mi, .ref da]) := (hfm mo hm_mo (z_tne hf_mo hf_la (m := 2) (n := 140) rfl rfl (by decide))).trans hf_mo
  have hf_sa : f10 sa = .inl (cy 1, 4, .inl gs) := (hfm sa hm_sa (z_tne hf_sa hf_la (m := 132) (n := 140) rfl rfl (by decide))).trans hf_sa
  have hf_mi : f10 mi = .inl (cy 1, 36, .inl gm) := (hfm mi hm_mi (z_tne hf_mi hf_la (m := 388) (n := 140) rfl rfl (by decide))).trans hf_mi
  have hf_la : f10 la = .inl (cy 1, 5, .inl g2_11) := ha_0
  have hz1 := hp
  refine lv_aload_n hx hb dX2_forget_43 rfl (lv_at hl 0 rfl) ?_
  refine z_get (C := RX2) (T := TX2) (N := 11) (ci := 2) (v := .ref sa) hx hb hT zin_X2 hown hK hw hm_mo hf_mo rfl 8 (by decide) (hT _ kw_236) rfl dX2_forget_44 ?_
  refine lv_iconst (v := 0) hx hb dX2_forget_47 (by decide) ?_
  have hz12 := (show (0 : Int32).toInt = 0 by decide)
  refine z_callvS (cells := 0) (slots := 0) (As := [.ref sa, .int 0]) (rest := []) ⟨hx, hb, hml, hown, hT⟩ (c_J7_fill_53178 l hm_sa hf_sa (by decide)) (va_cwS 2 hT (z_goodS (fun _ h => h) kw_535 kw_317 kw_91 kw_318) rfl rfl rfl (by decide +kernel) ⟨by decide, by decide⟩) z_mv hKK hw hA rfl hl.1 rfl (Nat.le_of_ble_eq_true rfl) dX2_forget_48 ⟨by decide, by decide⟩ (fun u H locs hp hw => ?_)
  obtain ⟨L13, f14⟩ := u
  obtain ⟨hsb, hfm, g2_15, ha_0, hp⟩ := hp
  have hsb : L = L13 := hsb
  subst hsb
  have hsb : ∀ b ∈ L, b ∈ L := fun _ h => h
  have hw : z_H D vwCl (z_A L sz) s.heap L f14 H locs := hw
  have hfr : ∀ b ∈ L, b ≠ mo → b ≠ la → b ≠ sa → b ≠ mi → f14 b = f b := fun b hb h0 h1 h2 h3 => (hfm b hb h2).trans (hfr b hb h0 h1 h2 h3)
  have hf_mo : f14 mo = .inr (2, [.int 0, .int 0, .int 0, .int 0, .int 0, .int 0, .int 0, .ref la, .ref sa, .ref mi, .ref da]) := (hfm mo hm_mo (z_tne hf_mo hf_sa (m := 2) (n := 132) rfl rfl (by decide))).trans hf_mo
  have hf_la : f14 la = .inl (cy 1, 5, .inl g2_11) := (hfm la hm_la (z_tne hf_la hf_sa (m := 140) (n := 132) rfl rfl (by decide))).trans hf_la
  have hf_mi : f14 mi = .inl (cy 1, 36, .inl gm) := (hfm mi hm_mi (z_tne hf_mi hf_sa (m := 388) (n := 132) rfl rfl (by decide))).trans hf_mi
  have hf_sa : f14 sa = .inl (cy 1, 4, .inl g2_15) := ha_0
  have hz2 := hp
  refine lv_aload_n hx hb dX2_forget_51 rfl (lv_at hl 0 rfl) ?_
  refine z_get (C := RX2) (T := TX2) (N := 11) (ci := 2) (v := .ref mi) hx hb hT zin_X2 hown hK hw hm_mo hf_mo rfl 9 (by decide) (hT _ kw_239) rfl dX2_forget_52 ?_
  refine lv_iconst (v := 0) hx hb dX2_forget_55 (by decide) ?_
  have hz16 := (show (0 : Int32).toInt = 0 by decide)
  refine z_callvS (cells := 0) (slots := 0) (As := [.ref mi, .int 0]) (rest := []) ⟨hx, hb, hml, hown, hT⟩ (c_J7_fill_53178 l hm_mi hf_mi (by decide)) (va_cwS 2 hT (z_goodS (fun _ h => h) kw_535 kw_317 kw_91 kw_318) rfl rfl rfl (by decide +kernel) ⟨by decide, by decide⟩) z_mv hKK hw hA rfl hl.1 rfl (Nat.le_of_ble_eq_true rfl) dX2_forget_56 ⟨by decide, by decide⟩ (fun u H locs hp hw => ?_)
  obtain ⟨L17, f18⟩ := u
  obtain ⟨hsb, hfm, g2_19, ha_0, hp⟩ := hp
  have hsb : L = L17 := hsb
  subst hsb
  have hsb : ∀ b ∈ L, b ∈ L := fun _ h => h
  have hw : z_H D vwCl (z_A L sz) s.heap L f18 H locs := hw
  have hfr : ∀ b ∈ L, b ≠ mo → b ≠ la → b ≠ sa → b ≠ mi → f18 b = f b := fun b hb h0 h1 h2 h3 => (hfm b hb h3).trans (hfr b hb h0 h1 h2 h3)
  have hf_mo : f18 mo = .inr (2, [.int 0, .int 0, .int 0, .int 0, .int 0, .int 0, .int 0, .ref la, .ref sa, .ref mi, .ref da]) := (hfm mo hm_mo (z_tne hf_mo hf_mi (m := 2) (n := 388) rfl rfl (by decide))).trans hf_mo
  have hf_la : f18 la = .inl (cy 1, 5, .inl g2_11) := (hfm la hm_la (z_tne hf_la hf_mi (m := 140) (n := 388) rfl rfl (by decide))).trans hf_la
  have hf_sa : f18 sa = .inl (cy 1, 4, .inl g2_15) := (hfm sa hm_sa (z_tne hf_sa hf_mi (m := 132) (n := 388) rfl rfl (by decide))).trans hf_sa
  have hf_mi : f18 mi = .inl (cy 1, 36, .inl g2_19) := ha_0
  have hz3 := hp
  have hw := z_nrm hw hm_la hf_la (fun j hj => (hz1 j hj).symm)
  obtain ⟨f20, e_f20⟩ : ∃ z, z = va_up f18 la (.inl (cy 1, 5, .inl (fun _ => 0))) := ⟨_, rfl⟩
  rw [← e_f20] at hw
  have hf_mo : f20 mo = .inr (2, [.int 0, .int 0, .int 0, .int 0, .int 0, .int 0, .int 0, .ref la, .ref sa, .ref mi, .ref da]) := (congrFun e_f20 mo).trans (z_up_ne (z_tne hf_mo hf_la (m := 2) (n := 140) rfl rfl (by decide)) hf_mo)
  have hf_sa : f20 sa = .inl (cy 1, 4, .inl g2_15) := (congrFun e_f20 sa).trans (z_up_ne (z_tne hf_sa hf_la (m := 132) (n := 140) rfl rfl (by decide)) hf_sa)
  have hf_mi : f20 mi = .inl (cy 1, 36, .inl g2_19) := (congrFun e_f20 mi).trans (z_up_ne (z_tne hf_mi hf_la (m := 388) (n := 140) rfl rfl (by decide)) hf_mi)
  have hf_la : f20 la = .inl (cy 1, 5, .inl (fun _ => 0)) := (congrFun e_f20 la).trans z_up_self
  have hfr : ∀ b ∈ L, b ≠ mo → b ≠ la → b ≠ sa → b ≠ mi → f20 b = f b := fun b hb h0 h1 h2 h3 => (congrFun e_f20 b).trans (z_up_ne h1 (hfr b hb h0 h1 h2 h3))
  have hw := z_nrm hw hm_sa hf_sa (fun j hj => (hz2 j hj).symm)
  obtain ⟨f21, e_f21⟩ : ∃ z, z = va_up f20 sa (.inl (cy 1, 4, .inl (fun _ => 0))) := ⟨_, rfl⟩
  rw [← e_f21] at hw
  have hf_mo : f21 mo = .inr (2, [.int 0, .int 0, .int 0, .int 0, .int 0, .int 0, .int 0, .ref la, .ref sa, .ref mi, .ref da]) := (congrFun e_f21 mo).trans (z_up_ne (z_tne hf_mo hf_sa (m := 2) (n := 132) rfl rfl (by decide)) hf_mo)
  have hf_la : f21 la = .inl (cy 1, 5, .inl (fun _ => 0)) := (congrFun e_f21 la).trans (z_up_ne (z_tne hf_la hf_sa (m := 140) (n := 132) rfl rfl (by decide)) hf_la)
  have hf_mi : f21 mi = .inl (cy 1, 36, .inl g2_19) := (congrFun e_f21 mi).trans (z_up_ne (z_tne hf_mi hf_sa (m := 388) (n := 132) rfl rfl (by decide)) hf_mi)
  have hf_sa : f21 sa = .inl (cy 1, 4, .inl (fun _ => 0)) := (congrFun e_f21 sa).trans z_up_self
  have hfr : ∀ b ∈ L, b ≠ mo → b ≠ la → b ≠ sa → b ≠ mi → f21 b = f b := fun b hb h0 h1 h2 h3 => (congrFun e_f21 b).trans (z_up_ne h2 (hfr b hb h0 h1 h2 h3))
  have hw := z_nrm hw hm_mi hf_mi (fun j hj => (hz3 j hj).symm)
  obtain ⟨f22, e_f22⟩ : ∃ z, z = va_up f21 mi (.inl (cy 1, 36, .inl (fun _ => 0))) := ⟨_, rfl⟩
  rw [← e_f22] at hw
  have hf_mo : f22 mo = .inr (2, [.int 0, .int 0, .int 0, .int 0, .int 0, .int 0, .int 0, .ref la, .ref sa, .ref mi, .ref da]) := (congrFun e_f22 mo).trans (z_up_ne (z_tne hf_mo hf_mi (m := 2) (n := 388) rfl rfl (by decide)) hf_mo)
  have hf_la : f22 la = .inl (cy 1, 5, .inl (fun _ => 0)) := (congrFun e_f22 la).trans (z_up_ne (z_tne hf_la hf_mi (m := 140) (n := 388) rfl rfl (by decide)) hf_la)
  have hf_sa : f22 sa = .inl (cy 1, 4, .inl (fun _ => 0)) := (congrFun e_f22 sa).trans (z_up_ne (z_tne hf_sa hf_mi (m := 132) (n := 388) rfl rfl (by decide)) hf_sa)
  have hf_mi : f22 mi = .inl (cy 1, 36, .inl (fun _ => 0)) := (congrFun e_f22 mi).trans z_up_self
  have hfr : ∀ b ∈ L, b ≠ mo → b ≠ la → b ≠ sa → b ≠ mi → f22 b = f b := fun b hb h0 h1 h2 h3 => (congrFun e_f22 b).trans (z_up_ne h3 (hfr b hb h0 h1 h2 h3))
  exact z_vret hx hb hr hlk (by decide) (by decide) hw (⟨hsub, hfr, hf_mo, hf_la, hf_sa, hf_mi, trivial⟩) dX2_forget_59

set_option maxHeartbeats 2000000 in
set_option maxRecDepth 100000 in
theorem c_X5_begin (l : Launch) {D : va_G} {cy : Nat → ClassId} {L : List Nat} {f : Nat → va_E} {sz : Nat} {adK adV : Nat → Nat} {rd tp tb mo : Nat} {fa fp ot_ ki ra rn rv : Int32} {tl : Int32} {gt : Nat → Int32} {la sa mi da : Nat} {v0 v1 v2 v3 v4 v5 v6 : Int32} {gl gs gm : Nat → Int32} (hm_rd : rd ∈ L) (hm_tp : tp ∈ L) (hm_tb : tb ∈ L) (hm_mo : mo ∈ L) (hm_la : la ∈ L) (hm_sa : sa ∈ L) (hm_mi : mi ∈ L) (hf_rd : f rd = .inr (5, [.int fa, .int fp, .ref tp, .ref mo, .int ot_, .int ki, .int ra, .int rn, .int rv])) (hf_tp : f tp = .inr (7, [.ref tb, .int tl])) (hf_tb : f tb = .inl (cy 0, 1600, .inl gt)) (hf_mo : f mo = .inr (2, [.int v0, .int v1, .int v2, .int v3, .int v4, .int v5, .int v6, .ref la, .ref sa, .ref mi, .ref da])) (hf_la : f la = .inl (cy 1, 5, .inl gl)) (hf_sa : f sa = .inl (cy 1, 4, .inl gs)) (hf_mi : f mi = .inl (cy 1, 36, .inl gm)) (htl : 0 ≤ tl.toInt ∧ tl.toInt ≤ 1600) (hrr : (0 ≤ ra.toInt ∧ ra.toInt ≤ 1600) ∧ (0 ≤ rn.toInt ∧ rn.toInt ≤ 1600)) : Met l yX5_begin (z_ws yX5_begin cX5_begin 1 none) (z_R 3 0 0) (va_Pc [.ref rd] (z_Pre D vwCl (z_KK D cy adK adV) L f sz)) (z_Qv D vwCl (fun u => L = u.1 ∧ (∀ b ∈ L, b ≠ rd → b ≠ mo → b ≠ la → b ≠ sa → b ≠ mi → u.2 b = f b) ∧ (∃ (k2 a2 n2 z2 : Int32), (u.2 rd = .inr (5, [.int 0, .int (-1), .ref tp, .ref mo, .int 0, .int k2, .int a2, .int n2, .int z2])) ∧ (u.2 mo = .inr (2, [.int 0, .int 0, .int 0, .int 0, .int 0, .int 0, .int 0, .ref la, .ref sa, .ref mi, .ref da])) ∧ (u.2 la = .inl (cy 1, 5, .inl (fun _ => 0))) ∧ (u.2 sa = .inl (cy 1, 4, .inl (fun _ => 0))) ∧ (u.2 mi = .inl (cy 1, 36, .inl (fun _ => 0))) ∧ ((0 ≤ a2.toInt ∧ a2.toInt ≤ 1600) ∧ (0 ≤ n2.toInt ∧ n2.toInt ≤ 1600)))) L sz) 0 0 (z_A L sz) := by
  refine z_met (cc := cX5_begin) (maxL := 1) (ret := none) (lv := [(0, .ref rd)]) (by decide) rfl (Nat.le_of_ble_eq_true rfl) rfl ?_
  intro p e s m below meth c ls hx hb hr hlk hml hown hnm hts hKK hA hw hl
  have hK := hKK.1.1
  have hown : s.vm.findClass RX5 = some m.cls := hown
  have hT : ∀ w ∈ lw_all, w.before ([.ref rd] : List Value).toArray s = true := fun w h => hts w (z_cons w h)
  have hsub : L = L := rfl
  have hfr : ∀ b ∈ L, b ≠ rd → b ≠ mo → b ≠ la → b ≠ sa → b ≠ mi → f b = f b := fun _ _ _ _ _ _ _ => rfl
  refine lv_aload_n hx hb dX5_begin_0 rfl (lv_at hl 0 rfl) ?_
  refine lv_iconst (v := 0) hx hb dX5_begin_1 (by decide) ?_
  refine z_put (C := RX5) (T := TX5) (N := 9) (ci := 5) (v := .int 0) (fs' := [.int 0, .int fp, .ref tp, .ref mo, .int ot_, .int ki, .int ra, .int rn, .int rv]) hx hb hT zin_X5 tyX5_ok nmX5 hown hK hw hm_rd hf_rd rfl 0 (by decide) (hT _ kw_277) rfl rfl rfl (Nat.le_of_ble_eq_true rfl) rfl dX5_begin_2 (fun H locs hw => ?_)
  obtain ⟨f1, e_f1⟩ : ∃ z, z = va_up f rd (.inr (5, [.int 0, .int fp, .ref tp, .ref mo, .int ot_, .int ki, .int ra, .int rn, .int rv])) := ⟨_, rfl⟩
  rw [← e_f1] at hw
  have hf_tp : f1 tp = .inr (7, [.ref tb, .int tl]) := (congrFun e_f1 tp).trans (z_up_ne (z_tne hf_tp hf_rd (m := 7) (n := 5) rfl rfl (by decide)) hf_tp)
  have hf_tb : f1 tb = .inl (cy 0, 1600, .inl gt) := (congrFun e_f1 tb).trans (z_up_ne (z_tne hf_tb hf_rd (m := 12900) (n := 5) rfl rfl (by decide)) hf_tb)
  have hf_mo : f1 mo = .inr (2, [.int v0, .int v1, .int v2, .int v3, .int v4, .int v5, .int v6, .ref la, .ref sa, .ref mi, .ref da]) := (congrFun e_f1 mo).trans (z_up_ne (z_tne hf_mo hf_rd (m := 2) (n := 5) rfl rfl (by decide)) hf_mo)
  have hf_la : f1 la = .inl (cy 1, 5, .inl gl) := (congrFun e_f1 la).trans (z_up_ne (z_tne hf_la hf_rd (m := 140) (n := 5) rfl rfl (by decide)) hf_la)
  have hf_sa : f1 sa = .inl (cy 1, 4, .inl gs) := (congrFun e_f1 sa).trans (z_up_ne (z_tne hf_sa hf_rd (m := 132) (n := 5) rfl rfl (by decide)) hf_sa)
  have hf_mi : f1 mi = .inl (cy 1, 36, .inl gm) := (congrFun e_f1 mi).trans (z_up_ne (z_tne hf_mi hf_rd (m := 388) (n := 5) rfl rfl (by decide)) hf_mi)
  have hf_rd : f1 rd = .inr (5, [.int 0, .int fp, .ref tp, .ref mo, .int ot_, .int ki, .int ra, .int rn, .int rv]) := (congrFun e_f1 rd).trans z_up_self
  have hfr : ∀ b ∈ L, b ≠ rd → b ≠ mo → b ≠ la → b ≠ sa → b ≠ mi → f1 b = f b := fun b hb h0 h1 h2 h3 h4 => (congrFun e_f1 b).trans (z_up_ne h0 (hfr b hb h0 h1 h2 h3 h4))
  refine lv_aload_n hx hb dX5_begin_5 rfl (lv_at hl 0 rfl) ?_
  refine lv_iconst (v := (-1)) hx hb dX5_begin_6 (by decide) ?_
  refine z_put (C := RX5) (T := TX5) (N := 9) (ci := 5) (v := .int (-1)) (fs' := [.int 0, .int (-1), .ref tp, .ref mo, .int ot_, .int ki, .int ra, .int rn, .int rv]) hx hb hT zin_X5 tyX5_ok nmX5 hown hK hw hm_rd hf_rd rfl 1 (by decide) (hT _ kw_279) rfl rfl rfl (Nat.le_of_ble_eq_true rfl) rfl dX5_begin_7 (fun H locs hw => ?_)
  obtain ⟨f2, e_f2⟩ : ∃ z, z = va_up f1 rd (.inr (5, [.int 0, .int (-1), .ref tp, .ref mo, .int ot_, .int ki, .int ra, .int rn, .int rv])) := ⟨_, rfl⟩
  rw [← e_f2] at hw
  have hf_tp : f2 tp = .inr (7, [.ref tb, .int tl]) := (congrFun e_f2 tp).trans (z_up_ne (z_tne hf_tp hf_rd (m := 7) (n := 5) rfl rfl (by decide)) hf_tp)
  have hf_tb : f2 tb = .inl (cy 0, 1600, .inl gt) := (congrFun e_f2 tb).trans (z_up_ne (z_tne hf_tb hf_rd (m := 12900) (n := 5) rfl rfl (by decide)) hf_tb)
  have hf_mo : f2 mo = .inr (2, [.int v0, .int v1, .int v2, .int v3, .int v4, .int v5, .int v6, .ref la, .ref sa, .ref mi, .ref da]) := (congrFun e_f2 mo).trans (z_up_ne (z_tne hf_mo hf_rd (m := 2) (n := 5) rfl rfl (by decide)) hf_mo)
  have hf_la : f2 la = .inl (cy 1, 5, .inl gl) := (congrFun e_f2 la).trans (z_up_ne (z_tne hf_la hf_rd (m := 140) (n := 5) rfl rfl (by decide)) hf_la)
  have hf_sa : f2 sa = .inl (cy 1, 4, .inl gs) := (congrFun e_f2 sa).trans (z_up_ne (z_tne hf_sa hf_rd (m := 132) (n := 5) rfl rfl (by decide)) hf_sa)
  have hf_mi : f2 mi = .inl (cy 1, 36, .inl gm) := (congrFun e_f2 mi).trans (z_up_ne (z_tne hf_mi hf_rd (m := 388) (n := 5) rfl rfl (by decide)) hf_mi)
  have hf_rd : f2 rd = .inr (5, [.int 0, .int (-1), .ref tp, .ref mo, .int ot_, .int ki, .int ra, .int rn, .int rv]) := (congrFun e_f2 rd).trans z_up_self
  have hfr : ∀ b ∈ L, b ≠ rd → b ≠ mo → b ≠ la → b ≠ sa → b ≠ mi → f2 b = f b := fun b hb h0 h1 h2 h3 h4 => (congrFun e_f2 b).trans (z_up_ne h0 (hfr b hb h0 h1 h2 h3 h4))
  refine lv_aload_n hx hb dX5_begin_10 rfl (lv_at hl 0 rfl) ?_
  refine lv_iconst (v := 0) hx hb dX5_begin_11 (by decide) ?_
  refine z_put (C := RX5) (T := TX5) (N := 9) (ci := 5) (v := .int 0) (fs' := [.int 0, .int (-1), .ref tp, .ref mo, .int 0, .int ki, .int ra, .int rn, .int rv]) hx hb hT zin_X5 tyX5_ok nmX5 hown hK hw hm_rd hf_rd rfl 4 (by decide) (hT _ kw_283) rfl rfl rfl (Nat.le_of_ble_eq_true rfl) rfl dX5_begin_12 (fun H locs hw => ?_)
  obtain ⟨f3, e_f3⟩ : ∃ z, z = va_up f2 rd (.inr (5, [.int 0, .int (-1), .ref tp, .ref mo, .int 0, .int ki, .int ra, .int rn, .int rv])) := ⟨_, rfl⟩
  rw [← e_f3] at hw
  have hf_tp : f3 tp = .inr (7, [.ref tb, .int tl]) := (congrFun e_f3 tp).trans (z_up_ne (z_tne hf_tp hf_rd (m := 7) (n := 5) rfl rfl (by decide)) hf_tp)
  have hf_tb : f3 tb = .inl (cy 0, 1600, .inl gt) := (congrFun e_f3 tb).trans (z_up_ne (z_tne hf_tb hf_rd (m := 12900) (n := 5) rfl rfl (by decide)) hf_tb)
  have hf_mo : f3 mo = .inr (2, [.int v0, .int v1, .int v2, .int v3, .int v4, .int v5, .int v6, .ref la, .ref sa, .ref mi, .ref da]) := (congrFun e_f3 mo).trans (z_up_ne (z_tne hf_mo hf_rd (m := 2) (n := 5) rfl rfl (by decide)) hf_mo)
  have hf_la : f3 la = .inl (cy 1, 5, .inl gl) := (congrFun e_f3 la).trans (z_up_ne (z_tne hf_la hf_rd (m := 140) (n := 5) rfl rfl (by decide)) hf_la)
  have hf_sa : f3 sa = .inl (cy 1, 4, .inl gs) := (congrFun e_f3 sa).trans (z_up_ne (z_tne hf_sa hf_rd (m := 132) (n := 5) rfl rfl (by decide)) hf_sa)
  have hf_mi : f3 mi = .inl (cy 1, 36, .inl gm) := (congrFun e_f3 mi).trans (z_up_ne (z_tne hf_mi hf_rd (m := 388) (n := 5) rfl rfl (by decide)) hf_mi)
  have hf_rd : f3 rd = .inr (5, [.int 0, .int (-1), .ref tp, .ref mo, .int 0, .int ki, .int ra, .int rn, .int rv]) := (congrFun e_f3 rd).trans z_up_self
  have hfr : ∀ b ∈ L, b ≠ rd → b ≠ mo → b ≠ la → b ≠ sa → b ≠ mi → f3 b = f b := fun b hb h0 h1 h2 h3 h4 => (congrFun e_f3 b).trans (z_up_ne h0 (hfr b hb h0 h1 h2 h3 h4))
  refine lv_aload_n hx hb dX5_begin_15 rfl (lv_at hl 0 rfl) ?_
  refine lv_iconst (v := 0) hx hb dX5_begin_16 (by decide) ?_
  refine z_put (C := RX5) (T := TX5) (N := 9) (ci := 5) (v := .int 0) (fs' := [.int 0, .int (-1), .ref tp, .ref mo, .int 0, .int ki, .int ra, .int 0, .int rv]) hx hb hT zin_X5 tyX5_ok nmX5 hown hK hw hm_rd hf_rd rfl 7 (by decide) (hT _ kw_286) rfl rfl rfl (Nat.le_of_ble_eq_true rfl) rfl dX5_begin_17 (fun H locs hw => ?_)
  obtain ⟨f4, e_f4⟩ : ∃ z, z = va_up f3 rd (.inr (5, [.int 0, .int (-1), .ref tp, .ref mo, .int 0, .int ki, .int ra, .int 0, .int rv])) := ⟨_, rfl⟩
  rw [← e_f4] at hw
  have hf_tp : f4 tp = .inr (7, [.ref tb, .int tl]) := (congrFun e_f4 tp).trans (z_up_ne (z_tne hf_tp hf_rd (m := 7) (n := 5) rfl rfl (by decide)) hf_tp)
  have hf_tb : f4 tb = .inl (cy 0, 1600, .inl gt) := (congrFun e_f4 tb).trans (z_up_ne (z_tne hf_tb hf_rd (m := 12900) (n := 5) rfl rfl (by decide)) hf_tb)
  have hf_mo : f4 mo = .inr (2, [.int v0, .int v1, .int v2, .int v3, .int v4, .int v5, .int v6, .ref la, .ref sa, .ref mi, .ref da]) := (congrFun e_f4 mo).trans (z_up_ne (z_tne hf_mo hf_rd (m := 2) (n := 5) rfl rfl (by decide)) hf_mo)
  have hf_la : f4 la = .inl (cy 1, 5, .inl gl) := (congrFun e_f4 la).trans (z_up_ne (z_tne hf_la hf_rd (m := 140) (n := 5) rfl rfl (by decide)) hf_la)
  have hf_sa : f4 sa = .inl (cy 1, 4, .inl gs) := (congrFun e_f4 sa).trans (z_up_ne (z_tne hf_sa hf_rd (m := 132) (n := 5) rfl rfl (by decide)) hf_sa)
  have hf_mi : f4 mi = .inl (cy 1, 36, .inl gm) := (congrFun e_f4 mi).trans (z_up_ne (z_tne hf_mi hf_rd (m := 388) (n := 5) rfl rfl (by decide)) hf_mi)
  have hf_rd : f4 rd = .inr (5, [.int 0, .int (-1), .ref tp, .ref mo, .int 0, .int ki, .int ra, .int 0, .int rv]) := (congrFun e_f4 rd).trans z_up_self
  have hfr : ∀ b ∈ L, b ≠ rd → b ≠ mo → b ≠ la → b ≠ sa → b ≠ mi → f4 b = f b := fun b hb h0 h1 h2 h3 h4 => (congrFun e_f4 b).trans (z_up_ne h0 (hfr b hb h0 h1 h2 h3 h4))
  refine lv_aload_n hx hb dX5_begin_20 rfl (lv_at hl 0 rfl) ?_
  refine z_get (C := RX5) (T := TX5) (N := 9) (ci := 5) (v := .ref mo) hx hb hT zin_X5 hown hK hw hm_rd hf_rd rfl 3 (by decide) (hT _ kw_282) rfl dX5_begin_21 ?_
  refine z_callvV (cells := 0) (slots := 0) (b := mo) (As := []) (rest := []) (ci := 2) (q0 := (RX2, TX2, 11)) ⟨hx, hb, hml, hown, hT⟩ (c_X2_forgetN l hm_mo hm_la hm_sa hm_mi hf_mo hf_la hf_sa hf_mi) (cwV 0 hT (z_goodV (fun _ h => h) kw_531 kw_532 kw_533 kw_87 kw_534) rfl rfl rfl (by decide +kernel) ⟨by decide, by decide⟩) z_mv hKK hK hw hA hm_mo hf_mo rfl rfl rfl hl.1 rfl (Nat.le_of_ble_eq_true rfl) dX5_begin_24 ⟨by decide, by decide⟩ (fun u H locs hp hw => ?_)
  obtain ⟨L5, f6⟩ := u
  obtain ⟨hsb, hfm, ha_0, ha_1, ha_2, ha_3, hp⟩ := hp
  have hsb : L = L5 := hsb
  subst hsb
  have hsb : ∀ b ∈ L, b ∈ L := fun _ h => h
  have hw : z_H D vwCl (z_A L sz) s.heap L f6 H locs := hw
  have hfr : ∀ b ∈ L, b ≠ rd → b ≠ mo → b ≠ la → b ≠ sa → b ≠ mi → f6 b = f b := fun b hb h0 h1 h2 h3 h4 => (hfm b hb h1 h2 h3 h4).trans (hfr b hb h0 h1 h2 h3 h4)
  have hf_rd : f6 rd = .inr (5, [.int 0, .int (-1), .ref tp, .ref mo, .int 0, .int ki, .int ra, .int 0, .int rv]) := (hfm rd hm_rd (z_tne hf_rd hf_mo (m := 5) (n := 2) rfl rfl (by decide)) (z_tne hf_rd hf_la (m := 5) (n := 140) rfl rfl (by decide)) (z_tne hf_rd hf_sa (m := 5) (n := 132) rfl rfl (by decide)) (z_tne hf_rd hf_mi (m := 5) (n := 388) rfl rfl (by decide))).trans hf_rd
  have hf_tp : f6 tp = .inr (7, [.ref tb, .int tl]) := (hfm tp hm_tp (z_tne hf_tp hf_mo (m := 7) (n := 2) rfl rfl (by decide)) (z_tne hf_tp hf_la (m := 7) (n := 140) rfl rfl (by decide)) (z_tne hf_tp hf_sa (m := 7) (n := 132) rfl rfl (by decide)) (z_tne hf_tp hf_mi (m := 7) (n := 388) rfl rfl (by decide))).trans hf_tp
  have hf_tb : f6 tb = .inl (cy 0, 1600, .inl gt) := (hfm tb hm_tb (z_tne hf_tb hf_mo (m := 12900) (n := 2) rfl rfl (by decide)) (z_tne hf_tb hf_la (m := 12900) (n := 140) rfl rfl (by decide)) (z_tne hf_tb hf_sa (m := 12900) (n := 132) rfl rfl (by decide)) (z_tne hf_tb hf_mi (m := 12900) (n := 388) rfl rfl (by decide))).trans hf_tb
  have hf_mo : f6 mo = .inr (2, [.int 0, .int 0, .int 0, .int 0, .int 0, .int 0, .int 0, .ref la, .ref sa, .ref mi, .ref da]) := ha_0
  have hf_la : f6 la = .inl (cy 1, 5, .inl (fun _ => 0)) := ha_1
  have hf_sa : f6 sa = .inl (cy 1, 4, .inl (fun _ => 0)) := ha_2
  have hf_mi : f6 mi = .inl (cy 1, 36, .inl (fun _ => 0)) := ha_3
  refine lv_aload_n hx hb dX5_begin_27 rfl (lv_at hl 0 rfl) ?_
  refine z_callvV (cells := 0) (slots := 0) (b := rd) (As := []) (rest := []) (ci := 5) (q0 := (RX5, TX5, 9)) ⟨hx, hb, hml, hown, hT⟩ (c_X5_step l hm_rd hm_tp hm_tb hf_rd hf_tp hf_tb (by first | omega | decide | assumption) ⟨by omega, by decide⟩) (cwV 0 hT (z_goodV (fun _ h => h) kw_536 kw_538 kw_0 kw_89 kw_539) rfl rfl rfl (by decide +kernel) ⟨by decide, by decide⟩) z_mv hKK hK hw hA hm_rd hf_rd rfl rfl rfl hl.1 rfl (Nat.le_of_ble_eq_true rfl) dX5_begin_28 ⟨by decide, by decide⟩ (fun u H locs hp hw => ?_)
  obtain ⟨L7, f8⟩ := u
  obtain ⟨hsb, hfm, k2_9, a2_10, n2_11, z2_12, ha_0, hp⟩ := hp
  have hsb : L = L7 := hsb
  subst hsb
  have hsb : ∀ b ∈ L, b ∈ L := fun _ h => h
  have hw : z_H D vwCl (z_A L sz) s.heap L f8 H locs := hw
  have hfr : ∀ b ∈ L, b ≠ rd → b ≠ mo → b ≠ la → b ≠ sa → b ≠ mi → f8 b = f b := fun b hb h0 h1 h2 h3 h4 => (hfm b hb h0).trans (hfr b hb h0 h1 h2 h3 h4)
  have hf_tp : f8 tp = .inr (7, [.ref tb, .int tl]) := (hfm tp hm_tp (z_tne hf_tp hf_rd (m := 7) (n := 5) rfl rfl (by decide))).trans hf_tp
  have hf_tb : f8 tb = .inl (cy 0, 1600, .inl gt) := (hfm tb hm_tb (z_tne hf_tb hf_rd (m := 12900) (n := 5) rfl rfl (by decide))).trans hf_tb
  have hf_mo : f8 mo = .inr (2, [.int 0, .int 0, .int 0, .int 0, .int 0, .int 0, .int 0, .ref la, .ref sa, .ref mi, .ref da]) := (hfm mo hm_mo (z_tne hf_mo hf_rd (m := 2) (n := 5) rfl rfl (by decide))).trans hf_mo
  have hf_la : f8 la = .inl (cy 1, 5, .inl (fun _ => 0)) := (hfm la hm_la (z_tne hf_la hf_rd (m := 140) (n := 5) rfl rfl (by decide))).trans hf_la
  have hf_sa : f8 sa = .inl (cy 1, 4, .inl (fun _ => 0)) := (hfm sa hm_sa (z_tne hf_sa hf_rd (m := 132) (n := 5) rfl rfl (by decide))).trans hf_sa
  have hf_mi : f8 mi = .inl (cy 1, 36, .inl (fun _ => 0)) := (hfm mi hm_mi (z_tne hf_mi hf_rd (m := 388) (n := 5) rfl rfl (by decide))).trans hf_mi
  have hf_rd : f8 rd = .inr (5, [.int 0, .int (-1), .ref tp, .ref mo, .int 0, .int k2_9, .int a2_10, .int n2_11, .int z2_12]) := ha_0
  exact z_vret hx hb hr hlk (by decide) (by decide) hw (⟨hsub, hfr, k2_9, a2_10, n2_11, z2_12, hf_rd, hf_mo, hf_la, hf_sa, hf_mi, by omega, by omega⟩) dX5_begin_31
