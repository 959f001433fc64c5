set_option maxHeartbeats 2000000 in
set_option maxRecDepth 100000 in
theorem c_X2_forget (l : Launch) {D : va_G} {cy : Nat → ClassId} {L : List Nat} {f : Nat → va_E} {sz : Nat} {mo la sa mi da : Nat} {v0 v1 v2 v3 v4 v5 v6 : Int32} {g1 g2 g3 : Nat → Int32} (hm_mo : mo ∈ L) (hm_la : la ∈ L) (hm_sa : sa ∈ L) (hm_mi : mi ∈ L) (hf_mo : f mo = .inr (2, [.int v0, .int v1, .int v2, .int v3, .int v4, .int v5, .int v6, .ref la, .ref sa, .ref mi, .ref da])) (hf_la : f la = .inl (cy 1, 5, .inl g1)) (hf_sa : f sa = .inl (cy 1, 4, .inl g2)) (hf_mi : f mi = .inl (cy 1, 36, .inl g3)) : Met l yX2_forget (z_ws yX2_forget cX2_forget 1 none) (z_R 2 0 0) (va_Pc [.ref mo] (z_Pre D vwCl (z_K D cy) L f sz)) (z_Qv D vwCl (fun u => (∀ b ∈ L, b ∈ u.1) ∧ (∀ b ∈ L, b ≠ mo → b ≠ la → b ≠ sa → b ≠ mi → u.2 b = f b) ∧ (∃ (h1 h2 h3 : Nat → Int32), (u.2 mo = .inr (2, [.int 0, .int 0, .int 0, .int 0, .int 0, .int 0, .int 0, .ref la, .ref sa, .ref mi, .ref da])) ∧ (u.2 la = .inl (cy 1, 5, .inl h1)) ∧ (u.2 sa = .inl (cy 1, 4, .inl h2)) ∧ (u.2 mi = .inl (cy 1, 36, .inl h3)) ∧ (True))) L sz) 0 0 (z_A L sz) := by
  refine z_met (cc := cX2_forget) (maxL := 1) (ret := none) (lv := [(0, .ref mo)]) (by decide) rfl (Nat.le_of_ble_eq_true rfl) rfl ?_
  intro p e s m below meth c ls hx hb hr hlk hml hown hnm hts hKK hA hw hl
  have hK := hKK.1
  have hown : s.vm.findClass RX2 = some m.cls := hown
  have hT : ∀ w ∈ lw_all, w.before ([.ref mo] : List Value).toArray s = true := fun w h => hts w (z_cons w h)
  have hsub : ∀ b ∈ L, b ∈ L := fun _ h => h
  have hfr : ∀ b ∈ L, b ≠ mo → b ≠ la → b ≠ sa → b ≠ mi → f b = f b := fun _ _ _ _ _ _ => rfl
  refine lv_aload_n hx hb dX2_forget_0 rfl (lv_at hl 0 rfl) ?_
  refine lv_iconst (v := 0) hx hb dX2_forget_1 (by decide) ?_
  refine z_put (C := RX2) (T := TX2) (N := 11) (ci := 2) (v := .int 0) (fs' := [.int 0, .int v1, .int v2, .int v3, .int v4, .int v5, .int v6, .ref la, .ref sa, .ref mi, .ref da]) hx hb hT zin_X2 tyX2_ok nmX2 hown hK hw hm_mo hf_mo rfl 0 (by decide) (hT _ kw_204) rfl rfl rfl (Nat.le_of_ble_eq_true rfl) rfl dX2_forget_2 (fun H locs hw => ?_)
  obtain ⟨f1, e_f1⟩ : ∃ z, z = va_up f mo (.inr (2, [.int 0, .int v1, .int v2, .int v3, .int v4, .int v5, .int v6, .ref la, .ref sa, .ref mi, .ref da])) := ⟨_, rfl⟩
  rw [← e_f1] at hw
  have hf_la : f1 la = .inl (cy 1, 5, .inl g1) := (congrFun e_f1 la).trans (z_up_ne (z_tne hf_la hf_mo (m := 140) (n := 2) rfl rfl (by decide)) hf_la)
  have hf_sa : f1 sa = .inl (cy 1, 4, .inl g2) := (congrFun e_f1 sa).trans (z_up_ne (z_tne hf_sa hf_mo (m := 132) (n := 2) rfl rfl (by decide)) hf_sa)
  have hf_mi : f1 mi = .inl (cy 1, 36, .inl g3) := (congrFun e_f1 mi).trans (z_up_ne (z_tne hf_mi hf_mo (m := 388) (n := 2) rfl rfl (by decide)) hf_mi)
  have hf_mo : f1 mo = .inr (2, [.int 0, .int v1, .int v2, .int v3, .int v4, .int v5, .int v6, .ref la, .ref sa, .ref mi, .ref da]) := (congrFun e_f1 mo).trans z_up_self
  have hfr : ∀ b ∈ L, b ≠ mo → b ≠ la → b ≠ sa → b ≠ mi → f1 b = f b := fun b hb h0 h1 h2 h3 => (congrFun e_f1 b).trans (z_up_ne h0 (hfr b hb h0 h1 h2 h3))
  refine lv_aload_n hx hb dX2_forget_5 rfl (lv_at hl 0 rfl) ?_
  refine lv_iconst (v := 0) hx hb dX2_forget_6 (by decide) ?_
  refine z_put (C := RX2) (T := TX2) (N := 11) (ci := 2) (v := .int 0) (fs' := [.int 0, .int 0, .int v2, .int v3, .int v4, .int v5, .int v6, .ref la, .ref sa, .ref mi, .ref da]) hx hb hT zin_X2 tyX2_ok nmX2 hown hK hw hm_mo hf_mo rfl 1 (by decide) (hT _ kw_207) rfl rfl rfl (Nat.le_of_ble_eq_true rfl) rfl dX2_forget_7 (fun H locs hw => ?_)
  obtain ⟨f2, e_f2⟩ : ∃ z, z = va_up f1 mo (.inr (2, [.int 0, .int 0, .int v2, .int v3, .int v4, .int v5, .int v6, .ref la, .ref sa, .ref mi, .ref da])) := ⟨_, rfl⟩
  rw [← e_f2] at hw
  have hf_la : f2 la = .inl (cy 1, 5, .inl g1) := (congrFun e_f2 la).trans (z_up_ne (z_tne hf_la hf_mo (m := 140) (n := 2) rfl rfl (by decide)) hf_la)
  have hf_sa : f2 sa = .inl (cy 1, 4, .inl g2) := (congrFun e_f2 sa).trans (z_up_ne (z_tne hf_sa hf_mo (m := 132) (n := 2) rfl rfl (by decide)) hf_sa)
  have hf_mi : f2 mi = .inl (cy 1, 36, .inl g3) := (congrFun e_f2 mi).trans (z_up_ne (z_tne hf_mi hf_mo (m := 388) (n := 2) rfl rfl (by decide)) hf_mi)
  have hf_mo : f2 mo = .inr (2, [.int 0, .int 0, .int v2, .int v3, .int v4, .int v5, .int v6, .ref la, .ref sa, .ref mi, .ref da]) := (congrFun e_f2 mo).trans z_up_self
  have hfr : ∀ b ∈ L, b ≠ mo → b ≠ la → b ≠ sa → b ≠ mi → f2 b = f b := fun b hb h0 h1 h2 h3 => (congrFun e_f2 b).trans (z_up_ne h0 (hfr b hb h0 h1 h2 h3))
  refine lv_aload_n hx hb dX2_forget_10 rfl (lv_at hl 0 rfl) ?_
  refine lv_iconst (v := 0) hx hb dX2_forget_11 (by decide) ?_
  refine z_put (C := RX2) (T := TX2) (N := 11) (ci := 2) (v := .int 0) (fs' := [.int 0, .int 0, .int 0, .int v3, .int v4, .int v5, .int v6, .ref la, .ref sa, .ref mi, .ref da]) hx hb hT zin_X2 tyX2_ok nmX2 hown hK hw hm_mo hf_mo rfl 2 (by decide) (hT _ kw_211) rfl rfl rfl (Nat.le_of_ble_eq_true rfl) rfl dX2_forget_12 (fun H locs hw => ?_)
  obtain ⟨f3, e_f3⟩ : ∃ z, z = va_up f2 mo (.inr (2, [.int 0, .int 0, .int 0, .int v3, .int v4, .int v5, .int v6, .ref la, .ref sa, .ref mi, .ref da])) := ⟨_, rfl⟩
  rw [← e_f3] at hw
  have hf_la : f3 la = .inl (cy 1, 5, .inl g1) := (congrFun e_f3 la).trans (z_up_ne (z_tne hf_la hf_mo (m := 140) (n := 2) rfl rfl (by decide)) hf_la)
  have hf_sa : f3 sa = .inl (cy 1, 4, .inl g2) := (congrFun e_f3 sa).trans (z_up_ne (z_tne hf_sa hf_mo (m := 132) (n := 2) rfl rfl (by decide)) hf_sa)
  have hf_mi : f3 mi = .inl (cy 1, 36, .inl g3) := (congrFun e_f3 mi).trans (z_up_ne (z_tne hf_mi hf_mo (m := 388) (n := 2) rfl rfl (by decide)) hf_mi)
  have hf_mo : f3 mo = .inr (2, [.int 0, .int 0, .int 0, .int v3, .int v4, .int v5, .int v6, .ref la, .ref sa, .ref mi, .ref da]) := (congrFun e_f3 mo).trans z_up_self
  have hfr : ∀ b ∈ L, b ≠ mo → b ≠ la → b ≠ sa → b ≠ mi → f3 b = f b := fun b hb h0 h1 h2 h3 => (congrFun e_f3 b).trans (z_up_ne h0 (hfr b hb h0 h1 h2 h3))
  refine lv_aload_n hx hb dX2_forget_15 rfl (lv_at hl 0 rfl) ?_
  refine lv_iconst (v := 0) hx hb dX2_forget_16 (by decide) ?_
  refine z_put (C := RX2) (T := TX2) (N := 11) (ci := 2) (v := .int 0) (fs' := [.int 0, .int 0, .int 0, .int 0, .int v4, .int v5, .int v6, .ref la, .ref sa, .ref mi, .ref da]) hx hb hT zin_X2 tyX2_ok nmX2 hown hK hw hm_mo hf_mo rfl 3 (by decide) (hT _ kw_215) rfl rfl rfl (Nat.le_of_ble_eq_true rfl) rfl dX2_forget_17 (fun H locs hw => ?_)
  obtain ⟨f4, e_f4⟩ : ∃ z, z = va_up f3 mo (.inr (2, [.int 0, .int 0, .int 0, .int 0, .int v4, .int v5, .int v6, .ref la, .ref sa, .ref mi, .ref da])) := ⟨_, rfl⟩
  rw [← e_f4] at hw
  have hf_la : f4 la = .inl (cy 1, 5, .inl g1) := (congrFun e_f4 la).trans (z_up_ne (z_tne hf_la hf_mo (m := 140) (n := 2) rfl rfl (by decide)) hf_la)
  have hf_sa : f4 sa = .inl (cy 1, 4, .inl g2) := (congrFun e_f4 sa).trans (z_up_ne (z_tne hf_sa hf_mo (m := 132) (n := 2) rfl rfl (by decide)) hf_sa)
  have hf_mi : f4 mi = .inl (cy 1, 36, .inl g3) := (congrFun e_f4 mi).trans (z_up_ne (z_tne hf_mi hf_mo (m := 388) (n := 2) rfl rfl (by decide)) hf_mi)
  have hf_mo : f4 mo = .inr (2, [.int 0, .int 0, .int 0, .int 0, .int v4, .int v5, .int v6, .ref la, .ref sa, .ref mi, .ref da]) := (congrFun e_f4 mo).trans z_up_self
  have hfr : ∀ b ∈ L, b ≠ mo → b ≠ la → b ≠ sa → b ≠ mi → f4 b = f b := fun b hb h0 h1 h2 h3 => (congrFun e_f4 b).trans (z_up_ne h0 (hfr b hb h0 h1 h2 h3))
  refine lv_aload_n hx hb dX2_forget_20 rfl (lv_at hl 0 rfl) ?_
  refine lv_iconst (v := 0) hx hb dX2_forget_21 (by decide) ?_
  refine z_put (C := RX2) (T := TX2) (N := 11) (ci := 2) (v := .int 0) (fs' := [.int 0, .int 0, .int 0, .int 0, .int 0, .int v5, .int v6, .ref la, .ref sa, .ref mi, .ref da]) hx hb hT zin_X2 tyX2_ok nmX2 hown hK hw hm_mo hf_mo rfl 4 (by decide) (hT _ kw_218) rfl rfl rfl (Nat.le_of_ble_eq_true rfl) rfl dX2_forget_22 (fun H locs hw => ?_)
  obtain ⟨f5, e_f5⟩ : ∃ z, z = va_up f4 mo (.inr (2, [.int 0, .int 0, .int 0, .int 0, .int 0, .int v5, .int v6, .ref la, .ref sa, .ref mi, .ref da])) := ⟨_, rfl⟩
  rw [← e_f5] at hw
  have hf_la : f5 la = .inl (cy 1, 5, .inl g1) := (congrFun e_f5 la).trans (z_up_ne (z_tne hf_la hf_mo (m := 140) (n := 2) rfl rfl (by decide)) hf_la)
  have hf_sa : f5 sa = .inl (cy 1, 4, .inl g2) := (congrFun e_f5 sa).trans (z_up_ne (z_tne hf_sa hf_mo (m := 132) (n := 2) rfl rfl (by decide)) hf_sa)
  have hf_mi : f5 mi = .inl (cy 1, 36, .inl g3) := (congrFun e_f5 mi).trans (z_up_ne (z_tne hf_mi hf_mo (m := 388) (n := 2) rfl rfl (by decide)) hf_mi)
  have hf_mo : f5 mo = .inr (2, [.int 0, .int 0, .int 0, .int 0, .int 0, .int v5, .int v6, .ref la, .ref sa, .ref mi, .ref da]) := (congrFun e_f5 mo).trans z_up_self
  have hfr : ∀ b ∈ L, b ≠ mo → b ≠ la → b ≠ sa → b ≠ mi → f5 b = f b := fun b hb h0 h1 h2 h3 => (congrFun e_f5 b).trans (z_up_ne h0 (hfr b hb h0 h1 h2 h3))
  refine lv_aload_n hx hb dX2_forget_25 rfl (lv_at hl 0 rfl) ?_
  refine lv_iconst (v := 0) hx hb dX2_forget_26 (by decide) ?_
  refine z_put (C := RX2) (T := TX2) (N := 11) (ci := 2) (v := .int 0) (fs' := [.int 0, .int 0, .int 0, .int 0, .int 0, .int 0, .int v6, .ref la, .ref sa, .ref mi, .ref da]) hx hb hT zin_X2 tyX2_ok nmX2 hown hK hw hm_mo hf_mo rfl 5 (by decide) (hT _ kw_222) rfl rfl rfl (Nat.le_of_ble_eq_true rfl) rfl dX2_forget_27 (fun H locs hw => ?_)
  obtain ⟨f6, e_f6⟩ : ∃ z, z = va_up f5 mo (.inr (2, [.int 0, .int 0, .int 0, .int 0, .int 0, .int 0, .int v6, .ref la, .ref sa, .ref mi, .ref da])) := ⟨_, rfl⟩
  rw [← e_f6] at hw
  have hf_la : f6 la = .inl (cy 1, 5, .inl g1) := (congrFun e_f6 la).trans (z_up_ne (z_tne hf_la hf_mo (m := 140) (n := 2) rfl rfl (by decide)) hf_la)
  have hf_sa : f6 sa = .inl (cy 1, 4, .inl g2) := (congrFun e_f6 sa).trans (z_up_ne (z_tne hf_sa hf_mo (m := 132) (n := 2) rfl rfl (by decide)) hf_sa)
  have hf_mi : f6 mi = .inl (cy 1, 36, .inl g3) := (congrFun e_f6 mi).trans (z_up_ne (z_tne hf_mi hf_mo (m := 388) (n := 2) rfl rfl (by decide)) hf_mi)
  have hf_mo : f6 mo = .inr (2, [.int 0, .int 0, .int 0, .int 0, .int 0, .int 0, .int v6, .ref la, .ref sa, .ref mi, .ref da]) := (congrFun e_f6 mo).trans z_up_self
  have hfr : ∀ b ∈ L, b ≠ mo → b ≠ la → b ≠ sa → b ≠ mi → f6 b = f b := fun b hb h0 h1 h2 h3 => (congrFun e_f6 b).trans (z_up_ne h0 (hfr b hb h0 h1 h2 h3))
  refine lv_aload_n hx hb dX2_forget_30 rfl (lv_at hl 0 rfl) ?_
  refine lv_iconst (v := 0) hx hb dX2_forget_31 (by decide) ?_
  refine z_put (C := RX2) (T := TX2) (N := 11) (ci := 2) (v := .int 0) (fs' := [.int 0, .int 0, .int 0, .int 0, .int 0, .int 0, .int 0, .ref la, .ref sa, .ref mi, .ref da]) hx hb hT zin_X2 tyX2_ok nmX2 hown hK hw hm_mo hf_mo rfl 6 (by decide) (hT _ kw_227) rfl rfl rfl (Nat.le_of_ble_eq_true rfl) rfl dX2_forget_32 (fun H locs hw => ?_)
  obtain ⟨f7, e_f7⟩ : ∃ z, z = va_up f6 mo (.inr (2, [.int 0, .int 0, .int 0, .int 0, .int 0, .int 0, .int 0, .ref la, .ref sa, .ref mi, .ref da])) := ⟨_, rfl⟩
  rw [← e_f7] at hw
  have hf_la : f7 la = .inl (cy 1, 5, .inl g1) := (congrFun e_f7 la).trans (z_up_ne (z_tne hf_la hf_mo (m := 140) (n := 2) rfl rfl (by decide)) hf_la)
  have hf_sa : f7 sa = .inl (cy 1, 4, .inl g2) := (congrFun e_f7 sa).trans (z_up_ne (z_tne hf_sa hf_mo (m := 132) (n := 2) rfl rfl (by decide)) hf_sa)
  have hf_mi : f7 mi = .inl (cy 1, 36, .inl g3) := (congrFun e_f7 mi).trans (z_up_ne (z_tne hf_mi hf_mo (m := 388) (n := 2) rfl rfl (by decide)) hf_mi)
  have hf_mo : f7 mo = .inr (2, [.int 0, .int 0, .int 0, .int 0, .int 0, .int 0, .int 0, .ref la, .ref sa, .ref mi, .ref da]) := (congrFun e_f7 mo).trans z_up_self
  have hfr : ∀ b ∈ L, b ≠ mo → b ≠ la → b ≠ sa → b ≠ mi → f7 b = f b := fun b hb h0 h1 h2 h3 => (congrFun e_f7 b).trans (z_up_ne h0 (hfr b hb h0 h1 h2 h3))
  refine lv_aload_n hx hb dX2_forget_35 rfl (lv_at hl 0 rfl) ?_
  refine z_get (C := RX2) (T := TX2) (N := 11) (ci := 2) (v := .ref la) hx hb hT zin_X2 hown hK hw hm_mo hf_mo rfl 7 (by decide) (hT _ kw_230) rfl dX2_forget_36 ?_
  refine lv_iconst (v := 0) hx hb dX2_forget_39 (by decide) ?_
  refine z_callvS (cells := 0) (slots := 0) (As := [.ref la, .int 0]) (rest := []) ⟨hx, hb, hml, hown, hT⟩ (c_J7_fill_53178 l hm_la hf_la (by decide)) (va_cwS 2 hT (z_goodS (fun _ h => h) kw_535 kw_317 kw_91 kw_318) rfl rfl rfl (by decide +kernel) ⟨by decide, by decide⟩) z_mv hKK hw hA rfl hl.1 rfl (Nat.le_of_ble_eq_true rfl) dX2_forget_40 ⟨by decide, by decide⟩ (fun u H locs hp hw => ?_)
  obtain ⟨L8, f9⟩ := u
  obtain ⟨hsb, hfm, g2_10, ha_0, hp⟩ := hp
  have hw : z_H D vwCl (z_A L sz) s.heap L8 f9 H locs := hw
  have hfr : ∀ b ∈ L, b ≠ mo → b ≠ la → b ≠ sa → b ≠ mi → f9 b = f b := fun b hb h0 h1 h2 h3 => (hfm b (hsub b hb) h1).trans (hfr b hb h0 h1 h2 h3)
  have hsub : ∀ b ∈ L, b ∈ L8 := fun b h => hsb b (hsub b h)
  have hf_mo : f9 mo = .inr (2, [.int 0, .int 0, .int 0, .int 0, .int 0, .int 0, .int 0, .ref la, .ref sa, .ref mi, .ref da]) := (hfm mo hm_mo (z_tne hf_mo hf_la (m := 2) (n := 140) rfl rfl (by decide))).trans hf_mo
  have hf_sa : f9 sa = .inl (cy 1, 4, .inl g2) := (hfm sa hm_sa (z_tne hf_sa hf_la (m := 132) (n := 140) rfl rfl (by decide))).trans hf_sa
  have hf_mi : f9 mi = .inl (cy 1, 36, .inl g3) := (hfm mi hm_mi (z_tne hf_mi hf_la (m := 388) (n := 140) rfl rfl (by decide))).trans hf_mi
  have hm_mo : mo ∈ L8 := hsb _ hm_mo
  have hm_la : la ∈ L8 := hsb _ hm_la
  have hm_sa : sa ∈ L8 := hsb _ hm_sa
  have hm_mi : mi ∈ L8 := hsb _ hm_mi
  have hf_la : f9 la = .inl (cy 1, 5, .inl g2_10) := ha_0
  refine lv_aload_n hx hb dX2_forget_43 rfl (lv_at hl 0 rfl) ?_
  refine z_get (C := RX2) (T := TX2) (N := 11) (ci := 2) (v := .ref sa) hx hb hT zin_X2 hown hK hw hm_mo hf_mo rfl 8 (by decide) (hT _ kw_236) rfl dX2_forget_44 ?_
  refine lv_iconst (v := 0) hx hb dX2_forget_47 (by decide) ?_
  refine z_callvS (cells := 0) (slots := 0) (As := [.ref sa, .int 0]) (rest := []) ⟨hx, hb, hml, hown, hT⟩ (c_J7_fill_53178 l hm_sa hf_sa (by decide)) (va_cwS 2 hT (z_goodS (fun _ h => h) kw_535 kw_317 kw_91 kw_318) rfl rfl rfl (by decide +kernel) ⟨by decide, by decide⟩) z_mv hKK hw hA rfl hl.1 rfl (Nat.le_of_ble_eq_true rfl) dX2_forget_48 ⟨by decide, by decide⟩ (fun u H locs hp hw => ?_)
  obtain ⟨L11, f12⟩ := u
  obtain ⟨hsb, hfm, g2_13, ha_0, hp⟩ := hp
  have hw : z_H D vwCl (z_A L sz) s.heap L11 f12 H locs := hw
  have hfr : ∀ b ∈ L, b ≠ mo → b ≠ la → b ≠ sa → b ≠ mi → f12 b = f b := fun b hb h0 h1 h2 h3 => (hfm b (hsub b hb) h2).trans (hfr b hb h0 h1 h2 h3)
  have hsub : ∀ b ∈ L, b ∈ L11 := fun b h => hsb b (hsub b h)
  have hf_mo : f12 mo = .inr (2, [.int 0, .int 0, .int 0, .int 0, .int 0, .int 0, .int 0, .ref la, .ref sa, .ref mi, .ref da]) := (hfm mo hm_mo (z_tne hf_mo hf_sa (m := 2) (n := 132) rfl rfl (by decide))).trans hf_mo
  have hf_la : f12 la = .inl (cy 1, 5, .inl g2_10) := (hfm la hm_la (z_tne hf_la hf_sa (m := 140) (n := 132) rfl rfl (by decide))).trans hf_la
  have hf_mi : f12 mi = .inl (cy 1, 36, .inl g3) := (hfm mi hm_mi (z_tne hf_mi hf_sa (m := 388) (n := 132) rfl rfl (by decide))).trans hf_mi
  have hm_mo : mo ∈ L11 := hsb _ hm_mo
  have hm_la : la ∈ L11 := hsb _ hm_la
  have hm_sa : sa ∈ L11 := hsb _ hm_sa
  have hm_mi : mi ∈ L11 := hsb _ hm_mi
  have hf_sa : f12 sa = .inl (cy 1, 4, .inl g2_13) := ha_0
  refine lv_aload_n hx hb dX2_forget_51 rfl (lv_at hl 0 rfl) ?_
  refine z_get (C := RX2) (T := TX2) (N := 11) (ci := 2) (v := .ref mi) hx hb hT zin_X2 hown hK hw hm_mo hf_mo rfl 9 (by decide) (hT _ kw_239) rfl dX2_forget_52 ?_
  refine lv_iconst (v := 0) hx hb dX2_forget_55 (by decide) ?_
  refine z_callvS (cells := 0) (slots := 0) (As := [.ref mi, .int 0]) (rest := []) ⟨hx, hb, hml, hown, hT⟩ (c_J7_fill_53178 l hm_mi hf_mi (by decide)) (va_cwS 2 hT (z_goodS (fun _ h => h) kw_535 kw_317 kw_91 kw_318) rfl rfl rfl (by decide +kernel) ⟨by decide, by decide⟩) z_mv hKK hw hA rfl hl.1 rfl (Nat.le_of_ble_eq_true rfl) dX2_forget_56 ⟨by decide, by decide⟩ (fun u H locs hp hw => ?_)
  obtain ⟨L14, f15⟩ := u
  obtain ⟨hsb, hfm, g2_16, ha_0, hp⟩ := hp
  have hw : z_H D vwCl (z_A L sz) s.heap L14 f15 H locs := hw
  have hfr : ∀ b ∈ L, b ≠ mo → b ≠ la → b ≠ sa → b ≠ mi → f15 b = f b := fun b hb h0 h1 h2 h3 => (hfm b (hsub b hb) h3).trans (hfr b hb h0 h1 h2 h3)
  have hsub : ∀ b ∈ L, b ∈ L14 := fun b h => hsb b (hsub b h)
  have hf_mo : f15 mo = .inr (2, [.int 0, .int 0, .int 0, .int 0, .int 0, .int 0, .int 0, .ref la, .ref sa, .ref mi, .ref da]) := (hfm mo hm_mo (z_tne hf_mo hf_mi (m := 2) (n := 388) rfl rfl (by decide))).trans hf_mo
  have hf_la : f15 la = .inl (cy 1, 5, .inl g2_10) := (hfm la hm_la (z_tne hf_la hf_mi (m := 140) (n := 388) rfl rfl (by decide))).trans hf_la
  have hf_sa : f15 sa = .inl (cy 1, 4, .inl g2_13) := (hfm sa hm_sa (z_tne hf_sa hf_mi (m := 132) (n := 388) rfl rfl (by decide))).trans hf_sa
  have hm_mo : mo ∈ L14 := hsb _ hm_mo
  have hm_la : la ∈ L14 := hsb _ hm_la
  have hm_sa : sa ∈ L14 := hsb _ hm_sa
  have hm_mi : mi ∈ L14 := hsb _ hm_mi
  have hf_mi : f15 mi = .inl (cy 1, 36, .inl g2_16) := ha_0
  exact z_vret hx hb hr hlk (by decide) (by decide) hw (⟨hsub, hfr, g2_10, g2_13, g2_16, hf_mo, hf_la, hf_sa, hf_mi, trivial⟩) dX2_forget_59

set_option maxHeartbeats 2000000 in
set_option maxRecDepth 100000 in
theorem c_X5_step (l : Launch) {D : va_G} {cy : Nat → ClassId} {L : List Nat} {f : Nat → va_E} {sz : Nat} {rd tp dr ba : Nat} {k5 k6 k8 : Int32} (hm_rd : rd ∈ L) (hm_tp : tp ∈ L) (hf_rd : f rd = .inr (5, [.int 0, .int (-1), .ref tp, .ref dr, .int 0, .int k5, .int k6, .int 0, .int k8])) (hf_tp : f tp = .inr (7, [.ref ba, .int 0])) : Met l yX5_step (z_ws yX5_step cX5_step 3 none) (z_R 2 0 0) (va_Pc [.ref rd] (z_Pre D vwCl (z_K D cy) L f sz)) (z_Qv D vwCl (fun u => (∀ b ∈ L, b ∈ u.1) ∧ (∀ b ∈ L, b ≠ rd → u.2 b = f b) ∧ ((u.2 rd = .inr (5, [.int 0, .int (-1), .ref tp, .ref dr, .int 0, .int 0, .int 0, .int 0, .int k8])) ∧ (True))) L sz) 0 0 (z_A L sz) := by
  refine z_met (cc := cX5_step) (maxL := 3) (ret := none) (lv := [(0, .ref rd)]) (by decide) rfl (Nat.le_of_ble_eq_true rfl) rfl ?_
  intro p e s m below meth c ls hx hb hr hlk hml hown hnm hts hKK hA hw hl
  have hK := hKK.1
  have hown : s.vm.findClass RX5 = some m.cls := hown
  have hT : ∀ w ∈ lw_all, w.before ([.ref rd] : List Value).toArray s = true := fun w h => hts w (z_cons w h)
  have hsub : ∀ b ∈ L, b ∈ L := fun _ h => h
  have hfr : ∀ b ∈ L, b ≠ rd → f b = f b := fun _ _ _ => rfl
  refine lv_aload_n hx hb dX5_step_0 rfl (lv_at hl 0 rfl) ?_
  refine z_get (C := RX5) (T := TX5) (N := 9) (ci := 5) (v := .ref tp) hx hb hT zin_X5 hown hK hw hm_rd hf_rd rfl 2 (by decide) (hT _ kw_281) rfl dX5_step_1 ?_
  refine z_get (C := RX7) (T := TX7) (N := 2) (ci := 7) (v := .ref ba) hx hb hT zin_X7 hown hK hw hm_tp hf_tp rfl 0 (by decide) (hT _ kw_118) rfl dX5_step_4 ?_
  refine lv_astore_n (lv' := [(1, .ref ba), (0, .ref rd)]) hx hb dX5_step_7 rfl hl (by decide) rfl (fun ls hl => ?_)
  refine lv_aload_n hx hb dX5_step_8 rfl (lv_at hl 1 rfl) ?_
  refine z_get (C := RX5) (T := TX5) (N := 9) (ci := 5) (v := .ref tp) hx hb hT zin_X5 hown hK hw hm_rd hf_rd rfl 2 (by decide) (hT _ kw_281) rfl dX5_step_9 ?_
  refine z_get (C := RX7) (T := TX7) (N := 2) (ci := 7) (v := .int 0) hx hb hT zin_X7 hown hK hw hm_tp hf_tp rfl 1 (by decide) (hT _ kw_121) rfl dX5_step_12 ?_
  refine lv_sipush (v := 1600) hx hb dX5_step_15 (by decide) ?_
  refine va_mmin hx hb (by rw [hml]; exact hl.1.symm) hown (hT _ km_l) (hT _ km_s) (hT _ km_i) (hT _ km_c) (by decide) (Nat.le_of_ble_eq_true rfl) (by decide) (by decide) dX5_step_18 ?_
  refine z_lit (y := 0) (by decide) ?_
  refine lv_istore_n (lv' := [(2, .int 0), (1, .ref ba), (0, .ref rd)]) hx hb dX5_step_21 rfl hl (by decide) rfl (fun ls hl => ?_)
  refine lv_aload_n hx hb dX5_step_22 rfl (lv_at hl 2 rfl) ?_
  refine z_get (C := RX5) (T := TX5) (N := 9) (ci := 5) (v := .int 0) hx hb hT zin_X5 hown hK hw hm_rd hf_rd rfl 7 (by decide) (hT _ kw_286) rfl dX5_step_23 ?_
  refine lv_iload_n hx hb dX5_step_26 rfl (lv_at hl 0 rfl) ?_
  refine z_icmp_ge (tgt := 55) hx hb (show (0 : Int32).toInt = 0 by decide) (show (0 : Int32).toInt = 0 by decide) dX5_step_27 (by decide) (fun _ => ?_) (fun h => absurd h (by decide))
  refine lv_aload_n hx hb dX5_step_55 rfl (lv_at hl 2 rfl) ?_
  refine lv_aload_n hx hb dX5_step_56 rfl (lv_at hl 2 rfl) ?_
  refine z_get (C := RX5) (T := TX5) (N := 9) (ci := 5) (v := .int 0) hx hb hT zin_X5 hown hK hw hm_rd hf_rd rfl 7 (by decide) (hT _ kw_286) rfl dX5_step_57 ?_
  refine z_put (C := RX5) (T := TX5) (N := 9) (ci := 5) (v := .int 0) (fs' := [.int 0, .int (-1), .ref tp, .ref dr, .int 0, .int k5, .int 0, .int 0, .int k8]) hx hb hT zin_X5 tyX5_ok nmX5 hown hK hw hm_rd hf_rd rfl 6 (by decide) (hT _ kw_285) rfl rfl rfl (Nat.le_of_ble_eq_true rfl) rfl dX5_step_60 (fun H locs hw => ?_)
  obtain ⟨f1, e_f1⟩ : ∃ z, z = va_up f rd (.inr (5, [.int 0, .int (-1), .ref tp, .ref dr, .int 0, .int k5, .int 0, .int 0, .int k8])) := ⟨_, rfl⟩
  rw [← e_f1] at hw
  have hf_tp : f1 tp = .inr (7, [.ref ba, .int 0]) := (congrFun e_f1 tp).trans (z_up_ne (z_tne hf_tp hf_rd (m := 7) (n := 5) rfl rfl (by decide)) hf_tp)
  have hf_rd : f1 rd = .inr (5, [.int 0, .int (-1), .ref tp, .ref dr, .int 0, .int k5, .int 0, .int 0, .int k8]) := (congrFun e_f1 rd).trans z_up_self
  have hfr : ∀ b ∈ L, b ≠ rd → f1 b = f b := fun b hb h0 => (congrFun e_f1 b).trans (z_up_ne h0 (hfr b hb h0))
  refine lv_aload_n hx hb dX5_step_63 rfl (lv_at hl 2 rfl) ?_
  refine z_get (C := RX5) (T := TX5) (N := 9) (ci := 5) (v := .int 0) hx hb hT zin_X5 hown hK hw hm_rd hf_rd rfl 6 (by decide) (hT _ kw_285) rfl dX5_step_64 ?_
  refine lv_iload_n hx hb dX5_step_67 rfl (lv_at hl 0 rfl) ?_
  refine z_icmp_lt (tgt := 79) hx hb (show (0 : Int32).toInt = 0 by decide) (show (0 : Int32).toInt = 0 by decide) dX5_step_68 (by decide) (fun h => absurd h (by decide)) (fun _ => ?_)
  refine lv_aload_n hx hb dX5_step_71 rfl (lv_at hl 2 rfl) ?_
  refine lv_iconst (v := 0) hx hb dX5_step_72 (by decide) ?_
  refine z_put (C := RX5) (T := TX5) (N := 9) (ci := 5) (v := .int 0) (fs' := [.int 0, .int (-1), .ref tp, .ref dr, .int 0, .int 0, .int 0, .int 0, .int k8]) hx hb hT zin_X5 tyX5_ok nmX5 hown hK hw hm_rd hf_rd rfl 5 (by decide) (hT _ kw_284) rfl rfl rfl (Nat.le_of_ble_eq_true rfl) rfl dX5_step_73 (fun H locs hw => ?_)
  obtain ⟨f2, e_f2⟩ : ∃ z, z = va_up f1 rd (.inr (5, [.int 0, .int (-1), .ref tp, .ref dr, .int 0, .int 0, .int 0, .int 0, .int k8])) := ⟨_, rfl⟩
  rw [← e_f2] at hw
  have hf_tp : f2 tp = .inr (7, [.ref ba, .int 0]) := (congrFun e_f2 tp).trans (z_up_ne (z_tne hf_tp hf_rd (m := 7) (n := 5) rfl rfl (by decide)) hf_tp)
  have hf_rd : f2 rd = .inr (5, [.int 0, .int (-1), .ref tp, .ref dr, .int 0, .int 0, .int 0, .int 0, .int k8]) := (congrFun e_f2 rd).trans z_up_self
  have hfr : ∀ b ∈ L, b ≠ rd → f2 b = f b := fun b hb h0 => (congrFun e_f2 b).trans (z_up_ne h0 (hfr b hb h0))
  refine lv_goto (tgt := 240) hx hb dX5_step_76 (by decide) ?_
  exact z_vret hx hb hr hlk (by decide) (by decide) hw (⟨hsub, hfr, hf_rd, trivial⟩) dX5_step_240

set_option maxHeartbeats 2000000 in
set_option maxRecDepth 100000 in
theorem c_X5_hasMore (l : Launch) {D : va_G} {cy : Nat → ClassId} {L : List Nat} {f : Nat → va_E} {sz : Nat} {rd tp dr : Nat} {k8 : Int32} (hm_rd : rd ∈ L) (hf_rd : f rd = .inr (5, [.int 0, .int (-1), .ref tp, .ref dr, .int 0, .int 0, .int 0, .int 0, .int k8])) : Met l yX5_hasMore (z_ws yX5_hasMore cX5_hasMore 1 (some .boolean)) (z_R 1 0 0) (va_Pc [.ref rd] (z_Pre D vwCl (z_K D cy) L f sz)) (z_Qi D vwCl (fun r u => u = (L, f) ∧ (r = 0)) L sz) 0 0 (z_A L sz) := by
  refine z_met (cc := cX5_hasMore) (maxL := 1) (ret := (some .boolean)) (lv := [(0, .ref rd)]) (by decide) rfl (Nat.le_of_ble_eq_true rfl) rfl ?_
  intro p e s m below meth c ls hx hb hr hlk hml hown hnm hts hKK hA hw hl
  have hK := hKK.1
  have hown : s.vm.findClass RX5 = some m.cls := hown
  have hT : ∀ w ∈ lw_all, w.before ([.ref rd] : List Value).toArray s = true := fun w h => hts w (z_cons w h)
  refine lv_aload_n hx hb dX5_hasMore_0 rfl (lv_at hl 0 rfl) ?_
  refine z_get (C := RX5) (T := TX5) (N := 9) (ci := 5) (v := .int 0) hx hb hT zin_X5 hown hK hw hm_rd hf_rd rfl 0 (by decide) (hT _ kw_277) rfl dX5_hasMore_1 ?_
  refine z_if_ne (tgt := 18) hx hb (show (0 : Int32).toInt = 0 by decide) dX5_hasMore_4 (by decide) (fun h => absurd h (by decide)) (fun _ => ?_)
  refine lv_aload_n hx hb dX5_hasMore_7 rfl (lv_at hl 0 rfl) ?_
  refine z_get (C := RX5) (T := TX5) (N := 9) (ci := 5) (v := .int 0) hx hb hT zin_X5 hown hK hw hm_rd hf_rd rfl 5 (by decide) (hT _ kw_284) rfl dX5_hasMore_8 ?_
  refine z_if_eq (tgt := 18) hx hb (show (0 : Int32).toInt = 0 by decide) dX5_hasMore_11 (by decide) (fun _ => ?_) (fun h => absurd h (by decide))
  refine lv_iconst (v := 0) hx hb dX5_hasMore_18 (by decide) ?_
  exact z_zret hx hb hr rfl hlk (by decide) (by decide) hw (⟨rfl, rfl⟩) dX5_hasMore_19

set_option maxHeartbeats 2000000 in
set_option maxRecDepth 100000 in
theorem c_X5_begin (l : Launch) {D : va_G} {cy : Nat → ClassId} {L : List Nat} {f : Nat → va_E} {sz : Nat} {rd tp dr ba la sa mi da : Nat} {v0 v1 v2 v3 v4 v5 v6 k5 k6 k7 k8 k0 k1 k4 : Int32} {g1 g2 g3 : Nat → Int32} (hm_rd : rd ∈ L) (hm_tp : tp ∈ L) (hm_dr : dr ∈ L) (hm_la : la ∈ L) (hm_sa : sa ∈ L) (hm_mi : mi ∈ L) (hf_rd : f rd = .inr (5, [.int k0, .int k1, .ref tp, .ref dr, .int k4, .int k5, .int k6, .int k7, .int k8])) (hf_tp : f tp = .inr (7, [.ref ba, .int 0])) (hf_dr : f dr = .inr (2, [.int v0, .int v1, .int v2, .int v3, .int v4, .int v5, .int v6, .ref la, .ref sa, .ref mi, .ref da])) (hf_la : f la = .inl (cy 1, 5, .inl g1)) (hf_sa : f sa = .inl (cy 1, 4, .inl g2)) (hf_mi : f mi = .inl (cy 1, 36, .inl g3)) : Met l yX5_begin (z_ws yX5_begin cX5_begin 1 none) (z_R 4 0 0) (va_Pc [.ref rd] (z_Pre D vwCl (z_K D cy) L f sz)) (z_Qv D vwCl (fun u => (∀ b ∈ L, b ∈ u.1) ∧ (∀ b ∈ L, b ≠ rd → b ≠ dr → b ≠ la → b ≠ sa → b ≠ mi → u.2 b = f b) ∧ (∃ (h1 h2 h3 : Nat → Int32), (u.2 rd = .inr (5, [.int 0, .int (-1), .ref tp, .ref dr, .int 0, .int 0, .int 0, .int 0, .int k8])) ∧ (u.2 dr = .inr (2, [.int 0, .int 0, .int 0, .int 0, .int 0, .int 0, .int 0, .ref la, .ref sa, .ref mi, .ref da])) ∧ (u.2 la = .inl (cy 1, 5, .inl h1)) ∧ (u.2 sa = .inl (cy 1, 4, .inl h2)) ∧ (u.2 mi = .inl (cy 1, 36, .inl h3)) ∧ (True))) L sz) 0 0 (z_A L sz) := by
  refine z_met (cc := cX5_begin) (maxL := 1) (ret := none) (lv := [(0, .ref rd)]) (by decide) rfl (Nat.le_of_ble_eq_true rfl) rfl ?_
  intro p e s m below meth c ls hx hb hr hlk hml hown hnm hts hKK hA hw hl
  have hK := hKK.1
  have hown : s.vm.findClass RX5 = some m.cls := hown
  have hT : ∀ w ∈ lw_all, w.before ([.ref rd] : List Value).toArray s = true := fun w h => hts w (z_cons w h)
  have hsub : ∀ b ∈ L, b ∈ L := fun _ h => h
  have hfr : ∀ b ∈ L, b ≠ rd → b ≠ dr → b ≠ la → b ≠ sa → b ≠ mi → f b = f b := fun _ _ _ _ _ _ _ => rfl
  refine lv_aload_n hx hb dX5_begin_0 rfl (lv_at hl 0 rfl) ?_
  refine lv_iconst (v := 0) hx hb dX5_begin_1 (by decide) ?_
  refine z_put (C := RX5) (T := TX5) (N := 9) (ci := 5) (v := .int 0) (fs' := [.int 0, .int k1, .ref tp, .ref dr, .int k4, .int k5, .int k6, .int k7, .int k8]) hx hb hT zin_X5 tyX5_ok nmX5 hown hK hw hm_rd hf_rd rfl 0 (by decide) (hT _ kw_277) rfl rfl rfl (Nat.le_of_ble_eq_true rfl) rfl dX5_begin_2 (fun H locs hw => ?_)
  obtain ⟨f1, e_f1⟩ : ∃ z, z = va_up f rd (.inr (5, [.int 0, .int k1, .ref tp, .ref dr, .int k4, .int k5, .int k6, .int k7, .int k8])) := ⟨_, rfl⟩
  rw [← e_f1] at hw
  have hf_tp : f1 tp = .inr (7, [.ref ba, .int 0]) := (congrFun e_f1 tp).trans (z_up_ne (z_tne hf_tp hf_rd (m := 7) (n := 5) rfl rfl (by decide)) hf_tp)
  have hf_dr : f1 dr = .inr (2, [.int v0, .int v1, .int v2, .int v3, .int v4, .int v5, .int v6, .ref la, .ref sa, .ref mi, .ref da]) := (congrFun e_f1 dr).trans (z_up_ne (z_tne hf_dr hf_rd (m := 2) (n := 5) rfl rfl (by decide)) hf_dr)
  have hf_la : f1 la = .inl (cy 1, 5, .inl g1) := (congrFun e_f1 la).trans (z_up_ne (z_tne hf_la hf_rd (m := 140) (n := 5) rfl rfl (by decide)) hf_la)
  have hf_sa : f1 sa = .inl (cy 1, 4, .inl g2) := (congrFun e_f1 sa).trans (z_up_ne (z_tne hf_sa hf_rd (m := 132) (n := 5) rfl rfl (by decide)) hf_sa)
  have hf_mi : f1 mi = .inl (cy 1, 36, .inl g3) := (congrFun e_f1 mi).trans (z_up_ne (z_tne hf_mi hf_rd (m := 388) (n := 5) rfl rfl (by decide)) hf_mi)
  have hf_rd : f1 rd = .inr (5, [.int 0, .int k1, .ref tp, .ref dr, .int k4, .int k5, .int k6, .int k7, .int k8]) := (congrFun e_f1 rd).trans z_up_self
  have hfr : ∀ b ∈ L, b ≠ rd → b ≠ dr → b ≠ la → b ≠ sa → b ≠ mi → f1 b = f b := fun b hb h0 h1 h2 h3 h4 => (congrFun e_f1 b).trans (z_up_ne h0 (hfr b hb h0 h1 h2 h3 h4))
  refine lv_aload_n hx hb dX5_begin_5 rfl (lv_at hl 0 rfl) ?_
  refine lv_iconst (v := (-1)) hx hb dX5_begin_6 (by decide) ?_
  refine z_put (C := RX5) (T := TX5) (N := 9) (ci := 5) (v := .int (-1)) (fs' := [.int 0, .int (-1), .ref tp, .ref dr, .int k4, .int k5, .int k6, .int k7, .int k8]) hx hb hT zin_X5 tyX5_ok nmX5 hown hK hw hm_rd hf_rd rfl 1 (by decide) (hT _ kw_279) rfl rfl rfl (Nat.le_of_ble_eq_true rfl) rfl dX5_begin_7 (fun H locs hw => ?_)
  obtain ⟨f2, e_f2⟩ : ∃ z, z = va_up f1 rd (.inr (5, [.int 0, .int (-1), .ref tp, .ref dr, .int k4, .int k5, .int k6, .int k7, .int k8])) := ⟨_, rfl⟩
  rw [← e_f2] at hw
  have hf_tp : f2 tp = .inr (7, [.ref ba, .int 0]) := (congrFun e_f2 tp).trans (z_up_ne (z_tne hf_tp hf_rd (m := 7) (n := 5) rfl rfl (by decide)) hf_tp)
  have hf_dr : f2 dr = .inr (2, [.int v0, .int v1, .int v2, .int v3, .int v4, .int v5, .int v6, .ref la, .ref sa, .ref mi, .ref da]) := (congrFun e_f2 dr).trans (z_up_ne (z_tne hf_dr hf_rd (m := 2) (n := 5) rfl rfl (by decide)) hf_dr)
  have hf_la : f2 la = .inl (cy 1, 5, .inl g1) := (congrFun e_f2 la).trans (z_up_ne (z_tne hf_la hf_rd (m := 140) (n := 5) rfl rfl (by decide)) hf_la)
  have hf_sa : f2 sa = .inl (cy 1, 4, .inl g2) := (congrFun e_f2 sa).trans (z_up_ne (z_tne hf_sa hf_rd (m := 132) (n := 5) rfl rfl (by decide)) hf_sa)
  have hf_mi : f2 mi = .inl (cy 1, 36, .inl g3) := (congrFun e_f2 mi).trans (z_up_ne (z_tne hf_mi hf_rd (m := 388) (n := 5) rfl rfl (by decide)) hf_mi)
  have hf_rd : f2 rd = .inr (5, [.int 0, .int (-1), .ref tp, .ref dr, .int k4, .int k5, .int k6, .int k7, .int k8]) := (congrFun e_f2 rd).trans z_up_self
  have hfr : ∀ b ∈ L, b ≠ rd → b ≠ dr → b ≠ la → b ≠ sa → b ≠ mi → f2 b = f b := fun b hb h0 h1 h2 h3 h4 => (congrFun e_f2 b).trans (z_up_ne h0 (hfr b hb h0 h1 h2 h3 h4))
  refine lv_aload_n hx hb dX5_begin_10 rfl (lv_at hl 0 rfl) ?_
  refine lv_iconst (v := 0) hx hb dX5_begin_11 (by decide) ?_
  refine z_put (C := RX5) (T := TX5) (N := 9) (ci := 5) (v := .int 0) (fs' := [.int 0, .int (-1), .ref tp, .ref dr, .int 0, .int k5, .int k6, .int k7, .int k8]) hx hb hT zin_X5 tyX5_ok nmX5 hown hK hw hm_rd hf_rd rfl 4 (by decide) (hT _ kw_283) rfl rfl rfl (Nat.le_of_ble_eq_true rfl) rfl dX5_begin_12 (fun H locs hw => ?_)
  obtain ⟨f3, e_f3⟩ : ∃ z, z = va_up f2 rd (.inr (5, [.int 0, .int (-1), .ref tp, .ref dr, .int 0, .int k5, .int k6, .int k7, .int k8])) := ⟨_, rfl⟩
  rw [← e_f3] at hw
  have hf_tp : f3 tp = .inr (7, [.ref ba, .int 0]) := (congrFun e_f3 tp).trans (z_up_ne (z_tne hf_tp hf_rd (m := 7) (n := 5) rfl rfl (by decide)) hf_tp)
  have hf_dr : f3 dr = .inr (2, [.int v0, .int v1, .int v2, .int v3, .int v4, .int v5, .int v6, .ref la, .ref sa, .ref mi, .ref da]) := (congrFun e_f3 dr).trans (z_up_ne (z_tne hf_dr hf_rd (m := 2) (n := 5) rfl rfl (by decide)) hf_dr)
  have hf_la : f3 la = .inl (cy 1, 5, .inl g1) := (congrFun e_f3 la).trans (z_up_ne (z_tne hf_la hf_rd (m := 140) (n := 5) rfl rfl (by decide)) hf_la)
  have hf_sa : f3 sa = .inl (cy 1, 4, .inl g2) := (congrFun e_f3 sa).trans (z_up_ne (z_tne hf_sa hf_rd (m := 132) (n := 5) rfl rfl (by decide)) hf_sa)
  have hf_mi : f3 mi = .inl (cy 1, 36, .inl g3) := (congrFun e_f3 mi).trans (z_up_ne (z_tne hf_mi hf_rd (m := 388) (n := 5) rfl rfl (by decide)) hf_mi)
  have hf_rd : f3 rd = .inr (5, [.int 0, .int (-1), .ref tp, .ref dr, .int 0, .int k5, .int k6, .int k7, .int k8]) := (congrFun e_f3 rd).trans z_up_self
  have hfr : ∀ b ∈ L, b ≠ rd → b ≠ dr → b ≠ la → b ≠ sa → b ≠ mi → f3 b = f b := fun b hb h0 h1 h2 h3 h4 => (congrFun e_f3 b).trans (z_up_ne h0 (hfr b hb h0 h1 h2 h3 h4))
  refine lv_aload_n hx hb dX5_begin_15 rfl (lv_at hl 0 rfl) ?_
  refine lv_iconst (v := 0) hx hb dX5_begin_16 (by decide) ?_
  refine z_put (C := RX5) (T := TX5) (N := 9) (ci := 5) (v := .int 0) (fs' := [.int 0, .int (-1), .ref tp, .ref dr, .int 0, .int k5, .int k6, .int 0, .int k8]) hx hb hT zin_X5 tyX5_ok nmX5 hown hK hw hm_rd hf_rd rfl 7 (by decide) (hT _ kw_286) rfl rfl rfl (Nat.le_of_ble_eq_true rfl) rfl dX5_begin_17 (fun H locs hw => ?_)
  obtain ⟨f4, e_f4⟩ : ∃ z, z = va_up f3 rd (.inr (5, [.int 0, .int (-1), .ref tp, .ref dr, .int 0, .int k5, .int k6, .int 0, .int k8])) := ⟨_, rfl⟩
  rw [← e_f4] at hw
  have hf_tp : f4 tp = .inr (7, [.ref ba, .int 0]) := (congrFun e_f4 tp).trans (z_up_ne (z_tne hf_tp hf_rd (m := 7) (n := 5) rfl rfl (by decide)) hf_tp)
  have hf_dr : f4 dr = .inr (2, [.int v0, .int v1, .int v2, .int v3, .int v4, .int v5, .int v6, .ref la, .ref sa, .ref mi, .ref da]) := (congrFun e_f4 dr).trans (z_up_ne (z_tne hf_dr hf_rd (m := 2) (n := 5) rfl rfl (by decide)) hf_dr)
  have hf_la : f4 la = .inl (cy 1, 5, .inl g1) := (congrFun e_f4 la).trans (z_up_ne (z_tne hf_la hf_rd (m := 140) (n := 5) rfl rfl (by decide)) hf_la)
  have hf_sa : f4 sa = .inl (cy 1, 4, .inl g2) := (congrFun e_f4 sa).trans (z_up_ne (z_tne hf_sa hf_rd (m := 132) (n := 5) rfl rfl (by decide)) hf_sa)
  have hf_mi : f4 mi = .inl (cy 1, 36, .inl g3) := (congrFun e_f4 mi).trans (z_up_ne (z_tne hf_mi hf_rd (m := 388) (n := 5) rfl rfl (by decide)) hf_mi)
  have hf_rd : f4 rd = .inr (5, [.int 0, .int (-1), .ref tp, .ref dr, .int 0, .int k5, .int k6, .int 0, .int k8]) := (congrFun e_f4 rd).trans z_up_self
  have hfr : ∀ b ∈ L, b ≠ rd → b ≠ dr → b ≠ la → b ≠ sa → b ≠ mi → f4 b = f b := fun b hb h0 h1 h2 h3 h4 => (congrFun e_f4 b).trans (z_up_ne h0 (hfr b hb h0 h1 h2 h3 h4))
  refine lv_aload_n hx hb dX5_begin_20 rfl (lv_at hl 0 rfl) ?_
  refine z_get (C := RX5) (T := TX5) (N := 9) (ci := 5) (v := .ref dr) hx hb hT zin_X5 hown hK hw hm_rd hf_rd rfl 3 (by decide) (hT _ kw_282) rfl dX5_begin_21 ?_
  refine z_callvV (cells := 0) (slots := 0) (b := dr) (As := []) (rest := []) (ci := 2) (q0 := (RX2, TX2, 11)) ⟨hx, hb, hml, hown, hT⟩ (c_X2_forget l hm_dr hm_la hm_sa hm_mi hf_dr hf_la hf_sa hf_mi) (cwV 0 hT (z_goodV (fun _ h => h) kw_531 kw_532 kw_533 kw_87 kw_534) rfl rfl rfl (by decide +kernel) ⟨by decide, by decide⟩) z_mv hKK hK hw hA hm_dr hf_dr rfl rfl rfl hl.1 rfl (Nat.le_of_ble_eq_true rfl) dX5_begin_24 ⟨by decide, by decide⟩ (fun u H locs hp hw => ?_)
  obtain ⟨L5, f6⟩ := u
  obtain ⟨hsb, hfm, h1_7, h2_8, h3_9, ha_0, ha_1, ha_2, ha_3, hp⟩ := hp
  have hw : z_H D vwCl (z_A L sz) s.heap L5 f6 H locs := hw
  have hfr : ∀ b ∈ L, b ≠ rd → b ≠ dr → b ≠ la → b ≠ sa → b ≠ mi → f6 b = f b := fun b hb h0 h1 h2 h3 h4 => (hfm b (hsub b hb) h1 h2 h3 h4).trans (hfr b hb h0 h1 h2 h3 h4)
  have hsub : ∀ b ∈ L, b ∈ L5 := fun b h => hsb b (hsub b h)
  have hf_rd : f6 rd = .inr (5, [.int 0, .int (-1), .ref tp, .ref dr, .int 0, .int k5, .int k6, .int 0, .int k8]) := (hfm rd hm_rd (z_tne hf_rd hf_dr (m := 5) (n := 2) rfl rfl (by decide)) (z_tne hf_rd hf_la (m := 5) (n := 140) rfl rfl (by decide)) (z_tne hf_rd hf_sa (m := 5) (n := 132) rfl rfl (by decide)) (z_tne hf_rd hf_mi (m := 5) (n := 388) rfl rfl (by decide))).trans hf_rd
  have hf_tp : f6 tp = .inr (7, [.ref ba, .int 0]) := (hfm tp hm_tp (z_tne hf_tp hf_dr (m := 7) (n := 2) rfl rfl (by decide)) (z_tne hf_tp hf_la (m := 7) (n := 140) rfl rfl (by decide)) (z_tne hf_tp hf_sa (m := 7) (n := 132) rfl rfl (by decide)) (z_tne hf_tp hf_mi (m := 7) (n := 388) rfl rfl (by decide))).trans hf_tp
  have hm_rd : rd ∈ L5 := hsb _ hm_rd
  have hm_tp : tp ∈ L5 := hsb _ hm_tp
  have hm_dr : dr ∈ L5 := hsb _ hm_dr
  have hm_la : la ∈ L5 := hsb _ hm_la
  have hm_sa : sa ∈ L5 := hsb _ hm_sa
  have hm_mi : mi ∈ L5 := hsb _ hm_mi
  have hf_dr : f6 dr = .inr (2, [.int 0, .int 0, .int 0, .int 0, .int 0, .int 0, .int 0, .ref la, .ref sa, .ref mi, .ref da]) := ha_0
  have hf_la : f6 la = .inl (cy 1, 5, .inl h1_7) := ha_1
  have hf_sa : f6 sa = .inl (cy 1, 4, .inl h2_8) := ha_2
  have hf_mi : f6 mi = .inl (cy 1, 36, .inl h3_9) := ha_3
  refine lv_aload_n hx hb dX5_begin_27 rfl (lv_at hl 0 rfl) ?_
  refine z_callvV (cells := 0) (slots := 0) (b := rd) (As := []) (rest := []) (ci := 5) (q0 := (RX5, TX5, 9)) ⟨hx, hb, hml, hown, hT⟩ (c_X5_step l hm_rd hm_tp hf_rd hf_tp) (cwV 0 hT (z_goodV (fun _ h => h) kw_536 kw_538 kw_0 kw_89 kw_539) rfl rfl rfl (by decide +kernel) ⟨by decide, by decide⟩) z_mv hKK hK hw hA hm_rd hf_rd rfl rfl rfl hl.1 rfl (Nat.le_of_ble_eq_true rfl) dX5_begin_28 ⟨by decide, by decide⟩ (fun u H locs hp hw => ?_)
  obtain ⟨L10, f11⟩ := u
  obtain ⟨hsb, hfm, ha_0, hp⟩ := hp
  have hw : z_H D vwCl (z_A L sz) s.heap L10 f11 H locs := hw
  have hfr : ∀ b ∈ L, b ≠ rd → b ≠ dr → b ≠ la → b ≠ sa → b ≠ mi → f11 b = f b := fun b hb h0 h1 h2 h3 h4 => (hfm b (hsub b hb) h0).trans (hfr b hb h0 h1 h2 h3 h4)
  have hsub : ∀ b ∈ L, b ∈ L10 := fun b h => hsb b (hsub b h)
  have hf_tp : f11 tp = .inr (7, [.ref ba, .int 0]) := (hfm tp hm_tp (z_tne hf_tp hf_rd (m := 7) (n := 5) rfl rfl (by decide))).trans hf_tp
  have hf_dr : f11 dr = .inr (2, [.int 0, .int 0, .int 0, .int 0, .int 0, .int 0, .int 0, .ref la, .ref sa, .ref mi, .ref da]) := (hfm dr hm_dr (z_tne hf_dr hf_rd (m := 2) (n := 5) rfl rfl (by decide))).trans hf_dr
  have hf_la : f11 la = .inl (cy 1, 5, .inl h1_7) := (hfm la hm_la (z_tne hf_la hf_rd (m := 140) (n := 5) rfl rfl (by decide))).trans hf_la
  have hf_sa : f11 sa = .inl (cy 1, 4, .inl h2_8) := (hfm sa hm_sa (z_tne hf_sa hf_rd (m := 132) (n := 5) rfl rfl (by decide))).trans hf_sa
  have hf_mi : f11 mi = .inl (cy 1, 36, .inl h3_9) := (hfm mi hm_mi (z_tne hf_mi hf_rd (m := 388) (n := 5) rfl rfl (by decide))).trans hf_mi
  have hm_rd : rd ∈ L10 := hsb _ hm_rd
  have hm_tp : tp ∈ L10 := hsb _ hm_tp
  have hm_dr : dr ∈ L10 := hsb _ hm_dr
  have hm_la : la ∈ L10 := hsb _ hm_la
  have hm_sa : sa ∈ L10 := hsb _ hm_sa
  have hm_mi : mi ∈ L10 := hsb _ hm_mi
  have hf_rd : f11 rd = .inr (5, [.int 0, .int (-1), .ref tp, .ref dr, .int 0, .int 0, .int 0, .int 0, .int k8]) := ha_0
  exact z_vret hx hb hr hlk (by decide) (by decide) hw (⟨hsub, hfr, h1_7, h2_8, h3_9, hf_rd, hf_dr, hf_la, hf_sa, hf_mi, trivial⟩) dX5_begin_31

set_option maxHeartbeats 2000000 in
set_option maxRecDepth 100000 in
theorem c_X2_copy (l : Launch) {D : va_G} {cy : Nat → ClassId} {L : List Nat} {f : Nat → va_E} {sz : Nat} {mo la sa mi da : Nat} {v0 v1 v2 v3 v4 v5 v6 : Int32} {dr xla xsa xmi xda : Nat} {u0 u1 u2 u3 u4 u6 : Int32} {g1 g2 g3 : Nat → Int32} {y1 y2 y3 : Nat → Int32} (hm_mo : mo ∈ L) (hm_dr : dr ∈ L) (hm_la : la ∈ L) (hm_sa : sa ∈ L) (hm_mi : mi ∈ L) (hm_xla : xla ∈ L) (hm_xsa : xsa ∈ L) (hm_xmi : xmi ∈ L) (hf_mo : f mo = .inr (2, [.int v0, .int v1, .int v2, .int v3, .int v4, .int v5, .int v6, .ref la, .ref sa, .ref mi, .ref da])) (hf_dr : f dr = .inr (2, [.int u0, .int u1, .int u2, .int u3, .int u4, .int 0, .int u6, .ref xla, .ref xsa, .ref xmi, .ref xda])) (hf_la : f la = .inl (cy 1, 5, .inl g1)) (hf_sa : f sa = .inl (cy 1, 4, .inl g2)) (hf_mi : f mi = .inl (cy 1, 36, .inl g3)) (hf_xla : f xla = .inl (cy 1, 5, .inl y1)) (hf_xsa : f xsa = .inl (cy 1, 4, .inl y2)) (hf_xmi : f xmi = .inl (cy 1, 36, .inl y3)) (ne_mo_dr : mo ≠ dr) (ne_la_xla : la ≠ xla) (ne_sa_xsa : sa ≠ xsa) (ne_mi_xmi : mi ≠ xmi) : Met l yX2_copy (z_ws yX2_copy cX2_copy 3 none) (z_R 2 0 0) (va_Pc [.ref mo, .ref dr] (z_Pre D vwCl (z_K D cy) L f sz)) (z_Qv D vwCl (fun u => (∀ b ∈ L, b ∈ u.1) ∧ (∀ b ∈ L, b ≠ mo → b ≠ la → b ≠ sa → b ≠ mi → u.2 b = f b) ∧ (∃ (h1 h2 h3 : Nat → Int32), (u.2 mo = .inr (2, [.int u0, .int u1, .int u2, .int u3, .int u4, .int 0, .int u6, .ref la, .ref sa, .ref mi, .ref da])) ∧ (u.2 la = .inl (cy 1, 5, .inl h1)) ∧ (u.2 sa = .inl (cy 1, 4, .inl h2)) ∧ (u.2 mi = .inl (cy 1, 36, .inl h3)) ∧ (True))) L sz) 0 0 (z_A L sz) := by
  refine z_met (cc := cX2_copy) (maxL := 3) (ret := none) (lv := [(0, .ref mo), (1, .ref dr)]) (by decide) rfl (Nat.le_of_ble_eq_true rfl) rfl ?_
  intro p e s m below meth c ls hx hb hr hlk hml hown hnm hts hKK hA hw hl
  have hK := hKK.1
  have hown : s.vm.findClass RX2 = some m.cls := hown
  have hT : ∀ w ∈ lw_all, w.before ([.ref mo, .ref dr] : List Value).toArray s = true := fun w h => hts w (z_cons w h)
  have hsub : ∀ b ∈ L, b ∈ L := fun _ h => h
  have hfr : ∀ b ∈ L, b ≠ mo → b ≠ la → b ≠ sa → b ≠ mi → f b = f b := fun _ _ _ _ _ _ => rfl
  refine lv_aload_n hx hb dX2_copy_0 rfl (lv_at hl 0 rfl) ?_
  refine lv_aload_n hx hb dX2_copy_1 rfl (lv_at hl 1 rfl) ?_
  refine z_get (C := RX2) (T := TX2) (N := 11) (ci := 2) (v := .int u0) hx hb hT zin_X2 hown hK hw hm_dr hf_dr rfl 0 (by decide) (hT _ kw_204) rfl dX2_copy_2 ?_
  refine z_put (C := RX2) (T := TX2) (N := 11) (ci := 2) (v := .int u0) (fs' := [.int u0, .int v1, .int v2, .int v3, .int v4, .int v5, .int v6, .ref la, .ref sa, .ref mi, .ref da]) hx hb hT zin_X2 tyX2_ok nmX2 hown hK hw hm_mo hf_mo rfl 0 (by decide) (hT _ kw_204) rfl rfl rfl (Nat.le_of_ble_eq_true rfl) rfl dX2_copy_5 (fun H locs hw => ?_)
  obtain ⟨f1, e_f1⟩ : ∃ z, z = va_up f mo (.inr (2, [.int u0, .int v1, .int v2, .int v3, .int v4, .int v5, .int v6, .ref la, .ref sa, .ref mi, .ref da])) := ⟨_, rfl⟩
  rw [← e_f1] at hw
  have hf_dr : f1 dr = .inr (2, [.int u0, .int u1, .int u2, .int u3, .int u4, .int 0, .int u6, .ref xla, .ref xsa, .ref xmi, .ref xda]) := (congrFun e_f1 dr).trans (z_up_ne (Ne.symm ne_mo_dr) hf_dr)
  have hf_la : f1 la = .inl (cy 1, 5, .inl g1) := (congrFun e_f1 la).trans (z_up_ne (z_tne hf_la hf_mo (m := 140) (n := 2) rfl rfl (by decide)) hf_la)
  have hf_sa : f1 sa = .inl (cy 1, 4, .inl g2) := (congrFun e_f1 sa).trans (z_up_ne (z_tne hf_sa hf_mo (m := 132) (n := 2) rfl rfl (by decide)) hf_sa)
  have hf_mi : f1 mi = .inl (cy 1, 36, .inl g3) := (congrFun e_f1 mi).trans (z_up_ne (z_tne hf_mi hf_mo (m := 388) (n := 2) rfl rfl (by decide)) hf_mi)
  have hf_xla : f1 xla = .inl (cy 1, 5, .inl y1) := (congrFun e_f1 xla).trans (z_up_ne (z_tne hf_xla hf_mo (m := 140) (n := 2) rfl rfl (by decide)) hf_xla)
  have hf_xsa : f1 xsa = .inl (cy 1, 4, .inl y2) := (congrFun e_f1 xsa).trans (z_up_ne (z_tne hf_xsa hf_mo (m := 132) (n := 2) rfl rfl (by decide)) hf_xsa)
  have hf_xmi : f1 xmi = .inl (cy 1, 36, .inl y3) := (congrFun e_f1 xmi).trans (z_up_ne (z_tne hf_xmi hf_mo (m := 388) (n := 2) rfl rfl (by decide)) hf_xmi)
  have hf_mo : f1 mo = .inr (2, [.int u0, .int v1, .int v2, .int v3, .int v4, .int v5, .int v6, .ref la, .ref sa, .ref mi, .ref da]) := (congrFun e_f1 mo).trans z_up_self
  have hfr : ∀ b ∈ L, b ≠ mo → b ≠ la → b ≠ sa → b ≠ mi → f1 b = f b := fun b hb h0 h1 h2 h3 => (congrFun e_f1 b).trans (z_up_ne h0 (hfr b hb h0 h1 h2 h3))
  refine lv_aload_n hx hb dX2_copy_8 rfl (lv_at hl 0 rfl) ?_
  refine lv_aload_n hx hb dX2_copy_9 rfl (lv_at hl 1 rfl) ?_
  refine z_get (C := RX2) (T := TX2) (N := 11) (ci := 2) (v := .int u1) hx hb hT zin_X2 hown hK hw hm_dr hf_dr rfl 1 (by decide) (hT _ kw_207) rfl dX2_copy_10 ?_
  refine z_put (C := RX2) (T := TX2) (N := 11) (ci := 2) (v := .int u1) (fs' := [.int u0, .int u1, .int v2, .int v3, .int v4, .int v5, .int v6, .ref la, .ref sa, .ref mi, .ref da]) hx hb hT zin_X2 tyX2_ok nmX2 hown hK hw hm_mo hf_mo rfl 1 (by decide) (hT _ kw_207) rfl rfl rfl (Nat.le_of_ble_eq_true rfl) rfl dX2_copy_13 (fun H locs hw => ?_)
  obtain ⟨f2, e_f2⟩ : ∃ z, z = va_up f1 mo (.inr (2, [.int u0, .int u1, .int v2, .int v3, .int v4, .int v5, .int v6, .ref la, .ref sa, .ref mi, .ref da])) := ⟨_, rfl⟩
  rw [← e_f2] at hw
  have hf_dr : f2 dr = .inr (2, [.int u0, .int u1, .int u2, .int u3, .int u4, .int 0, .int u6, .ref xla, .ref xsa, .ref xmi, .ref xda]) := (congrFun e_f2 dr).trans (z_up_ne (Ne.symm ne_mo_dr) hf_dr)
  have hf_la : f2 la = .inl (cy 1, 5, .inl g1) := (congrFun e_f2 la).trans (z_up_ne (z_tne hf_la hf_mo (m := 140) (n := 2) rfl rfl (by decide)) hf_la)
  have hf_sa : f2 sa = .inl (cy 1, 4, .inl g2) := (congrFun e_f2 sa).trans (z_up_ne (z_tne hf_sa hf_mo (m := 132) (n := 2) rfl rfl (by decide)) hf_sa)
  have hf_mi : f2 mi = .inl (cy 1, 36, .inl g3) := (congrFun e_f2 mi).trans (z_up_ne (z_tne hf_mi hf_mo (m := 388) (n := 2) rfl rfl (by decide)) hf_mi)
  have hf_xla : f2 xla = .inl (cy 1, 5, .inl y1) := (congrFun e_f2 xla).trans (z_up_ne (z_tne hf_xla hf_mo (m := 140) (n := 2) rfl rfl (by decide)) hf_xla)
  have hf_xsa : f2 xsa = .inl (cy 1, 4, .inl y2) := (congrFun e_f2 xsa).trans (z_up_ne (z_tne hf_xsa hf_mo (m := 132) (n := 2) rfl rfl (by decide)) hf_xsa)
  have hf_xmi : f2 xmi = .inl (cy 1, 36, .inl y3) := (congrFun e_f2 xmi).trans (z_up_ne (z_tne hf_xmi hf_mo (m := 388) (n := 2) rfl rfl (by decide)) hf_xmi)
  have hf_mo : f2 mo = .inr (2, [.int u0, .int u1, .int v2, .int v3, .int v4, .int v5, .int v6, .ref la, .ref sa, .ref mi, .ref da]) := (congrFun e_f2 mo).trans z_up_self
  have hfr : ∀ b ∈ L, b ≠ mo → b ≠ la → b ≠ sa → b ≠ mi → f2 b = f b := fun b hb h0 h1 h2 h3 => (congrFun e_f2 b).trans (z_up_ne h0 (hfr b hb h0 h1 h2 h3))
  refine lv_aload_n hx hb dX2_copy_16 rfl (lv_at hl 0 rfl) ?_
  refine lv_aload_n hx hb dX2_copy_17 rfl (lv_at hl 1 rfl) ?_
  refine z_get (C := RX2) (T := TX2) (N := 11) (ci := 2) (v := .int u2) hx hb hT zin_X2 hown hK hw hm_dr hf_dr rfl 2 (by decide) (hT _ kw_211) rfl dX2_copy_18 ?_
  refine z_put (C := RX2) (T := TX2) (N := 11) (ci := 2) (v := .int u2) (fs' := [.int u0, .int u1, .int u2, .int v3, .int v4, .int v5, .int v6, .ref la, .ref sa, .ref mi, .ref da]) hx hb hT zin_X2 tyX2_ok nmX2 hown hK hw hm_mo hf_mo rfl 2 (by decide) (hT _ kw_211) rfl rfl rfl (Nat.le_of_ble_eq_true rfl) rfl dX2_copy_21 (fun H locs hw => ?_)
  obtain ⟨f3, e_f3⟩ : ∃ z, z = va_up f2 mo (.inr (2, [.int u0, .int u1, .int u2, .int v3, .int v4, .int v5, .int v6, .ref la, .ref sa, .ref mi, .ref da])) := ⟨_, rfl⟩
  rw [← e_f3] at hw
  have hf_dr : f3 dr = .inr (2, [.int u0, .int u1, .int u2, .int u3, .int u4, .int 0, .int u6, .ref xla, .ref xsa, .ref xmi, .ref xda]) := (congrFun e_f3 dr).trans (z_up_ne (Ne.symm ne_mo_dr) hf_dr)
  have hf_la : f3 la = .inl (cy 1, 5, .inl g1) := (congrFun e_f3 la).trans (z_up_ne (z_tne hf_la hf_mo (m := 140) (n := 2) rfl rfl (by decide)) hf_la)
  have hf_sa : f3 sa = .inl (cy 1, 4, .inl g2) := (congrFun e_f3 sa).trans (z_up_ne (z_tne hf_sa hf_mo (m := 132) (n := 2) rfl rfl (by decide)) hf_sa)
  have hf_mi : f3 mi = .inl (cy 1, 36, .inl g3) := (congrFun e_f3 mi).trans (z_up_ne (z_tne hf_mi hf_mo (m := 388) (n := 2) rfl rfl (by decide)) hf_mi)
  have hf_xla : f3 xla = .inl (cy 1, 5, .inl y1) := (congrFun e_f3 xla).trans (z_up_ne (z_tne hf_xla hf_mo (m := 140) (n := 2) rfl rfl (by decide)) hf_xla)
  have hf_xsa : f3 xsa = .inl (cy 1, 4, .inl y2) := (congrFun e_f3 xsa).trans (z_up_ne (z_tne hf_xsa hf_mo (m := 132) (n := 2) rfl rfl (by decide)) hf_xsa)
  have hf_xmi : f3 xmi = .inl (cy 1, 36, .inl y3) := (congrFun e_f3 xmi).trans (z_up_ne (z_tne hf_xmi hf_mo (m := 388) (n := 2) rfl rfl (by decide)) hf_xmi)
  have hf_mo : f3 mo = .inr (2, [.int u0, .int u1, .int u2, .int v3, .int v4, .int v5, .int v6, .ref la, .ref sa, .ref mi, .ref da]) := (congrFun e_f3 mo).trans z_up_self
  have hfr : ∀ b ∈ L, b ≠ mo → b ≠ la → b ≠ sa → b ≠ mi → f3 b = f b := fun b hb h0 h1 h2 h3 => (congrFun e_f3 b).trans (z_up_ne h0 (hfr b hb h0 h1 h2 h3))
  refine lv_aload_n hx hb dX2_copy_24 rfl (lv_at hl 0 rfl) ?_
  refine lv_aload_n hx hb dX2_copy_25 rfl (lv_at hl 1 rfl) ?_
  refine z_get (C := RX2) (T := TX2) (N := 11) (ci := 2) (v := .int u3) hx hb hT zin_X2 hown hK hw hm_dr hf_dr rfl 3 (by decide) (hT _ kw_215) rfl dX2_copy_26 ?_
  refine z_put (C := RX2) (T := TX2) (N := 11) (ci := 2) (v := .int u3) (fs' := [.int u0, .int u1, .int u2, .int u3, .int v4, .int v5, .int v6, .ref la, .ref sa, .ref mi, .ref da]) hx hb hT zin_X2 tyX2_ok nmX2 hown hK hw hm_mo hf_mo rfl 3 (by decide) (hT _ kw_215) rfl rfl rfl (Nat.le_of_ble_eq_true rfl) rfl dX2_copy_29 (fun H locs hw => ?_)
  obtain ⟨f4, e_f4⟩ : ∃ z, z = va_up f3 mo (.inr (2, [.int u0, .int u1, .int u2, .int u3, .int v4, .int v5, .int v6, .ref la, .ref sa, .ref mi, .ref da])) := ⟨_, rfl⟩
  rw [← e_f4] at hw
  have hf_dr : f4 dr = .inr (2, [.int u0, .int u1, .int u2, .int u3, .int u4, .int 0, .int u6, .ref xla, .ref xsa, .ref xmi, .ref xda]) := (congrFun e_f4 dr).trans (z_up_ne (Ne.symm ne_mo_dr) hf_dr)
  have hf_la : f4 la = .inl (cy 1, 5, .inl g1) := (congrFun e_f4 la).trans (z_up_ne (z_tne hf_la hf_mo (m := 140) (n := 2) rfl rfl (by decide)) hf_la)
  have hf_sa : f4 sa = .inl (cy 1, 4, .inl g2) := (congrFun e_f4 sa).trans (z_up_ne (z_tne hf_sa hf_mo (m := 132) (n := 2) rfl rfl (by decide)) hf_sa)
  have hf_mi : f4 mi = .inl (cy 1, 36, .inl g3) := (congrFun e_f4 mi).trans (z_up_ne (z_tne hf_mi hf_mo (m := 388) (n := 2) rfl rfl (by decide)) hf_mi)
  have hf_xla : f4 xla = .inl (cy 1, 5, .inl y1) := (congrFun e_f4 xla).trans (z_up_ne (z_tne hf_xla hf_mo (m := 140) (n := 2) rfl rfl (by decide)) hf_xla)
  have hf_xsa : f4 xsa = .inl (cy 1, 4, .inl y2) := (congrFun e_f4 xsa).trans (z_up_ne (z_tne hf_xsa hf_mo (m := 132) (n := 2) rfl rfl (by decide)) hf_xsa)
  have hf_xmi : f4 xmi = .inl (cy 1, 36, .inl y3) := (congrFun e_f4 xmi).trans (z_up_ne (z_tne hf_xmi hf_mo (m := 388) (n := 2) rfl rfl (by decide)) hf_xmi)
  have hf_mo : f4 mo = .inr (2, [.int u0, .int u1, .int u2, .int u3, .int v4, .int v5, .int v6, .ref la, .ref sa, .ref mi, .ref da]) := (congrFun e_f4 mo).trans z_up_self
  have hfr : ∀ b ∈ L, b ≠ mo → b ≠ la → b ≠ sa → b ≠ mi → f4 b = f b := fun b hb h0 h1 h2 h3 => (congrFun e_f4 b).trans (z_up_ne h0 (hfr b hb h0 h1 h2 h3))
  refine lv_aload_n hx hb dX2_copy_32 rfl (lv_at hl 0 rfl) ?_
  refine lv_aload_n hx hb dX2_copy_33 rfl (lv_at hl 1 rfl) ?_
  refine z_get (C := RX2) (T := TX2) (N := 11) (ci := 2) (v := .int u4) hx hb hT zin_X2 hown hK hw hm_dr hf_dr rfl 4 (by decide) (hT _ kw_218) rfl dX2_copy_34 ?_
  refine z_put (C := RX2) (T := TX2) (N := 11) (ci := 2) (v := .int u4) (fs' := [.int u0, .int u1, .int u2, .int u3, .int u4, .int v5, .int v6, .ref la, .ref sa, .ref mi, .ref da]) hx hb hT zin_X2 tyX2_ok nmX2 hown hK hw hm_mo hf_mo rfl 4 (by decide) (hT _ kw_218) rfl rfl rfl (Nat.le_of_ble_eq_true rfl) rfl dX2_copy_37 (fun H locs hw => ?_)
  obtain ⟨f5, e_f5⟩ : ∃ z, z = va_up f4 mo (.inr (2, [.int u0, .int u1, .int u2, .int u3, .int u4, .int v5, .int v6, .ref la, .ref sa, .ref mi, .ref da])) := ⟨_, rfl⟩
  rw [← e_f5] at hw
  have hf_dr : f5 dr = .inr (2, [.int u0, .int u1, .int u2, .int u3, .int u4, .int 0, .int u6, .ref xla, .ref xsa, .ref xmi, .ref xda]) := (congrFun e_f5 dr).trans (z_up_ne (Ne.symm ne_mo_dr) hf_dr)
  have hf_la : f5 la = .inl (cy 1, 5, .inl g1) := (congrFun e_f5 la).trans (z_up_ne (z_tne hf_la hf_mo (m := 140) (n := 2) rfl rfl (by decide)) hf_la)
  have hf_sa : f5 sa = .inl (cy 1, 4, .inl g2) := (congrFun e_f5 sa).trans (z_up_ne (z_tne hf_sa hf_mo (m := 132) (n := 2) rfl rfl (by decide)) hf_sa)
  have hf_mi : f5 mi = .inl (cy 1, 36, .inl g3) := (congrFun e_f5 mi).trans (z_up_ne (z_tne hf_mi hf_mo (m := 388) (n := 2) rfl rfl (by decide)) hf_mi)
  have hf_xla : f5 xla = .inl (cy 1, 5, .inl y1) := (congrFun e_f5 xla).trans (z_up_ne (z_tne hf_xla hf_mo (m := 140) (n := 2) rfl rfl (by decide)) hf_xla)
  have hf_xsa : f5 xsa = .inl (cy 1, 4, .inl y2) := (congrFun e_f5 xsa).trans (z_up_ne (z_tne hf_xsa hf_mo (m := 132) (n := 2) rfl rfl (by decide)) hf_xsa)
  have hf_xmi : f5 xmi = .inl (cy 1, 36, .inl y3) := (congrFun e_f5 xmi).trans (z_up_ne (z_tne hf_xmi hf_mo (m := 388) (n := 2) rfl rfl (by decide)) hf_xmi)
  have hf_mo : f5 mo = .inr (2, [.int u0, .int u1, .int u2, .int u3, .int u4, .int v5, .int v6, .ref la, .ref sa, .ref mi, .ref da]) := (congrFun e_f5 mo).trans z_up_self
  have hfr : ∀ b ∈ L, b ≠ mo → b ≠ la → b ≠ sa → b ≠ mi → f5 b = f b := fun b hb h0 h1 h2 h3 => (congrFun e_f5 b).trans (z_up_ne h0 (hfr b hb h0 h1 h2 h3))
  refine lv_aload_n hx hb dX2_copy_40 rfl (lv_at hl 0 rfl) ?_
  refine lv_aload_n hx hb dX2_copy_41 rfl (lv_at hl 1 rfl) ?_
  refine z_get (C := RX2) (T := TX2) (N := 11) (ci := 2) (v := .int 0) hx hb hT zin_X2 hown hK hw hm_dr hf_dr rfl 5 (by decide) (hT _ kw_222) rfl dX2_copy_42 ?_
  refine z_put (C := RX2) (T := TX2) (N := 11) (ci := 2) (v := .int 0) (fs' := [.int u0, .int u1, .int u2, .int u3, .int u4, .int 0, .int v6, .ref la, .ref sa, .ref mi, .ref da]) hx hb hT zin_X2 tyX2_ok nmX2 hown hK hw hm_mo hf_mo rfl 5 (by decide) (hT _ kw_222) rfl rfl rfl (Nat.le_of_ble_eq_true rfl) rfl dX2_copy_45 (fun H locs hw => ?_)
  obtain ⟨f6, e_f6⟩ : ∃ z, z = va_up f5 mo (.inr (2, [.int u0, .int u1, .int u2, .int u3, .int u4, .int 0, .int v6, .ref la, .ref sa, .ref mi, .ref da])) := ⟨_, rfl⟩
  rw [← e_f6] at hw
  have hf_dr : f6 dr = .inr (2, [.int u0, .int u1, .int u2, .int u3, .int u4, .int 0, .int u6, .ref xla, .ref xsa, .ref xmi, .ref xda]) := (congrFun e_f6 dr).trans (z_up_ne (Ne.symm ne_mo_dr) hf_dr)
  have hf_la : f6 la = .inl (cy 1, 5, .inl g1) := (congrFun e_f6 la).trans (z_up_ne (z_tne hf_la hf_mo (m := 140) (n := 2) rfl rfl (by decide)) hf_la)
  have hf_sa : f6 sa = .inl (cy 1, 4, .inl g2) := (congrFun e_f6 sa).trans (z_up_ne (z_tne hf_sa hf_mo (m := 132) (n := 2) rfl rfl (by decide)) hf_sa)
  have hf_mi : f6 mi = .inl (cy 1, 36, .inl g3) := (congrFun e_f6 mi).trans (z_up_ne (z_tne hf_mi hf_mo (m := 388) (n := 2) rfl rfl (by decide)) hf_mi)
  have hf_xla : f6 xla = .inl (cy 1, 5, .inl y1) := (congrFun e_f6 xla).trans (z_up_ne (z_tne hf_xla hf_mo (m := 140) (n := 2) rfl rfl (by decide)) hf_xla)
  have hf_xsa : f6 xsa = .inl (cy 1, 4, .inl y2) := (congrFun e_f6 xsa).trans (z_up_ne (z_tne hf_xsa hf_mo (m := 132) (n := 2) rfl rfl (by decide)) hf_xsa)
  have hf_xmi : f6 xmi = .inl (cy 1, 36, .inl y3) := (congrFun e_f6 xmi).trans (z_up_ne (z_tne hf_xmi hf_mo (m := 388) (n := 2) rfl rfl (by decide)) hf_xmi)
  have hf_mo : f6 mo = .inr (2, [.int u0, .int u1, .int u2, .int u3, .int u4, .int 0, .int v6, .ref la, .ref sa, .ref mi, .ref da]) := (congrFun e_f6 mo).trans z_up_self
  have hfr : ∀ b ∈ L, b ≠ mo → b ≠ la → b ≠ sa → b ≠ mi → f6 b = f b := fun b hb h0 h1 h2 h3 => (congrFun e_f6 b).trans (z_up_ne h0 (hfr b hb h0 h1 h2 h3))
  refine lv_aload_n hx hb dX2_copy_48 rfl (lv_at hl 0 rfl) ?_
  refine lv_aload_n hx hb dX2_copy_49 rfl (lv_at hl 1 rfl) ?_
  refine z_get (C := RX2) (T := TX2) (N := 11) (ci := 2) (v := .int u6) hx hb hT zin_X2 hown hK hw hm_dr hf_dr rfl 6 (by decide) (hT _ kw_227) rfl dX2_copy_50 ?_
  refine z_put (C := RX2) (T := TX2) (N := 11) (ci := 2) (v := .int u6) (fs' := [.int u0, .int u1, .int u2, .int u3, .int u4, .int 0, .int u6, .ref la, .ref sa, .ref mi, .ref da]) hx hb hT zin_X2 tyX2_ok nmX2 hown hK hw hm_mo hf_mo rfl 6 (by decide) (hT _ kw_227) rfl rfl rfl (Nat.le_of_ble_eq_true rfl) rfl dX2_copy_53 (fun H locs hw => ?_)
  obtain ⟨f7, e_f7⟩ : ∃ z, z = va_up f6 mo (.inr (2, [.int u0, .int u1, .int u2, .int u3, .int u4, .int 0, .int u6, .ref la, .ref sa, .ref mi, .ref da])) := ⟨_, rfl⟩
  rw [← e_f7] at hw
  have hf_dr : f7 dr = .inr (2, [.int u0, .int u1, .int u2, .int u3, .int u4, .int 0, .int u6, .ref xla, .ref xsa, .ref xmi, .ref xda]) := (congrFun e_f7 dr).trans (z_up_ne (Ne.symm ne_mo_dr) hf_dr)
  have hf_la : f7 la = .inl (cy 1, 5, .inl g1) := (congrFun e_f7 la).trans (z_up_ne (z_tne hf_la hf_mo (m := 140) (n := 2) rfl rfl (by decide)) hf_la)
  have hf_sa : f7 sa = .inl (cy 1, 4, .inl g2) := (congrFun e_f7 sa).trans (z_up_ne (z_tne hf_sa hf_mo (m := 132) (n := 2) rfl rfl (by decide)) hf_sa)
  have hf_mi : f7 mi = .inl (cy 1, 36, .inl g3) := (congrFun e_f7 mi).trans (z_up_ne (z_tne hf_mi hf_mo (m := 388) (n := 2) rfl rfl (by decide)) hf_mi)
  have hf_xla : f7 xla = .inl (cy 1, 5, .inl y1) := (congrFun e_f7 xla).trans (z_up_ne (z_tne hf_xla hf_mo (m := 140) (n := 2) rfl rfl (by decide)) hf_xla)
  have hf_xsa : f7 xsa = .inl (cy 1, 4, .inl y2) := (congrFun e_f7 xsa).trans (z_up_ne (z_tne hf_xsa hf_mo (m := 132) (n := 2) rfl rfl (by decide)) hf_xsa)
  have hf_xmi : f7 xmi = .inl (cy 1, 36, .inl y3) := (congrFun e_f7 xmi).trans (z_up_ne (z_tne hf_xmi hf_mo (m := 388) (n := 2) rfl rfl (by decide)) hf_xmi)
  have hf_mo : f7 mo = .inr (2, [.int u0, .int u1, .int u2, .int u3, .int u4, .int 0, .int u6, .ref la, .ref sa, .ref mi, .ref da]) := (congrFun e_f7 mo).trans z_up_self
  have hfr : ∀ b ∈ L, b ≠ mo → b ≠ la → b ≠ sa → b ≠ mi → f7 b = f b := fun b hb h0 h1 h2 h3 => (congrFun e_f7 b).trans (z_up_ne h0 (hfr b hb h0 h1 h2 h3))
  refine lv_aload_n hx hb dX2_copy_56 rfl (lv_at hl 1 rfl) ?_
  refine z_get (C := RX2) (T := TX2) (N := 11) (ci := 2) (v := .ref xla) hx hb hT zin_X2 hown hK hw hm_dr hf_dr rfl 7 (by decide) (hT _ kw_230) rfl dX2_copy_57 ?_
  refine lv_iconst (v := 0) hx hb dX2_copy_60 (by decide) ?_
  refine lv_aload_n hx hb dX2_copy_61 rfl (lv_at hl 0 rfl) ?_
  refine z_get (C := RX2) (T := TX2) (N := 11) (ci := 2) (v := .ref la) hx hb hT zin_X2 hown hK hw hm_mo hf_mo rfl 7 (by decide) (hT _ kw_230) rfl dX2_copy_62 ?_
  refine lv_iconst (v := 0) hx hb dX2_copy_65 (by decide) ?_
  refine lv_iconst (v := 5) hx hb dX2_copy_66 (by decide) ?_
  refine z_copyi (t0 := 1) hx hb (by rw [hml]; exact hl.1.symm) hown (hT _ kc_lX2) (hT _ kc_n) (hT _ kc_s) (hT _ kc_i) hK hw (ha0 := hm_xla) (he0 := hf_xla) (ha1 := hm_la) (he1 := hf_la) (ht := rfl) (h1 := by decide) (h2 := by decide) (h3 := by decide) (h4 := by decide) (h5 := by decide) (hframes := Nat.le_of_ble_eq_true rfl) (hlocals := Nat.le_of_ble_eq_true rfl) (hdg := dX2_copy_67) (kk := fun H locs hw => ?_)
  obtain ⟨f8, e_f8⟩ : ∃ z, z = va_up f7 la (.inl (cy 1, 5, .inl (va_cpy y1 g1 (0 : Int32).toNatClampNeg (0 : Int32).toNatClampNeg (5 : Int32).toNatClampNeg))) := ⟨_, rfl⟩
  rw [← e_f8] at hw
  have hf_mo : f8 mo = .inr (2, [.int u0, .int u1, .int u2, .int u3, .int u4, .int 0, .int u6, .ref la, .ref sa, .ref mi, .ref da]) := (congrFun e_f8 mo).trans (z_up_ne (z_tne hf_mo hf_la (m := 2) (n := 140) rfl rfl (by decide)) hf_mo)
  have hf_dr : f8 dr = .inr (2, [.int u0, .int u1, .int u2, .int u3, .int u4, .int 0, .int u6, .ref xla, .ref xsa, .ref xmi, .ref xda]) := (congrFun e_f8 dr).trans (z_up_ne (z_tne hf_dr hf_la (m := 2) (n := 140) rfl rfl (by decide)) hf_dr)
  have hf_sa : f8 sa = .inl (cy 1, 4, .inl g2) := (congrFun e_f8 sa).trans (z_up_ne (z_tne hf_sa hf_la (m := 132) (n := 140) rfl rfl (by decide)) hf_sa)
  have hf_mi : f8 mi = .inl (cy 1, 36, .inl g3) := (congrFun e_f8 mi).trans (z_up_ne (z_tne hf_mi hf_la (m := 388) (n := 140) rfl rfl (by decide)) hf_mi)
  have hf_xla : f8 xla = .inl (cy 1, 5, .inl y1) := (congrFun e_f8 xla).trans (z_up_ne (Ne.symm ne_la_xla) hf_xla)
  have hf_xsa : f8 xsa = .inl (cy 1, 4, .inl y2) := (congrFun e_f8 xsa).trans (z_up_ne (z_tne hf_xsa hf_la (m := 132) (n := 140) rfl rfl (by decide)) hf_xsa)
  have hf_xmi : f8 xmi = .inl (cy 1, 36, .inl y3) := (congrFun e_f8 xmi).trans (z_up_ne (z_tne hf_xmi hf_la (m := 388) (n := 140) rfl rfl (by decide)) hf_xmi)
  have hf_la : f8 la = .inl (cy 1, 5, .inl (va_cpy y1 g1 (0 : Int32).toNatClampNeg (0 : Int32).toNatClampNeg (5 : Int32).toNatClampNeg)) := (congrFun e_f8 la).trans z_up_self
  have hfr : ∀ b ∈ L, b ≠ mo → b ≠ la → b ≠ sa → b ≠ mi → f8 b = f b := fun b hb h0 h1 h2 h3 => (congrFun e_f8 b).trans (z_up_ne h1 (hfr b hb h0 h1 h2 h3))
  obtain ⟨g9, e_g9⟩ : ∃ z, z = (va_cpy y1 g1 (0 : Int32).toNatClampNeg (0 : Int32).toNatClampNeg (5 : Int32).toNatClampNeg) := ⟨_, rfl⟩
  rw [← e_g9] at hf_la
  refine lv_aload_n hx hb dX2_copy_70 rfl (lv_at hl 1 rfl) ?_
  refine z_get (C := RX2) (T := TX2) (N := 11) (ci := 2) (v := .ref xsa) hx hb hT zin_X2 hown hK hw hm_dr hf_dr rfl 8 (by decide) (hT _ kw_236) rfl dX2_copy_71 ?_
  refine lv_iconst (v := 0) hx hb dX2_copy_74 (by decide) ?_
  refine lv_aload_n hx hb dX2_copy_75 rfl (lv_at hl 0 rfl) ?_
  refine z_get (C := RX2) (T := TX2) (N := 11) (ci := 2) (v := .ref sa) hx hb hT zin_X2 hown hK hw hm_mo hf_mo rfl 8 (by decide) (hT _ kw_236) rfl dX2_copy_76 ?_
  refine lv_iconst (v := 0) hx hb dX2_copy_79 (by decide) ?_
  refine lv_iconst (v := 4) hx hb dX2_copy_80 (by decide) ?_
  refine z_copyi (t0 := 1) hx hb (by rw [hml]; exact hl.1.symm) hown (hT _ kc_lX2) (hT _ kc_n) (hT _ kc_s) (hT _ kc_i) hK hw (ha0 := hm_xsa) (he0 := hf_xsa) (ha1 := hm_sa) (he1 := hf_sa) (ht := rfl) (h1 := by decide) (h2 := by decide) (h3 := by decide) (h4 := by decide) (h5 := by decide) (hframes := Nat.le_of_ble_eq_true rfl) (hlocals := Nat.le_of_ble_eq_true rfl) (hdg := dX2_copy_81) (kk := fun H locs hw => ?_)
  obtain ⟨f10, e_f10⟩ : ∃ z, z = va_up f8 sa (.inl (cy 1, 4, .inl (va_cpy y2 g2 (0 : Int32).toNatClampNeg (0 : Int32).toNatClampNeg (4 : Int32).toNatClampNeg))) := ⟨_, rfl⟩
  rw [← e_f10] at hw
  have hf_mo : f10 mo = .inr (2, [.int u0, .int u1, .int u2, .int u3, .int u4, .int 0, .int u6, .ref la, .ref sa, .ref mi, .ref da]) := (congrFun e_f10 mo).trans (z_up_ne (z_tne hf_mo hf_sa (m := 2) (n := 132) rfl rfl (by decide)) hf_mo)
  have hf_dr : f10 dr = .inr (2, [.int u0, .int u1, .int u2, .int u3, .int u4, .int 0, .int u6, .ref xla, .ref xsa, .ref xmi, .ref xda]) := (congrFun e_f10 dr).trans (z_up_ne (z_tne hf_dr hf_sa (m := 2) (n := 132) rfl rfl (by decide)) hf_dr)
  have hf_la : f10 la = .inl (cy 1, 5, .inl g9) := (congrFun e_f10 la).trans (z_up_ne (z_tne hf_la hf_sa (m := 140) (n := 132) rfl rfl (by decide)) hf_la)
  have hf_mi : f10 mi = .inl (cy 1, 36, .inl g3) := (congrFun e_f10 mi).trans (z_up_ne (z_tne hf_mi hf_sa (m := 388) (n := 132) rfl rfl (by decide)) hf_mi)
  have hf_xla : f10 xla = .inl (cy 1, 5, .inl y1) := (congrFun e_f10 xla).trans (z_up_ne (z_tne hf_xla hf_sa (m := 140) (n := 132) rfl rfl (by decide)) hf_xla)
  have hf_xsa : f10 xsa = .inl (cy 1, 4, .inl y2) := (congrFun e_f10 xsa).trans (z_up_ne (Ne.symm ne_sa_xsa) hf_xsa)
  have hf_xmi : f10 xmi = .inl (cy 1, 36, .inl y3) := (congrFun e_f10 xmi).trans (z_up_ne (z_tne hf_xmi hf_sa (m := 388) (n := 132) rfl rfl (by decide)) hf_xmi)
  have hf_sa : f10 sa = .inl (cy 1, 4, .inl (va_cpy y2 g2 (0 : Int32).toNatClampNeg (0 : Int32).toNatClampNeg (4 : Int32).toNatClampNeg)) := (congrFun e_f10 sa).trans z_up_self
  have hfr : ∀ b ∈ L, b ≠ mo → b ≠ la → b ≠ sa → b ≠ mi → f10 b = f b := fun b hb h0 h1 h2 h3 => (congrFun e_f10 b).trans (z_up_ne h2 (hfr b hb h0 h1 h2 h3))
  obtain ⟨g11, e_g11⟩ : ∃ z, z = (va_cpy y2 g2 (0 : Int32).toNatClampNeg (0 : Int32).toNatClampNeg (4 : Int32).toNatClampNeg) := ⟨_, rfl⟩
  rw [← e_g11] at hf_sa
  refine lv_aload_n hx hb dX2_copy_84 rfl (lv_at hl 1 rfl) ?_
  refine z_get (C := RX2) (T := TX2) (N := 11) (ci := 2) (v := .ref xmi) hx hb hT zin_X2 hown hK hw hm_dr hf_dr rfl 9 (by decide) (hT _ kw_239) rfl dX2_copy_85 ?_
  refine lv_iconst (v := 0) hx hb dX2_copy_88 (by decide) ?_
  refine lv_aload_n hx hb dX2_copy_89 rfl (lv_at hl 0 rfl) ?_
  refine z_get (C := RX2) (T := TX2) (N := 11) (ci := 2) (v := .ref mi) hx hb hT zin_X2 hown hK hw hm_mo hf_mo rfl 9 (by decide) (hT _ kw_239) rfl dX2_copy_90 ?_
  refine lv_iconst (v := 0) hx hb dX2_copy_93 (by decide) ?_
  refine lv_bipush (v := 36) hx hb dX2_copy_94 (by decide) ?_
  refine z_copyi (t0 := 1) hx hb (by rw [hml]; exact hl.1.symm) hown (hT _ kc_lX2) (hT _ kc_n) (hT _ kc_s) (hT _ kc_i) hK hw (ha0 := hm_xmi) (he0 := hf_xmi) (ha1 := hm_mi) (he1 := hf_mi) (ht := rfl) (h1 := by decide) (h2 := by decide) (h3 := by decide) (h4 := by decide) (h5 := by decide) (hframes := Nat.le_of_ble_eq_true rfl) (hlocals := Nat.le_of_ble_eq_true rfl) (hdg := dX2_copy_96) (kk := fun H locs hw => ?_)
  obtain ⟨f12, e_f12⟩ : ∃ z, z = va_up f10 mi (.inl (cy 1, 36, .inl (va_cpy y3 g3 (0 : Int32).toNatClampNeg (0 : Int32).toNatClampNeg (36 : Int32).toNatClampNeg))) := ⟨_, rfl⟩
  rw [← e_f12] at hw
  have hf_mo : f12 mo = .inr (2, [.int u0, .int u1, .int u2, .int u3, .int u4, .int 0, .int u6, .ref la, .ref sa, .ref mi, .ref da]) := (congrFun e_f12 mo).trans (z_up_ne (z_tne hf_mo hf_mi (m := 2) (n := 388) rfl rfl (by decide)) hf_mo)
  have hf_dr : f12 dr = .inr (2, [.int u0, .int u1, .int u2, .int u3, .int u4, .int 0, .int u6, .ref xla, .ref xsa, .ref xmi, .ref xda]) := (congrFun e_f12 dr).trans (z_up_ne (z_tne hf_dr hf_mi (m := 2) (n := 388) rfl rfl (by decide)) hf_dr)
  have hf_la : f12 la = .inl (cy 1, 5, .inl g9) := (congrFun e_f12 la).trans (z_up_ne (z_tne hf_la hf_mi (m := 140) (n := 388) rfl rfl (by decide)) hf_la)
  have hf_sa : f12 sa = .inl (cy 1, 4, .inl g11) := (congrFun e_f12 sa).trans (z_up_ne (z_tne hf_sa hf_mi (m := 132) (n := 388) rfl rfl (by decide)) hf_sa)
  have hf_xla : f12 xla = .inl (cy 1, 5, .inl y1) := (congrFun e_f12 xla).trans (z_up_ne (z_tne hf_xla hf_mi (m := 140) (n := 388) rfl rfl (by decide)) hf_xla)
  have hf_xsa : f12 xsa = .inl (cy 1, 4, .inl y2) := (congrFun e_f12 xsa).trans (z_up_ne (z_tne hf_xsa hf_mi (m := 132) (n := 388) rfl rfl (by decide)) hf_xsa)
  have hf_xmi : f12 xmi = .inl (cy 1, 36, .inl y3) := (congrFun e_f12 xmi).trans (z_up_ne (Ne.symm ne_mi_xmi) hf_xmi)
  have hf_mi : f12 mi = .inl (cy 1, 36, .inl (va_cpy y3 g3 (0 : Int32).toNatClampNeg (0 : Int32).toNatClampNeg (36 : Int32).toNatClampNeg)) := (congrFun e_f12 mi).trans z_up_self
  have hfr : ∀ b ∈ L, b ≠ mo → b ≠ la → b ≠ sa → b ≠ mi → f12 b = f b := fun b hb h0 h1 h2 h3 => (congrFun e_f12 b).trans (z_up_ne h3 (hfr b hb h0 h1 h2 h3))
  obtain ⟨g13, e_g13⟩ : ∃ z, z = (va_cpy y3 g3 (0 : Int32).toNatClampNeg (0 : Int32).toNatClampNeg (36 : Int32).toNatClampNeg) := ⟨_, rfl⟩
  rw [← e_g13] at hf_mi
  refine lv_iconst (v := 0) hx hb dX2_copy_99 (by decide) ?_
  refine lv_istore_n (lv' := [(2, .int 0), (0, .ref mo), (1, .ref dr)]) hx hb dX2_copy_100 rfl hl (by decide) rfl (fun ls hl => ?_)
  refine lv_iload_n hx hb dX2_copy_101 rfl (lv_at hl 0 rfl) ?_
  refine lv_aload_n hx hb dX2_copy_102 rfl (lv_at hl 2 rfl) ?_
  refine z_get (C := RX2) (T := TX2) (N := 11) (ci := 2) (v := .int 0) hx hb hT zin_X2 hown hK hw hm_dr hf_dr rfl 5 (by decide) (hT _ kw_222) rfl dX2_copy_103 ?_
  refine z_icmp_ge (tgt := 136) hx hb (show (0 : Int32).toInt = 0 by decide) (show (0 : Int32).toInt = 0 by decide) dX2_copy_106 (by decide) (fun _ => ?_) (fun h => absurd h (by decide))
  exact z_vret hx hb hr hlk (by decide) (by decide) hw (⟨hsub, hfr, g9, g11, g13, hf_mo, hf_la, hf_sa, hf_mi, trivial⟩) dX2_copy_136

set_option maxHeartbeats 2000000 in
set_option maxRecDepth 100000 in
theorem c_X9_moor (l : Launch) {D : va_G} {cy : Nat → ClassId} {L : List Nat} {f : Nat → va_E} {sz : Nat} {hs tp rd mo dr im kp sl wk pl ex mx : Nat} {la sa mi da xla xsa xmi xda ba : Nat} (hm_hs : hs ∈ L) (hm_tp : tp ∈ L) (hm_rd : rd ∈ L) (hm_mo : mo ∈ L) (hm_dr : dr ∈ L) (hm_la : la ∈ L) (hm_sa : sa ∈ L) (hm_mi : mi ∈ L) (hm_xla : xla ∈ L) (hm_xsa : xsa ∈ L) (hm_xmi : xmi ∈ L) (hf_hs : f hs = .inr (9, [.ref tp, .ref rd, .ref mo, .ref dr, .ref im, .ref kp, .ref sl, .ref wk, .ref pl, .ref ex, .ref mx])) (hf_tp : f tp = .inr (7, [.ref ba, .int 0])) (hf_rd : f rd = .inr (5, [.int 0, .int (-1), .ref tp, .ref dr, .int 0, .int 0, .int 0, .int 0, .int 0])) (hf_mo : f mo = .inr (2, [.int 0, .int 0, .int 0, .int 0, .int 0, .int 0, .int 0, .ref la, .ref sa, .ref mi, .ref da])) (hf_dr : f dr = .inr (2, [.int 0, .int 0, .int 0, .int 0, .int 0, .int 0, .int 0, .ref xla, .ref xsa, .ref xmi, .ref xda])) (hf_la : f la = .inl (cy 1, 5, .inl (fun _ => 0))) (hf_sa : f sa = .inl (cy 1, 4, .inl (fun _ => 0))) (hf_mi : f mi = .inl (cy 1, 36, .inl (fun _ => 0))) (hf_xla : f xla = .inl (cy 1, 5, .inl (fun _ => 0))) (hf_xsa : f xsa = .inl (cy 1, 4, .inl (fun _ => 0))) (hf_xmi : f xmi = .inl (cy 1, 36, .inl (fun _ => 0))) (ne_mo_dr : mo ≠ dr) (ne_la_xla : la ≠ xla) (ne_sa_xsa : sa ≠ xsa) (ne_mi_xmi : mi ≠ xmi) : Met l yX9_moor (z_ws yX9_moor cX9_moor 2 (some .int)) (z_R 6 0 0) (va_Pc [.ref hs] (z_Pre D vwCl (z_K D cy) L f sz)) (z_Qi D vwCl (fun r u => (∀ b ∈ L, b ∈ u.1) ∧ (∀ b ∈ L, b ≠ rd → b ≠ dr → b ≠ xla → b ≠ xsa → b ≠ xmi → b ≠ tp → b ≠ mo → b ≠ la → b ≠ sa → b ≠ mi → u.2 b = f b) ∧ ((r.toInt = 0))) L sz) 0 0 (z_A L sz) := by
  refine z_met (cc := cX9_moor) (maxL := 2) (ret := (some .int)) (lv := [(0, .ref hs)]) (by decide) rfl (Nat.le_of_ble_eq_true rfl) rfl ?_
  intro p e s m below meth c ls hx hb hr hlk hml hown hnm hts hKK hA hw hl
  have hK := hKK.1
  have hown : s.vm.findClass RX9 = some m.cls := hown
  have hT : ∀ w ∈ lw_all, w.before ([.ref hs] : List Value).toArray s = true := fun w h => hts w (z_cons w h)
  have hsub : ∀ b ∈ L, b ∈ L := fun _ h => h
  have hfr : ∀ b ∈ L, b ≠ rd → b ≠ dr → b ≠ xla → b ≠ xsa → b ≠ xmi → b ≠ tp → b ≠ mo → b ≠ la → b ≠ sa → b ≠ mi → f b = f b := fun _ _ _ _ _ _ _ _ _ _ _ _ => rfl
  refine lv_aload_n hx hb dX9_moor_0 rfl (lv_at hl 0 rfl) ?_
  refine z_get (C := RX9) (T := TX9) (N := 11) (ci := 9) (v := .ref rd) hx hb hT zin_X9 hown hK hw hm_hs hf_hs rfl 1 (by decide) (hT _ kw_478) rfl dX9_moor_1 ?_
  refine z_callvV (cells := 0) (slots := 0) (b := rd) (As := []) (rest := []) (ci := 5) (q0 := (RX5, TX5, 9)) ⟨hx, hb, hml, hown, hT⟩ (c_X5_begin l hm_rd hm_tp hm_dr hm_xla hm_xsa hm_xmi hf_rd hf_tp hf_dr hf_xla hf_xsa hf_xmi) (cwV 0 hT (z_goodV (fun _ h => h) kw_527 kw_528 kw_529 kw_89 kw_530) rfl rfl rfl (by decide +kernel) ⟨by decide, by decide⟩) z_mv hKK hK hw hA hm_rd hf_rd rfl rfl rfl hl.1 rfl (Nat.le_of_ble_eq_true rfl) dX9_moor_4 ⟨by decide, by decide⟩ (fun u H locs hp hw => ?_)
  obtain ⟨L1, f2⟩ := u
  obtain ⟨hsb, hfm, h1_3, h2_4, h3_5, ha_0, ha_1, ha_2, ha_3, ha_4, hp⟩ := hp
  have hw : z_H D vwCl (z_A L sz) s.heap L1 f2 H locs := hw
  have hfr : ∀ b ∈ L, b ≠ rd → b ≠ dr → b ≠ xla → b ≠ xsa → b ≠ xmi → b ≠ tp → b ≠ mo → b ≠ la → b ≠ sa → b ≠ mi → f2 b = f b := fun b hb h0 h1 h2 h3 h4 h5 h6 h7 h8 h9 => (hfm b (hsub b hb) h0 h1 h2 h3 h4).trans (hfr b hb h0 h1 h2 h3 h4 h5 h6 h7 h8 h9)
  have hsub : ∀ b ∈ L, b ∈ L1 := fun b h => hsb b (hsub b h)
  have hf_hs : f2 hs = .inr (9, [.ref tp, .ref rd, .ref mo, .ref dr, .ref im, .ref kp, .ref sl, .ref wk, .ref pl, .ref ex, .ref mx]) := (hfm hs hm_hs (z_tne hf_hs hf_rd (m := 9) (n := 5) rfl rfl (by decide)) (z_tne hf_hs hf_dr (m := 9) (n := 2) rfl rfl (by decide)) (z_tne hf_hs hf_xla (m := 9) (n := 140) rfl rfl (by decide)) (z_tne hf_hs hf_xsa (m := 9) (n := 132) rfl rfl (by decide)) (z_tne hf_hs hf_xmi (m := 9) (n := 388) rfl rfl (by decide))).trans hf_hs
  have hf_tp : f2 tp = .inr (7, [.ref ba, .int 0]) := (hfm tp hm_tp (z_tne hf_tp hf_rd (m := 7) (n := 5) rfl rfl (by decide)) (z_tne hf_tp hf_dr (m := 7) (n := 2) rfl rfl (by decide)) (z_tne hf_tp hf_xla (m := 7) (n := 140) rfl rfl (by decide)) (z_tne hf_tp hf_xsa (m := 7) (n := 132) rfl rfl (by decide)) (z_tne hf_tp hf_xmi (m := 7) (n := 388) rfl rfl (by decide))).trans hf_tp
  have hf_mo : f2 mo = .inr (2, [.int 0, .int 0, .int 0, .int 0, .int 0, .int 0, .int 0, .ref la, .ref sa, .ref mi, .ref da]) := (hfm mo hm_mo (z_tne hf_mo hf_rd (m := 2) (n := 5) rfl rfl (by decide)) ne_mo_dr (z_tne hf_mo hf_xla (m := 2) (n := 140) rfl rfl (by decide)) (z_tne hf_mo hf_xsa (m := 2) (n := 132) rfl rfl (by decide)) (z_tne hf_mo hf_xmi (m := 2) (n := 388) rfl rfl (by decide))).trans hf_mo
  have hf_la : f2 la = .inl (cy 1, 5, .inl (fun _ => 0)) := (hfm la hm_la (z_tne hf_la hf_rd (m := 140) (n := 5) rfl rfl (by decide)) (z_tne hf_la hf_dr (m := 140) (n := 2) rfl rfl (by decide)) ne_la_xla (z_tne hf_la hf_xsa (m := 140) (n := 132) rfl rfl (by decide)) (z_tne hf_la hf_xmi (m := 140) (n := 388) rfl rfl (by decide))).trans hf_la
  have hf_sa : f2 sa = .inl (cy 1, 4, .inl (fun _ => 0)) := (hfm sa hm_sa (z_tne hf_sa hf_rd (m := 132) (n := 5) rfl rfl (by decide)) (z_tne hf_sa hf_dr (m := 132) (n := 2) rfl rfl (by decide)) (z_tne hf_sa hf_xla (m := 132) (n := 140) rfl rfl (by decide)) ne_sa_xsa (z_tne hf_sa hf_xmi (m := 132) (n := 388) rfl rfl (by decide))).trans hf_sa
  have hf_mi : f2 mi = .inl (cy 1, 36, .inl (fun _ => 0)) := (hfm mi hm_mi (z_tne hf_mi hf_rd (m := 388) (n := 5) rfl rfl (by decide)) (z_tne hf_mi hf_dr (m := 388) (n := 2) rfl rfl (by decide)) (z_tne hf_mi hf_xla (m := 388) (n := 140) rfl rfl (by decide)) (z_tne hf_mi hf_xsa (m := 388) (n := 132) rfl rfl (by decide)) ne_mi_xmi).trans hf_mi
  have hm_hs : hs ∈ L1 := hsb _ hm_hs
  have hm_tp : tp ∈ L1 := hsb _ hm_tp
  have hm_rd : rd ∈ L1 := hsb _ hm_rd
  have hm_mo : mo ∈ L1 := hsb _ hm_mo
  have hm_dr : dr ∈ L1 := hsb _ hm_dr
  have hm_la : la ∈ L1 := hsb _ hm_la
  have hm_sa : sa ∈ L1 := hsb _ hm_sa
  have hm_mi : mi ∈ L1 := hsb _ hm_mi
  have hm_xla : xla ∈ L1 := hsb _ hm_xla
  have hm_xsa : xsa ∈ L1 := hsb _ hm_xsa
  have hm_xmi : xmi ∈ L1 := hsb _ hm_xmi
  have hf_rd : f2 rd = .inr (5, [.int 0, .int (-1), .ref tp, .ref dr, .int 0, .int 0, .int 0, .int 0, .int 0]) := ha_0
  have hf_dr : f2 dr = .inr (2, [.int 0, .int 0, .int 0, .int 0, .int 0, .int 0, .int 0, .ref xla, .ref xsa, .ref xmi, .ref xda]) := ha_1
  have hf_xla : f2 xla = .inl (cy 1, 5, .inl h1_3) := ha_2
  have hf_xsa : f2 xsa = .inl (cy 1, 4, .inl h2_4) := ha_3
  have hf_xmi : f2 xmi = .inl (cy 1, 36, .inl h3_5) := ha_4
  refine lv_iconst (v := 0) hx hb dX9_moor_7 (by decide) ?_
  refine lv_istore_n (lv' := [(1, .int 0), (0, .ref hs)]) hx hb dX9_moor_8 rfl hl (by decide) rfl (fun ls hl => ?_)
  refine lv_iload_n hx hb dX9_moor_9 rfl (lv_at hl 0 rfl) ?_
  refine lv_sipush (v := 1600) hx hb dX9_moor_10 (by decide) ?_
  refine z_icmp_gt (tgt := 39) hx hb (show (0 : Int32).toInt = 0 by decide) (show (1600 : Int32).toInt = 1600 by decide) dX9_moor_13 (by decide) (fun h => absurd h (by decide)) (fun _ => ?_)
  refine lv_aload_n hx hb dX9_moor_16 rfl (lv_at hl 1 rfl) ?_
  refine z_get (C := RX9) (T := TX9) (N := 11) (ci := 9) (v := .ref rd) hx hb hT zin_X9 hown hK hw hm_hs hf_hs rfl 1 (by decide) (hT _ kw_478) rfl dX9_moor_17 ?_
  refine z_calliV (cells := 0) (slots := 0) (b := rd) (As := []) (rest := []) (ci := 5) (q0 := (RX5, TX5, 9)) ⟨hx, hb, hml, hown, hT⟩ (c_X5_hasMore l hm_rd hf_rd) (cwV 0 hT (z_goodV (fun _ h => h) kw_553 kw_554 kw_555 kw_89 kw_556) rfl rfl rfl (by decide +kernel) ⟨by decide, by decide⟩) z_mv hKK hK hw hA hm_rd hf_rd rfl rfl rfl hl.1 rfl (Nat.le_of_ble_eq_true rfl) dX9_moor_20 ⟨by decide, by decide⟩ (fun r6 u H locs hp hw => ?_)
  obtain ⟨rfl, hp⟩ := hp
  have hw : z_H D vwCl (z_A L sz) s.heap L1 f2 H locs := hw
  obtain rfl := hp
  refine z_if_eq (tgt := 39) hx hb (show (0 : Int32).toInt = 0 by decide) dX9_moor_23 (by decide) (fun _ => ?_) (fun h => absurd h (by decide))
  refine lv_aload_n hx hb dX9_moor_39 rfl (lv_at hl 1 rfl) ?_
  refine z_get (C := RX9) (T := TX9) (N := 11) (ci := 9) (v := .ref rd) hx hb hT zin_X9 hown hK hw hm_hs hf_hs rfl 1 (by decide) (hT _ kw_478) rfl dX9_moor_40 ?_
  refine z_get (C := RX5) (T := TX5) (N := 9) (ci := 5) (v := .int 0) hx hb hT zin_X5 hown hK hw hm_rd hf_rd rfl 0 (by decide) (hT _ kw_278) rfl dX9_moor_43 ?_
  refine z_if_eq (tgt := 52) hx hb (show (0 : Int32).toInt = 0 by decide) dX9_moor_46 (by decide) (fun _ => ?_) (fun h => absurd h (by decide))
  refine lv_aload_n hx hb dX9_moor_52 rfl (lv_at hl 1 rfl) ?_
  refine z_get (C := RX9) (T := TX9) (N := 11) (ci := 9) (v := .ref tp) hx hb hT zin_X9 hown hK hw hm_hs hf_hs rfl 0 (by decide) (hT _ kw_477) rfl dX9_moor_53 ?_
  refine lv_iconst (v := 0) hx hb dX9_moor_56 (by decide) ?_
  refine z_put (C := RX7) (T := TX7) (N := 2) (ci := 7) (v := .int 0) (fs' := [.ref ba, .int 0]) hx hb hT zin_X7 tyX7_ok nmX7 hown hK hw hm_tp hf_tp rfl 1 (by decide) (hT _ kw_119) rfl rfl rfl (Nat.le_of_ble_eq_true rfl) rfl dX9_moor_57 (fun H locs hw => ?_)
  obtain ⟨f7, e_f7⟩ : ∃ z, z = va_up f2 tp (.inr (7, [.ref ba, .int 0])) := ⟨_, rfl⟩
  rw [← e_f7] at hw
  have hf_hs : f7 hs = .inr (9, [.ref tp, .ref rd, .ref mo, .ref dr, .ref im, .ref kp, .ref sl, .ref wk, .ref pl, .ref ex, .ref mx]) := (congrFun e_f7 hs).trans (z_up_ne (z_tne hf_hs hf_tp (m := 9) (n := 7) rfl rfl (by decide)) hf_hs)
  have hf_rd : f7 rd = .inr (5, [.int 0, .int (-1), .ref tp, .ref dr, .int 0, .int 0, .int 0, .int 0, .int 0]) := (congrFun e_f7 rd).trans (z_up_ne (z_tne hf_rd hf_tp (m := 5) (n := 7) rfl rfl (by decide)) hf_rd)
  have hf_mo : f7 mo = .inr (2, [.int 0, .int 0, .int 0, .int 0, .int 0, .int 0, .int 0, .ref la, .ref sa, .ref mi, .ref da]) := (congrFun e_f7 mo).trans (z_up_ne (z_tne hf_mo hf_tp (m := 2) (n := 7) rfl rfl (by decide)) hf_mo)
  have hf_dr : f7 dr = .inr (2, [.int 0, .int 0, .int 0, .int 0, .int 0, .int 0, .int 0, .ref xla, .ref xsa, .ref xmi, .ref xda]) := (congrFun e_f7 dr).trans (z_up_ne (z_tne hf_dr hf_tp (m := 2) (n := 7) rfl rfl (by decide)) hf_dr)
  have hf_la : f7 la = .inl (cy 1, 5, .inl (fun _ => 0)) := (congrFun e_f7 la).trans (z_up_ne (z_tne hf_la hf_tp (m := 140) (n := 7) rfl rfl (by decide)) hf_la)
  have hf_sa : f7 sa = .inl (cy 1, 4, .inl (fun _ => 0)) := (congrFun e_f7 sa).trans (z_up_ne (z_tne hf_sa hf_tp (m := 132) (n := 7) rfl rfl (by decide)) hf_sa)
  have hf_mi : f7 mi = .inl (cy 1, 36, .inl (fun _ => 0)) := (congrFun e_f7 mi).trans (z_up_ne (z_tne hf_mi hf_tp (m := 388) (n := 7) rfl rfl (by decide)) hf_mi)
  have hf_xla : f7 xla = .inl (cy 1, 5, .inl h1_3) := (congrFun e_f7 xla).trans (z_up_ne (z_tne hf_xla hf_tp (m := 140) (n := 7) rfl rfl (by decide)) hf_xla)
  have hf_xsa : f7 xsa = .inl (cy 1, 4, .inl h2_4) := (congrFun e_f7 xsa).trans (z_up_ne (z_tne hf_xsa hf_tp (m := 132) (n := 7) rfl rfl (by decide)) hf_xsa)
  have hf_xmi : f7 xmi = .inl (cy 1, 36, .inl h3_5) := (congrFun e_f7 xmi).trans (z_up_ne (z_tne hf_xmi hf_tp (m := 388) (n := 7) rfl rfl (by decide)) hf_xmi)
  have hf_tp : f7 tp = .inr (7, [.ref ba, .int 0]) := (congrFun e_f7 tp).trans z_up_self
  have hfr : ∀ b ∈ L, b ≠ rd → b ≠ dr → b ≠ xla → b ≠ xsa → b ≠ xmi → b ≠ tp → b ≠ mo → b ≠ la → b ≠ sa → b ≠ mi → f7 b = f b := fun b hb h0 h1 h2 h3 h4 h5 h6 h7 h8 h9 => (congrFun e_f7 b).trans (z_up_ne h5 (hfr b hb h0 h1 h2 h3 h4 h5 h6 h7 h8 h9))
  refine lv_aload_n hx hb dX9_moor_60 rfl (lv_at hl 1 rfl) ?_
  refine z_get (C := RX9) (T := TX9) (N := 11) (ci := 9) (v := .ref mo) hx hb hT zin_X9 hown hK hw hm_hs hf_hs rfl 2 (by decide) (hT _ kw_479) rfl dX9_moor_61 ?_
  refine lv_aload_n hx hb dX9_moor_64 rfl (lv_at hl 1 rfl) ?_
  refine z_get (C := RX9) (T := TX9) (N := 11) (ci := 9) (v := .ref dr) hx hb hT zin_X9 hown hK hw hm_hs hf_hs rfl 3 (by decide) (hT _ kw_480) rfl dX9_moor_65 ?_
  refine z_callvV (cells := 0) (slots := 0) (b := mo) (As := [.ref dr]) (rest := []) (ci := 2) (q0 := (RX2, TX2, 11)) ⟨hx, hb, hml, hown, hT⟩ (c_X2_copy l hm_mo hm_dr hm_la hm_sa hm_mi hm_xla hm_xsa hm_xmi hf_mo hf_dr hf_la hf_sa hf_mi hf_xla hf_xsa hf_xmi ne_mo_dr ne_la_xla ne_sa_xsa ne_mi_xmi) (cwV 1 hT (z_goodV (fun _ h => h) kw_690 kw_691 kw_692 kw_87 kw_693) rfl rfl rfl (by decide +kernel) ⟨by decide, by decide⟩) z_mv hKK hK hw hA hm_mo hf_mo rfl rfl rfl hl.1 rfl (Nat.le_of_ble_eq_true rfl) dX9_moor_68 ⟨by decide, by decide⟩ (fun u H locs hp hw => ?_)
  obtain ⟨L8, f9⟩ := u
  obtain ⟨hsb, hfm, h1_10, h2_11, h3_12, ha_0, ha_1, ha_2, ha_3, hp⟩ := hp
  have hw : z_H D vwCl (z_A L sz) s.heap L8 f9 H locs := hw
  have hfr : ∀ b ∈ L, b ≠ rd → b ≠ dr → b ≠ xla → b ≠ xsa → b ≠ xmi → b ≠ tp → b ≠ mo → b ≠ la → b ≠ sa → b ≠ mi → f9 b = f b := fun b hb h0 h1 h2 h3 h4 h5 h6 h7 h8 h9 => (hfm b (hsub b hb) h6 h7 h8 h9).trans (hfr b hb h0 h1 h2 h3 h4 h5 h6 h7 h8 h9)
  have hsub : ∀ b ∈ L, b ∈ L8 := fun b h => hsb b (hsub b h)
  have hf_hs : f9 hs = .inr (9, [.ref tp, .ref rd, .ref mo, .ref dr, .ref im, .ref kp, .ref sl, .ref wk, .ref pl, .ref ex, .ref mx]) := (hfm hs hm_hs (z_tne hf_hs hf_mo (m := 9) (n := 2) rfl rfl (by decide)) (z_tne hf_hs hf_la (m := 9) (n := 140) rfl rfl (by decide)) (z_tne hf_hs hf_sa (m := 9) (n := 132) rfl rfl (by decide)) (z_tne hf_hs hf_mi (m := 9) (n := 388) rfl rfl (by decide))).trans hf_hs
  have hf_tp : f9 tp = .inr (7, [.ref ba, .int 0]) := (hfm tp hm_tp (z_tne hf_tp hf_mo (m := 7) (n := 2) rfl rfl (by decide)) (z_tne hf_tp hf_la (m := 7) (n := 140) rfl rfl (by decide)) (z_tne hf_tp hf_sa (m := 7) (n := 132) rfl rfl (by decide)) (z_tne hf_tp hf_mi (m := 7) (n := 388) rfl rfl (by decide))).trans hf_tp
  have hf_rd : f9 rd = .inr (5, [.int 0, .int (-1), .ref tp, .ref dr, .int 0, .int 0, .int 0, .int 0, .int 0]) := (hfm rd hm_rd (z_tne hf_rd hf_mo (m := 5) (n := 2) rfl rfl (by decide)) (z_tne hf_rd hf_la (m := 5) (n := 140) rfl rfl (by decide)) (z_tne hf_rd hf_sa (m := 5) (n := 132) rfl rfl (by decide)) (z_tne hf_rd hf_mi (m := 5) (n := 388) rfl rfl (by decide))).trans hf_rd
  have hf_dr : f9 dr = .inr (2, [.int 0, .int 0, .int 0, .int 0, .int 0, .int 0, .int 0, .ref xla, .ref xsa, .ref xmi, .ref xda]) := (hfm dr hm_dr (Ne.symm ne_mo_dr) (z_tne hf_dr hf_la (m := 2) (n := 140) rfl rfl (by decide)) (z_tne hf_dr hf_sa (m := 2) (n := 132) rfl rfl (by decide)) (z_tne hf_dr hf_mi (m := 2) (n := 388) rfl rfl (by decide))).trans hf_dr
  have hf_xla : f9 xla = .inl (cy 1, 5, .inl h1_3) := (hfm xla hm_xla (z_tne hf_xla hf_mo (m := 140) (n := 2) rfl rfl (by decide)) (Ne.symm ne_la_xla) (z_tne hf_xla hf_sa (m := 140) (n := 132) rfl rfl (by decide)) (z_tne hf_xla hf_mi (m := 140) (n := 388) rfl rfl (by decide))).trans hf_xla
  have hf_xsa : f9 xsa = .inl (cy 1, 4, .inl h2_4) := (hfm xsa hm_xsa (z_tne hf_xsa hf_mo (m := 132) (n := 2) rfl rfl (by decide)) (z_tne hf_xsa hf_la (m := 132) (n := 140) rfl rfl (by decide)) (Ne.symm ne_sa_xsa) (z_tne hf_xsa hf_mi (m := 132) (n := 388) rfl rfl (by decide))).trans hf_xsa
  have hf_xmi : f9 xmi = .inl (cy 1, 36, .inl h3_5) := (hfm xmi hm_xmi (z_tne hf_xmi hf_mo (m := 388) (n := 2) rfl rfl (by decide)) (z_tne hf_xmi hf_la (m := 388) (n := 140) rfl rfl (by decide)) (z_tne hf_xmi hf_sa (m := 388) (n := 132) rfl rfl (by decide)) (Ne.symm ne_mi_xmi)).trans hf_xmi
  have hm_hs : hs ∈ L8 := hsb _ hm_hs
  have hm_tp : tp ∈ L8 := hsb _ hm_tp
  have hm_rd : rd ∈ L8 := hsb _ hm_rd
  have hm_mo : mo ∈ L8 := hsb _ hm_mo
  have hm_dr : dr ∈ L8 := hsb _ hm_dr
  have hm_la : la ∈ L8 := hsb _ hm_la
  have hm_sa : sa ∈ L8 := hsb _ hm_sa
  have hm_mi : mi ∈ L8 := hsb _ hm_mi
  have hm_xla : xla ∈ L8 := hsb _ hm_xla
  have hm_xsa : xsa ∈ L8 := hsb _ hm_xsa
  have hm_xmi : xmi ∈ L8 := hsb _ hm_xmi
  have hf_mo : f9 mo = .inr (2, [.int 0, .int 0, .int 0, .int 0, .int 0, .int 0, .int 0, .ref la, .ref sa, .ref mi, .ref da]) := ha_0
  have hf_la : f9 la = .inl (cy 1, 5, .inl h1_10) := ha_1
  have hf_sa : f9 sa = .inl (cy 1, 4, .inl h2_11) := ha_2
  have hf_mi : f9 mi = .inl (cy 1, 36, .inl h3_12) := ha_3
  refine lv_aload_n hx hb dX9_moor_71 rfl (lv_at hl 1 rfl) ?_
  refine z_get (C := RX9) (T := TX9) (N := 11) (ci := 9) (v := .ref mo) hx hb hT zin_X9 hown hK hw hm_hs hf_hs rfl 2 (by decide) (hT _ kw_479) rfl dX9_moor_72 ?_
  refine z_get (C := RX2) (T := TX2) (N := 11) (ci := 2) (v := .int 0) hx hb hT zin_X2 hown hK hw hm_mo hf_mo rfl 0 (by decide) (hT _ kw_205) rfl dX9_moor_75 ?_
  exact z_iret hx hb hr hlk (by decide) (by decide) hw (⟨hsub, hfr, by decide⟩) dX9_moor_78

set_option maxHeartbeats 2000000 in
set_option maxRecDepth 100000 in
theorem c_X9_keep (l : Launch) {D : va_G} {cy : Nat → ClassId} {L : List Nat} {f : Nat → va_E} {sz : Nat} {hs tp rd mo dr im kp sl wk pl ex mx : Nat} {la sa mi da : Nat} {i0 i1 i2 la0 sa0 mi0 da0 la1 sa1 mi1 da1 la2 sa2 mi2 da2 : Nat} {gi : Nat → Option Nat} {xa : Int32} (hm_hs : hs ∈ L) (hm_mo : mo ∈ L) (hm_la : la ∈ L) (hm_sa : sa ∈ L) (hm_mi : mi ∈ L) (hm_im : im ∈ L) (hm_kp : kp ∈ L) (hm_i0 : i0 ∈ L) (hm_la0 : la0 ∈ L) (hm_sa0 : sa0 ∈ L) (hm_mi0 : mi0 ∈ L) (hm_i1 : i1 ∈ L) (hm_la1 : la1 ∈ L) (hm_sa1 : sa1 ∈ L) (hm_mi1 : mi1 ∈ L) (hm_i2 : i2 ∈ L) (hm_la2 : la2 ∈ L) (hm_sa2 : sa2 ∈ L) (hm_mi2 : mi2 ∈ L) (hf_hs : f hs = .inr (9, [.ref tp, .ref rd, .ref mo, .ref dr, .ref im, .ref kp, .ref sl, .ref wk, .ref pl, .ref ex, .ref mx])) (hf_mo : f mo = .inr (2, [.int 0, .int 0, .int 0, .int 0, .int 0, .int 0, .int 0, .ref la, .ref sa, .ref mi, .ref da])) (hf_la : f la = .inl (cy 1, 5, .inl (fun _ => 0))) (hf_sa : f sa = .inl (cy 1, 4, .inl (fun _ => 0))) (hf_mi : f mi = .inl (cy 1, 36, .inl (fun _ => 0))) (hf_im : f im = .inl (cy 5, 3, .inr (.inr (.inr (.inr gi))))) (hf_kp : f kp = .inl (cy 3, 3, .inl (fun _ => 0))) (hf_i0 : f i0 = .inr (2, [.int 0, .int 0, .int 0, .int 0, .int 0, .int 0, .int 0, .ref la0, .ref sa0, .ref mi0, .ref da0])) (hf_la0 : f la0 = .inl (cy 1, 5, .inl (fun _ => 0))) (hf_sa0 : f sa0 = .inl (cy 1, 4, .inl (fun _ => 0))) (hf_mi0 : f mi0 = .inl (cy 1, 36, .inl (fun _ => 0))) (hf_i1 : f i1 = .inr (2, [.int 0, .int 0, .int 0, .int 0, .int 0, .int 0, .int 0, .ref la1, .ref sa1, .ref mi1, .ref da1])) (hf_la1 : f la1 = .inl (cy 1, 5, .inl (fun _ => 0))) (hf_sa1 : f sa1 = .inl (cy 1, 4, .inl (fun _ => 0))) (hf_mi1 : f mi1 = .inl (cy 1, 36, .inl (fun _ => 0))) (hf_i2 : f i2 = .inr (2, [.int 0, .int 0, .int 0, .int 0, .int 0, .int 0, .int 0, .ref la2, .ref sa2, .ref mi2, .ref da2])) (hf_la2 : f la2 = .inl (cy 1, 5, .inl (fun _ => 0))) (hf_sa2 : f sa2 = .inl (cy 1, 4, .inl (fun _ => 0))) (hf_mi2 : f mi2 = .inl (cy 1, 36, .inl (fun _ => 0))) (ne_i0_mo : i0 ≠ mo) (ne_la0_la : la0 ≠ la) (ne_sa0_sa : sa0 ≠ sa) (ne_mi0_mi : mi0 ≠ mi) (ne_i1_mo : i1 ≠ mo) (ne_la1_la : la1 ≠ la) (ne_sa1_sa : sa1 ≠ sa) (ne_mi1_mi : mi1 ≠ mi) (ne_i2_mo : i2 ≠ mo) (ne_la2_la : la2 ≠ la) (ne_sa2_sa : sa2 ≠ sa) (ne_mi2_mi : mi2 ≠ mi) (hg0 : gi 0 = some i0) (hg1 : gi 1 = some i1) (hg2 : gi 2 = some i2) : Met l yX9_keep (z_ws yX9_keep cX9_keep 2 (some .int)) (z_R 4 0 0) (va_Pc [.ref hs, .int xa] (z_Pre D vwCl (z_K D cy) L f sz)) (z_Qi D vwCl (fun r u => (∀ b ∈ L, b ∈ u.1) ∧ (∀ b ∈ L, b ≠ i0 → b ≠ la0 → b ≠ sa0 → b ≠ mi0 → b ≠ i1 → b ≠ la1 → b ≠ sa1 → b ≠ mi1 → b ≠ i2 → b ≠ la2 → b ≠ sa2 → b ≠ mi2 → b ≠ kp → u.2 b = f b) ∧ (((r.toInt = 0 ∧ (0 ≤ xa.toInt ∧ xa.toInt < 3)) ∨ (r.toInt = -2 ∧ ¬ (0 ≤ xa.toInt ∧ xa.toInt < 3))))) L sz) 0 0 (z_A L sz) := by
  refine z_met (cc := cX9_keep) (maxL := 2) (ret := (some .int)) (lv := [(0, .ref hs), (1, .int xa)]) (by decide) rfl (Nat.le_of_ble_eq_true rfl) rfl ?_
  intro p e s m below meth c ls hx hb hr hlk hml hown hnm hts hKK hA hw hl
  have hK := hKK.1
  have hown : s.vm.findClass RX9 = some m.cls := hown
  have hT : ∀ w ∈ lw_all, w.before ([.ref hs, .int xa] : List Value).toArray s = true := fun w h => hts w (z_cons w h)
  have hsub : ∀ b ∈ L, b ∈ L := fun _ h => h
  have hfr : ∀ b ∈ L, b ≠ i0 → b ≠ la0 → b ≠ sa0 → b ≠ mi0 → b ≠ i1 → b ≠ la1 → b ≠ sa1 → b ≠ mi1 → b ≠ i2 → b ≠ la2 → b ≠ sa2 → b ≠ mi2 → b ≠ kp → f b = f b := fun _ _ _ _ _ _ _ _ _ _ _ _ _ _ _ => rfl
  refine lv_iload_n hx hb dX9_keep_0 rfl (lv_at hl 1 rfl) ?_
  refine z_if_lt (tgt := 9) hx hb rfl dX9_keep_1 (by decide) (fun c1 => ?_) (fun c1 => ?_)
  · skip
    refine lv_bipush (v := (-2)) hx hb dX9_keep_9 (by decide) ?_
    exact z_iret hx hb hr hlk (by decide) (by decide) hw (⟨hsub, hfr, Or.inr ⟨by decide, by omega⟩⟩) dX9_keep_11
  · skip
    refine lv_iload_n hx hb dX9_keep_4 rfl (lv_at hl 1 rfl) ?_
    refine lv_iconst (v := 3) hx hb dX9_keep_5 (by decide) ?_
    refine z_icmp_lt (tgt := 12) hx hb rfl (show (3 : Int32).toInt = 3 by decide) dX9_keep_6 (by decide) (fun c2 => ?_) (fun c2 => ?_)
    · skip
      have c3s : xa.toInt = 0 ∨ xa.toInt = 1 ∨ xa.toInt = 2 := by omega
      rcases c3s with c3 | c3 | c3
      · skip
        have hcj : xa.toNatClampNeg = 0 := by have h9 : (xa.toNatClampNeg : Int) = xa.toInt := Int.toNat_of_nonneg (by omega); omega
        refine lv_aload_n hx hb dX9_keep_12 rfl (lv_at hl 0 rfl) ?_
        refine z_get (C := RX9) (T := TX9) (N := 11) (ci := 9) (v := .ref im) hx hb hT zin_X9 hown hK hw hm_hs hf_hs rfl 4 (by decide) (hT _ kw_481) rfl dX9_keep_13 ?_
        refine lv_iload_n hx hb dX9_keep_16 rfl (lv_at hl 1 rfl) ?_
        refine z_aald (b := i0) hx hb hK hw 5 hm_im hf_im rfl (z_ix rfl (by omega)) (by rw [hcj]; exact hg0) dX9_keep_17 ?_
        refine lv_aload_n hx hb dX9_keep_18 rfl (lv_at hl 0 rfl) ?_
        refine z_get (C := RX9) (T := TX9) (N := 11) (ci := 9) (v := .ref mo) hx hb hT zin_X9 hown hK hw hm_hs hf_hs rfl 2 (by decide) (hT _ kw_479) rfl dX9_keep_19 ?_
        refine z_callvV (cells := 0) (slots := 0) (b := i0) (As := [.ref mo]) (rest := []) (ci := 2) (q0 := (RX2, TX2, 11)) ⟨hx, hb, hml, hown, hT⟩ (c_X2_copy l hm_i0 hm_mo hm_la0 hm_sa0 hm_mi0 hm_la hm_sa hm_mi hf_i0 hf_mo hf_la0 hf_sa0 hf_mi0 hf_la hf_sa hf_mi ne_i0_mo ne_la0_la ne_sa0_sa ne_mi0_mi) (cwV 1 hT (z_goodV (fun _ h => h) kw_690 kw_691 kw_692 kw_87 kw_693) rfl rfl rfl (by decide +kernel) ⟨by decide, by decide⟩) z_mv hKK hK hw hA hm_i0 hf_i0 rfl rfl rfl hl.1 rfl (Nat.le_of_ble_eq_true rfl) dX9_keep_22 ⟨by decide, by decide⟩ (fun u H locs hp hw => ?_)
        obtain ⟨L4, f5⟩ := u
        obtain ⟨hsb, hfm, h1_6, h2_7, h3_8, ha_0, ha_1, ha_2, ha_3, hp⟩ := hp
        have hw : z_H D vwCl (z_A L sz) s.heap L4 f5 H locs := hw
        have hfr : ∀ b ∈ L, b ≠ i0 → b ≠ la0 → b ≠ sa0 → b ≠ mi0 → b ≠ i1 → b ≠ la1 → b ≠ sa1 → b ≠ mi1 → b ≠ i2 → b ≠ la2 → b ≠ sa2 → b ≠ mi2 → b ≠ kp → f5 b = f b := fun b hb h0 h1 h2 h3 h4 h5 h6 h7 h8 h9 h10 h11 h12 => (hfm b (hsub b hb) h0 h1 h2 h3).trans (hfr b hb h0 h1 h2 h3 h4 h5 h6 h7 h8 h9 h10 h11 h12)
        have hsub : ∀ b ∈ L, b ∈ L4 := fun b h => hsb b (hsub b h)
        have hf_hs : f5 hs = .inr (9, [.ref tp, .ref rd, .ref mo, .ref dr, .ref im, .ref kp, .ref sl, .ref wk, .ref pl, .ref ex, .ref mx]) := (hfm hs hm_hs (z_tne hf_hs hf_i0 (m := 9) (n := 2) rfl rfl (by decide)) (z_tne hf_hs hf_la0 (m := 9) (n := 140) rfl rfl (by decide)) (z_tne hf_hs hf_sa0 (m := 9) (n := 132) rfl rfl (by decide)) (z_tne hf_hs hf_mi0 (m := 9) (n := 388) rfl rfl (by decide))).trans hf_hs
        have hf_mo : f5 mo = .inr (2, [.int 0, .int 0, .int 0, .int 0, .int 0, .int 0, .int 0, .ref la, .ref sa, .ref mi, .ref da]) := (hfm mo hm_mo (Ne.symm ne_i0_mo) (z_tne hf_mo hf_la0 (m := 2) (n := 140) rfl rfl (by decide)) (z_tne hf_mo hf_sa0 (m := 2) (n := 132) rfl rfl (by decide)) (z_tne hf_mo hf_mi0 (m := 2) (n := 388) rfl rfl (by decide))).trans hf_mo
        have hf_la : f5 la = .inl (cy 1, 5, .inl (fun _ => 0)) := (hfm la hm_la (z_tne hf_la hf_i0 (m := 140) (n := 2) rfl rfl (by decide)) (Ne.symm ne_la0_la) (z_tne hf_la hf_sa0 (m := 140) (n := 132) rfl rfl (by decide)) (z_tne hf_la hf_mi0 (m := 140) (n := 388) rfl rfl (by decide))).trans hf_la
        have hf_sa : f5 sa = .inl (cy 1, 4, .inl (fun _ => 0)) := (hfm sa hm_sa (z_tne hf_sa hf_i0 (m := 132) (n := 2) rfl rfl (by decide)) (z_tne hf_sa hf_la0 (m := 132) (n := 140) rfl rfl (by decide)) (Ne.symm ne_sa0_sa) (z_tne hf_sa hf_mi0 (m := 132) (n := 388) rfl rfl (by decide))).trans hf_sa
        have hf_mi : f5 mi = .inl (cy 1, 36, .inl (fun _ => 0)) := (hfm mi hm_mi (z_tne hf_mi hf_i0 (m := 388) (n := 2) rfl rfl (by decide)) (z_tne hf_mi hf_la0 (m := 388) (n := 140) rfl rfl (by decide)) (z_tne hf_mi hf_sa0 (m := 388) (n := 132) rfl rfl (by decide)) (Ne.symm ne_mi0_mi)).trans hf_mi
        have hf_im : f5 im = .inl (cy 5, 3, .inr (.inr (.inr (.inr gi)))) := (hfm im hm_im (z_tne hf_im hf_i0 (m := 126) (n := 2) rfl rfl (by decide)) (z_tne hf_im hf_la0 (m := 126) (n := 140) rfl rfl (by decide)) (z_tne hf_im hf_sa0 (m := 126) (n := 132) rfl rfl (by decide)) (z_tne hf_im hf_mi0 (m := 126) (n := 388) rfl rfl (by decide))).trans hf_im
        have hf_kp : f5 kp = .inl (cy 3, 3, .inl (fun _ => 0)) := (hfm kp hm_kp (z_tne hf_kp hf_i0 (m := 124) (n := 2) rfl rfl (by decide)) (z_tne hf_kp hf_la0 (m := 124) (n := 140) rfl rfl (by decide)) (z_tne hf_kp hf_sa0 (m := 124) (n := 132) rfl rfl (by decide)) (z_tne hf_kp hf_mi0 (m := 124) (n := 388) rfl rfl (by decide))).trans hf_kp
        have hm_hs : hs ∈ L4 := hsb _ hm_hs
        have hm_mo : mo ∈ L4 := hsb _ hm_mo
        have hm_la : la ∈ L4 := hsb _ hm_la
        have hm_sa : sa ∈ L4 := hsb _ hm_sa
        have hm_mi : mi ∈ L4 := hsb _ hm_mi
        have hm_im : im ∈ L4 := hsb _ hm_im
        have hm_kp : kp ∈ L4 := hsb _ hm_kp
        have hm_i0 : i0 ∈ L4 := hsb _ hm_i0
        have hm_la0 : la0 ∈ L4 := hsb _ hm_la0
        have hm_sa0 : sa0 ∈ L4 := hsb _ hm_sa0
        have hm_mi0 : mi0 ∈ L4 := hsb _ hm_mi0
        have hf_i0 : f5 i0 = .inr (2, [.int 0, .int 0, .int 0, .int 0, .int 0, .int 0, .int 0, .ref la0, .ref sa0, .ref mi0, .ref da0]) := ha_0
        have hf_la0 : f5 la0 = .inl (cy 1, 5, .inl h1_6) := ha_1
        have hf_sa0 : f5 sa0 = .inl (cy 1, 4, .inl h2_7) := ha_2
        have hf_mi0 : f5 mi0 = .inl (cy 1, 36, .inl h3_8) := ha_3
        refine lv_aload_n hx hb dX9_keep_25 rfl (lv_at hl 0 rfl) ?_
        refine z_get (C := RX9) (T := TX9) (N := 11) (ci := 9) (v := .ref kp) hx hb hT zin_X9 hown hK hw hm_hs hf_hs rfl 5 (by decide) (hT _ kw_482) rfl dX9_keep_26 ?_
        refine lv_iload_n hx hb dX9_keep_29 rfl (lv_at hl 1 rfl) ?_
        refine lv_iconst (v := 1) hx hb dX9_keep_30 (by decide) ?_
        refine z_zast hx hb hK hw 3 hm_kp hf_kp rfl (z_ix rfl (by omega)) dX9_keep_31 (fun H locs hw => ?_)
        obtain ⟨f10, e_f10⟩ : ∃ z, z = va_up f5 kp (.inl (cy 3, 3, .inl (upd (fun _ => 0) xa.toNatClampNeg (vp_nar .boolean 1)))) := ⟨_, rfl⟩
        rw [← e_f10] at hw
        have hf_hs : f10 hs = .inr (9, [.ref tp, .ref rd, .ref mo, .ref dr, .ref im, .ref kp, .ref sl, .ref wk, .ref pl, .ref ex, .ref mx]) := (congrFun e_f10 hs).trans (z_up_ne (z_tne hf_hs hf_kp (m := 9) (n := 124) rfl rfl (by decide)) hf_hs)
        have hf_mo : f10 mo = .inr (2, [.int 0, .int 0, .int 0, .int 0, .int 0, .int 0, .int 0, .ref la, .ref sa, .ref mi, .ref da]) := (congrFun e_f10 mo).trans (z_up_ne (z_tne hf_mo hf_kp (m := 2) (n := 124) rfl rfl (by decide)) hf_mo)
        have hf_la : f10 la = .inl (cy 1, 5, .inl (fun _ => 0)) := (congrFun e_f10 la).trans (z_up_ne (z_tne hf_la hf_kp (m := 140) (n := 124) rfl rfl (by decide)) hf_la)
        have hf_sa : f10 sa = .inl (cy 1, 4, .inl (fun _ => 0)) := (congrFun e_f10 sa).trans (z_up_ne (z_tne hf_sa hf_kp (m := 132) (n := 124) rfl rfl (by decide)) hf_sa)
        have hf_mi : f10 mi = .inl (cy 1, 36, .inl (fun _ => 0)) := (congrFun e_f10 mi).trans (z_up_ne (z_tne hf_mi hf_kp (m := 388) (n := 124) rfl rfl (by decide)) hf_mi)
        have hf_im : f10 im = .inl (cy 5, 3, .inr (.inr (.inr (.inr gi)))) := (congrFun e_f10 im).trans (z_up_ne (z_tne hf_im hf_kp (m := 126) (n := 124) rfl rfl (by decide)) hf_im)
        have hf_i0 : f10 i0 = .inr (2, [.int 0, .int 0, .int 0, .int 0, .int 0, .int 0, .int 0, .ref la0, .ref sa0, .ref mi0, .ref da0]) := (congrFun e_f10 i0).trans (z_up_ne (z_tne hf_i0 hf_kp (m := 2) (n := 124) rfl rfl (by decide)) hf_i0)
        have hf_la0 : f10 la0 = .inl (cy 1, 5, .inl h1_6) := (congrFun e_f10 la0).trans (z_up_ne (z_tne hf_la0 hf_kp (m := 140) (n := 124) rfl rfl (by decide)) hf_la0)
        have hf_sa0 : f10 sa0 = .inl (cy 1, 4, .inl h2_7) := (congrFun e_f10 sa0).trans (z_up_ne (z_tne hf_sa0 hf_kp (m := 132) (n := 124) rfl rfl (by decide)) hf_sa0)
        have hf_mi0 : f10 mi0 = .inl (cy 1, 36, .inl h3_8) := (congrFun e_f10 mi0).trans (z_up_ne (z_tne hf_mi0 hf_kp (m := 388) (n := 124) rfl rfl (by decide)) hf_mi0)
        have hf_kp : f10 kp = .inl (cy 3, 3, .inl (upd (fun _ => 0) xa.toNatClampNeg (vp_nar .boolean 1))) := (congrFun e_f10 kp).trans z_up_self
        have hfr : ∀ b ∈ L, b ≠ i0 → b ≠ la0 → b ≠ sa0 → b ≠ mi0 → b ≠ i1 → b ≠ la1 → b ≠ sa1 → b ≠ mi1 → b ≠ i2 → b ≠ la2 → b ≠ sa2 → b ≠ mi2 → b ≠ kp → f10 b = f b := fun b hb h0 h1 h2 h3 h4 h5 h6 h7 h8 h9 h10 h11 h12 => (congrFun e_f10 b).trans (z_up_ne h12 (hfr b hb h0 h1 h2 h3 h4 h5 h6 h7 h8 h9 h10 h11 h12))
        obtain ⟨g9, e_g9⟩ : ∃ z, z = (upd (fun _ => 0) xa.toNatClampNeg (vp_nar .boolean 1)) := ⟨_, rfl⟩
        rw [← e_g9] at hf_kp
        refine lv_iconst (v := 0) hx hb dX9_keep_32 (by decide) ?_
        exact z_iret hx hb hr hlk (by decide) (by decide) hw (⟨hsub, hfr, Or.inl ⟨by decide, by omega⟩⟩) dX9_keep_33
      · skip
        have hcj : xa.toNatClampNeg = 1 := by have h9 : (xa.toNatClampNeg : Int) = xa.toInt := Int.toNat_of_nonneg (by omega); omega
        refine lv_aload_n hx hb dX9_keep_12 rfl (lv_at hl 0 rfl) ?_
        refine z_get (C := RX9) (T := TX9) (N := 11) (ci := 9) (v := .ref im) hx hb hT zin_X9 hown hK hw hm_hs hf_hs rfl 4 (by decide) (hT _ kw_481) rfl dX9_keep_13 ?_
        refine lv_iload_n hx hb dX9_keep_16 rfl (lv_at hl 1 rfl) ?_
        refine z_aald (b := i1) hx hb hK hw 5 hm_im hf_im rfl (z_ix rfl (by omega)) (by rw [hcj]; exact hg1) dX9_keep_17 ?_
        refine lv_aload_n hx hb dX9_keep_18 rfl (lv_at hl 0 rfl) ?_
        refine z_get (C := RX9) (T := TX9) (N := 11) (ci := 9) (v := .ref mo) hx hb hT zin_X9 hown hK hw hm_hs hf_hs rfl 2 (by decide) (hT _ kw_479) rfl dX9_keep_19 ?_
        refine z_callvV (cells := 0) (slots := 0) (b := i1) (As := [.ref mo]) (rest := []) (ci := 2) (q0 := (RX2, TX2, 11)) ⟨hx, hb, hml, hown, hT⟩ (c_X2_copy l hm_i1 hm_mo hm_la1 hm_sa1 hm_mi1 hm_la hm_sa hm_mi hf_i1 hf_mo hf_la1 hf_sa1 hf_mi1 hf_la hf_sa hf_mi ne_i1_mo ne_la1_la ne_sa1_sa ne_mi1_mi) (cwV 1 hT (z_goodV (fun _ h => h) kw_690 kw_691 kw_692 kw_87 kw_693) rfl rfl rfl (by decide +kernel) ⟨by decide, by decide⟩) z_mv hKK hK hw hA hm_i1 hf_i1 rfl rfl rfl hl.1 rfl (Nat.le_of_ble_eq_true rfl) dX9_keep_22 ⟨by decide, by decide⟩ (fun u H locs hp hw => ?_)
        obtain ⟨L11, f12⟩ := u
        obtain ⟨hsb, hfm, h1_13, h2_14, h3_15, ha_0, ha_1, ha_2, ha_3, hp⟩ := hp
        have hw : z_H D vwCl (z_A L sz) s.heap L11 f12 H locs := hw
        have hfr : ∀ b ∈ L, b ≠ i0 → b ≠ la0 → b ≠ sa0 → b ≠ mi0 → b ≠ i1 → b ≠ la1 → b ≠ sa1 → b ≠ mi1 → b ≠ i2 → b ≠ la2 → b ≠ sa2 → b ≠ mi2 → b ≠ kp → f12 b = f b := fun b hb h0 h1 h2 h3 h4 h5 h6 h7 h8 h9 h10 h11 h12 => (hfm b (hsub b hb) h4 h5 h6 h7).trans (hfr b hb h0 h1 h2 h3 h4 h5 h6 h7 h8 h9 h10 h11 h12)
        have hsub : ∀ b ∈ L, b ∈ L11 := fun b h => hsb b (hsub b h)
        have hf_hs : f12 hs = .inr (9, [.ref tp, .ref rd, .ref mo, .ref dr, .ref im, .ref kp, .ref sl, .ref wk, .ref pl, .ref ex, .ref mx]) := (hfm hs hm_hs (z_tne hf_hs hf_i1 (m := 9) (n := 2) rfl rfl (by decide)) (z_tne hf_hs hf_la1 (m := 9) (n := 140) rfl rfl (by decide)) (z_tne hf_hs hf_sa1 (m := 9) (n := 132) rfl rfl (by decide)) (z_tne hf_hs hf_mi1 (m := 9) (n := 388) rfl rfl (by decide))).trans hf_hs
        have hf_mo : f12 mo = .inr (2, [.int 0, .int 0, .int 0, .int 0, .int 0, .int 0, .int 0, .ref la, .ref sa, .ref mi, .ref da]) := (hfm mo hm_mo (Ne.symm ne_i1_mo) (z_tne hf_mo hf_la1 (m := 2) (n := 140) rfl rfl (by decide)) (z_tne hf_mo hf_sa1 (m := 2) (n := 132) rfl rfl (by decide)) (z_tne hf_mo hf_mi1 (m := 2) (n := 388) rfl rfl (by decide))).trans hf_mo
        have hf_la : f12 la = .inl (cy 1, 5, .inl (fun _ => 0)) := (hfm la hm_la (z_tne hf_la hf_i1 (m := 140) (n := 2) rfl rfl (by decide)) (Ne.symm ne_la1_la) (z_tne hf_la hf_sa1 (m := 140) (n := 132) rfl rfl (by decide)) (z_tne hf_la hf_mi1 (m := 140) (n := 388) rfl rfl (by decide))).trans hf_la
        have hf_sa : f12 sa = .inl (cy 1, 4, .inl (fun _ => 0)) := (hfm sa hm_sa (z_tne hf_sa hf_i1 (m := 132) (n := 2) rfl rfl (by decide)) (z_tne hf_sa hf_la1 (m := 132) (n := 140) rfl rfl (by decide)) (Ne.symm ne_sa1_sa) (z_tne hf_sa hf_mi1 (m := 132) (n := 388) rfl rfl (by decide))).trans hf_sa
        have hf_mi : f12 mi = .inl (cy 1, 36, .inl (fun _ => 0)) := (hfm mi hm_mi (z_tne hf_mi hf_i1 (m := 388) (n := 2) rfl rfl (by decide)) (z_tne hf_mi hf_la1 (m := 388) (n := 140) rfl rfl (by decide)) (z_tne hf_mi hf_sa1 (m := 388) (n := 132) rfl rfl (by decide)) (Ne.symm ne_mi1_mi)).trans hf_mi
        have hf_im : f12 im = .inl (cy 5, 3, .inr (.inr (.inr (.inr gi)))) := (hfm im hm_im (z_tne hf_im hf_i1 (m := 126) (n := 2) rfl rfl (by decide)) (z_tne hf_im hf_la1 (m := 126) (n := 140) rfl rfl (by decide)) (z_tne hf_im hf_sa1 (m := 126) (n := 132) rfl rfl (by decide)) (z_tne hf_im hf_mi1 (m := 126) (n := 388) rfl rfl (by decide))).trans hf_im
        have hf_kp : f12 kp = .inl (cy 3, 3, .inl (fun _ => 0)) := (hfm kp hm_kp (z_tne hf_kp hf_i1 (m := 124) (n := 2) rfl rfl (by decide)) (z_tne hf_kp hf_la1 (m := 124) (n := 140) rfl rfl (by decide)) (z_tne hf_kp hf_sa1 (m := 124) (n := 132) rfl rfl (by decide)) (z_tne hf_kp hf_mi1 (m := 124) (n := 388) rfl rfl (by decide))).trans hf_kp
        have hm_hs : hs ∈ L11 := hsb _ hm_hs
        have hm_mo : mo ∈ L11 := hsb _ hm_mo
        have hm_la : la ∈ L11 := hsb _ hm_la
        have hm_sa : sa ∈ L11 := hsb _ hm_sa
        have hm_mi : mi ∈ L11 := hsb _ hm_mi
        have hm_im : im ∈ L11 := hsb _ hm_im
        have hm_kp : kp ∈ L11 := hsb _ hm_kp
        have hm_i1 : i1 ∈ L11 := hsb _ hm_i1
        have hm_la1 : la1 ∈ L11 := hsb _ hm_la1
        have hm_sa1 : sa1 ∈ L11 := hsb _ hm_sa1
        have hm_mi1 : mi1 ∈ L11 := hsb _ hm_mi1
        have hf_i1 : f12 i1 = .inr (2, [.int 0, .int 0, .int 0, .int 0, .int 0, .int 0, .int 0, .ref la1, .ref sa1, .ref mi1, .ref da1]) := ha_0
        have hf_la1 : f12 la1 = .inl (cy 1, 5, .inl h1_13) := ha_1
        have hf_sa1 : f12 sa1 = .inl (cy 1, 4, .inl h2_14) := ha_2
        have hf_mi1 : f12 mi1 = .inl (cy 1, 36, .inl h3_15) := ha_3
        refine lv_aload_n hx hb dX9_keep_25 rfl (lv_at hl 0 rfl) ?_
        refine z_get (C := RX9) (T := TX9) (N := 11) (ci := 9) (v := .ref kp) hx hb hT zin_X9 hown hK hw hm_hs hf_hs rfl 5 (by decide) (hT _ kw_482) rfl dX9_keep_26 ?_
        refine lv_iload_n hx hb dX9_keep_29 rfl (lv_at hl 1 rfl) ?_
        refine lv_iconst (v := 1) hx hb dX9_keep_30 (by decide) ?_
        refine z_zast hx hb hK hw 3 hm_kp hf_kp rfl (z_ix rfl (by omega)) dX9_keep_31 (fun H locs hw => ?_)
        obtain ⟨f17, e_f17⟩ : ∃ z, z = va_up f12 kp (.inl (cy 3, 3, .inl (upd (fun _ => 0) xa.toNatClampNeg (vp_nar .boolean 1)))) := ⟨_, rfl⟩
        rw [← e_f17] at hw
        have hf_hs : f17 hs = .inr (9, [.ref tp, .ref rd, .ref mo, .ref dr, .ref im, .ref kp, .ref sl, .ref wk, .ref pl, .ref ex, .ref mx]) := (congrFun e_f17 hs).trans (z_up_ne (z_tne hf_hs hf_kp (m := 9) (n := 124) rfl rfl (by decide)) hf_hs)
        have hf_mo : f17 mo = .inr (2, [.int 0, .int 0, .int 0, .int 0, .int 0, .int 0, .int 0, .ref la, .ref sa, .ref mi, .ref da]) := (congrFun e_f17 mo).trans (z_up_ne (z_tne hf_mo hf_kp (m := 2) (n := 124) rfl rfl (by decide)) hf_mo)
        have hf_la : f17 la = .inl (cy 1, 5, .inl (fun _ => 0)) := (congrFun e_f17 la).trans (z_up_ne (z_tne hf_la hf_kp (m := 140) (n := 124) rfl rfl (by decide)) hf_la)
        have hf_sa : f17 sa = .inl (cy 1, 4, .inl (fun _ => 0)) := (congrFun e_f17 sa).trans (z_up_ne (z_tne hf_sa hf_kp (m := 132) (n := 124) rfl rfl (by decide)) hf_sa)
        have hf_mi : f17 mi = .inl (cy 1, 36, .inl (fun _ => 0)) := (congrFun e_f17 mi).trans (z_up_ne (z_tne hf_mi hf_kp (m := 388) (n := 124) rfl rfl (by decide)) hf_mi)
        have hf_im : f17 im = .inl (cy 5, 3, .inr (.inr (.inr (.inr gi)))) := (congrFun e_f17 im).trans (z_up_ne (z_tne hf_im hf_kp (m := 126) (n := 124) rfl rfl (by decide)) hf_im)
        have hf_i1 : f17 i1 = .inr (2, [.int 0, .int 0, .int 0, .int 0, .int 0, .int 0, .int 0, .ref la1, .ref sa1, .ref mi1, .ref da1]) := (congrFun e_f17 i1).trans (z_up_ne (z_tne hf_i1 hf_kp (m := 2) (n := 124) rfl rfl (by decide)) hf_i1)
        have hf_la1 : f17 la1 = .inl (cy 1, 5, .inl h1_13) := (congrFun e_f17 la1).trans (z_up_ne (z_tne hf_la1 hf_kp (m := 140) (n := 124) rfl rfl (by decide)) hf_la1)
        have hf_sa1 : f17 sa1 = .inl (cy 1, 4, .inl h2_14) := (congrFun e_f17 sa1).trans (z_up_ne (z_tne hf_sa1 hf_kp (m := 132) (n := 124) rfl rfl (by decide)) hf_sa1)
        have hf_mi1 : f17 mi1 = .inl (cy 1, 36, .inl h3_15) := (congrFun e_f17 mi1).trans (z_up_ne (z_tne hf_mi1 hf_kp (m := 388) (n := 124) rfl rfl (by decide)) hf_mi1)
        have hf_kp : f17 kp = .inl (cy 3, 3, .inl (upd (fun _ => 0) xa.toNatClampNeg (vp_nar .boolean 1))) := (congrFun e_f17 kp).trans z_up_self
        have hfr : ∀ b ∈ L, b ≠ i0 → b ≠ la0 → b ≠ sa0 → b ≠ mi0 → b ≠ i1 → b ≠ la1 → b ≠ sa1 → b ≠ mi1 → b ≠ i2 → b ≠ la2 → b ≠ sa2 → b ≠ mi2 → b ≠ kp → f17 b = f b := fun b hb h0 h1 h2 h3 h4 h5 h6 h7 h8 h9 h10 h11 h12 => (congrFun e_f17 b).trans (z_up_ne h12 (hfr b hb h0 h1 h2 h3 h4 h5 h6 h7 h8 h9 h10 h11 h12))
        obtain ⟨g16, e_g16⟩ : ∃ z, z = (upd (fun _ => 0) xa.toNatClampNeg (vp_nar .boolean 1)) := ⟨_, rfl⟩
        rw [← e_g16] at hf_kp
        refine lv_iconst (v := 0) hx hb dX9_keep_32 (by decide) ?_
        exact z_iret hx hb hr hlk (by decide) (by decide) hw (⟨hsub, hfr, Or.inl ⟨by decide, by omega⟩⟩) dX9_keep_33
      · skip
        have hcj : xa.toNatClampNeg = 2 := by have h9 : (xa.toNatClampNeg : Int) = xa.toInt := Int.toNat_of_nonneg (by omega); omega
        refine lv_aload_n hx hb dX9_keep_12 rfl (lv_at hl 0 rfl) ?_
        refine z_get (C := RX9) (T := TX9) (N := 11) (ci := 9) (v := .ref im) hx hb hT zin_X9 hown hK hw hm_hs hf_hs rfl 4 (by decide) (hT _ kw_481) rfl dX9_keep_13 ?_
        refine lv_iload_n hx hb dX9_keep_16 rfl (lv_at hl 1 rfl) ?_
        refine z_aald (b := i2) hx hb hK hw 5 hm_im hf_im rfl (z_ix rfl (by omega)) (by rw [hcj]; exact hg2) dX9_keep_17 ?_
        refine lv_aload_n hx hb dX9_keep_18 rfl (lv_at hl 0 rfl) ?_
        refine z_get (C := RX9) (T := TX9) (N := 11) (ci := 9) (v := .ref mo) hx hb hT zin_X9 hown hK hw hm_hs hf_hs rfl 2 (by decide) (hT _ kw_479) rfl dX9_keep_19 ?_
        refine z_callvV (cells := 0) (slots := 0) (b := i2) (As := [.ref mo]) (rest := []) (ci := 2) (q0 := (RX2, TX2, 11)) ⟨hx, hb, hml, hown, hT⟩ (c_X2_copy l hm_i2 hm_mo hm_la2 hm_sa2 hm_mi2 hm_la hm_sa hm_mi hf_i2 hf_mo hf_la2 hf_sa2 hf_mi2 hf_la hf_sa hf_mi ne_i2_mo ne_la2_la ne_sa2_sa ne_mi2_mi) (cwV 1 hT (z_goodV (fun _ h => h) kw_690 kw_691 kw_692 kw_87 kw_693) rfl rfl rfl (by decide +kernel) ⟨by decide, by decide⟩) z_mv hKK hK hw hA hm_i2 hf_i2 rfl rfl rfl hl.1 rfl (Nat.le_of_ble_eq_true rfl) dX9_keep_22 ⟨by decide, by decide⟩ (fun u H locs hp hw => ?_)
        obtain ⟨L18, f19⟩ := u
        obtain ⟨hsb, hfm, h1_20, h2_21, h3_22, ha_0, ha_1, ha_2, ha_3, hp⟩ := hp
        have hw : z_H D vwCl (z_A L sz) s.heap L18 f19 H locs := hw
        have hfr : ∀ b ∈ L, b ≠ i0 → b ≠ la0 → b ≠ sa0 → b ≠ mi0 → b ≠ i1 → b ≠ la1 → b ≠ sa1 → b ≠ mi1 → b ≠ i2 → b ≠ la2 → b ≠ sa2 → b ≠ mi2 → b ≠ kp → f19 b = f b := fun b hb h0 h1 h2 h3 h4 h5 h6 h7 h8 h9 h10 h11 h12 => (hfm b (hsub b hb) h8 h9 h10 h11).trans (hfr b hb h0 h1 h2 h3 h4 h5 h6 h7 h8 h9 h10 h11 h12)
        have hsub : ∀ b ∈ L, b ∈ L18 := fun b h => hsb b (hsub b h)
        have hf_hs : f19 hs = .inr (9, [.ref tp, .ref rd, .ref mo, .ref dr, .ref im, .ref kp, .ref sl, .ref wk, .ref pl, .ref ex, .ref mx]) := (hfm hs hm_hs (z_tne hf_hs hf_i2 (m := 9) (n := 2) rfl rfl (by decide)) (z_tne hf_hs hf_la2 (m := 9) (n := 140) rfl rfl (by decide)) (z_tne hf_hs hf_sa2 (m := 9) (n := 132) rfl rfl (by decide)) (z_tne hf_hs hf_mi2 (m := 9) (n := 388) rfl rfl (by decide))).trans hf_hs
        have hf_mo : f19 mo = .inr (2, [.int 0, .int 0, .int 0, .int 0, .int 0, .int 0, .int 0, .ref la, .ref sa, .ref mi, .ref da]) := (hfm mo hm_mo (Ne.symm ne_i2_mo) (z_tne hf_mo hf_la2 (m := 2) (n := 140) rfl rfl (by decide)) (z_tne hf_mo hf_sa2 (m := 2) (n := 132) rfl rfl (by decide)) (z_tne hf_mo hf_mi2 (m := 2) (n := 388) rfl rfl (by decide))).trans hf_mo
        have hf_la : f19 la = .inl (cy 1, 5, .inl (fun _ => 0)) := (hfm la hm_la (z_tne hf_la hf_i2 (m := 140) (n := 2) rfl rfl (by decide)) (Ne.symm ne_la2_la) (z_tne hf_la hf_sa2 (m := 140) (n := 132) rfl rfl (by decide)) (z_tne hf_la hf_mi2 (m := 140) (n := 388) rfl rfl (by decide))).trans hf_la
        have hf_sa : f19 sa = .inl (cy 1, 4, .inl (fun _ => 0)) := (hfm sa hm_sa (z_tne hf_sa hf_i2 (m := 132) (n := 2) rfl rfl (by decide)) (z_tne hf_sa hf_la2 (m := 132) (n := 140) rfl rfl (by decide)) (Ne.symm ne_sa2_sa) (z_tne hf_sa hf_mi2 (m := 132) (n := 388) rfl rfl (by decide))).trans hf_sa
        have hf_mi : f19 mi = .inl (cy 1, 36, .inl (fun _ => 0)) := (hfm mi hm_mi (z_tne hf_mi hf_i2 (m := 388) (n := 2) rfl rfl (by decide)) (z_tne hf_mi hf_la2 (m := 388) (n := 140) rfl rfl (by decide)) (z_tne hf_mi hf_sa2 (m := 388) (n := 132) rfl rfl (by decide)) (Ne.symm ne_mi2_mi)).trans hf_mi
        have hf_im : f19 im = .inl (cy 5, 3, .inr (.inr (.inr (.inr gi)))) := (hfm im hm_im (z_tne hf_im hf_i2 (m := 126) (n := 2) rfl rfl (by decide)) (z_tne hf_im hf_la2 (m := 126) (n := 140) rfl rfl (by decide)) (z_tne hf_im hf_sa2 (m := 126) (n := 132) rfl rfl (by decide)) (z_tne hf_im hf_mi2 (m := 126) (n := 388) rfl rfl (by decide))).trans hf_im
        have hf_kp : f19 kp = .inl (cy 3, 3, .inl (fun _ => 0)) := (hfm kp hm_kp (z_tne hf_kp hf_i2 (m := 124) (n := 2) rfl rfl (by decide)) (z_tne hf_kp hf_la2 (m := 124) (n := 140) rfl rfl (by decide)) (z_tne hf_kp hf_sa2 (m := 124) (n := 132) rfl rfl (by decide)) (z_tne hf_kp hf_mi2 (m := 124) (n := 388) rfl rfl (by decide))).trans hf_kp
        have hm_hs : hs ∈ L18 := hsb _ hm_hs
        have hm_mo : mo ∈ L18 := hsb _ hm_mo
        have hm_la : la ∈ L18 := hsb _ hm_la
        have hm_sa : sa ∈ L18 := hsb _ hm_sa
        have hm_mi : mi ∈ L18 := hsb _ hm_mi
        have hm_im : im ∈ L18 := hsb _ hm_im
        have hm_kp : kp ∈ L18 := hsb _ hm_kp
        have hm_i2 : i2 ∈ L18 := hsb _ hm_i2
        have hm_la2 : la2 ∈ L18 := hsb _ hm_la2
        have hm_sa2 : sa2 ∈ L18 := hsb _ hm_sa2
        have hm_mi2 : mi2 ∈ L18 := hsb _ hm_mi2
        have hf_i2 : f19 i2 = .inr (2, [.int 0, .int 0, .int 0, .int 0, .int 0, .int 0, .int 0, .ref la2, .ref sa2, .ref mi2, .ref da2]) := ha_0
        have hf_la2 : f19 la2 = .inl (cy 1, 5, .inl h1_20) := ha_1
        have hf_sa2 : f19 sa2 = .inl (cy 1, 4, .inl h2_21) := ha_2
        have hf_mi2 : f19 mi2 = .inl (cy 1, 36, .inl h3_22) := ha_3
        refine lv_aload_n hx hb dX9_keep_25 rfl (lv_at hl 0 rfl) ?_
        refine z_get (C := RX9) (T := TX9) (N := 11) (ci := 9) (v := .ref kp) hx hb hT zin_X9 hown hK hw hm_hs hf_hs rfl 5 (by decide) (hT _ kw_482) rfl dX9_keep_26 ?_
        refine lv_iload_n hx hb dX9_keep_29 rfl (lv_at hl 1 rfl) ?_
        refine lv_iconst (v := 1) hx hb dX9_keep_30 (by decide) ?_
        refine z_zast hx hb hK hw 3 hm_kp hf_kp rfl (z_ix rfl (by omega)) dX9_keep_31 (fun H locs hw => ?_)
        obtain ⟨f24, e_f24⟩ : ∃ z, z = va_up f19 kp (.inl (cy 3, 3, .inl (upd (fun _ => 0) xa.toNatClampNeg (vp_nar .boolean 1)))) := ⟨_, rfl⟩
        rw [← e_f24] at hw
        have hf_hs : f24 hs = .inr (9, [.ref tp, .ref rd, .ref mo, .ref dr, .ref im, .ref kp, .ref sl, .ref wk, .ref pl, .ref ex, .ref mx]) := (congrFun e_f24 hs).trans (z_up_ne (z_tne hf_hs hf_kp (m := 9) (n := 124) rfl rfl (by decide)) hf_hs)
        have hf_mo : f24 mo = .inr (2, [.int 0, .int 0, .int 0, .int 0, .int 0, .int 0, .int 0, .ref la, .ref sa, .ref mi, .ref da]) := (congrFun e_f24 mo).trans (z_up_ne (z_tne hf_mo hf_kp (m := 2) (n := 124) rfl rfl (by decide)) hf_mo)
        have hf_la : f24 la = .inl (cy 1, 5, .inl (fun _ => 0)) := (congrFun e_f24 la).trans (z_up_ne (z_tne hf_la hf_kp (m := 140) (n := 124) rfl rfl (by decide)) hf_la)
        have hf_sa : f24 sa = .inl (cy 1, 4, .inl (fun _ => 0)) := (congrFun e_f24 sa).trans (z_up_ne (z_tne hf_sa hf_kp (m := 132) (n := 124) rfl rfl (by decide)) hf_sa)
        have hf_mi : f24 mi = .inl (cy 1, 36, .inl (fun _ => 0)) := (congrFun e_f24 mi).trans (z_up_ne (z_tne hf_mi hf_kp (m := 388) (n := 124) rfl rfl (by decide)) hf_mi)
        have hf_im : f24 im = .inl (cy 5, 3, .inr (.inr (.inr (.inr gi)))) := (congrFun e_f24 im).trans (z_up_ne (z_tne hf_im hf_kp (m := 126) (n := 124) rfl rfl (by decide)) hf_im)
        have hf_i2 : f24 i2 = .inr (2, [.int 0, .int 0, .int 0, .int 0, .int 0, .int 0, .int 0, .ref la2, .ref sa2, .ref mi2, .ref da2]) := (congrFun e_f24 i2).trans (z_up_ne (z_tne hf_i2 hf_kp (m := 2) (n := 124) rfl rfl (by decide)) hf_i2)
        have hf_la2 : f24 la2 = .inl (cy 1, 5, .inl h1_20) := (congrFun e_f24 la2).trans (z_up_ne (z_tne hf_la2 hf_kp (m := 140) (n := 124) rfl rfl (by decide)) hf_la2)
        have hf_sa2 : f24 sa2 = .inl (cy 1, 4, .inl h2_21) := (congrFun e_f24 sa2).trans (z_up_ne (z_tne hf_sa2 hf_kp (m := 132) (n := 124) rfl rfl (by decide)) hf_sa2)
        have hf_mi2 : f24 mi2 = .inl (cy 1, 36, .inl h3_22) := (congrFun e_f24 mi2).trans (z_up_ne (z_tne hf_mi2 hf_kp (m := 388) (n := 124) rfl rfl (by decide)) hf_mi2)
        have hf_kp : f24 kp = .inl (cy 3, 3, .inl (upd (fun _ => 0) xa.toNatClampNeg (vp_nar .boolean 1))) := (congrFun e_f24 kp).trans z_up_self
        have hfr : ∀ b ∈ L, b ≠ i0 → b ≠ la0 → b ≠ sa0 → b ≠ mi0 → b ≠ i1 → b ≠ la1 → b ≠ sa1 → b ≠ mi1 → b ≠ i2 → b ≠ la2 → b ≠ sa2 → b ≠ mi2 → b ≠ kp → f24 b = f b := fun b hb h0 h1 h2 h3 h4 h5 h6 h7 h8 h9 h10 h11 h12 => (congrFun e_f24 b).trans (z_up_ne h12 (hfr b hb h0 h1 h2 h3 h4 h5 h6 h7 h8 h9 h10 h11 h12))
        obtain ⟨g23, e_g23⟩ : ∃ z, z = (upd (fun _ => 0) xa.toNatClampNeg (vp_nar .boolean 1)) := ⟨_, rfl⟩
        rw [← e_g23] at hf_kp
        refine lv_iconst (v := 0) hx hb dX9_keep_32 (by decide) ?_
        exact z_iret hx hb hr hlk (by decide) (by decide) hw (⟨hsub, hfr, Or.inl ⟨by decide, by omega⟩⟩) dX9_keep_33
    · skip
      refine lv_bipush (v := (-2)) hx hb dX9_keep_9 (by decide) ?_
      exact z_iret hx hb hr hlk (by decide) (by decide) hw (⟨hsub, hfr, Or.inr ⟨by decide, by omega⟩⟩) dX9_keep_11

set_option maxHeartbeats 2000000 in
set_option maxRecDepth 100000 in
theorem c_X6_lay (l : Launch) {D : va_G} {cy : Nat → ClassId} {L : List Nat} {f : Nat → va_E} {sz : Nat} {sl nu wi si r0 r1 r2 r3 : Nat} {gn : Nat → Option Nat} {gs : Nat → Int32} {xa xb xc : Int32} (hm_sl : sl ∈ L) (hm_nu : nu ∈ L) (hm_r0 : r0 ∈ L) (hm_r1 : r1 ∈ L) (hm_r2 : r2 ∈ L) (hm_r3 : r3 ∈ L) (hm_wi : wi ∈ L) (hm_si : si ∈ L) (hf_sl : f sl = .inr (6, [.ref nu, .ref wi, .ref si])) (hf_nu : f nu = .inl (cy 6, 4, .inr (.inr (.inr (.inr gn))))) (hf_r0 : f r0 = .inl (cy 2, 60, .inr (.inl (fun _ => 0)))) (hf_r1 : f r1 = .inl (cy 2, 60, .inr (.inl (fun _ => 0)))) (hf_r2 : f r2 = .inl (cy 2, 60, .inr (.inl (fun _ => 0)))) (hf_r3 : f r3 = .inl (cy 2, 60, .inr (.inl (fun _ => 0)))) (hf_wi : f wi = .inl (cy 1, 4, .inl (fun _ => 0))) (hf_si : f si = .inl (cy 1, 4, .inl gs)) (ne_wi_si : wi ≠ si) (hg0 : gn 0 = some r0) (hg1 : gn 1 = some r1) (hg2 : gn 2 = some r2) (hg3 : gn 3 = some r3) (hsl : 0 ≤ xa.toInt ∧ xa.toInt < 4) : Met l yX6_lay (z_ws yX6_lay cX6_lay 4 none) (z_R 2 0 0) (va_Pc [.ref sl, .int xa, .int xb, .int xc] (z_Pre D vwCl (z_K D cy) L f sz)) (z_Qv D vwCl (fun u => (∀ b ∈ L, b ∈ u.1) ∧ (∀ b ∈ L, b ≠ r0 → b ≠ r1 → b ≠ r2 → b ≠ r3 → b ≠ wi → b ≠ si → u.2 b = f b) ∧ ((True))) L sz) 0 0 (z_A L sz) := by
  refine z_met (cc := cX6_lay) (maxL := 4) (ret := none) (lv := [(0, .ref sl), (1, .int xa), (2, .int xb), (3, .int xc)]) (by decide) rfl (Nat.le_of_ble_eq_true rfl) rfl ?_
  intro p e s m below meth c ls hx hb hr hlk hml hown hnm hts hKK hA hw hl
  have hK := hKK.1
  have hown : s.vm.findClass RX6 = some m.cls := hown
  have hT : ∀ w ∈ lw_all, w.before ([.ref sl, .int xa, .int xb, .int xc] : List Value).toArray s = true := fun w h => hts w (z_cons w h)
  have hsub : ∀ b ∈ L, b ∈ L := fun _ h => h
  have hfr : ∀ b ∈ L, b ≠ r0 → b ≠ r1 → b ≠ r2 → b ≠ r3 → b ≠ wi → b ≠ si → f b = f b := fun _ _ _ _ _ _ _ _ => rfl
  have c1s : xa.toInt = 0 ∨ xa.toInt = 1 ∨ xa.toInt = 2 ∨ xa.toInt = 3 := by omega
  rcases c1s with c1 | c1 | c1 | c1
  · skip
    have hcj : xa.toNatClampNeg = 0 := by have h9 : (xa.toNatClampNeg : Int) = xa.toInt := Int.toNat_of_nonneg (by omega); omega
    refine lv_aload_n hx hb dX6_lay_0 rfl (lv_at hl 0 rfl) ?_
    refine z_get (C := RX6) (T := TX6) (N := 3) (ci := 6) (v := .ref nu) hx hb hT zin_X6 hown hK hw hm_sl hf_sl rfl 0 (by decide) (hT _ kw_319) rfl dX6_lay_1 ?_
    refine lv_iload_n hx hb dX6_lay_4 rfl (lv_at hl 1 rfl) ?_
    refine z_aaldA (b := r0) hx hb hK hw 6 hm_nu hf_nu rfl (z_ix rfl (by omega)) (by rw [hcj]; exact hg0) dX6_lay_5 ?_
    refine lv_lconst (v := 0) hx hb dX6_lay_6 (by decide) ?_
    refine z_callvS (cells := 0) (slots := 0) (As := [.ref r0, .long 0]) (rest := []) ⟨hx, hb, hml, hown, hT⟩ (c_J7_fill_d0a16 l hm_r0 hf_r0 (by decide)) (va_cwS 2 hT (z_goodS (fun _ h => h) kw_1143 kw_1144 kw_91 kw_1145) rfl rfl rfl (by decide +kernel) ⟨by decide, by decide⟩) z_mv hKK hw hA rfl hl.1 rfl (Nat.le_of_ble_eq_true rfl) dX6_lay_7 ⟨by decide, by decide⟩ (fun u H locs hp hw => ?_)
    obtain ⟨L2, f3⟩ := u
    obtain ⟨hsb, hfm, g2_4, ha_0, hp⟩ := hp
    have hw : z_H D vwCl (z_A L sz) s.heap L2 f3 H locs := hw
    have hfr : ∀ b ∈ L, b ≠ r0 → b ≠ r1 → b ≠ r2 → b ≠ r3 → b ≠ wi → b ≠ si → f3 b = f b := fun b hb h0 h1 h2 h3 h4 h5 => (hfm b (hsub b hb) h0).trans (hfr b hb h0 h1 h2 h3 h4 h5)
    have hsub : ∀ b ∈ L, b ∈ L2 := fun b h => hsb b (hsub b h)
    have hf_sl : f3 sl = .inr (6, [.ref nu, .ref wi, .ref si]) := (hfm sl hm_sl (z_tne hf_sl hf_r0 (m := 6) (n := 581) rfl rfl (by decide))).trans hf_sl
    have hf_nu : f3 nu = .inl (cy 6, 4, .inr (.inr (.inr (.inr gn)))) := (hfm nu hm_nu (z_tne hf_nu hf_r0 (m := 134) (n := 581) rfl rfl (by decide))).trans hf_nu
    have hf_wi : f3 wi = .inl (cy 1, 4, .inl (fun _ => 0)) := (hfm wi hm_wi (z_tne hf_wi hf_r0 (m := 132) (n := 581) rfl rfl (by decide))).trans hf_wi
    have hf_si : f3 si = .inl (cy 1, 4, .inl gs) := (hfm si hm_si (z_tne hf_si hf_r0 (m := 132) (n := 581) rfl rfl (by decide))).trans hf_si
    have hm_sl : sl ∈ L2 := hsb _ hm_sl
    have hm_nu : nu ∈ L2 := hsb _ hm_nu
    have hm_r0 : r0 ∈ L2 := hsb _ hm_r0
    have hm_wi : wi ∈ L2 := hsb _ hm_wi
    have hm_si : si ∈ L2 := hsb _ hm_si
    have hf_r0 : f3 r0 = .inl (cy 2, 60, .inr (.inl g2_4)) := ha_0
    refine lv_aload_n hx hb dX6_lay_10 rfl (lv_at hl 0 rfl) ?_
    refine z_get (C := RX6) (T := TX6) (N := 3) (ci := 6) (v := .ref wi) hx hb hT zin_X6 hown hK hw hm_sl hf_sl rfl 1 (by decide) (hT _ kw_322) rfl dX6_lay_11 ?_
    refine lv_iload_n hx hb dX6_lay_14 rfl (lv_at hl 1 rfl) ?_
    refine lv_iload_n hx hb dX6_lay_15 rfl (lv_at hl 2 rfl) ?_
    refine z_iast hx hb hK hw 1 hm_wi hf_wi rfl (z_ix rfl (by omega)) dX6_lay_16 (fun H locs hw => ?_)
    obtain ⟨f6, e_f6⟩ : ∃ z, z = va_up f3 wi (.inl (cy 1, 4, .inl (upd (fun _ => 0) xa.toNatClampNeg xb))) := ⟨_, rfl⟩
    rw [← e_f6] at hw
    have hf_sl : f6 sl = .inr (6, [.ref nu, .ref wi, .ref si]) := (congrFun e_f6 sl).trans (z_up_ne (z_tne hf_sl hf_wi (m := 6) (n := 132) rfl rfl (by decide)) hf_sl)
    have hf_nu : f6 nu = .inl (cy 6, 4, .inr (.inr (.inr (.inr gn)))) := (congrFun e_f6 nu).trans (z_up_ne (z_tne hf_nu hf_wi (m := 134) (n := 132) rfl rfl (by decide)) hf_nu)
    have hf_r0 : f6 r0 = .inl (cy 2, 60, .inr (.inl g2_4)) := (congrFun e_f6 r0).trans (z_up_ne (z_tne hf_r0 hf_wi (m := 581) (n := 132) rfl rfl (by decide)) hf_r0)
    have hf_si : f6 si = .inl (cy 1, 4, .inl gs) := (congrFun e_f6 si).trans (z_up_ne (Ne.symm ne_wi_si) hf_si)
    have hf_wi : f6 wi = .inl (cy 1, 4, .inl (upd (fun _ => 0) xa.toNatClampNeg xb)) := (congrFun e_f6 wi).trans z_up_self
    have hfr : ∀ b ∈ L, b ≠ r0 → b ≠ r1 → b ≠ r2 → b ≠ r3 → b ≠ wi → b ≠ si → f6 b = f b := fun b hb h0 h1 h2 h3 h4 h5 => (congrFun e_f6 b).trans (z_up_ne h4 (hfr b hb h0 h1 h2 h3 h4 h5))
    obtain ⟨g5, e_g5⟩ : ∃ z, z = (upd (fun _ => 0) xa.toNatClampNeg xb) := ⟨_, rfl⟩
    rw [← e_g5] at hf_wi
    refine lv_aload_n hx hb dX6_lay_17 rfl (lv_at hl 0 rfl) ?_
    refine z_get (C := RX6) (T := TX6) (N := 3) (ci := 6) (v := .ref si) hx hb hT zin_X6 hown hK hw hm_sl hf_sl rfl 2 (by decide) (hT _ kw_324) rfl dX6_lay_18 ?_
    refine lv_iload_n hx hb dX6_lay_21 rfl (lv_at hl 1 rfl) ?_
    refine lv_iload_n hx hb dX6_lay_22 rfl (lv_at hl 3 rfl) ?_
    refine z_iast hx hb hK hw 1 hm_si hf_si rfl (z_ix rfl (by omega)) dX6_lay_23 (fun H locs hw => ?_)
    obtain ⟨f8, e_f8⟩ : ∃ z, z = va_up f6 si (.inl (cy 1, 4, .inl (upd gs xa.toNatClampNeg xc))) := ⟨_, rfl⟩
    rw [← e_f8] at hw
    have hf_sl : f8 sl = .inr (6, [.ref nu, .ref wi, .ref si]) := (congrFun e_f8 sl).trans (z_up_ne (z_tne hf_sl hf_si (m := 6) (n := 132) rfl rfl (by decide)) hf_sl)
    have hf_nu : f8 nu = .inl (cy 6, 4, .inr (.inr (.inr (.inr gn)))) := (congrFun e_f8 nu).trans (z_up_ne (z_tne hf_nu hf_si (m := 134) (n := 132) rfl rfl (by decide)) hf_nu)
    have hf_r0 : f8 r0 = .inl (cy 2, 60, .inr (.inl g2_4)) := (congrFun e_f8 r0).trans (z_up_ne (z_tne hf_r0 hf_si (m := 581) (n := 132) rfl rfl (by decide)) hf_r0)
    have hf_wi : f8 wi = .inl (cy 1, 4, .inl g5) := (congrFun e_f8 wi).trans (z_up_ne ne_wi_si hf_wi)
    have hf_si : f8 si = .inl (cy 1, 4, .inl (upd gs xa.toNatClampNeg xc)) := (congrFun e_f8 si).trans z_up_self
    have hfr : ∀ b ∈ L, b ≠ r0 → b ≠ r1 → b ≠ r2 → b ≠ r3 → b ≠ wi → b ≠ si → f8 b = f b := fun b hb h0 h1 h2 h3 h4 h5 => (congrFun e_f8 b).trans (z_up_ne h5 (hfr b hb h0 h1 h2 h3 h4 h5))
    obtain ⟨g7, e_g7⟩ : ∃ z, z = (upd gs xa.toNatClampNeg xc) := ⟨_, rfl⟩
    rw [← e_g7] at hf_si
    exact z_vret hx hb hr hlk (by decide) (by decide) hw (⟨hsub, hfr, trivial⟩) dX6_lay_24
  · skip
    have hcj : xa.toNatClampNeg = 1 := by have h9 : (xa.toNatClampNeg : Int) = xa.toInt := Int.toNat_of_nonneg (by omega); omega
    refine lv_aload_n hx hb dX6_lay_0 rfl (lv_at hl 0 rfl) ?_
    refine z_get (C := RX6) (T := TX6) (N := 3) (ci := 6) (v := .ref nu) hx hb hT zin_X6 hown hK hw hm_sl hf_sl rfl 0 (by decide) (hT _ kw_319) rfl dX6_lay_1 ?_
    refine lv_iload_n hx hb dX6_lay_4 rfl (lv_at hl 1 rfl) ?_
    refine z_aaldA (b := r1) hx hb hK hw 6 hm_nu hf_nu rfl (z_ix rfl (by omega)) (by rw [hcj]; exact hg1) dX6_lay_5 ?_
    refine lv_lconst (v := 0) hx hb dX6_lay_6 (by decide) ?_
    refine z_callvS (cells := 0) (slots := 0) (As := [.ref r1, .long 0]) (rest := []) ⟨hx, hb, hml, hown, hT⟩ (c_J7_fill_d0a16 l hm_r1 hf_r1 (by decide)) (va_cwS 2 hT (z_goodS (fun _ h => h) kw_1143 kw_1144 kw_91 kw_1145) rfl rfl rfl (by decide +kernel) ⟨by decide, by decide⟩) z_mv hKK hw hA rfl hl.1 rfl (Nat.le_of_ble_eq_true rfl) dX6_lay_7 ⟨by decide, by decide⟩ (fun u H locs hp hw => ?_)
    obtain ⟨L9, f10⟩ := u
    obtain ⟨hsb, hfm, g2_11, ha_0, hp⟩ := hp
    have hw : z_H D vwCl (z_A L sz) s.heap L9 f10 H locs := hw
    have hfr : ∀ b ∈ L, b ≠ r0 → b ≠ r1 → b ≠ r2 → b ≠ r3 → b ≠ wi → b ≠ si → f10 b = f b := fun b hb h0 h1 h2 h3 h4 h5 => (hfm b (hsub b hb) h1).trans (hfr b hb h0 h1 h2 h3 h4 h5)
    have hsub : ∀ b ∈ L, b ∈ L9 := fun b h => hsb b (hsub b h)
    have hf_sl : f10 sl = .inr (6, [.ref nu, .ref wi, .ref si]) := (hfm sl hm_sl (z_tne hf_sl hf_r1 (m := 6) (n := 581) rfl rfl (by decide))).trans hf_sl
    have hf_nu : f10 nu = .inl (cy 6, 4, .inr (.inr (.inr (.inr gn)))) := (hfm nu hm_nu (z_tne hf_nu hf_r1 (m := 134) (n := 581) rfl rfl (by decide))).trans hf_nu
    have hf_wi : f10 wi = .inl (cy 1, 4, .inl (fun _ => 0)) := (hfm wi hm_wi (z_tne hf_wi hf_r1 (m := 132) (n := 581) rfl rfl (by decide))).trans hf_wi
    have hf_si : f10 si = .inl (cy 1, 4, .inl gs) := (hfm si hm_si (z_tne hf_si hf_r1 (m := 132) (n := 581) rfl rfl (by decide))).trans hf_si
    have hm_sl : sl ∈ L9 := hsb _ hm_sl
    have hm_nu : nu ∈ L9 := hsb _ hm_nu
    have hm_r1 : r1 ∈ L9 := hsb _ hm_r1
    have hm_wi : wi ∈ L9 := hsb _ hm_wi
    have hm_si : si ∈ L9 := hsb _ hm_si
    have hf_r1 : f10 r1 = .inl (cy 2, 60, .inr (.inl g2_11)) := ha_0
    refine lv_aload_n hx hb dX6_lay_10 rfl (lv_at hl 0 rfl) ?_
    refine z_get (C := RX6) (T := TX6) (N := 3) (ci := 6) (v := .ref wi) hx hb hT zin_X6 hown hK hw hm_sl hf_sl rfl 1 (by decide) (hT _ kw_322) rfl dX6_lay_11 ?_
    refine lv_iload_n hx hb dX6_lay_14 rfl (lv_at hl 1 rfl) ?_
    refine lv_iload_n hx hb dX6_lay_15 rfl (lv_at hl 2 rfl) ?_
    refine z_iast hx hb hK hw 1 hm_wi hf_wi rfl (z_ix rfl (by omega)) dX6_lay_16 (fun H locs hw => ?_)
    obtain ⟨f13, e_f13⟩ : ∃ z, z = va_up f10 wi (.inl (cy 1, 4, .inl (upd (fun _ => 0) xa.toNatClampNeg xb))) := ⟨_, rfl⟩
    rw [← e_f13] at hw
    have hf_sl : f13 sl = .inr (6, [.ref nu, .ref wi, .ref si]) := (congrFun e_f13 sl).trans (z_up_ne (z_tne hf_sl hf_wi (m := 6) (n := 132) rfl rfl (by decide)) hf_sl)
    have hf_nu : f13 nu = .inl (cy 6, 4, .inr (.inr (.inr (.inr gn)))) := (congrFun e_f13 nu).trans (z_up_ne (z_tne hf_nu hf_wi (m := 134) (n := 132) rfl rfl (by decide)) hf_nu)
    have hf_r1 : f13 r1 = .inl (cy 2, 60, .inr (.inl g2_11)) := (congrFun e_f13 r1).trans (z_up_ne (z_tne hf_r1 hf_wi (m := 581) (n := 132) rfl rfl (by decide)) hf_r1)
    have hf_si : f13 si = .inl (cy 1, 4, .inl gs) := (congrFun e_f13 si).trans (z_up_ne (Ne.symm ne_wi_si) hf_si)
    have hf_wi : f13 wi = .inl (cy 1, 4, .inl (upd (fun _ => 0) xa.toNatClampNeg xb)) := (congrFun e_f13 wi).trans z_up_self
    have hfr : ∀ b ∈ L, b ≠ r0 → b ≠ r1 → b ≠ r2 → b ≠ r3 → b ≠ wi → b ≠ si → f13 b = f b := fun b hb h0 h1 h2 h3 h4 h5 => (congrFun e_f13 b).trans (z_up_ne h4 (hfr b hb h0 h1 h2 h3 h4 h5))
    obtain ⟨g12, e_g12⟩ : ∃ z, z = (upd (fun _ => 0) xa.toNatClampNeg xb) := ⟨_, rfl⟩
    rw [← e_g12] at hf_wi
    refine lv_aload_n hx hb dX6_lay_17 rfl (lv_at hl 0 rfl) ?_
    refine z_get (C := RX6) (T := TX6) (N := 3) (ci := 6) (v := .ref si) hx hb hT zin_X6 hown hK hw hm_sl hf_sl rfl 2 (by decide) (hT _ kw_324) rfl dX6_lay_18 ?_
    refine lv_iload_n hx hb dX6_lay_21 rfl (lv_at hl 1 rfl) ?_
    refine lv_iload_n hx hb dX6_lay_22 rfl (lv_at hl 3 rfl) ?_
    refine z_iast hx hb hK hw 1 hm_si hf_si rfl (z_ix rfl (by omega)) dX6_lay_23 (fun H locs hw => ?_)
    obtain ⟨f15, e_f15⟩ : ∃ z, z = va_up f13 si (.inl (cy 1, 4, .inl (upd gs xa.toNatClampNeg xc))) := ⟨_, rfl⟩
    rw [← e_f15] at hw
    have hf_sl : f15 sl = .inr (6, [.ref nu, .ref wi, .ref si]) := (congrFun e_f15 sl).trans (z_up_ne (z_tne hf_sl hf_si (m := 6) (n := 132) rfl rfl (by decide)) hf_sl)
    have hf_nu : f15 nu = .inl (cy 6, 4, .inr (.inr (.inr (.inr gn)))) := (congrFun e_f15 nu).trans (z_up_ne (z_tne hf_nu hf_si (m := 134) (n := 132) rfl rfl (by decide)) hf_nu)
    have hf_r1 : f15 r1 = .inl (cy 2, 60, .inr (.inl g2_11)) := (congrFun e_f15 r1).trans (z_up_ne (z_tne hf_r1 hf_si (m := 581) (n := 132) rfl rfl (by decide)) hf_r1)
    have hf_wi : f15 wi = .inl (cy 1, 4, .inl g12) := (congrFun e_f15 wi).trans (z_up_ne ne_wi_si hf_wi)
    have hf_si : f15 si = .inl (cy 1, 4, .inl (upd gs xa.toNatClampNeg xc)) := (congrFun e_f15 si).trans z_up_self
    have hfr : ∀ b ∈ L, b ≠ r0 → b ≠ r1 → b ≠ r2 → b ≠ r3 → b ≠ wi → b ≠ si → f15 b = f b := fun b hb h0 h1 h2 h3 h4 h5 => (congrFun e_f15 b).trans (z_up_ne h5 (hfr b hb h0 h1 h2 h3 h4 h5))
    obtain ⟨g14, e_g14⟩ : ∃ z, z = (upd gs xa.toNatClampNeg xc) := ⟨_, rfl⟩
    rw [← e_g14] at hf_si
    exact z_vret hx hb hr hlk (by decide) (by decide) hw (⟨hsub, hfr, trivial⟩) dX6_lay_24
  · skip
    have hcj : xa.toNatClampNeg = 2 := by have h9 : (xa.toNatClampNeg : Int) = xa.toInt := Int.toNat_of_nonneg (by omega); omega
    refine lv_aload_n hx hb dX6_lay_0 rfl (lv_at hl 0 rfl) ?_
    refine z_get (C := RX6) (T := TX6) (N := 3) (ci := 6) (v := .ref nu) hx hb hT zin_X6 hown hK hw hm_sl hf_sl rfl 0 (by decide) (hT _ kw_319) rfl dX6_lay_1 ?_
    refine lv_iload_n hx hb dX6_lay_4 rfl (lv_at hl 1 rfl) ?_
    refine z_aaldA (b := r2) hx hb hK hw 6 hm_nu hf_nu rfl (z_ix rfl (by omega)) (by rw [hcj]; exact hg2) dX6_lay_5 ?_
    refine lv_lconst (v := 0) hx hb dX6_lay_6 (by decide) ?_
    refine z_callvS (cells := 0) (slots := 0) (As := [.ref r2, .long 0]) (rest := []) ⟨hx, hb, hml, hown, hT⟩ (c_J7_fill_d0a16 l hm_r2 hf_r2 (by decide)) (va_cwS 2 hT (z_goodS (fun _ h => h) kw_1143 kw_1144 kw_91 kw_1145) rfl rfl rfl (by decide +kernel) ⟨by decide, by decide⟩) z_mv hKK hw hA rfl hl.1 rfl (Nat.le_of_ble_eq_true rfl) dX6_lay_7 ⟨by decide, by decide⟩ (fun u H locs hp hw => ?_)
    obtain ⟨L16, f17⟩ := u
    obtain ⟨hsb, hfm, g2_18, ha_0, hp⟩ := hp
    have hw : z_H D vwCl (z_A L sz) s.heap L16 f17 H locs := hw
    have hfr : ∀ b ∈ L, b ≠ r0 → b ≠ r1 → b ≠ r2 → b ≠ r3 → b ≠ wi → b ≠ si → f17 b = f b := fun b hb h0 h1 h2 h3 h4 h5 => (hfm b (hsub b hb) h2).trans (hfr b hb h0 h1 h2 h3 h4 h5)
    have hsub : ∀ b ∈ L, b ∈ L16 := fun b h => hsb b (hsub b h)
    have hf_sl : f17 sl = .inr (6, [.ref nu, .ref wi, .ref si]) := (hfm sl hm_sl (z_tne hf_sl hf_r2 (m := 6) (n := 581) rfl rfl (by decide))).trans hf_sl
    have hf_nu : f17 nu = .inl (cy 6, 4, .inr (.inr (.inr (.inr gn)))) := (hfm nu hm_nu (z_tne hf_nu hf_r2 (m := 134) (n := 581) rfl rfl (by decide))).trans hf_nu
    have hf_wi : f17 wi = .inl (cy 1, 4, .inl (fun _ => 0)) := (hfm wi hm_wi (z_tne hf_wi hf_r2 (m := 132) (n := 581) rfl rfl (by decide))).trans hf_wi
    have hf_si : f17 si = .inl (cy 1, 4, .inl gs) := (hfm si hm_si (z_tne hf_si hf_r2 (m := 132) (n := 581) rfl rfl (by decide))).trans hf_si
    have hm_sl : sl ∈ L16 := hsb _ hm_sl
    have hm_nu : nu ∈ L16 := hsb _ hm_nu
    have hm_r2 : r2 ∈ L16 := hsb _ hm_r2
    have hm_wi : wi ∈ L16 := hsb _ hm_wi
    have hm_si : si ∈ L16 := hsb _ hm_si
    have hf_r2 : f17 r2 = .inl (cy 2, 60, .inr (.inl g2_18)) := ha_0
    refine lv_aload_n hx hb dX6_lay_10 rfl (lv_at hl 0 rfl) ?_
    refine z_get (C := RX6) (T := TX6) (N := 3) (ci := 6) (v := .ref wi) hx hb hT zin_X6 hown hK hw hm_sl hf_sl rfl 1 (by decide) (hT _ kw_322) rfl dX6_lay_11 ?_
    refine lv_iload_n hx hb dX6_lay_14 rfl (lv_at hl 1 rfl) ?_
    refine lv_iload_n hx hb dX6_lay_15 rfl (lv_at hl 2 rfl) ?_
    refine z_iast hx hb hK hw 1 hm_wi hf_wi rfl (z_ix rfl (by omega)) dX6_lay_16 (fun H locs hw => ?_)
    obtain ⟨f20, e_f20⟩ : ∃ z, z = va_up f17 wi (.inl (cy 1, 4, .inl (upd (fun _ => 0) xa.toNatClampNeg xb))) := ⟨_, rfl⟩
    rw [← e_f20] at hw
    have hf_sl : f20 sl = .inr (6, [.ref nu, .ref wi, .ref si]) := (congrFun e_f20 sl).trans (z_up_ne (z_tne hf_sl hf_wi (m := 6) (n := 132) rfl rfl (by decide)) hf_sl)
    have hf_nu : f20 nu = .inl (cy 6, 4, .inr (.inr (.inr (.inr gn)))) := (congrFun e_f20 nu).trans (z_up_ne (z_tne hf_nu hf_wi (m := 134) (n := 132) rfl rfl (by decide)) hf_nu)
    have hf_r2 : f20 r2 = .inl (cy 2, 60, .inr (.inl g2_18)) := (congrFun e_f20 r2).trans (z_up_ne (z_tne hf_r2 hf_wi (m := 581) (n := 132) rfl rfl (by decide)) hf_r2)
    have hf_si : f20 si = .inl (cy 1, 4, .inl gs) := (congrFun e_f20 si).trans (z_up_ne (Ne.symm ne_wi_si) hf_si)
    have hf_wi : f20 wi = .inl (cy 1, 4, .inl (upd (fun _ => 0) xa.toNatClampNeg xb)) := (congrFun e_f20 wi).trans z_up_self
    have hfr : ∀ b ∈ L, b ≠ r0 → b ≠ r1 → b ≠ r2 → b ≠ r3 → b ≠ wi → b ≠ si → f20 b = f b := fun b hb h0 h1 h2 h3 h4 h5 => (congrFun e_f20 b).trans (z_up_ne h4 (hfr b hb h0 h1 h2 h3 h4 h5))
    obtain ⟨g19, e_g19⟩ : ∃ z, z = (upd (fun _ => 0) xa.toNatClampNeg xb) := ⟨_, rfl⟩
    rw [← e_g19] at hf_wi
    refine lv_aload_n hx hb dX6_lay_17 rfl (lv_at hl 0 rfl) ?_
    refine z_get (C := RX6) (T := TX6) (N := 3) (ci := 6) (v := .ref si) hx hb hT zin_X6 hown hK hw hm_sl hf_sl rfl 2 (by decide) (hT _ kw_324) rfl dX6_lay_18 ?_
    refine lv_iload_n hx hb dX6_lay_21 rfl (lv_at hl 1 rfl) ?_
    refine lv_iload_n hx hb dX6_lay_22 rfl (lv_at hl 3 rfl) ?_
    refine z_iast hx hb hK hw 1 hm_si hf_si rfl (z_ix rfl (by omega)) dX6_lay_23 (fun H locs hw => ?_)
    obtain ⟨f22, e_f22⟩ : ∃ z, z = va_up f20 si (.inl (cy 1, 4, .inl (upd gs xa.toNatClampNeg xc))) := ⟨_, rfl⟩
    rw [← e_f22] at hw
    have hf_sl : f22 sl = .inr (6, [.ref nu, .ref wi, .ref si]) := (congrFun e_f22 sl).trans (z_up_ne (z_tne hf_sl hf_si (m := 6) (n := 132) rfl rfl (by decide)) hf_sl)
    have hf_nu : f22 nu = .inl (cy 6, 4, .inr (.inr (.inr (.inr gn)))) := (congrFun e_f22 nu).trans (z_up_ne (z_tne hf_nu hf_si (m := 134) (n := 132) rfl rfl (by decide)) hf_nu)
    have hf_r2 : f22 r2 = .inl (cy 2, 60, .inr (.inl g2_18)) := (congrFun e_f22 r2).trans (z_up_ne (z_tne hf_r2 hf_si (m := 581) (n := 132) rfl rfl (by decide)) hf_r2)
    have hf_wi : f22 wi = .inl (cy 1, 4, .inl g19) := (congrFun e_f22 wi).trans (z_up_ne ne_wi_si hf_wi)
    have hf_si : f22 si = .inl (cy 1, 4, .inl (upd gs xa.toNatClampNeg xc)) := (congrFun e_f22 si).trans z_up_self
    have hfr : ∀ b ∈ L, b ≠ r0 → b ≠ r1 → b ≠ r2 → b ≠ r3 → b ≠ wi → b ≠ si → f22 b = f b := fun b hb h0 h1 h2 h3 h4 h5 => (congrFun e_f22 b).trans (z_up_ne h5 (hfr b hb h0 h1 h2 h3 h4 h5))
    obtain ⟨g21, e_g21⟩ : ∃ z, z = (upd gs xa.toNatClampNeg xc) := ⟨_, rfl⟩
    rw [← e_g21] at hf_si
    exact z_vret hx hb hr hlk (by decide) (by decide) hw (⟨hsub, hfr, trivial⟩) dX6_lay_24
  · skip
    have hcj : xa.toNatClampNeg = 3 := by have h9 : (xa.toNatClampNeg : Int) = xa.toInt := Int.toNat_of_nonneg (by omega); omega
    refine lv_aload_n hx hb dX6_lay_0 rfl (lv_at hl 0 rfl) ?_
    refine z_get (C := RX6) (T := TX6) (N := 3) (ci := 6) (v := .ref nu) hx hb hT zin_X6 hown hK hw hm_sl hf_sl rfl 0 (by decide) (hT _ kw_319) rfl dX6_lay_1 ?_
    refine lv_iload_n hx hb dX6_lay_4 rfl (lv_at hl 1 rfl) ?_
    refine z_aaldA (b := r3) hx hb hK hw 6 hm_nu hf_nu rfl (z_ix rfl (by omega)) (by rw [hcj]; exact hg3) dX6_lay_5 ?_
    refine lv_lconst (v := 0) hx hb dX6_lay_6 (by decide) ?_
    refine z_callvS (cells := 0) (slots := 0) (As := [.ref r3, .long 0]) (rest := []) ⟨hx, hb, hml, hown, hT⟩ (c_J7_fill_d0a16 l hm_r3 hf_r3 (by decide)) (va_cwS 2 hT (z_goodS (fun _ h => h) kw_1143 kw_1144 kw_91 kw_1145) rfl rfl rfl (by decide +kernel) ⟨by decide, by decide⟩) z_mv hKK hw hA rfl hl.1 rfl (Nat.le_of_ble_eq_true rfl) dX6_lay_7 ⟨by decide, by decide⟩ (fun u H locs hp hw => ?_)
    obtain ⟨L23, f24⟩ := u
    obtain ⟨hsb, hfm, g2_25, ha_0, hp⟩ := hp
    have hw : z_H D vwCl (z_A L sz) s.heap L23 f24 H locs := hw
    have hfr : ∀ b ∈ L, b ≠ r0 → b ≠ r1 → b ≠ r2 → b ≠ r3 → b ≠ wi → b ≠ si → f24 b = f b := fun b hb h0 h1 h2 h3 h4 h5 => (hfm b (hsub b hb) h3).trans (hfr b hb h0 h1 h2 h3 h4 h5)
    have hsub : ∀ b ∈ L, b ∈ L23 := fun b h => hsb b (hsub b h)
    have hf_sl : f24 sl = .inr (6, [.ref nu, .ref wi, .ref si]) := (hfm sl hm_sl (z_tne hf_sl hf_r3 (m := 6) (n := 581) rfl rfl (by decide))).trans hf_sl
    have hf_nu : f24 nu = .inl (cy 6, 4, .inr (.inr (.inr (.inr gn)))) := (hfm nu hm_nu (z_tne hf_nu hf_r3 (m := 134) (n := 581) rfl rfl (by decide))).trans hf_nu
    have hf_wi : f24 wi = .inl (cy 1, 4, .inl (fun _ => 0)) := (hfm wi hm_wi (z_tne hf_wi hf_r3 (m := 132) (n := 581) rfl rfl (by decide))).trans hf_wi
    have hf_si : f24 si = .inl (cy 1, 4, .inl gs) := (hfm si hm_si (z_tne hf_si hf_r3 (m := 132) (n := 581) rfl rfl (by decide))).trans hf_si
    have hm_sl : sl ∈ L23 := hsb _ hm_sl
    have hm_nu : nu ∈ L23 := hsb _ hm_nu
    have hm_r3 : r3 ∈ L23 := hsb _ hm_r3
    have hm_wi : wi ∈ L23 := hsb _ hm_wi
    have hm_si : si ∈ L23 := hsb _ hm_si
    have hf_r3 : f24 r3 = .inl (cy 2, 60, .inr (.inl g2_25)) := ha_0
    refine lv_aload_n hx hb dX6_lay_10 rfl (lv_at hl 0 rfl) ?_
    refine z_get (C := RX6) (T := TX6) (N := 3) (ci := 6) (v := .ref wi) hx hb hT zin_X6 hown hK hw hm_sl hf_sl rfl 1 (by decide) (hT _ kw_322) rfl dX6_lay_11 ?_
    refine lv_iload_n hx hb dX6_lay_14 rfl (lv_at hl 1 rfl) ?_
    refine lv_iload_n hx hb dX6_lay_15 rfl (lv_at hl 2 rfl) ?_
    refine z_iast hx hb hK hw 1 hm_wi hf_wi rfl (z_ix rfl (by omega)) dX6_lay_16 (fun H locs hw => ?_)
    obtain ⟨f27, e_f27⟩ : ∃ z, z = va_up f24 wi (.inl (cy 1, 4, .inl (upd (fun _ => 0) xa.toNatClampNeg xb))) := ⟨_, rfl⟩
    rw [← e_f27] at hw
    have hf_sl : f27 sl = .inr (6, [.ref nu, .ref wi, .ref si]) := (congrFun e_f27 sl).trans (z_up_ne (z_tne hf_sl hf_wi (m := 6) (n := 132) rfl rfl (by decide)) hf_sl)
    have hf_nu : f27 nu = .inl (cy 6, 4, .inr (.inr (.inr (.inr gn)))) := (congrFun e_f27 nu).trans (z_up_ne (z_tne hf_nu hf_wi (m := 134) (n := 132) rfl rfl (by decide)) hf_nu)
    have hf_r3 : f27 r3 = .inl (cy 2, 60, .inr (.inl g2_25)) := (congrFun e_f27 r3).trans (z_up_ne (z_tne hf_r3 hf_wi (m := 581) (n := 132) rfl rfl (by decide)) hf_r3)
    have hf_si : f27 si = .inl (cy 1, 4, .inl gs) := (congrFun e_f27 si).trans (z_up_ne (Ne.symm ne_wi_si) hf_si)
    have hf_wi : f27 wi = .inl (cy 1, 4, .inl (upd (fun _ => 0) xa.toNatClampNeg xb)) := (congrFun e_f27 wi).trans z_up_self
    have hfr : ∀ b ∈ L, b ≠ r0 → b ≠ r1 → b ≠ r2 → b ≠ r3 → b ≠ wi → b ≠ si → f27 b = f b := fun b hb h0 h1 h2 h3 h4 h5 => (congrFun e_f27 b).trans (z_up_ne h4 (hfr b hb h0 h1 h2 h3 h4 h5))
    obtain ⟨g26, e_g26⟩ : ∃ z, z = (upd (fun _ => 0) xa.toNatClampNeg xb) := ⟨_, rfl⟩
    rw [← e_g26] at hf_wi
    refine lv_aload_n hx hb dX6_lay_17 rfl (lv_at hl 0 rfl) ?_
    refine z_get (C := RX6) (T := TX6) (N := 3) (ci := 6) (v := .ref si) hx hb hT zin_X6 hown hK hw hm_sl hf_sl rfl 2 (by decide) (hT _ kw_324) rfl dX6_lay_18 ?_
    refine lv_iload_n hx hb dX6_lay_21 rfl (lv_at hl 1 rfl) ?_
    refine lv_iload_n hx hb dX6_lay_22 rfl (lv_at hl 3 rfl) ?_
    refine z_iast hx hb hK hw 1 hm_si hf_si rfl (z_ix rfl (by omega)) dX6_lay_23 (fun H locs hw => ?_)
    obtain ⟨f29, e_f29⟩ : ∃ z, z = va_up f27 si (.inl (cy 1, 4, .inl (upd gs xa.toNatClampNeg xc))) := ⟨_, rfl⟩
    rw [← e_f29] at hw
    have hf_sl : f29 sl = .inr (6, [.ref nu, .ref wi, .ref si]) := (congrFun e_f29 sl).trans (z_up_ne (z_tne hf_sl hf_si (m := 6) (n := 132) rfl rfl (by decide)) hf_sl)
    have hf_nu : f29 nu = .inl (cy 6, 4, .inr (.inr (.inr (.inr gn)))) := (congrFun e_f29 nu).trans (z_up_ne (z_tne hf_nu hf_si (m := 134) (n := 132) rfl rfl (by decide)) hf_nu)
    have hf_r3 : f29 r3 = .inl (cy 2, 60, .inr (.inl g2_25)) := (congrFun e_f29 r3).trans (z_up_ne (z_tne hf_r3 hf_si (m := 581) (n := 132) rfl rfl (by decide)) hf_r3)
    have hf_wi : f29 wi = .inl (cy 1, 4, .inl g26) := (congrFun e_f29 wi).trans (z_up_ne ne_wi_si hf_wi)
    have hf_si : f29 si = .inl (cy 1, 4, .inl (upd gs xa.toNatClampNeg xc)) := (congrFun e_f29 si).trans z_up_self
    have hfr : ∀ b ∈ L, b ≠ r0 → b ≠ r1 → b ≠ r2 → b ≠ r3 → b ≠ wi → b ≠ si → f29 b = f b := fun b hb h0 h1 h2 h3 h4 h5 => (congrFun e_f29 b).trans (z_up_ne h5 (hfr b hb h0 h1 h2 h3 h4 h5))
    obtain ⟨g28, e_g28⟩ : ∃ z, z = (upd gs xa.toNatClampNeg xc) := ⟨_, rfl⟩
    rw [← e_g28] at hf_si
    exact z_vret hx hb hr hlk (by decide) (by decide) hw (⟨hsub, hfr, trivial⟩) dX6_lay_24

set_option maxHeartbeats 2000000 in
set_option maxRecDepth 100000 in
theorem c_X9_row (l : Launch) {D : va_G} {cy : Nat → ClassId} {L : List Nat} {f : Nat → va_E} {sz : Nat} {hs tp rd mo dr im kp sl wk pl ex mx : Nat} {nu wi si r0 r1 r2 r3 : Nat} {gn : Nat → Option Nat} {gs : Nat → Int32} {xa xb xc : Int32} (hm_hs : hs ∈ L) (hm_sl : sl ∈ L) (hm_nu : nu ∈ L) (hm_r0 : r0 ∈ L) (hm_r1 : r1 ∈ L) (hm_r2 : r2 ∈ L) (hm_r3 : r3 ∈ L) (hm_wi : wi ∈ L) (hm_si : si ∈ L) (hf_hs : f hs = .inr (9, [.ref tp, .ref rd, .ref mo, .ref dr, .ref im, .ref kp, .ref sl, .ref wk, .ref pl, .ref ex, .ref mx])) (hf_sl : f sl = .inr (6, [.ref nu, .ref wi, .ref si])) (hf_nu : f nu = .inl (cy 6, 4, .inr (.inr (.inr (.inr gn))))) (hf_r0 : f r0 = .inl (cy 2, 60, .inr (.inl (fun _ => 0)))) (hf_r1 : f r1 = .inl (cy 2, 60, .inr (.inl (fun _ => 0)))) (hf_r2 : f r2 = .inl (cy 2, 60, .inr (.inl (fun _ => 0)))) (hf_r3 : f r3 = .inl (cy 2, 60, .inr (.inl (fun _ => 0)))) (hf_wi : f wi = .inl (cy 1, 4, .inl (fun _ => 0))) (hf_si : f si = .inl (cy 1, 4, .inl gs)) (ne_wi_si : wi ≠ si) (hg0 : gn 0 = some r0) (hg1 : gn 1 = some r1) (hg2 : gn 2 = some r2) (hg3 : gn 3 = some r3) : Met l yX9_row (z_ws yX9_row cX9_row 4 (some .int)) (z_R 4 0 0) (va_Pc [.ref hs, .int xa, .int xb, .int xc] (z_Pre D vwCl (z_K D cy) L f sz)) (z_Qi D vwCl (fun r u => (∀ b ∈ L, b ∈ u.1) ∧ (∀ b ∈ L, b ≠ r0 → b ≠ r1 → b ≠ r2 → b ≠ r3 → b ≠ wi → b ≠ si → u.2 b = f b) ∧ (((r.toInt = -2 ∧ ¬ (0 ≤ xa.toInt ∧ xa.toInt < 4 ∧ 0 ≤ xb.toInt ∧ xb.toInt < 4 ∧ xc.toInt ≤ 60)) ∨ (r.toInt = -3 ∧ (0 ≤ xa.toInt ∧ xa.toInt < 4 ∧ 0 ≤ xb.toInt ∧ xb.toInt < 4 ∧ xc.toInt ≤ 60) ∧ xc.toInt < 0) ∨ (r.toInt = 0 ∧ (0 ≤ xa.toInt ∧ xa.toInt < 4 ∧ 0 ≤ xb.toInt ∧ xb.toInt < 4 ∧ xc.toInt ≤ 60) ∧ 0 ≤ xc.toInt)))) L sz) 0 0 (z_A L sz) := by
  refine z_met (cc := cX9_row) (maxL := 4) (ret := (some .int)) (lv := [(0, .ref hs), (1, .int xa), (2, .int xb), (3, .int xc)]) (by decide) rfl (Nat.le_of_ble_eq_true rfl) rfl ?_
  intro p e s m below meth c ls hx hb hr hlk hml hown hnm hts hKK hA hw hl
  have hK := hKK.1
  have hown : s.vm.findClass RX9 = some m.cls := hown
  have hT : ∀ w ∈ lw_all, w.before ([.ref hs, .int xa, .int xb, .int xc] : List Value).toArray s = true := fun w h => hts w (z_cons w h)
  have hsub : ∀ b ∈ L, b ∈ L := fun _ h => h
  have hfr : ∀ b ∈ L, b ≠ r0 → b ≠ r1 → b ≠ r2 → b ≠ r3 → b ≠ wi → b ≠ si → f b = f b := fun _ _ _ _ _ _ _ _ => rfl
  refine lv_iload_n hx hb dX9_row_0 rfl (lv_at hl 1 rfl) ?_
  refine z_calliS (cells := 0) (slots := 0) (As := [.int xa]) (rest := []) ⟨hx, hb, hml, hown, hT⟩ (c_X6_isSlot l ) (va_cwS 1 hT (z_goodS (fun _ h => h) kw_999 kw_1000 kw_90 kw_1001) rfl rfl rfl (by decide +kernel) ⟨by decide, by decide⟩) z_mv hKK hw hA rfl hl.1 rfl (Nat.le_of_ble_eq_true rfl) dX9_row_1 ⟨by decide, by decide⟩ (fun r1 u H locs hp hw => ?_)
  obtain ⟨rfl, hp⟩ := hp
  have hw : z_H D vwCl (z_A L sz) s.heap L f H locs := hw
  rcases hp with ⟨rfl, h2⟩ | ⟨rfl, h2⟩
  · skip
    refine z_if_eq (tgt := 22) hx hb (show (1 : Int32).toInt = 1 by decide) dX9_row_4 (by decide) (fun h => absurd h (by decide)) (fun _ => ?_)
    refine lv_iload_n hx hb dX9_row_7 rfl (lv_at hl 2 rfl) ?_
    refine z_if_lt (tgt := 22) hx hb rfl dX9_row_8 (by decide) (fun c3 => ?_) (fun c3 => ?_)
    · skip
      refine lv_bipush (v := (-2)) hx hb dX9_row_22 (by decide) ?_
      exact z_iret hx hb hr hlk (by decide) (by decide) hw (⟨hsub, hfr, Or.inl ⟨by decide, by omega⟩⟩) dX9_row_24
    · skip
      refine lv_iload_n hx hb dX9_row_11 rfl (lv_at hl 2 rfl) ?_
      refine lv_iconst (v := 4) hx hb dX9_row_12 (by decide) ?_
      refine z_icmp_ge (tgt := 22) hx hb rfl (show (4 : Int32).toInt = 4 by decide) dX9_row_13 (by decide) (fun c4 => ?_) (fun c4 => ?_)
      · skip
        refine lv_bipush (v := (-2)) hx hb dX9_row_22 (by decide) ?_
        exact z_iret hx hb hr hlk (by decide) (by decide) hw (⟨hsub, hfr, Or.inl ⟨by decide, by omega⟩⟩) dX9_row_24
      · skip
        refine lv_iload_n hx hb dX9_row_16 rfl (lv_at hl 3 rfl) ?_
        refine lv_bipush (v := 60) hx hb dX9_row_17 (by decide) ?_
        refine z_icmp_le (tgt := 25) hx hb rfl (show (60 : Int32).toInt = 60 by decide) dX9_row_19 (by decide) (fun c5 => ?_) (fun c5 => ?_)
        · skip
          refine lv_iload_n hx hb dX9_row_25 rfl (lv_at hl 3 rfl) ?_
          refine z_if_ge (tgt := 32) hx hb rfl dX9_row_26 (by decide) (fun c6 => ?_) (fun c6 => ?_)
          · skip
            refine lv_aload_n hx hb dX9_row_32 rfl (lv_at hl 0 rfl) ?_
            refine z_get (C := RX9) (T := TX9) (N := 11) (ci := 9) (v := .ref sl) hx hb hT zin_X9 hown hK hw hm_hs hf_hs rfl 6 (by decide) (hT _ kw_483) rfl dX9_row_33 ?_
            refine lv_iload_n hx hb dX9_row_36 rfl (lv_at hl 1 rfl) ?_
            refine lv_iload_n hx hb dX9_row_37 rfl (lv_at hl 2 rfl) ?_
            refine lv_iload_n hx hb dX9_row_38 rfl (lv_at hl 3 rfl) ?_
            refine z_callvV (cells := 0) (slots := 0) (b := sl) (As := [.int xa, .int xb, .int xc]) (rest := []) (ci := 6) (q0 := (RX6, TX6, 3)) ⟨hx, hb, hml, hown, hT⟩ (c_X6_lay l hm_sl hm_nu hm_r0 hm_r1 hm_r2 hm_r3 hm_wi hm_si hf_sl hf_nu hf_r0 hf_r1 hf_r2 hf_r3 hf_wi hf_si ne_wi_si hg0 hg1 hg2 hg3 (by first | omega | decide | assumption)) (cwV 3 hT (z_goodV (fun _ h => h) kw_1139 kw_1140 kw_1141 kw_90 kw_1142) rfl rfl rfl (by decide +kernel) ⟨by decide, by decide⟩) z_mv hKK hK hw hA hm_sl hf_sl rfl rfl rfl hl.1 rfl (Nat.le_of_ble_eq_true rfl) dX9_row_39 ⟨by decide, by decide⟩ (fun u H locs hp hw => ?_)
            obtain ⟨L7, f8⟩ := u
            obtain ⟨hsb, hfm, hp⟩ := hp
            have hw : z_H D vwCl (z_A L sz) s.heap L7 f8 H locs := hw
            have hfr : ∀ b ∈ L, b ≠ r0 → b ≠ r1 → b ≠ r2 → b ≠ r3 → b ≠ wi → b ≠ si → f8 b = f b := fun b hb h0 h1 h2 h3 h4 h5 => (hfm b (hsub b hb) h0 h1 h2 h3 h4 h5).trans (hfr b hb h0 h1 h2 h3 h4 h5)
            have hsub : ∀ b ∈ L, b ∈ L7 := fun b h => hsb b (hsub b h)
            have hf_hs : f8 hs = .inr (9, [.ref tp, .ref rd, .ref mo, .ref dr, .ref im, .ref kp, .ref sl, .ref wk, .ref pl, .ref ex, .ref mx]) := (hfm hs hm_hs (z_tne hf_hs hf_r0 (m := 9) (n := 581) rfl rfl (by decide)) (z_tne hf_hs hf_r1 (m := 9) (n := 581) rfl rfl (by decide)) (z_tne hf_hs hf_r2 (m := 9) (n := 581) rfl rfl (by decide)) (z_tne hf_hs hf_r3 (m := 9) (n := 581) rfl rfl (by decide)) (z_tne hf_hs hf_wi (m := 9) (n := 132) rfl rfl (by decide)) (z_tne hf_hs hf_si (m := 9) (n := 132) rfl rfl (by decide))).trans hf_hs
            have hf_sl : f8 sl = .inr (6, [.ref nu, .ref wi, .ref si]) := (hfm sl hm_sl (z_tne hf_sl hf_r0 (m := 6) (n := 581) rfl rfl (by decide)) (z_tne hf_sl hf_r1 (m := 6) (n := 581) rfl rfl (by decide)) (z_tne hf_sl hf_r2 (m := 6) (n := 581) rfl rfl (by decide)) (z_tne hf_sl hf_r3 (m := 6) (n := 581) rfl rfl (by decide)) (z_tne hf_sl hf_wi (m := 6) (n := 132) rfl rfl (by decide)) (z_tne hf_sl hf_si (m := 6) (n := 132) rfl rfl (by decide))).trans hf_sl
            have hf_nu : f8 nu = .inl (cy 6, 4, .inr (.inr (.inr (.inr gn)))) := (hfm nu hm_nu (z_tne hf_nu hf_r0 (m := 134) (n := 581) rfl rfl (by decide)) (z_tne hf_nu hf_r1 (m := 134) (n := 581) rfl rfl (by decide)) (z_tne hf_nu hf_r2 (m := 134) (n := 581) rfl rfl (by decide)) (z_tne hf_nu hf_r3 (m := 134) (n := 581) rfl rfl (by decide)) (z_tne hf_nu hf_wi (m := 134) (n := 132) rfl rfl (by decide)) (z_tne hf_nu hf_si (m := 134) (n := 132) rfl rfl (by decide))).trans hf_nu
            have hm_hs : hs ∈ L7 := hsb _ hm_hs
            have hm_sl : sl ∈ L7 := hsb _ hm_sl
            have hm_nu : nu ∈ L7 := hsb _ hm_nu
            have hm_r0 : r0 ∈ L7 := hsb _ hm_r0
            have hm_r1 : r1 ∈ L7 := hsb _ hm_r1
            have hm_r2 : r2 ∈ L7 := hsb _ hm_r2
            have hm_r3 : r3 ∈ L7 := hsb _ hm_r3
            have hm_wi : wi ∈ L7 := hsb _ hm_wi
            have hm_si : si ∈ L7 := hsb _ hm_si
            refine lv_iconst (v := 0) hx hb dX9_row_42 (by decide) ?_
            exact z_iret hx hb hr hlk (by decide) (by decide) hw (⟨hsub, hfr, Or.inr (Or.inr ⟨by decide, by omega⟩)⟩) dX9_row_43
          · skip
            refine lv_bipush (v := (-3)) hx hb dX9_row_29 (by decide) ?_
            exact z_iret hx hb hr hlk (by decide) (by decide) hw (⟨hsub, hfr, Or.inr (Or.inl ⟨by decide, by omega⟩)⟩) dX9_row_31
        · skip
          refine lv_bipush (v := (-2)) hx hb dX9_row_22 (by decide) ?_
          exact z_iret hx hb hr hlk (by decide) (by decide) hw (⟨hsub, hfr, Or.inl ⟨by decide, by omega⟩⟩) dX9_row_24
  · skip
    refine z_if_eq (tgt := 22) hx hb (show (0 : Int32).toInt = 0 by decide) dX9_row_4 (by decide) (fun _ => ?_) (fun h => absurd h (by decide))
    refine lv_bipush (v := (-2)) hx hb dX9_row_22 (by decide) ?_
    exact z_iret hx hb hr hlk (by decide) (by decide) hw (⟨hsub, hfr, Or.inl ⟨by decide, by omega⟩⟩) dX9_row_24
