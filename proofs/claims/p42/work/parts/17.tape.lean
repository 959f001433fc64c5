set_option maxHeartbeats 2000000 in
set_option maxRecDepth 100000 in
theorem c_X6_cut (l : Launch) {D : va_G} {cy : Nat → ClassId} {L : List Nat} {f : Nat → va_E} {sz : Nat} {adK adV : Nat → Nat} {vv : Int64} {wd : Int32}  : Met l yX6_cut (z_ws yX6_cut cX6_cut 3 (some .long)) (z_R 1 0 0) (va_Pc [.long vv, .int wd] (z_Pre D vwCl (z_KK D cy adK adV) L f sz)) (z_Ql D vwCl (fun r u => u = (L, f) ∧ (True)) L sz) 0 0 (z_A L sz) := by
  refine z_met (cc := cX6_cut) (maxL := 3) (ret := (some .long)) (lv := [(0, .long vv), (2, .int wd)]) (by decide) rfl (Nat.le_of_ble_eq_true rfl) rfl ?_
  intro p e s m below meth c ls hx hb hr hlk hml hown hnm hts hKK hA hw hl
  have hK := hKK.1.1
  have hown : s.vm.findClass RX6 = some m.cls := hown
  have hT : ∀ w ∈ lw_all, w.before ([.long vv, .int wd] : List Value).toArray s = true := fun w h => hts w (z_cons w h)
  refine lv_iload_n hx hb dX6_cut_0 rfl (lv_at hl 1 rfl) ?_
  by_cases c1 : wd.toInt < 0 ∨ 2 < wd.toInt
  · skip
    refine lv_tableOut (tgt := 42) hx hb dX6_cut_1 (by rw [show wd.toInt = wd.toInt from rfl]; exact c1) (by decide) ?_
    refine lv_lload_n hx hb dX6_cut_42 rfl (lv_at hl 0 rfl) ?_
    exact z_lret hx hb hr hlk (by decide) (by decide) hw (⟨rfl, trivial⟩) dX6_cut_43
  · skip
    have c1s : wd.toInt = 0 ∨ wd.toInt = 1 ∨ wd.toInt = 2 := by omega
    rcases c1s with c1 | c1 | c1
    · skip
      refine lv_tableIn (off := 27) (tgt := 28) hx hb dX6_cut_1 (by omega) (by omega) (by rw [show wd.toInt = 0 from c1]; rfl) (by decide) ?_
      refine lv_lload_n hx hb dX6_cut_28 rfl (lv_at hl 0 rfl) ?_
      refine lv_l2i hx hb dX6_cut_29 rfl ?_
      refine lv_topi (fun w2 e_w2 => ?_)
      refine lv_i2b hx hb dX6_cut_30 rfl ?_
      refine lv_topi (fun w3 e_w3 => ?_)
      refine lv_i2l hx hb dX6_cut_31 rfl ?_
      refine lv_topl (fun w4 e_w4 => ?_)
      have i_w4 : w4.toInt = w3.toInt := z_i2l e_w4 rfl
      exact z_lret hx hb hr hlk (by decide) (by decide) hw (⟨rfl, trivial⟩) dX6_cut_32
    · skip
      refine lv_tableIn (off := 32) (tgt := 33) hx hb dX6_cut_1 (by omega) (by omega) (by rw [show wd.toInt = 1 from c1]; rfl) (by decide) ?_
      refine lv_lload_n hx hb dX6_cut_33 rfl (lv_at hl 0 rfl) ?_
      refine lv_l2i hx hb dX6_cut_34 rfl ?_
      refine lv_topi (fun w5 e_w5 => ?_)
      refine lv_i2s hx hb dX6_cut_35 rfl ?_
      refine lv_topi (fun w6 e_w6 => ?_)
      refine lv_i2l hx hb dX6_cut_36 rfl ?_
      refine lv_topl (fun w7 e_w7 => ?_)
      have i_w7 : w7.toInt = w6.toInt := z_i2l e_w7 rfl
      exact z_lret hx hb hr hlk (by decide) (by decide) hw (⟨rfl, trivial⟩) dX6_cut_37
    · skip
      refine lv_tableIn (off := 37) (tgt := 38) hx hb dX6_cut_1 (by omega) (by omega) (by rw [show wd.toInt = 2 from c1]; rfl) (by decide) ?_
      refine lv_lload_n hx hb dX6_cut_38 rfl (lv_at hl 0 rfl) ?_
      refine lv_l2i hx hb dX6_cut_39 rfl ?_
      refine lv_topi (fun w8 e_w8 => ?_)
      refine lv_i2l hx hb dX6_cut_40 rfl ?_
      refine lv_topl (fun w9 e_w9 => ?_)
      have i_w9 : w9.toInt = w8.toInt := z_i2l e_w9 rfl
      exact z_lret hx hb hr hlk (by decide) (by decide) hw (⟨rfl, trivial⟩) dX6_cut_41

set_option maxHeartbeats 2000000 in
set_option maxRecDepth 100000 in
theorem c_X2_forget (l : Launch) {D : va_G} {cy : Nat → ClassId} {L : List Nat} {f : Nat → va_E} {sz : Nat} {adK adV : Nat → Nat} {mo la sa mi da : Nat} {v0 v1 v2 v3 v4 v5 v6 : Int32} {gl gs gm : Nat → Int32} (hm_mo : mo ∈ L) (hm_la : la ∈ L) (hm_sa : sa ∈ L) (hm_mi : mi ∈ L) (hf_mo : f mo = .inr (2, [.int v0, .int v1, .int v2, .int v3, .int v4, .int v5, .int v6, .ref la, .ref sa, .ref mi, .ref da])) (hf_la : f la = .inl (cy 1, 5, .inl gl)) (hf_sa : f sa = .inl (cy 1, 4, .inl gs)) (hf_mi : f mi = .inl (cy 1, 36, .inl gm)) : Met l yX2_forget (z_ws yX2_forget cX2_forget 1 none) (z_R 2 0 0) (va_Pc [.ref mo] (z_Pre D vwCl (z_KK D cy adK adV) L f sz)) (z_Qv D vwCl (fun u => L = u.1 ∧ (∀ b ∈ L, b ≠ mo → b ≠ la → b ≠ sa → b ≠ mi → u.2 b = f b) ∧ (∃ (h1 h2 h3 : Nat → Int32), (u.2 mo = .inr (2, [.int 0, .int 0, .int 0, .int 0, .int 0, .int 0, .int 0, .ref la, .ref sa, .ref mi, .ref da])) ∧ (u.2 la = .inl (cy 1, 5, .inl h1)) ∧ (u.2 sa = .inl (cy 1, 4, .inl h2)) ∧ (u.2 mi = .inl (cy 1, 36, .inl h3)) ∧ ((∀ j : Nat, j < 5 → h1 j = 0) ∧ (∀ j : Nat, j < 4 → h2 j = 0) ∧ ∀ j : Nat, j < 36 → h3 j = 0))) L sz) 0 0 (z_A L sz) := by
  refine z_met (cc := cX2_forget) (maxL := 1) (ret := none) (lv := [(0, .ref mo)]) (by decide) rfl (Nat.le_of_ble_eq_true rfl) rfl ?_
  intro p e s m below meth c ls hx hb hr hlk hml hown hnm hts hKK hA hw hl
  have hK := hKK.1.1
  have hown : s.vm.findClass RX2 = some m.cls := hown
  have hT : ∀ w ∈ lw_all, w.before ([.ref mo] : List Value).toArray s = true := fun w h => hts w (z_cons w h)
  have hsub : L = L := rfl
  have hfr : ∀ b ∈ L, b ≠ mo → b ≠ la → b ≠ sa → b ≠ mi → f b = f b := fun _ _ _ _ _ _ => rfl
  refine lv_aload_n hx hb dX2_forget_0 rfl (lv_at hl 0 rfl) ?_
  refine lv_iconst (v := 0) hx hb dX2_forget_1 (by decide) ?_
  refine z_put (C := RX2) (T := TX2) (N := 11) (ci := 2) (v := .int 0) (fs' := [.int 0, .int v1, .int v2, .int v3, .int v4, .int v5, .int v6, .ref la, .ref sa, .ref mi, .ref da]) hx hb hT zin_X2 tyX2_ok nmX2 hown hK hw hm_mo hf_mo rfl 0 (by decide) (hT _ kw_204) rfl rfl rfl (Nat.le_of_ble_eq_true rfl) rfl dX2_forget_2 (fun H locs hw => ?_)
  obtain ⟨f1, e_f1⟩ : ∃ z, z = va_up f mo (.inr (2, [.int 0, .int v1, .int v2, .int v3, .int v4, .int v5, .int v6, .ref la, .ref sa, .ref mi, .ref da])) := ⟨_, rfl⟩
  rw [← e_f1] at hw
  have hf_la : f1 la = .inl (cy 1, 5, .inl gl) := (congrFun e_f1 la).trans (z_up_ne (z_tne hf_la hf_mo (m := 140) (n := 2) rfl rfl (by decide)) hf_la)
  have hf_sa : f1 sa = .inl (cy 1, 4, .inl gs) := (congrFun e_f1 sa).trans (z_up_ne (z_tne hf_sa hf_mo (m := 132) (n := 2) rfl rfl (by decide)) hf_sa)
  have hf_mi : f1 mi = .inl (cy 1, 36, .inl gm) := (congrFun e_f1 mi).trans (z_up_ne (z_tne hf_mi hf_mo (m := 388) (n := 2) rfl rfl (by decide)) hf_mi)
  have hf_mo : f1 mo = .inr (2, [.int 0, .int v1, .int v2, .int v3, .int v4, .int v5, .int v6, .ref la, .ref sa, .ref mi, .ref da]) := (congrFun e_f1 mo).trans z_up_self
  have hfr : ∀ b ∈ L, b ≠ mo → b ≠ la → b ≠ sa → b ≠ mi → f1 b = f b := fun b hb h0 h1 h2 h3 => (congrFun e_f1 b).trans (z_up_ne h0 (hfr b hb h0 h1 h2 h3))
  refine lv_aload_n hx hb dX2_forget_5 rfl (lv_at hl 0 rfl) ?_
  refine lv_iconst (v := 0) hx hb dX2_forget_6 (by decide) ?_
  refine z_put (C := RX2) (T := TX2) (N := 11) (ci := 2) (v := .int 0) (fs' := [.int 0, .int 0, .int v2, .int v3, .int v4, .int v5, .int v6, .ref la, .ref sa, .ref mi, .ref da]) hx hb hT zin_X2 tyX2_ok nmX2 hown hK hw hm_mo hf_mo rfl 1 (by decide) (hT _ kw_207) rfl rfl rfl (Nat.le_of_ble_eq_true rfl) rfl dX2_forget_7 (fun H locs hw => ?_)
  obtain ⟨f2, e_f2⟩ : ∃ z, z = va_up f1 mo (.inr (2, [.int 0, .int 0, .int v2, .int v3, .int v4, .int v5, .int v6, .ref la, .ref sa, .ref mi, .ref da])) := ⟨_, rfl⟩
  rw [← e_f2] at hw
  have hf_la : f2 la = .inl (cy 1, 5, .inl gl) := (congrFun e_f2 la).trans (z_up_ne (z_tne hf_la hf_mo (m := 140) (n := 2) rfl rfl (by decide)) hf_la)
  have hf_sa : f2 sa = .inl (cy 1, 4, .inl gs) := (congrFun e_f2 sa).trans (z_up_ne (z_tne hf_sa hf_mo (m := 132) (n := 2) rfl rfl (by decide)) hf_sa)
  have hf_mi : f2 mi = .inl (cy 1, 36, .inl gm) := (congrFun e_f2 mi).trans (z_up_ne (z_tne hf_mi hf_mo (m := 388) (n := 2) rfl rfl (by decide)) hf_mi)
  have hf_mo : f2 mo = .inr (2, [.int 0, .int 0, .int v2, .int v3, .int v4, .int v5, .int v6, .ref la, .ref sa, .ref mi, .ref da]) := (congrFun e_f2 mo).trans z_up_self
  have hfr : ∀ b ∈ L, b ≠ mo → b ≠ la → b ≠ sa → b ≠ mi → f2 b = f b := fun b hb h0 h1 h2 h3 => (congrFun e_f2 b).trans (z_up_ne h0 (hfr b hb h0 h1 h2 h3))
  refine lv_aload_n hx hb dX2_forget_10 rfl (lv_at hl 0 rfl) ?_
  refine lv_iconst (v := 0) hx hb dX2_forget_11 (by decide) ?_
  refine z_put (C := RX2) (T := TX2) (N := 11) (ci := 2) (v := .int 0) (fs' := [.int 0, .int 0, .int 0, .int v3, .int v4, .int v5, .int v6, .ref la, .ref sa, .ref mi, .ref da]) hx hb hT zin_X2 tyX2_ok nmX2 hown hK hw hm_mo hf_mo rfl 2 (by decide) (hT _ kw_211) rfl rfl rfl (Nat.le_of_ble_eq_true rfl) rfl dX2_forget_12 (fun H locs hw => ?_)
  obtain ⟨f3, e_f3⟩ : ∃ z, z = va_up f2 mo (.inr (2, [.int 0, .int 0, .int 0, .int v3, .int v4, .int v5, .int v6, .ref la, .ref sa, .ref mi, .ref da])) := ⟨_, rfl⟩
  rw [← e_f3] at hw
  have hf_la : f3 la = .inl (cy 1, 5, .inl gl) := (congrFun e_f3 la).trans (z_up_ne (z_tne hf_la hf_mo (m := 140) (n := 2) rfl rfl (by decide)) hf_la)
  have hf_sa : f3 sa = .inl (cy 1, 4, .inl gs) := (congrFun e_f3 sa).trans (z_up_ne (z_tne hf_sa hf_mo (m := 132) (n := 2) rfl rfl (by decide)) hf_sa)
  have hf_mi : f3 mi = .inl (cy 1, 36, .inl gm) := (congrFun e_f3 mi).trans (z_up_ne (z_tne hf_mi hf_mo (m := 388) (n := 2) rfl rfl (by decide)) hf_mi)
  have hf_mo : f3 mo = .inr (2, [.int 0, .int 0, .int 0, .int v3, .int v4, .int v5, .int v6, .ref la, .ref sa, .ref mi, .ref da]) := (congrFun e_f3 mo).trans z_up_self
  have hfr : ∀ b ∈ L, b ≠ mo → b ≠ la → b ≠ sa → b ≠ mi → f3 b = f b := fun b hb h0 h1 h2 h3 => (congrFun e_f3 b).trans (z_up_ne h0 (hfr b hb h0 h1 h2 h3))
  refine lv_aload_n hx hb dX2_forget_15 rfl (lv_at hl 0 rfl) ?_
  refine lv_iconst (v := 0) hx hb dX2_forget_16 (by decide) ?_
  refine z_put (C := RX2) (T := TX2) (N := 11) (ci := 2) (v := .int 0) (fs' := [.int 0, .int 0, .int 0, .int 0, .int v4, .int v5, .int v6, .ref la, .ref sa, .ref mi, .ref da]) hx hb hT zin_X2 tyX2_ok nmX2 hown hK hw hm_mo hf_mo rfl 3 (by decide) (hT _ kw_215) rfl rfl rfl (Nat.le_of_ble_eq_true rfl) rfl dX2_forget_17 (fun H locs hw => ?_)
  obtain ⟨f4, e_f4⟩ : ∃ z, z = va_up f3 mo (.inr (2, [.int 0, .int 0, .int 0, .int 0, .int v4, .int v5, .int v6, .ref la, .ref sa, .ref mi, .ref da])) := ⟨_, rfl⟩
  rw [← e_f4] at hw
  have hf_la : f4 la = .inl (cy 1, 5, .inl gl) := (congrFun e_f4 la).trans (z_up_ne (z_tne hf_la hf_mo (m := 140) (n := 2) rfl rfl (by decide)) hf_la)
  have hf_sa : f4 sa = .inl (cy 1, 4, .inl gs) := (congrFun e_f4 sa).trans (z_up_ne (z_tne hf_sa hf_mo (m := 132) (n := 2) rfl rfl (by decide)) hf_sa)
  have hf_mi : f4 mi = .inl (cy 1, 36, .inl gm) := (congrFun e_f4 mi).trans (z_up_ne (z_tne hf_mi hf_mo (m := 388) (n := 2) rfl rfl (by decide)) hf_mi)
  have hf_mo : f4 mo = .inr (2, [.int 0, .int 0, .int 0, .int 0, .int v4, .int v5, .int v6, .ref la, .ref sa, .ref mi, .ref da]) := (congrFun e_f4 mo).trans z_up_self
  have hfr : ∀ b ∈ L, b ≠ mo → b ≠ la → b ≠ sa → b ≠ mi → f4 b = f b := fun b hb h0 h1 h2 h3 => (congrFun e_f4 b).trans (z_up_ne h0 (hfr b hb h0 h1 h2 h3))
  refine lv_aload_n hx hb dX2_forget_20 rfl (lv_at hl 0 rfl) ?_
  refine lv_iconst (v := 0) hx hb dX2_forget_21 (by decide) ?_
  refine z_put (C := RX2) (T := TX2) (N := 11) (ci := 2) (v := .int 0) (fs' := [.int 0, .int 0, .int 0, .int 0, .int 0, .int v5, .int v6, .ref la, .ref sa, .ref mi, .ref da]) hx hb hT zin_X2 tyX2_ok nmX2 hown hK hw hm_mo hf_mo rfl 4 (by decide) (hT _ kw_218) rfl rfl rfl (Nat.le_of_ble_eq_true rfl) rfl dX2_forget_22 (fun H locs hw => ?_)
  obtain ⟨f5, e_f5⟩ : ∃ z, z = va_up f4 mo (.inr (2, [.int 0, .int 0, .int 0, .int 0, .int 0, .int v5, .int v6, .ref la, .ref sa, .ref mi, .ref da])) := ⟨_, rfl⟩
  rw [← e_f5] at hw
  have hf_la : f5 la = .inl (cy 1, 5, .inl gl) := (congrFun e_f5 la).trans (z_up_ne (z_tne hf_la hf_mo (m := 140) (n := 2) rfl rfl (by decide)) hf_la)
  have hf_sa : f5 sa = .inl (cy 1, 4, .inl gs) := (congrFun e_f5 sa).trans (z_up_ne (z_tne hf_sa hf_mo (m := 132) (n := 2) rfl rfl (by decide)) hf_sa)
  have hf_mi : f5 mi = .inl (cy 1, 36, .inl gm) := (congrFun e_f5 mi).trans (z_up_ne (z_tne hf_mi hf_mo (m := 388) (n := 2) rfl rfl (by decide)) hf_mi)
  have hf_mo : f5 mo = .inr (2, [.int 0, .int 0, .int 0, .int 0, .int 0, .int v5, .int v6, .ref la, .ref sa, .ref mi, .ref da]) := (congrFun e_f5 mo).trans z_up_self
  have hfr : ∀ b ∈ L, b ≠ mo → b ≠ la → b ≠ sa → b ≠ mi → f5 b = f b := fun b hb h0 h1 h2 h3 => (congrFun e_f5 b).trans (z_up_ne h0 (hfr b hb h0 h1 h2 h3))
  refine lv_aload_n hx hb dX2_forget_25 rfl (lv_at hl 0 rfl) ?_
  refine lv_iconst (v := 0) hx hb dX2_forget_26 (by decide) ?_
  refine z_put (C := RX2) (T := TX2) (N := 11) (ci := 2) (v := .int 0) (fs' := [.int 0, .int 0, .int 0, .int 0, .int 0, .int 0, .int v6, .ref la, .ref sa, .ref mi, .ref da]) hx hb hT zin_X2 tyX2_ok nmX2 hown hK hw hm_mo hf_mo rfl 5 (by decide) (hT _ kw_222) rfl rfl rfl (Nat.le_of_ble_eq_true rfl) rfl dX2_forget_27 (fun H locs hw => ?_)
  obtain ⟨f6, e_f6⟩ : ∃ z, z = va_up f5 mo (.inr (2, [.int 0, .int 0, .int 0, .int 0, .int 0, .int 0, .int v6, .ref la, .ref sa, .ref mi, .ref da])) := ⟨_, rfl⟩
  rw [← e_f6] at hw
  have hf_la : f6 la = .inl (cy 1, 5, .inl gl) := (congrFun e_f6 la).trans (z_up_ne (z_tne hf_la hf_mo (m := 140) (n := 2) rfl rfl (by decide)) hf_la)
  have hf_sa : f6 sa = .inl (cy 1, 4, .inl gs) := (congrFun e_f6 sa).trans (z_up_ne (z_tne hf_sa hf_mo (m := 132) (n := 2) rfl rfl (by decide)) hf_sa)
  have hf_mi : f6 mi = .inl (cy 1, 36, .inl gm) := (congrFun e_f6 mi).trans (z_up_ne (z_tne hf_mi hf_mo (m := 388) (n := 2) rfl rfl (by decide)) hf_mi)
  have hf_mo : f6 mo = .inr (2, [.int 0, .int 0, .int 0, .int 0, .int 0, .int 0, .int v6, .ref la, .ref sa, .ref mi, .ref da]) := (congrFun e_f6 mo).trans z_up_self
  have hfr : ∀ b ∈ L, b ≠ mo → b ≠ la → b ≠ sa → b ≠ mi → f6 b = f b := fun b hb h0 h1 h2 h3 => (congrFun e_f6 b).trans (z_up_ne h0 (hfr b hb h0 h1 h2 h3))
  refine lv_aload_n hx hb dX2_forget_30 rfl (lv_at hl 0 rfl) ?_
  refine lv_iconst (v := 0) hx hb dX2_forget_31 (by decide) ?_
  refine z_put (C := RX2) (T := TX2) (N := 11) (ci := 2) (v := .int 0) (fs' := [.int 0, .int 0, .int 0, .int 0, .int 0, .int 0, .int 0, .ref la, .ref sa, .ref mi, .ref da]) hx hb hT zin_X2 tyX2_ok nmX2 hown hK hw hm_mo hf_mo rfl 6 (by decide) (hT _ kw_227) rfl rfl rfl (Nat.le_of_ble_eq_true rfl) rfl dX2_forget_32 (fun H locs hw => ?_)
  obtain ⟨f7, e_f7⟩ : ∃ z, z = va_up f6 mo (.inr (2, [.int 0, .int 0, .int 0, .int 0, .int 0, .int 0, .int 0, .ref la, .ref sa, .ref mi, .ref da])) := ⟨_, rfl⟩
  rw [← e_f7] at hw
  have hf_la : f7 la = .inl (cy 1, 5, .inl gl) := (congrFun e_f7 la).trans (z_up_ne (z_tne hf_la hf_mo (m := 140) (n := 2) rfl rfl (by decide)) hf_la)
  have hf_sa : f7 sa = .inl (cy 1, 4, .inl gs) := (congrFun e_f7 sa).trans (z_up_ne (z_tne hf_sa hf_mo (m := 132) (n := 2) rfl rfl (by decide)) hf_sa)
  have hf_mi : f7 mi = .inl (cy 1, 36, .inl gm) := (congrFun e_f7 mi).trans (z_up_ne (z_tne hf_mi hf_mo (m := 388) (n := 2) rfl rfl (by decide)) hf_mi)
  have hf_mo : f7 mo = .inr (2, [.int 0, .int 0, .int 0, .int 0, .int 0, .int 0, .int 0, .ref la, .ref sa, .ref mi, .ref da]) := (congrFun e_f7 mo).trans z_up_self
  have hfr : ∀ b ∈ L, b ≠ mo → b ≠ la → b ≠ sa → b ≠ mi → f7 b = f b := fun b hb h0 h1 h2 h3 => (congrFun e_f7 b).trans (z_up_ne h0 (hfr b hb h0 h1 h2 h3))
  refine lv_aload_n hx hb dX2_forget_35 rfl (lv_at hl 0 rfl) ?_
  refine z_get (C := RX2) (T := TX2) (N := 11) (ci := 2) (v := .ref la) hx hb hT zin_X2 hown hK hw hm_mo hf_mo rfl 7 (by decide) (hT _ kw_230) rfl dX2_forget_36 ?_
  refine lv_iconst (v := 0) hx hb dX2_forget_39 (by decide) ?_
  have hz8 := (show (0 : Int32).toInt = 0 by decide)
  refine z_callvS (cells := 0) (slots := 0) (As := [.ref la, .int 0]) (rest := []) ⟨hx, hb, hml, hown, hT⟩ (c_J7_fill_53178 l hm_la hf_la (by decide)) (va_cwS 2 hT (z_goodS (fun _ h => h) kw_535 kw_317 kw_91 kw_318) rfl rfl rfl (by decide +kernel) ⟨by decide, by decide⟩) z_mv hKK hw hA rfl hl.1 rfl (Nat.le_of_ble_eq_true rfl) dX2_forget_40 ⟨by decide, by decide⟩ (fun u H locs hp hw => ?_)
  obtain ⟨L9, f10⟩ := u
  obtain ⟨hsb, hfm, g2_11, ha_0, hp⟩ := hp
  have hsb : L = L9 := hsb
  subst hsb
  have hsb : ∀ b ∈ L, b ∈ L := fun _ h => h
  have hw : z_H D vwCl (z_A L sz) s.heap L f10 H locs := hw
  have hfr : ∀ b ∈ L, b ≠ mo → b ≠ la → b ≠ sa → b ≠ mi → f10 b = f b := fun b hb h0 h1 h2 h3 => (hfm b hb h1).trans (hfr b hb h0 h1 h2 h3)
  have hf_mo : f10 mo = .inr (2, [.int 0, .int 0, .int 0, .int 0, .int 0, .int 0, .int 0, .ref la, .ref sa, .ref mi, .ref da]) := (hfm mo hm_mo (z_tne hf_mo hf_la (m := 2) (n := 140) rfl rfl (by decide))).trans hf_mo
  have hf_sa : f10 sa = .inl (cy 1, 4, .inl gs) := (hfm sa hm_sa (z_tne hf_sa hf_la (m := 132) (n := 140) rfl rfl (by decide))).trans hf_sa
  have hf_mi : f10 mi = .inl (cy 1, 36, .inl gm) := (hfm mi hm_mi (z_tne hf_mi hf_la (m := 388) (n := 140) rfl rfl (by decide))).trans hf_mi
  have hf_la : f10 la = .inl (cy 1, 5, .inl g2_11) := ha_0
  have hz1 := hp
  refine lv_aload_n hx hb dX2_forget_43 rfl (lv_at hl 0 rfl) ?_
  refine z_get (C := RX2) (T := TX2) (N := 11) (ci := 2) (v := .ref sa) hx hb hT zin_X2 hown hK hw hm_mo hf_mo rfl 8 (by decide) (hT _ kw_236) rfl dX2_forget_44 ?_
  refine lv_iconst (v := 0) hx hb dX2_forget_47 (by decide) ?_
  have hz12 := (show (0 : Int32).toInt = 0 by decide)
  refine z_callvS (cells := 0) (slots := 0) (As := [.ref sa, .int 0]) (rest := []) ⟨hx, hb, hml, hown, hT⟩ (c_J7_fill_53178 l hm_sa hf_sa (by decide)) (va_cwS 2 hT (z_goodS (fun _ h => h) kw_535 kw_317 kw_91 kw_318) rfl rfl rfl (by decide +kernel) ⟨by decide, by decide⟩) z_mv hKK hw hA rfl hl.1 rfl (Nat.le_of_ble_eq_true rfl) dX2_forget_48 ⟨by decide, by decide⟩ (fun u H locs hp hw => ?_)
  obtain ⟨L13, f14⟩ := u
  obtain ⟨hsb, hfm, g2_15, ha_0, hp⟩ := hp
  have hsb : L = L13 := hsb
  subst hsb
  have hsb : ∀ b ∈ L, b ∈ L := fun _ h => h
  have hw : z_H D vwCl (z_A L sz) s.heap L f14 H locs := hw
  have hfr : ∀ b ∈ L, b ≠ mo → b ≠ la → b ≠ sa → b ≠ mi → f14 b = f b := fun b hb h0 h1 h2 h3 => (hfm b hb h2).trans (hfr b hb h0 h1 h2 h3)
  have hf_mo : f14 mo = .inr (2, [.int 0, .int 0, .int 0, .int 0, .int 0, .int 0, .int 0, .ref la, .ref sa, .ref mi, .ref da]) := (hfm mo hm_mo (z_tne hf_mo hf_sa (m := 2) (n := 132) rfl rfl (by decide))).trans hf_mo
  have hf_la : f14 la = .inl (cy 1, 5, .inl g2_11) := (hfm la hm_la (z_tne hf_la hf_sa (m := 140) (n := 132) rfl rfl (by decide))).trans hf_la
  have hf_mi : f14 mi = .inl (cy 1, 36, .inl gm) := (hfm mi hm_mi (z_tne hf_mi hf_sa (m := 388) (n := 132) rfl rfl (by decide))).trans hf_mi
  have hf_sa : f14 sa = .inl (cy 1, 4, .inl g2_15) := ha_0
  have hz2 := hp
  refine lv_aload_n hx hb dX2_forget_51 rfl (lv_at hl 0 rfl) ?_
  refine z_get (C := RX2) (T := TX2) (N := 11) (ci := 2) (v := .ref mi) hx hb hT zin_X2 hown hK hw hm_mo hf_mo rfl 9 (by decide) (hT _ kw_239) rfl dX2_forget_52 ?_
  refine lv_iconst (v := 0) hx hb dX2_forget_55 (by decide) ?_
  have hz16 := (show (0 : Int32).toInt = 0 by decide)
  refine z_callvS (cells := 0) (slots := 0) (As := [.ref mi, .int 0]) (rest := []) ⟨hx, hb, hml, hown, hT⟩ (c_J7_fill_53178 l hm_mi hf_mi (by decide)) (va_cwS 2 hT (z_goodS (fun _ h => h) kw_535 kw_317 kw_91 kw_318) rfl rfl rfl (by decide +kernel) ⟨by decide, by decide⟩) z_mv hKK hw hA rfl hl.1 rfl (Nat.le_of_ble_eq_true rfl) dX2_forget_56 ⟨by decide, by decide⟩ (fun u H locs hp hw => ?_)
  obtain ⟨L17, f18⟩ := u
  obtain ⟨hsb, hfm, g2_19, ha_0, hp⟩ := hp
  have hsb : L = L17 := hsb
  subst hsb
  have hsb : ∀ b ∈ L, b ∈ L := fun _ h => h
  have hw : z_H D vwCl (z_A L sz) s.heap L f18 H locs := hw
  have hfr : ∀ b ∈ L, b ≠ mo → b ≠ la → b ≠ sa → b ≠ mi → f18 b = f b := fun b hb h0 h1 h2 h3 => (hfm b hb h3).trans (hfr b hb h0 h1 h2 h3)
  have hf_mo : f18 mo = .inr (2, [.int 0, .int 0, .int 0, .int 0, .int 0, .int 0, .int 0, .ref la, .ref sa, .ref mi, .ref da]) := (hfm mo hm_mo (z_tne hf_mo hf_mi (m := 2) (n := 388) rfl rfl (by decide))).trans hf_mo
  have hf_la : f18 la = .inl (cy 1, 5, .inl g2_11) := (hfm la hm_la (z_tne hf_la hf_mi (m := 140) (n := 388) rfl rfl (by decide))).trans hf_la
  have hf_sa : f18 sa = .inl (cy 1, 4, .inl g2_15) := (hfm sa hm_sa (z_tne hf_sa hf_mi (m := 132) (n := 388) rfl rfl (by decide))).trans hf_sa
  have hf_mi : f18 mi = .inl (cy 1, 36, .inl g2_19) := ha_0
  have hz3 := hp
  exact z_vret hx hb hr hlk (by decide) (by decide) hw (⟨hsub, hfr, g2_11, g2_15, g2_19, hf_mo, hf_la, hf_sa, hf_mi, hz1, hz2, hz3⟩) dX2_forget_59

set_option maxHeartbeats 2000000 in
set_option maxRecDepth 100000 in
theorem c_X7_append (l : Launch) {D : va_G} {cy : Nat → ClassId} {L : List Nat} {f : Nat → va_E} {sz : Nat} {adK adV : Nat → Nat} {tp tb : Nat} {tl : Int32} {gt : Nat → Int32} {vv : Int32} (hm_tp : tp ∈ L) (hm_tb : tb ∈ L) (hf_tp : f tp = .inr (7, [.ref tb, .int tl])) (hf_tb : f tb = .inl (cy 0, 1600, .inl gt)) (htl : 0 ≤ tl.toInt ∧ tl.toInt ≤ 1600) : Met l yX7_append (z_ws yX7_append cX7_append 3 none) (z_R 1 0 0) (va_Pc [.ref tp, .int vv] (z_Pre D vwCl (z_KK D cy adK adV) L f sz)) (z_Qv D vwCl (fun u => L = u.1 ∧ (∀ b ∈ L, b ≠ tp → b ≠ tb → u.2 b = f b) ∧ (∃ (l2 : Int32) (g2 : Nat → Int32), (u.2 tp = .inr (7, [.ref tb, .int l2])) ∧ (u.2 tb = .inl (cy 0, 1600, .inl g2)) ∧ (0 ≤ l2.toInt ∧ l2.toInt ≤ 1600))) L sz) 0 0 (z_A L sz) := by
  refine z_met (cc := cX7_append) (maxL := 3) (ret := none) (lv := [(0, .ref tp), (1, .int vv)]) (by decide) rfl (Nat.le_of_ble_eq_true rfl) rfl ?_
  intro p e s m below meth c ls hx hb hr hlk hml hown hnm hts hKK hA hw hl
  have hK := hKK.1.1
  have hown : s.vm.findClass RX7 = some m.cls := hown
  have hT : ∀ w ∈ lw_all, w.before ([.ref tp, .int vv] : List Value).toArray s = true := fun w h => hts w (z_cons w h)
  have hsub : L = L := rfl
  have hfr : ∀ b ∈ L, b ≠ tp → b ≠ tb → f b = f b := fun _ _ _ _ => rfl
  refine lv_bipush (v := 24) hx hb dX7_append_0 (by decide) ?_
  refine lv_istore_n (lv' := [(2, .int 24), (0, .ref tp), (1, .int vv)]) hx hb dX7_append_2 rfl hl (by decide) rfl (fun ls hl => ?_)
  have hzk : (24 : Int32).toInt = 24 := by decide
  refine z_loop (fun n H locs ls => ∃ (K1 : Int32) (G4 : Nat → Int32) (TL3 : Int32) (f2 : Nat → va_E), (n = (K1.toInt - (-8)).toNat) ∧ (-8 ≤ K1.toInt) ∧ (K1.toInt ≤ 24) ∧ (0 ≤ TL3.toInt ∧ TL3.toInt ≤ 1600) ∧ (z_H D vwCl (z_A L sz) s.heap L f2 H locs) ∧ (f2 tp = .inr (7, [.ref tb, .int TL3])) ∧ (f2 tb = .inl (cy 0, 1600, .inl G4)) ∧ (∀ b ∈ L, b ≠ tp → b ≠ tb → f2 b = f b) ∧ (lv_has ls 3 [(2, .int K1), (0, .ref tp), (1, .int vv)])) _ ⟨24, gt, tl, f, rfl, (by first | decide | omega), (by first | decide | omega), (by omega), hw, hf_tp, hf_tb, hfr, (lv_sub hl [0, 1, 2] rfl)⟩ (fun n H locs ls hI ih_3 => ?_)
  obtain ⟨K1, G4, TL3, f2, hn, hk0, hk1, hi0, hw, hf_tp, hf_tb, hfr, hl⟩ := hI
  refine lv_iload_n hx hb dX7_append_3 rfl (lv_at hl 0 rfl) ?_
  refine z_if_lt (tgt := 46) hx hb rfl dX7_append_4 (by decide) (fun c5 => ?_) (fun c5 => ?_)
  · skip
    exact z_vret hx hb hr hlk (by decide) (by decide) hw (⟨hsub, hfr, TL3, G4, hf_tp, hf_tb, by omega⟩) dX7_append_46
  · skip
    refine lv_aload_n hx hb dX7_append_7 rfl (lv_at hl 1 rfl) ?_
    refine z_get (C := RX7) (T := TX7) (N := 2) (ci := 7) (v := .int TL3) hx hb hT zin_X7 hown hK hw hm_tp hf_tp rfl 1 (by decide) (hT _ kw_120) rfl dX7_append_8 ?_
    refine lv_sipush (v := 1600) hx hb dX7_append_11 (by decide) ?_
    refine z_icmp_ge (tgt := 46) hx hb rfl (show (1600 : Int32).toInt = 1600 by decide) dX7_append_14 (by decide) (fun c6 => ?_) (fun c6 => ?_)
    · skip
      exact z_vret hx hb hr hlk (by decide) (by decide) hw (⟨hsub, hfr, TL3, G4, hf_tp, hf_tb, by omega⟩) dX7_append_46
    · skip
      refine lv_aload_n hx hb dX7_append_17 rfl (lv_at hl 1 rfl) ?_
      refine z_get (C := RX7) (T := TX7) (N := 2) (ci := 7) (v := .ref tb) hx hb hT zin_X7 hown hK hw hm_tp hf_tp rfl 0 (by decide) (hT _ kw_117) rfl dX7_append_18 ?_
      refine lv_aload_n hx hb dX7_append_21 rfl (lv_at hl 1 rfl) ?_
      refine z_get (C := RX7) (T := TX7) (N := 2) (ci := 7) (v := .int TL3) hx hb hT zin_X7 hown hK hw hm_tp hf_tp rfl 1 (by decide) (hT _ kw_120) rfl dX7_append_22 ?_
      refine lv_iload_n hx hb dX7_append_25 rfl (lv_at hl 2 rfl) ?_
      refine lv_iload_n hx hb dX7_append_26 rfl (lv_at hl 0 rfl) ?_
      refine lv_ishr hx hb dX7_append_27 ?_
      refine lv_topi (fun w7 e_w7 => ?_)
      refine lv_i2b hx hb dX7_append_28 rfl ?_
      refine lv_topi (fun w8 e_w8 => ?_)
      refine z_bast hx hb hK hw 0 hm_tb hf_tb rfl (z_ix rfl (by omega)) dX7_append_29 (fun H locs hw => ?_)
      obtain ⟨f10, e_f10⟩ : ∃ z, z = va_up f2 tb (.inl (cy 0, 1600, .inl (upd G4 TL3.toNatClampNeg (vp_nar .byte w8)))) := ⟨_, rfl⟩
      rw [← e_f10] at hw
      have hf_tp : f10 tp = .inr (7, [.ref tb, .int TL3]) := (congrFun e_f10 tp).trans (z_up_ne (z_tne hf_tp hf_tb (m := 7) (n := 12900) rfl rfl (by decide)) hf_tp)
      have hf_tb : f10 tb = .inl (cy 0, 1600, .inl (upd G4 TL3.toNatClampNeg (vp_nar .byte w8))) := (congrFun e_f10 tb).trans z_up_self
      have hfr : ∀ b ∈ L, b ≠ tp → b ≠ tb → f10 b = f b := fun b hb h0 h1 => (congrFun e_f10 b).trans (z_up_ne h1 (hfr b hb h0 h1))
      obtain ⟨g9, e_g9⟩ : ∃ z, z = (upd G4 TL3.toNatClampNeg (vp_nar .byte w8)) := ⟨_, rfl⟩
      rw [← e_g9] at hf_tb
      refine lv_aload_n hx hb dX7_append_30 rfl (lv_at hl 1 rfl) ?_
      refine lv_dup hx hb dX7_append_31 rfl ?_
      refine z_get (C := RX7) (T := TX7) (N := 2) (ci := 7) (v := .int TL3) hx hb hT zin_X7 hown hK hw hm_tp hf_tp rfl 1 (by decide) (hT _ kw_120) rfl dX7_append_32 ?_
      refine lv_iconst (v := 1) hx hb dX7_append_35 (by decide) ?_
      refine lv_iadd hx hb dX7_append_36 ?_
      refine lv_topi (fun w11 e_w11 => ?_)
      have i_w11 : w11.toInt = (TL3.toInt + 1) := z_add e_w11 rfl (show (1 : Int32).toInt = 1 by decide) (by omega)
      refine z_put (C := RX7) (T := TX7) (N := 2) (ci := 7) (v := .int w11) (fs' := [.ref tb, .int w11]) hx hb hT zin_X7 tyX7_ok nmX7 hown hK hw hm_tp hf_tp rfl 1 (by decide) (hT _ kw_120) rfl rfl rfl (Nat.le_of_ble_eq_true rfl) rfl dX7_append_37 (fun H locs hw => ?_)
      obtain ⟨f12, e_f12⟩ : ∃ z, z = va_up f10 tp (.inr (7, [.ref tb, .int w11])) := ⟨_, rfl⟩
      rw [← e_f12] at hw
      have hf_tb : f12 tb = .inl (cy 0, 1600, .inl g9) := (congrFun e_f12 tb).trans (z_up_ne (z_tne hf_tb hf_tp (m := 12900) (n := 7) rfl rfl (by decide)) hf_tb)
      have hf_tp : f12 tp = .inr (7, [.ref tb, .int w11]) := (congrFun e_f12 tp).trans z_up_self
      have hfr : ∀ b ∈ L, b ≠ tp → b ≠ tb → f12 b = f b := fun b hb h0 h1 => (congrFun e_f12 b).trans (z_up_ne h0 (hfr b hb h0 h1))
      obtain ⟨k13, e_k13⟩ : ∃ z : Int32, z = K1 + (-8) := ⟨_, rfl⟩
      refine lv_iinc (v := k13) (lv' := [(2, .int k13), (0, .ref tp), (1, .int vv)]) hx hb dX7_append_40 hl (k := 0) rfl (by rw [e_k13]; rfl) (by decide) rfl (fun ls hl => ?_)
      have i_k13 : k13.toInt = (K1.toInt + (-8)) := z_add e_k13 rfl (by decide) (by omega)
      refine lv_goto (tgt := 3) hx hb dX7_append_43 (by decide) ?_
      exact ih_3 _ (by omega) _ _ _ ⟨k13, g9, w11, f12, rfl, (by first | decide | omega), (by first | decide | omega), (by omega), hw, hf_tp, hf_tb, hfr, (lv_sub hl [0, 1, 2] rfl)⟩
