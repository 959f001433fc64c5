set_option maxHeartbeats 2000000 in
set_option maxRecDepth 100000 in
theorem c_X0_init (l : Launch) {D : va_G} {cy : Nat → ClassId} {L : List Nat} {f : Nat → va_E} {sz : Nat} {dv : Nat} (hm_dv : dv ∈ L) (hf_dv : f dv = .inr (0, [.int 0, .int 0, .int 0, .int 0, .int 0, .int 0, .int 0, .int 0])) : Met l yX0_init (z_ws yX0_init cX0_init 1 none) (z_R 1 0 0) (va_Pc [.ref dv] (z_Pre D vwCl (z_K D cy) L f sz)) (z_Qv D vwCl (fun u => u = (L, f) ∧ (True)) L sz) 0 0 (z_A L sz) := by
  refine z_met (cc := cX0_init) (maxL := 1) (ret := none) (lv := [(0, .ref dv)]) (by decide) rfl (Nat.le_of_ble_eq_true rfl) rfl ?_
  intro p e s m below meth c ls hx hb hr hlk hml hown hnm hts hKK hA hw hl
  have hK := hKK.1
  have hown : s.vm.findClass RX0 = some m.cls := hown
  have hT : ∀ w ∈ lw_all, w.before ([.ref dv] : List Value).toArray s = true := fun w h => hts w (z_cons w h)
  refine lv_aload_n hx hb dX0_init_0 rfl (lv_at hl 0 rfl) ?_
  refine W.objInit hx hb hown (hT _ ko_RX0) (hT _ ko_i) (hT _ ko_c) rfl (by rw [hml]; exact hl.1) rfl dX0_init_1 (Nat.le_of_ble_eq_true rfl) (Nat.le_of_ble_eq_true rfl) ?_
  refine W.eq (g2 := F0 m 4 ls []) rfl ?_
  exact z_vret hx hb hr hlk (by decide) (by decide) hw (⟨rfl, trivial⟩) dX0_init_4

set_option maxHeartbeats 2000000 in
set_option maxRecDepth 100000 in
theorem c_X7_init (l : Launch) {D : va_G} {cy : Nat → ClassId} {L : List Nat} {f : Nat → va_E} {sz : Nat} {tp : Nat} (hm_tp : tp ∈ L) (hf_tp : f tp = .inr (7, [.null, .int 0])) : Met l yX7_init (z_ws yX7_init cX7_init 1 none) (z_R 1 1 1600) (va_Pc [.ref tp] (z_Pre D vwCl (z_K D cy) L f sz)) (z_Qv D vwCl (fun u => (∀ b ∈ L, b ∈ u.1) ∧ (∀ b ∈ L, b ≠ tp → u.2 b = f b) ∧ (∃ (ba : Nat), (u.2 tp = .inr (7, [.ref ba, .int 0])) ∧ (ba ∉ L ∧ ba ∈ u.1 ∧ u.2 ba = .inl (cy 0, 1600, .inl (fun _ => 0))) ∧ (True))) L sz) 1 1600 (z_A L sz) := by
  refine z_met (cc := cX7_init) (maxL := 1) (ret := none) (lv := [(0, .ref tp)]) (by decide) rfl (Nat.le_of_ble_eq_true rfl) rfl ?_
  intro p e s m below meth c ls hx hb hr hlk hml hown hnm hts hKK hA hw hl
  have hK := hKK.1
  have hown : s.vm.findClass RX7 = some m.cls := hown
  have hT : ∀ w ∈ lw_all, w.before ([.ref tp] : List Value).toArray s = true := fun w h => hts w (z_cons w h)
  have hsub : ∀ b ∈ L, b ∈ L := fun _ h => h
  have hfr : ∀ b ∈ L, b ≠ tp → f b = f b := fun _ _ _ => rfl
  refine lv_aload_n hx hb dX7_init_0 rfl (lv_at hl 0 rfl) ?_
  refine W.objInit hx hb hown (hT _ ko_RX7) (hT _ ko_i) (hT _ ko_c) rfl (by rw [hml]; exact hl.1) rfl dX7_init_1 (Nat.le_of_ble_eq_true rfl) (Nat.le_of_ble_eq_true rfl) ?_
  refine W.eq (g2 := F0 m 4 ls []) rfl ?_
  refine lv_aload_n hx hb dX7_init_4 rfl (lv_at hl 0 rfl) ?_
  refine lv_sipush (v := 1600) hx hb dX7_init_5 (by decide) ?_
  refine z_newa (atype := .byte) (n := 1600) (N' := 1600) (a0 := (1600, .inl (fun _ => 0))) (cells := 0) (slots := 0) hx hb (hT _ kw_127) rfl 0 rfl (fun _ h => by cases h) hK hw hA (fun _ => rfl) (by decide) (by decide) (by decide) (by decide) (by decide) dX7_init_8 (fun qba H hq_qba hw => ?_)
  refine W.widen (k := 1) (n := 1600) (by decide) (by decide) ?_
  have ne_tp_qba : tp ≠ qba := z_ne hm_tp hq_qba
  have hn_qba : qba ∉ L := fun h => hq_qba (hsub _ h)
  obtain ⟨f2, e_f2⟩ : ∃ z, z = va_up f qba (.inl (cy 0, 1600, .inl (fun _ => 0))) := ⟨_, rfl⟩
  obtain ⟨L1, e_L1⟩ : ∃ z, z = L ++ [qba] := ⟨_, rfl⟩
  rw [← e_f2, ← e_L1] at hw
  have hm_tp : tp ∈ L1 := by rw [e_L1]; exact List.mem_append_left _ hm_tp
  have hf_tp : f2 tp = .inr (7, [.null, .int 0]) := (congrFun e_f2 tp).trans (z_up_ne ne_tp_qba hf_tp)
  have hm_qba : qba ∈ L1 := by rw [e_L1]; exact List.mem_append_right _ (List.mem_singleton.mpr rfl)
  have hf_qba : f2 qba = .inl (cy 0, 1600, .inl (fun _ => 0)) := (congrFun e_f2 qba).trans z_up_self
  have hsub : ∀ b ∈ L, b ∈ L1 := fun b h => by rw [e_L1]; exact List.mem_append_left _ (hsub b h)
  have hfr : ∀ b ∈ L, b ≠ tp → f2 b = f b := fun b hb h0 => (congrFun e_f2 b).trans (z_up_ne (z_ne hb hn_qba) (hfr b hb h0))
  refine z_putF (C := RX7) (T := TX7) (N := 2) (ci := 7) (v := .ref qba) (fs' := [.ref qba, .int 0]) hx hb hT zin_X7 tyX7_ok nmX7 hown hK hw hm_tp hf_tp rfl 0 (by decide) (hT _ kw_117) rfl hnm rfl rfl rfl (Nat.le_of_ble_eq_true rfl) rfl dX7_init_10 (fun H locs hw => ?_)
  obtain ⟨f3, e_f3⟩ : ∃ z, z = va_up f2 tp (.inr (7, [.ref qba, .int 0])) := ⟨_, rfl⟩
  rw [← e_f3] at hw
  have hf_qba : f3 qba = .inl (cy 0, 1600, .inl (fun _ => 0)) := (congrFun e_f3 qba).trans (z_up_ne (Ne.symm ne_tp_qba) hf_qba)
  have hf_tp : f3 tp = .inr (7, [.ref qba, .int 0]) := (congrFun e_f3 tp).trans z_up_self
  have hfr : ∀ b ∈ L, b ≠ tp → f3 b = f b := fun b hb h0 => (congrFun e_f3 b).trans (z_up_ne h0 (hfr b hb h0))
  exact z_vret hx hb hr hlk (by decide) (by decide) hw (⟨hsub, hfr, qba, hf_tp, ⟨hn_qba, hm_qba, hf_qba⟩, trivial⟩) dX7_init_13

set_option maxHeartbeats 2000000 in
set_option maxRecDepth 100000 in
theorem c_X2_init (l : Launch) {D : va_G} {cy : Nat → ClassId} {L : List Nat} {f : Nat → va_E} {sz : Nat} {mo : Nat} (hm_mo : mo ∈ L) (hf_mo : f mo = .inr (2, [.int 0, .int 0, .int 0, .int 0, .int 0, .int 0, .int 0, .null, .null, .null, .null])) : Met l yX2_init (z_ws yX2_init cX2_init 2 none) (z_R 2 17 162) (va_Pc [.ref mo] (z_Pre D vwCl (z_K D cy) L f sz)) (z_Qv D vwCl (fun u => (∀ b ∈ L, b ∈ u.1) ∧ (∀ b ∈ L, b ≠ mo → u.2 b = f b) ∧ (∃ (la sa mi da : Nat), (u.2 mo = .inr (2, [.int 0, .int 0, .int 0, .int 0, .int 0, .int 0, .int 0, .ref la, .ref sa, .ref mi, .ref da])) ∧ (la ∉ L ∧ la ∈ u.1 ∧ u.2 la = .inl (cy 1, 5, .inl (fun _ => 0))) ∧ (sa ∉ L ∧ sa ∈ u.1 ∧ u.2 sa = .inl (cy 1, 4, .inl (fun _ => 0))) ∧ (mi ∉ L ∧ mi ∈ u.1 ∧ u.2 mi = .inl (cy 1, 36, .inl (fun _ => 0))) ∧ (True))) L sz) 17 162 (z_A L sz) := by
  refine z_met (cc := cX2_init) (maxL := 2) (ret := none) (lv := [(0, .ref mo)]) (by decide) rfl (Nat.le_of_ble_eq_true rfl) rfl ?_
  intro p e s m below meth c ls hx hb hr hlk hml hown hnm hts hKK hA hw hl
  have hK := hKK.1
  have hown : s.vm.findClass RX2 = some m.cls := hown
  have hT : ∀ w ∈ lw_all, w.before ([.ref mo] : List Value).toArray s = true := fun w h => hts w (z_cons w h)
  have hsub : ∀ b ∈ L, b ∈ L := fun _ h => h
  have hfr : ∀ b ∈ L, b ≠ mo → f b = f b := fun _ _ _ => rfl
  refine lv_aload_n hx hb dX2_init_0 rfl (lv_at hl 0 rfl) ?_
  refine W.objInit hx hb hown (hT _ ko_RX2) (hT _ ko_i) (hT _ ko_c) rfl (by rw [hml]; exact hl.1) rfl dX2_init_1 (Nat.le_of_ble_eq_true rfl) (Nat.le_of_ble_eq_true rfl) ?_
  refine W.eq (g2 := F0 m 4 ls []) rfl ?_
  refine lv_aload_n hx hb dX2_init_4 rfl (lv_at hl 0 rfl) ?_
  refine lv_iconst (v := 5) hx hb dX2_init_5 (by decide) ?_
  refine z_newa (atype := .int) (n := 5) (N' := 5) (a0 := (5, .inl (fun _ => 0))) (cells := 0) (slots := 0) hx hb (hT _ kw_203) rfl 1 rfl (fun _ h => by cases h) hK hw hA (fun _ => rfl) (by decide) (by decide) (by decide) (by decide) (by decide) dX2_init_6 (fun qla H hq_qla hw => ?_)
  refine W.widen (k := 1) (n := 5) (by decide) (by decide) ?_
  have ne_mo_qla : mo ≠ qla := z_ne hm_mo hq_qla
  have hn_qla : qla ∉ L := fun h => hq_qla (hsub _ h)
  obtain ⟨f2, e_f2⟩ : ∃ z, z = va_up f qla (.inl (cy 1, 5, .inl (fun _ => 0))) := ⟨_, rfl⟩
  obtain ⟨L1, e_L1⟩ : ∃ z, z = L ++ [qla] := ⟨_, rfl⟩
  rw [← e_f2, ← e_L1] at hw
  have hm_mo : mo ∈ L1 := by rw [e_L1]; exact List.mem_append_left _ hm_mo
  have hf_mo : f2 mo = .inr (2, [.int 0, .int 0, .int 0, .int 0, .int 0, .int 0, .int 0, .null, .null, .null, .null]) := (congrFun e_f2 mo).trans (z_up_ne ne_mo_qla hf_mo)
  have hm_qla : qla ∈ L1 := by rw [e_L1]; exact List.mem_append_right _ (List.mem_singleton.mpr rfl)
  have hf_qla : f2 qla = .inl (cy 1, 5, .inl (fun _ => 0)) := (congrFun e_f2 qla).trans z_up_self
  have hsub : ∀ b ∈ L, b ∈ L1 := fun b h => by rw [e_L1]; exact List.mem_append_left _ (hsub b h)
  have hfr : ∀ b ∈ L, b ≠ mo → f2 b = f b := fun b hb h0 => (congrFun e_f2 b).trans (z_up_ne (z_ne hb hn_qla) (hfr b hb h0))
  refine z_putF (C := RX2) (T := TX2) (N := 11) (ci := 2) (v := .ref qla) (fs' := [.int 0, .int 0, .int 0, .int 0, .int 0, .int 0, .int 0, .ref qla, .null, .null, .null]) hx hb hT zin_X2 tyX2_ok nmX2 hown hK hw hm_mo hf_mo rfl 7 (by decide) (hT _ kw_230) rfl hnm rfl rfl rfl (Nat.le_of_ble_eq_true rfl) rfl dX2_init_8 (fun H locs hw => ?_)
  obtain ⟨f3, e_f3⟩ : ∃ z, z = va_up f2 mo (.inr (2, [.int 0, .int 0, .int 0, .int 0, .int 0, .int 0, .int 0, .ref qla, .null, .null, .null])) := ⟨_, rfl⟩
  rw [← e_f3] at hw
  have hf_qla : f3 qla = .inl (cy 1, 5, .inl (fun _ => 0)) := (congrFun e_f3 qla).trans (z_up_ne (Ne.symm ne_mo_qla) hf_qla)
  have hf_mo : f3 mo = .inr (2, [.int 0, .int 0, .int 0, .int 0, .int 0, .int 0, .int 0, .ref qla, .null, .null, .null]) := (congrFun e_f3 mo).trans z_up_self
  have hfr : ∀ b ∈ L, b ≠ mo → f3 b = f b := fun b hb h0 => (congrFun e_f3 b).trans (z_up_ne h0 (hfr b hb h0))
  refine lv_aload_n hx hb dX2_init_11 rfl (lv_at hl 0 rfl) ?_
  refine lv_iconst (v := 4) hx hb dX2_init_12 (by decide) ?_
  refine z_newa (atype := .int) (n := 4) (N' := 4) (a0 := (4, .inl (fun _ => 0))) (cells := 1) (slots := 5) hx hb (hT _ kw_203) rfl 1 rfl (fun _ h => by cases h) hK hw hA (fun _ => rfl) (by decide) (by decide) (by decide) (by decide) (by decide) dX2_init_13 (fun qsa H hq_qsa hw => ?_)
  refine W.widen (k := 2) (n := 9) (by decide) (by decide) ?_
  have ne_mo_qsa : mo ≠ qsa := z_ne hm_mo hq_qsa
  have ne_qla_qsa : qla ≠ qsa := z_ne hm_qla hq_qsa
  have hn_qsa : qsa ∉ L := fun h => hq_qsa (hsub _ h)
  obtain ⟨f5, e_f5⟩ : ∃ z, z = va_up f3 qsa (.inl (cy 1, 4, .inl (fun _ => 0))) := ⟨_, rfl⟩
  obtain ⟨L4, e_L4⟩ : ∃ z, z = L1 ++ [qsa] := ⟨_, rfl⟩
  rw [← e_f5, ← e_L4] at hw
  have hm_mo : mo ∈ L4 := by rw [e_L4]; exact List.mem_append_left _ hm_mo
  have hf_mo : f5 mo = .inr (2, [.int 0, .int 0, .int 0, .int 0, .int 0, .int 0, .int 0, .ref qla, .null, .null, .null]) := (congrFun e_f5 mo).trans (z_up_ne ne_mo_qsa hf_mo)
  have hm_qla : qla ∈ L4 := by rw [e_L4]; exact List.mem_append_left _ hm_qla
  have hf_qla : f5 qla = .inl (cy 1, 5, .inl (fun _ => 0)) := (congrFun e_f5 qla).trans (z_up_ne ne_qla_qsa hf_qla)
  have hm_qsa : qsa ∈ L4 := by rw [e_L4]; exact List.mem_append_right _ (List.mem_singleton.mpr rfl)
  have hf_qsa : f5 qsa = .inl (cy 1, 4, .inl (fun _ => 0)) := (congrFun e_f5 qsa).trans z_up_self
  have hsub : ∀ b ∈ L, b ∈ L4 := fun b h => by rw [e_L4]; exact List.mem_append_left _ (hsub b h)
  have hfr : ∀ b ∈ L, b ≠ mo → f5 b = f b := fun b hb h0 => (congrFun e_f5 b).trans (z_up_ne (z_ne hb hn_qsa) (hfr b hb h0))
  refine z_putF (C := RX2) (T := TX2) (N := 11) (ci := 2) (v := .ref qsa) (fs' := [.int 0, .int 0, .int 0, .int 0, .int 0, .int 0, .int 0, .ref qla, .ref qsa, .null, .null]) hx hb hT zin_X2 tyX2_ok nmX2 hown hK hw hm_mo hf_mo rfl 8 (by decide) (hT _ kw_236) rfl hnm rfl rfl rfl (Nat.le_of_ble_eq_true rfl) rfl dX2_init_15 (fun H locs hw => ?_)
  obtain ⟨f6, e_f6⟩ : ∃ z, z = va_up f5 mo (.inr (2, [.int 0, .int 0, .int 0, .int 0, .int 0, .int 0, .int 0, .ref qla, .ref qsa, .null, .null])) := ⟨_, rfl⟩
  rw [← e_f6] at hw
  have hf_qla : f6 qla = .inl (cy 1, 5, .inl (fun _ => 0)) := (congrFun e_f6 qla).trans (z_up_ne (Ne.symm ne_mo_qla) hf_qla)
  have hf_qsa : f6 qsa = .inl (cy 1, 4, .inl (fun _ => 0)) := (congrFun e_f6 qsa).trans (z_up_ne (Ne.symm ne_mo_qsa) hf_qsa)
  have hf_mo : f6 mo = .inr (2, [.int 0, .int 0, .int 0, .int 0, .int 0, .int 0, .int 0, .ref qla, .ref qsa, .null, .null]) := (congrFun e_f6 mo).trans z_up_self
  have hfr : ∀ b ∈ L, b ≠ mo → f6 b = f b := fun b hb h0 => (congrFun e_f6 b).trans (z_up_ne h0 (hfr b hb h0))
  refine lv_aload_n hx hb dX2_init_18 rfl (lv_at hl 0 rfl) ?_
  refine lv_bipush (v := 36) hx hb dX2_init_19 (by decide) ?_
  refine z_newa (atype := .int) (n := 36) (N' := 36) (a0 := (36, .inl (fun _ => 0))) (cells := 2) (slots := 9) hx hb (hT _ kw_203) rfl 1 rfl (fun _ h => by cases h) hK hw hA (fun _ => rfl) (by decide) (by decide) (by decide) (by decide) (by decide) dX2_init_21 (fun qmi H hq_qmi hw => ?_)
  refine W.widen (k := 3) (n := 45) (by decide) (by decide) ?_
  have ne_mo_qmi : mo ≠ qmi := z_ne hm_mo hq_qmi
  have ne_qla_qmi : qla ≠ qmi := z_ne hm_qla hq_qmi
  have ne_qsa_qmi : qsa ≠ qmi := z_ne hm_qsa hq_qmi
  have hn_qmi : qmi ∉ L := fun h => hq_qmi (hsub _ h)
  obtain ⟨f8, e_f8⟩ : ∃ z, z = va_up f6 qmi (.inl (cy 1, 36, .inl (fun _ => 0))) := ⟨_, rfl⟩
  obtain ⟨L7, e_L7⟩ : ∃ z, z = L4 ++ [qmi] := ⟨_, rfl⟩
  rw [← e_f8, ← e_L7] at hw
  have hm_mo : mo ∈ L7 := by rw [e_L7]; exact List.mem_append_left _ hm_mo
  have hf_mo : f8 mo = .inr (2, [.int 0, .int 0, .int 0, .int 0, .int 0, .int 0, .int 0, .ref qla, .ref qsa, .null, .null]) := (congrFun e_f8 mo).trans (z_up_ne ne_mo_qmi hf_mo)
  have hm_qla : qla ∈ L7 := by rw [e_L7]; exact List.mem_append_left _ hm_qla
  have hf_qla : f8 qla = .inl (cy 1, 5, .inl (fun _ => 0)) := (congrFun e_f8 qla).trans (z_up_ne ne_qla_qmi hf_qla)
  have hm_qsa : qsa ∈ L7 := by rw [e_L7]; exact List.mem_append_left _ hm_qsa
  have hf_qsa : f8 qsa = .inl (cy 1, 4, .inl (fun _ => 0)) := (congrFun e_f8 qsa).trans (z_up_ne ne_qsa_qmi hf_qsa)
  have hm_qmi : qmi ∈ L7 := by rw [e_L7]; exact List.mem_append_right _ (List.mem_singleton.mpr rfl)
  have hf_qmi : f8 qmi = .inl (cy 1, 36, .inl (fun _ => 0)) := (congrFun e_f8 qmi).trans z_up_self
  have hsub : ∀ b ∈ L, b ∈ L7 := fun b h => by rw [e_L7]; exact List.mem_append_left _ (hsub b h)
  have hfr : ∀ b ∈ L, b ≠ mo → f8 b = f b := fun b hb h0 => (congrFun e_f8 b).trans (z_up_ne (z_ne hb hn_qmi) (hfr b hb h0))
  refine z_putF (C := RX2) (T := TX2) (N := 11) (ci := 2) (v := .ref qmi) (fs' := [.int 0, .int 0, .int 0, .int 0, .int 0, .int 0, .int 0, .ref qla, .ref qsa, .ref qmi, .null]) hx hb hT zin_X2 tyX2_ok nmX2 hown hK hw hm_mo hf_mo rfl 9 (by decide) (hT _ kw_239) rfl hnm rfl rfl rfl (Nat.le_of_ble_eq_true rfl) rfl dX2_init_23 (fun H locs hw => ?_)
  obtain ⟨f9, e_f9⟩ : ∃ z, z = va_up f8 mo (.inr (2, [.int 0, .int 0, .int 0, .int 0, .int 0, .int 0, .int 0, .ref qla, .ref qsa, .ref qmi, .null])) := ⟨_, rfl⟩
  rw [← e_f9] at hw
  have hf_qla : f9 qla = .inl (cy 1, 5, .inl (fun _ => 0)) := (congrFun e_f9 qla).trans (z_up_ne (Ne.symm ne_mo_qla) hf_qla)
  have hf_qsa : f9 qsa = .inl (cy 1, 4, .inl (fun _ => 0)) := (congrFun e_f9 qsa).trans (z_up_ne (Ne.symm ne_mo_qsa) hf_qsa)
  have hf_qmi : f9 qmi = .inl (cy 1, 36, .inl (fun _ => 0)) := (congrFun e_f9 qmi).trans (z_up_ne (Ne.symm ne_mo_qmi) hf_qmi)
  have hf_mo : f9 mo = .inr (2, [.int 0, .int 0, .int 0, .int 0, .int 0, .int 0, .int 0, .ref qla, .ref qsa, .ref qmi, .null]) := (congrFun e_f9 mo).trans z_up_self
  have hfr : ∀ b ∈ L, b ≠ mo → f9 b = f b := fun b hb h0 => (congrFun e_f9 b).trans (z_up_ne h0 (hfr b hb h0))
  refine lv_aload_n hx hb dX2_init_26 rfl (lv_at hl 0 rfl) ?_
  refine lv_bipush (v := 13) hx hb dX2_init_27 (by decide) ?_
  refine z_newq (n := 13) (N' := 13) (C := RX0) (cells := 3) (slots := 45) hx hb hown (hT _ kw_134) hKK.2.1 4 rfl hK hw hA (by decide) (by decide) (by decide) (by decide) (by decide) dX2_init_29 (fun qda H hq_qda hw => ?_)
  refine W.widen (k := 4) (n := 58) (by decide) (by decide) ?_
  have ne_mo_qda : mo ≠ qda := z_ne hm_mo hq_qda
  have ne_qla_qda : qla ≠ qda := z_ne hm_qla hq_qda
  have ne_qsa_qda : qsa ≠ qda := z_ne hm_qsa hq_qda
  have ne_qmi_qda : qmi ≠ qda := z_ne hm_qmi hq_qda
  have hn_qda : qda ∉ L := fun h => hq_qda (hsub _ h)
  obtain ⟨f11, e_f11⟩ : ∃ z, z = va_up f9 qda (.inl (cy 4, 13, .inr (.inr (.inr (.inr (fun _ => none)))))) := ⟨_, rfl⟩
  obtain ⟨L10, e_L10⟩ : ∃ z, z = L7 ++ [qda] := ⟨_, rfl⟩
  rw [← e_f11, ← e_L10] at hw
  have hm_mo : mo ∈ L10 := by rw [e_L10]; exact List.mem_append_left _ hm_mo
  have hf_mo : f11 mo = .inr (2, [.int 0, .int 0, .int 0, .int 0, .int 0, .int 0, .int 0, .ref qla, .ref qsa, .ref qmi, .null]) := (congrFun e_f11 mo).trans (z_up_ne ne_mo_qda hf_mo)
  have hm_qla : qla ∈ L10 := by rw [e_L10]; exact List.mem_append_left _ hm_qla
  have hf_qla : f11 qla = .inl (cy 1, 5, .inl (fun _ => 0)) := (congrFun e_f11 qla).trans (z_up_ne ne_qla_qda hf_qla)
  have hm_qsa : qsa ∈ L10 := by rw [e_L10]; exact List.mem_append_left _ hm_qsa
  have hf_qsa : f11 qsa = .inl (cy 1, 4, .inl (fun _ => 0)) := (congrFun e_f11 qsa).trans (z_up_ne ne_qsa_qda hf_qsa)
  have hm_qmi : qmi ∈ L10 := by rw [e_L10]; exact List.mem_append_left _ hm_qmi
  have hf_qmi : f11 qmi = .inl (cy 1, 36, .inl (fun _ => 0)) := (congrFun e_f11 qmi).trans (z_up_ne ne_qmi_qda hf_qmi)
  have hm_qda : qda ∈ L10 := by rw [e_L10]; exact List.mem_append_right _ (List.mem_singleton.mpr rfl)
  have hf_qda : f11 qda = .inl (cy 4, 13, .inr (.inr (.inr (.inr (fun _ => none))))) := (congrFun e_f11 qda).trans z_up_self
  have hsub : ∀ b ∈ L, b ∈ L10 := fun b h => by rw [e_L10]; exact List.mem_append_left _ (hsub b h)
  have hfr : ∀ b ∈ L, b ≠ mo → f11 b = f b := fun b hb h0 => (congrFun e_f11 b).trans (z_up_ne (z_ne hb hn_qda) (hfr b hb h0))
  refine z_putF (C := RX2) (T := TX2) (N := 11) (ci := 2) (v := .ref qda) (fs' := [.int 0, .int 0, .int 0, .int 0, .int 0, .int 0, .int 0, .ref qla, .ref qsa, .ref qmi, .ref qda]) hx hb hT zin_X2 tyX2_ok nmX2 hown hK hw hm_mo hf_mo rfl 10 (by decide) (hT _ kw_241) rfl hnm rfl rfl rfl (Nat.le_of_ble_eq_true rfl) rfl dX2_init_32 (fun H locs hw => ?_)
  obtain ⟨f12, e_f12⟩ : ∃ z, z = va_up f11 mo (.inr (2, [.int 0, .int 0, .int 0, .int 0, .int 0, .int 0, .int 0, .ref qla, .ref qsa, .ref qmi, .ref qda])) := ⟨_, rfl⟩
  rw [← e_f12] at hw
  have hf_qla : f12 qla = .inl (cy 1, 5, .inl (fun _ => 0)) := (congrFun e_f12 qla).trans (z_up_ne (Ne.symm ne_mo_qla) hf_qla)
  have hf_qsa : f12 qsa = .inl (cy 1, 4, .inl (fun _ => 0)) := (congrFun e_f12 qsa).trans (z_up_ne (Ne.symm ne_mo_qsa) hf_qsa)
  have hf_qmi : f12 qmi = .inl (cy 1, 36, .inl (fun _ => 0)) := (congrFun e_f12 qmi).trans (z_up_ne (Ne.symm ne_mo_qmi) hf_qmi)
  have hf_qda : f12 qda = .inl (cy 4, 13, .inr (.inr (.inr (.inr (fun _ => none))))) := (congrFun e_f12 qda).trans (z_up_ne (Ne.symm ne_mo_qda) hf_qda)
  have hf_mo : f12 mo = .inr (2, [.int 0, .int 0, .int 0, .int 0, .int 0, .int 0, .int 0, .ref qla, .ref qsa, .ref qmi, .ref qda]) := (congrFun e_f12 mo).trans z_up_self
  have hfr : ∀ b ∈ L, b ≠ mo → f12 b = f b := fun b hb h0 => (congrFun e_f12 b).trans (z_up_ne h0 (hfr b hb h0))
  refine lv_iconst (v := 0) hx hb dX2_init_35 (by decide) ?_
  refine lv_istore_n (lv' := [(1, .int 0), (0, .ref mo)]) hx hb dX2_init_36 rfl hl (by decide) rfl (fun ls hl => ?_)
  refine lv_iload_n hx hb dX2_init_37 rfl (lv_at hl 0 rfl) ?_
  refine lv_bipush (v := 12) hx hb dX2_init_38 (by decide) ?_
  refine z_icmp_gt (tgt := 62) hx hb (show (0 : Int32).toInt = 0 by decide) (show (12 : Int32).toInt = 12 by decide) dX2_init_40 (by decide) (fun h => absurd h (by decide)) (fun _ => ?_)
  refine lv_aload_n hx hb dX2_init_43 rfl (lv_at hl 1 rfl) ?_
  refine z_get (C := RX2) (T := TX2) (N := 11) (ci := 2) (v := .ref qda) hx hb hT zin_X2 hown hK hw hm_mo hf_mo rfl 10 (by decide) (hT _ kw_241) rfl dX2_init_44 ?_
  refine lv_iload_n hx hb dX2_init_47 rfl (lv_at hl 0 rfl) ?_
  refine z_new (C := RX0) (T := TX0) (N := 8) (ci := 0) (fs := [.int 0, .int 0, .int 0, .int 0, .int 0, .int 0, .int 0, .int 0]) (cells := 4) (slots := 58) hx hb hT zin_X0 tyX0_ok hown (hT _ kw_134) (hT _ kw_136) (hT _ kw_88) hK hw hA rfl (fun j hj => by rcases (show j = 0 ∨ j = 1 ∨ j = 2 ∨ j = 3 ∨ j = 4 ∨ j = 5 ∨ j = 6 ∨ j = 7 by omega) with rfl | rfl | rfl | rfl | rfl | rfl | rfl | rfl <;> rfl) (by decide) (by decide) dX2_init_48 (fun q13 H hq_q13 hw => ?_)
  refine W.widen (k := 5) (n := 66) (by decide) (by decide) ?_
  have ne_mo_q13 : mo ≠ q13 := z_ne hm_mo hq_q13
  have ne_qla_q13 : qla ≠ q13 := z_ne hm_qla hq_q13
  have ne_qsa_q13 : qsa ≠ q13 := z_ne hm_qsa hq_q13
  have ne_qmi_q13 : qmi ≠ q13 := z_ne hm_qmi hq_q13
  have ne_qda_q13 : qda ≠ q13 := z_ne hm_qda hq_q13
  have hn_q13 : q13 ∉ L := fun h => hq_q13 (hsub _ h)
  obtain ⟨f15, e_f15⟩ : ∃ z, z = va_up f12 q13 (.inr (0, [.int 0, .int 0, .int 0, .int 0, .int 0, .int 0, .int 0, .int 0])) := ⟨_, rfl⟩
  obtain ⟨L14, e_L14⟩ : ∃ z, z = L10 ++ [q13] := ⟨_, rfl⟩
  rw [← e_f15, ← e_L14] at hw
  have hm_mo : mo ∈ L14 := by rw [e_L14]; exact List.mem_append_left _ hm_mo
  have hf_mo : f15 mo = .inr (2, [.int 0, .int 0, .int 0, .int 0, .int 0, .int 0, .int 0, .ref qla, .ref qsa, .ref qmi, .ref qda]) := (congrFun e_f15 mo).trans (z_up_ne ne_mo_q13 hf_mo)
  have hm_qla : qla ∈ L14 := by rw [e_L14]; exact List.mem_append_left _ hm_qla
  have hf_qla : f15 qla = .inl (cy 1, 5, .inl (fun _ => 0)) := (congrFun e_f15 qla).trans (z_up_ne ne_qla_q13 hf_qla)
  have hm_qsa : qsa ∈ L14 := by rw [e_L14]; exact List.mem_append_left _ hm_qsa
  have hf_qsa : f15 qsa = .inl (cy 1, 4, .inl (fun _ => 0)) := (congrFun e_f15 qsa).trans (z_up_ne ne_qsa_q13 hf_qsa)
  have hm_qmi : qmi ∈ L14 := by rw [e_L14]; exact List.mem_append_left _ hm_qmi
  have hf_qmi : f15 qmi = .inl (cy 1, 36, .inl (fun _ => 0)) := (congrFun e_f15 qmi).trans (z_up_ne ne_qmi_q13 hf_qmi)
  have hm_qda : qda ∈ L14 := by rw [e_L14]; exact List.mem_append_left _ hm_qda
  have hf_qda : f15 qda = .inl (cy 4, 13, .inr (.inr (.inr (.inr (fun _ => none))))) := (congrFun e_f15 qda).trans (z_up_ne ne_qda_q13 hf_qda)
  have hm_q13 : q13 ∈ L14 := by rw [e_L14]; exact List.mem_append_right _ (List.mem_singleton.mpr rfl)
  have hf_q13 : f15 q13 = .inr (0, [.int 0, .int 0, .int 0, .int 0, .int 0, .int 0, .int 0, .int 0]) := (congrFun e_f15 q13).trans z_up_self
  have hsub : ∀ b ∈ L, b ∈ L14 := fun b h => by rw [e_L14]; exact List.mem_append_left _ (hsub b h)
  have hfr : ∀ b ∈ L, b ≠ mo → f15 b = f b := fun b hb h0 => (congrFun e_f15 b).trans (z_up_ne (z_ne hb hn_q13) (hfr b hb h0))
  refine lv_dup hx hb dX2_init_51 rfl ?_
  refine z_callvIN (cells := 5) (slots := 66) (b := q13) (As := []) (rest := [.ref q13, .int 0, .ref qda]) ⟨hx, hb, hml, hown, hT⟩ (c_X0_init l hm_q13 hf_q13) ⟨va_cnB 0 hT (z_goodI (fun _ h => h) kw_139) rfl rfl rfl hKK.2.2.2.2.1 (hT _ kw_88) (by decide +kernel) ⟨by decide, by decide⟩, rfl, hT _ kw_138⟩ z_mv hKK hw hA rfl hl.1 rfl (Nat.le_of_ble_eq_true rfl) dX2_init_52 ⟨by decide, by decide⟩ (fun u H locs hp hw => ?_)
  obtain ⟨rfl, hp⟩ := hp
  have hw : z_H D vwCl (z_A L sz) s.heap L14 f15 H locs := hw
  refine z_aast (r := (RX0, TX0, 8)) hx hb hK hw 4 0 hm_qda hf_qda rfl hm_q13 hf_q13 rfl (z_ix (show (0 : Int32).toInt = 0 by decide) (by decide)) dX2_init_55 (fun H locs hw => ?_)
  obtain ⟨f17, e_f17⟩ : ∃ z, z = va_up f15 qda (.inl (cy 4, 13, .inr (.inr (.inr (.inr (va_up (fun _ => none) (0 : Int32).toNatClampNeg (some q13))))))) := ⟨_, rfl⟩
  rw [← e_f17] at hw
  have hf_mo : f17 mo = .inr (2, [.int 0, .int 0, .int 0, .int 0, .int 0, .int 0, .int 0, .ref qla, .ref qsa, .ref qmi, .ref qda]) := (congrFun e_f17 mo).trans (z_up_ne ne_mo_qda hf_mo)
  have hf_qla : f17 qla = .inl (cy 1, 5, .inl (fun _ => 0)) := (congrFun e_f17 qla).trans (z_up_ne ne_qla_qda hf_qla)
  have hf_qsa : f17 qsa = .inl (cy 1, 4, .inl (fun _ => 0)) := (congrFun e_f17 qsa).trans (z_up_ne ne_qsa_qda hf_qsa)
  have hf_qmi : f17 qmi = .inl (cy 1, 36, .inl (fun _ => 0)) := (congrFun e_f17 qmi).trans (z_up_ne ne_qmi_qda hf_qmi)
  have hf_q13 : f17 q13 = .inr (0, [.int 0, .int 0, .int 0, .int 0, .int 0, .int 0, .int 0, .int 0]) := (congrFun e_f17 q13).trans (z_up_ne (Ne.symm ne_qda_q13) hf_q13)
  have hf_qda : f17 qda = .inl (cy 4, 13, .inr (.inr (.inr (.inr (va_up (fun _ => none) (0 : Int32).toNatClampNeg (some q13)))))) := (congrFun e_f17 qda).trans z_up_self
  have hfr : ∀ b ∈ L, b ≠ mo → f17 b = f b := fun b hb h0 => (congrFun e_f17 b).trans (z_up_ne (z_ne hb hn_qda) (hfr b hb h0))
  obtain ⟨g16, e_g16⟩ : ∃ z, z = (va_up (fun _ => none) (0 : Int32).toNatClampNeg (some q13)) := ⟨_, rfl⟩
  rw [← e_g16] at hf_qda
  refine lv_iinc (v := 1) (lv' := [(1, .int 1), (0, .ref mo)]) hx hb dX2_init_56 hl (k := 0) rfl (by decide) (by decide) rfl (fun ls hl => ?_)
  refine lv_goto (tgt := 37) hx hb dX2_init_59 (by decide) ?_
  refine lv_iload_n hx hb dX2_init_37 rfl (lv_at hl 0 rfl) ?_
  refine lv_bipush (v := 12) hx hb dX2_init_38 (by decide) ?_
  refine z_icmp_gt (tgt := 62) hx hb (show (1 : Int32).toInt = 1 by decide) (show (12 : Int32).toInt = 12 by decide) dX2_init_40 (by decide) (fun h => absurd h (by decide)) (fun _ => ?_)
  refine lv_aload_n hx hb dX2_init_43 rfl (lv_at hl 1 rfl) ?_
  refine z_get (C := RX2) (T := TX2) (N := 11) (ci := 2) (v := .ref qda) hx hb hT zin_X2 hown hK hw hm_mo hf_mo rfl 10 (by decide) (hT _ kw_241) rfl dX2_init_44 ?_
  refine lv_iload_n hx hb dX2_init_47 rfl (lv_at hl 0 rfl) ?_
  refine z_new (C := RX0) (T := TX0) (N := 8) (ci := 0) (fs := [.int 0, .int 0, .int 0, .int 0, .int 0, .int 0, .int 0, .int 0]) (cells := 5) (slots := 66) hx hb hT zin_X0 tyX0_ok hown (hT _ kw_134) (hT _ kw_136) (hT _ kw_88) hK hw hA rfl (fun j hj => by rcases (show j = 0 ∨ j = 1 ∨ j = 2 ∨ j = 3 ∨ j = 4 ∨ j = 5 ∨ j = 6 ∨ j = 7 by omega) with rfl | rfl | rfl | rfl | rfl | rfl | rfl | rfl <;> rfl) (by decide) (by decide) dX2_init_48 (fun q18 H hq_q18 hw => ?_)
  refine W.widen (k := 6) (n := 74) (by decide) (by decide) ?_
  have ne_mo_q18 : mo ≠ q18 := z_ne hm_mo hq_q18
  have ne_qla_q18 : qla ≠ q18 := z_ne hm_qla hq_q18
  have ne_qsa_q18 : qsa ≠ q18 := z_ne hm_qsa hq_q18
  have ne_qmi_q18 : qmi ≠ q18 := z_ne hm_qmi hq_q18
  have ne_qda_q18 : qda ≠ q18 := z_ne hm_qda hq_q18
  have hn_q18 : q18 ∉ L := fun h => hq_q18 (hsub _ h)
  obtain ⟨f20, e_f20⟩ : ∃ z, z = va_up f17 q18 (.inr (0, [.int 0, .int 0, .int 0, .int 0, .int 0, .int 0, .int 0, .int 0])) := ⟨_, rfl⟩
  obtain ⟨L19, e_L19⟩ : ∃ z, z = L14 ++ [q18] := ⟨_, rfl⟩
  rw [← e_f20, ← e_L19] at hw
  have hm_mo : mo ∈ L19 := by rw [e_L19]; exact List.mem_append_left _ hm_mo
  have hf_mo : f20 mo = .inr (2, [.int 0, .int 0, .int 0, .int 0, .int 0, .int 0, .int 0, .ref qla, .ref qsa, .ref qmi, .ref qda]) := (congrFun e_f20 mo).trans (z_up_ne ne_mo_q18 hf_mo)
  have hm_qla : qla ∈ L19 := by rw [e_L19]; exact List.mem_append_left _ hm_qla
  have hf_qla : f20 qla = .inl (cy 1, 5, .inl (fun _ => 0)) := (congrFun e_f20 qla).trans (z_up_ne ne_qla_q18 hf_qla)
  have hm_qsa : qsa ∈ L19 := by rw [e_L19]; exact List.mem_append_left _ hm_qsa
  have hf_qsa : f20 qsa = .inl (cy 1, 4, .inl (fun _ => 0)) := (congrFun e_f20 qsa).trans (z_up_ne ne_qsa_q18 hf_qsa)
  have hm_qmi : qmi ∈ L19 := by rw [e_L19]; exact List.mem_append_left _ hm_qmi
  have hf_qmi : f20 qmi = .inl (cy 1, 36, .inl (fun _ => 0)) := (congrFun e_f20 qmi).trans (z_up_ne ne_qmi_q18 hf_qmi)
  have hm_qda : qda ∈ L19 := by rw [e_L19]; exact List.mem_append_left _ hm_qda
  have hf_qda : f20 qda = .inl (cy 4, 13, .inr (.inr (.inr (.inr g16)))) := (congrFun e_f20 qda).trans (z_up_ne ne_qda_q18 hf_qda)
  have hm_q18 : q18 ∈ L19 := by rw [e_L19]; exact List.mem_append_right _ (List.mem_singleton.mpr rfl)
  have hf_q18 : f20 q18 = .inr (0, [.int 0, .int 0, .int 0, .int 0, .int 0, .int 0, .int 0, .int 0]) := (congrFun e_f20 q18).trans z_up_self
  have hsub : ∀ b ∈ L, b ∈ L19 := fun b h => by rw [e_L19]; exact List.mem_append_left _ (hsub b h)
  have hfr : ∀ b ∈ L, b ≠ mo → f20 b = f b := fun b hb h0 => (congrFun e_f20 b).trans (z_up_ne (z_ne hb hn_q18) (hfr b hb h0))
  refine lv_dup hx hb dX2_init_51 rfl ?_
  refine z_callvIN (cells := 6) (slots := 74) (b := q18) (As := []) (rest := [.ref q18, .int 1, .ref qda]) ⟨hx, hb, hml, hown, hT⟩ (c_X0_init l hm_q18 hf_q18) ⟨va_cnB 0 hT (z_goodI (fun _ h => h) kw_139) rfl rfl rfl hKK.2.2.2.2.1 (hT _ kw_88) (by decide +kernel) ⟨by decide, by decide⟩, rfl, hT _ kw_138⟩ z_mv hKK hw hA rfl hl.1 rfl (Nat.le_of_ble_eq_true rfl) dX2_init_52 ⟨by decide, by decide⟩ (fun u H locs hp hw => ?_)
  obtain ⟨rfl, hp⟩ := hp
  have hw : z_H D vwCl (z_A L sz) s.heap L19 f20 H locs := hw
  refine z_aast (r := (RX0, TX0, 8)) hx hb hK hw 4 0 hm_qda hf_qda rfl hm_q18 hf_q18 rfl (z_ix (show (1 : Int32).toInt = 1 by decide) (by decide)) dX2_init_55 (fun H locs hw => ?_)
  obtain ⟨f22, e_f22⟩ : ∃ z, z = va_up f20 qda (.inl (cy 4, 13, .inr (.inr (.inr (.inr (va_up g16 (1 : Int32).toNatClampNeg (some q18))))))) := ⟨_, rfl⟩
  rw [← e_f22] at hw
  have hf_mo : f22 mo = .inr (2, [.int 0, .int 0, .int 0, .int 0, .int 0, .int 0, .int 0, .ref qla, .ref qsa, .ref qmi, .ref qda]) := (congrFun e_f22 mo).trans (z_up_ne ne_mo_qda hf_mo)
  have hf_qla : f22 qla = .inl (cy 1, 5, .inl (fun _ => 0)) := (congrFun e_f22 qla).trans (z_up_ne ne_qla_qda hf_qla)
  have hf_qsa : f22 qsa = .inl (cy 1, 4, .inl (fun _ => 0)) := (congrFun e_f22 qsa).trans (z_up_ne ne_qsa_qda hf_qsa)
  have hf_qmi : f22 qmi = .inl (cy 1, 36, .inl (fun _ => 0)) := (congrFun e_f22 qmi).trans (z_up_ne ne_qmi_qda hf_qmi)
  have hf_q18 : f22 q18 = .inr (0, [.int 0, .int 0, .int 0, .int 0, .int 0, .int 0, .int 0, .int 0]) := (congrFun e_f22 q18).trans (z_up_ne (Ne.symm ne_qda_q18) hf_q18)
  have hf_qda : f22 qda = .inl (cy 4, 13, .inr (.inr (.inr (.inr (va_up g16 (1 : Int32).toNatClampNeg (some q18)))))) := (congrFun e_f22 qda).trans z_up_self
  have hfr : ∀ b ∈ L, b ≠ mo → f22 b = f b := fun b hb h0 => (congrFun e_f22 b).trans (z_up_ne (z_ne hb hn_qda) (hfr b hb h0))
  obtain ⟨g21, e_g21⟩ : ∃ z, z = (va_up g16 (1 : Int32).toNatClampNeg (some q18)) := ⟨_, rfl⟩
  rw [← e_g21] at hf_qda
  refine lv_iinc (v := 2) (lv' := [(1, .int 2), (0, .ref mo)]) hx hb dX2_init_56 hl (k := 0) rfl (by decide) (by decide) rfl (fun ls hl => ?_)
  refine lv_goto (tgt := 37) hx hb dX2_init_59 (by decide) ?_
  refine lv_iload_n hx hb dX2_init_37 rfl (lv_at hl 0 rfl) ?_
  refine lv_bipush (v := 12) hx hb dX2_init_38 (by decide) ?_
  refine z_icmp_gt (tgt := 62) hx hb (show (2 : Int32).toInt = 2 by decide) (show (12 : Int32).toInt = 12 by decide) dX2_init_40 (by decide) (fun h => absurd h (by decide)) (fun _ => ?_)
  refine lv_aload_n hx hb dX2_init_43 rfl (lv_at hl 1 rfl) ?_
  refine z_get (C := RX2) (T := TX2) (N := 11) (ci := 2) (v := .ref qda) hx hb hT zin_X2 hown hK hw hm_mo hf_mo rfl 10 (by decide) (hT _ kw_241) rfl dX2_init_44 ?_
  refine lv_iload_n hx hb dX2_init_47 rfl (lv_at hl 0 rfl) ?_
  refine z_new (C := RX0) (T := TX0) (N := 8) (ci := 0) (fs := [.int 0, .int 0, .int 0, .int 0, .int 0, .int 0, .int 0, .int 0]) (cells := 6) (slots := 74) hx hb hT zin_X0 tyX0_ok hown (hT _ kw_134) (hT _ kw_136) (hT _ kw_88) hK hw hA rfl (fun j hj => by rcases (show j = 0 ∨ j = 1 ∨ j = 2 ∨ j = 3 ∨ j = 4 ∨ j = 5 ∨ j = 6 ∨ j = 7 by omega) with rfl | rfl | rfl | rfl | rfl | rfl | rfl | rfl <;> rfl) (by decide) (by decide) dX2_init_48 (fun q23 H hq_q23 hw => ?_)
  refine W.widen (k := 7) (n := 82) (by decide) (by decide) ?_
  have ne_mo_q23 : mo ≠ q23 := z_ne hm_mo hq_q23
  have ne_qla_q23 : qla ≠ q23 := z_ne hm_qla hq_q23
  have ne_qsa_q23 : qsa ≠ q23 := z_ne hm_qsa hq_q23
  have ne_qmi_q23 : qmi ≠ q23 := z_ne hm_qmi hq_q23
  have ne_qda_q23 : qda ≠ q23 := z_ne hm_qda hq_q23
  have hn_q23 : q23 ∉ L := fun h => hq_q23 (hsub _ h)
  obtain ⟨f25, e_f25⟩ : ∃ z, z = va_up f22 q23 (.inr (0, [.int 0, .int 0, .int 0, .int 0, .int 0, .int 0, .int 0, .int 0])) := ⟨_, rfl⟩
  obtain ⟨L24, e_L24⟩ : ∃ z, z = L19 ++ [q23] := ⟨_, rfl⟩
  rw [← e_f25, ← e_L24] at hw
  have hm_mo : mo ∈ L24 := by rw [e_L24]; exact List.mem_append_left _ hm_mo
  have hf_mo : f25 mo = .inr (2, [.int 0, .int 0, .int 0, .int 0, .int 0, .int 0, .int 0, .ref qla, .ref qsa, .ref qmi, .ref qda]) := (congrFun e_f25 mo).trans (z_up_ne ne_mo_q23 hf_mo)
  have hm_qla : qla ∈ L24 := by rw [e_L24]; exact List.mem_append_left _ hm_qla
  have hf_qla : f25 qla = .inl (cy 1, 5, .inl (fun _ => 0)) := (congrFun e_f25 qla).trans (z_up_ne ne_qla_q23 hf_qla)
  have hm_qsa : qsa ∈ L24 := by rw [e_L24]; exact List.mem_append_left _ hm_qsa
  have hf_qsa : f25 qsa = .inl (cy 1, 4, .inl (fun _ => 0)) := (congrFun e_f25 qsa).trans (z_up_ne ne_qsa_q23 hf_qsa)
  have hm_qmi : qmi ∈ L24 := by rw [e_L24]; exact List.mem_append_left _ hm_qmi
  have hf_qmi : f25 qmi = .inl (cy 1, 36, .inl (fun _ => 0)) := (congrFun e_f25 qmi).trans (z_up_ne ne_qmi_q23 hf_qmi)
  have hm_qda : qda ∈ L24 := by rw [e_L24]; exact List.mem_append_left _ hm_qda
  have hf_qda : f25 qda = .inl (cy 4, 13, .inr (.inr (.inr (.inr g21)))) := (congrFun e_f25 qda).trans (z_up_ne ne_qda_q23 hf_qda)
  have hm_q23 : q23 ∈ L24 := by rw [e_L24]; exact List.mem_append_right _ (List.mem_singleton.mpr rfl)
  have hf_q23 : f25 q23 = .inr (0, [.int 0, .int 0, .int 0, .int 0, .int 0, .int 0, .int 0, .int 0]) := (congrFun e_f25 q23).trans z_up_self
  have hsub : ∀ b ∈ L, b ∈ L24 := fun b h => by rw [e_L24]; exact List.mem_append_left _ (hsub b h)
  have hfr : ∀ b ∈ L, b ≠ mo → f25 b = f b := fun b hb h0 => (congrFun e_f25 b).trans (z_up_ne (z_ne hb hn_q23) (hfr b hb h0))
  refine lv_dup hx hb dX2_init_51 rfl ?_
  refine z_callvIN (cells := 7) (slots := 82) (b := q23) (As := []) (rest := [.ref q23, .int 2, .ref qda]) ⟨hx, hb, hml, hown, hT⟩ (c_X0_init l hm_q23 hf_q23) ⟨va_cnB 0 hT (z_goodI (fun _ h => h) kw_139) rfl rfl rfl hKK.2.2.2.2.1 (hT _ kw_88) (by decide +kernel) ⟨by decide, by decide⟩, rfl, hT _ kw_138⟩ z_mv hKK hw hA rfl hl.1 rfl (Nat.le_of_ble_eq_true rfl) dX2_init_52 ⟨by decide, by decide⟩ (fun u H locs hp hw => ?_)
  obtain ⟨rfl, hp⟩ := hp
  have hw : z_H D vwCl (z_A L sz) s.heap L24 f25 H locs := hw
  refine z_aast (r := (RX0, TX0, 8)) hx hb hK hw 4 0 hm_qda hf_qda rfl hm_q23 hf_q23 rfl (z_ix (show (2 : Int32).toInt = 2 by decide) (by decide)) dX2_init_55 (fun H locs hw => ?_)
  obtain ⟨f27, e_f27⟩ : ∃ z, z = va_up f25 qda (.inl (cy 4, 13, .inr (.inr (.inr (.inr (va_up g21 (2 : Int32).toNatClampNeg (some q23))))))) := ⟨_, rfl⟩
  rw [← e_f27] at hw
  have hf_mo : f27 mo = .inr (2, [.int 0, .int 0, .int 0, .int 0, .int 0, .int 0, .int 0, .ref qla, .ref qsa, .ref qmi, .ref qda]) := (congrFun e_f27 mo).trans (z_up_ne ne_mo_qda hf_mo)
  have hf_qla : f27 qla = .inl (cy 1, 5, .inl (fun _ => 0)) := (congrFun e_f27 qla).trans (z_up_ne ne_qla_qda hf_qla)
  have hf_qsa : f27 qsa = .inl (cy 1, 4, .inl (fun _ => 0)) := (congrFun e_f27 qsa).trans (z_up_ne ne_qsa_qda hf_qsa)
  have hf_qmi : f27 qmi = .inl (cy 1, 36, .inl (fun _ => 0)) := (congrFun e_f27 qmi).trans (z_up_ne ne_qmi_qda hf_qmi)
  have hf_q23 : f27 q23 = .inr (0, [.int 0, .int 0, .int 0, .int 0, .int 0, .int 0, .int 0, .int 0]) := (congrFun e_f27 q23).trans (z_up_ne (Ne.symm ne_qda_q23) hf_q23)
  have hf_qda : f27 qda = .inl (cy 4, 13, .inr (.inr (.inr (.inr (va_up g21 (2 : Int32).toNatClampNeg (some q23)))))) := (congrFun e_f27 qda).trans z_up_self
  have hfr : ∀ b ∈ L, b ≠ mo → f27 b = f b := fun b hb h0 => (congrFun e_f27 b).trans (z_up_ne (z_ne hb hn_qda) (hfr b hb h0))
  obtain ⟨g26, e_g26⟩ : ∃ z, z = (va_up g21 (2 : Int32).toNatClampNeg (some q23)) := ⟨_, rfl⟩
  rw [← e_g26] at hf_qda
  refine lv_iinc (v := 3) (lv' := [(1, .int 3), (0, .ref mo)]) hx hb dX2_init_56 hl (k := 0) rfl (by decide) (by decide) rfl (fun ls hl => ?_)
  refine lv_goto (tgt := 37) hx hb dX2_init_59 (by decide) ?_
  refine lv_iload_n hx hb dX2_init_37 rfl (lv_at hl 0 rfl) ?_
  refine lv_bipush (v := 12) hx hb dX2_init_38 (by decide) ?_
  refine z_icmp_gt (tgt := 62) hx hb (show (3 : Int32).toInt = 3 by decide) (show (12 : Int32).toInt = 12 by decide) dX2_init_40 (by decide) (fun h => absurd h (by decide)) (fun _ => ?_)
  refine lv_aload_n hx hb dX2_init_43 rfl (lv_at hl 1 rfl) ?_
  refine z_get (C := RX2) (T := TX2) (N := 11) (ci := 2) (v := .ref qda) hx hb hT zin_X2 hown hK hw hm_mo hf_mo rfl 10 (by decide) (hT _ kw_241) rfl dX2_init_44 ?_
  refine lv_iload_n hx hb dX2_init_47 rfl (lv_at hl 0 rfl) ?_
  refine z_new (C := RX0) (T := TX0) (N := 8) (ci := 0) (fs := [.int 0, .int 0, .int 0, .int 0, .int 0, .int 0, .int 0, .int 0]) (cells := 7) (slots := 82) hx hb hT zin_X0 tyX0_ok hown (hT _ kw_134) (hT _ kw_136) (hT _ kw_88) hK hw hA rfl (fun j hj => by rcases (show j = 0 ∨ j = 1 ∨ j = 2 ∨ j = 3 ∨ j = 4 ∨ j = 5 ∨ j = 6 ∨ j = 7 by omega) with rfl | rfl | rfl | rfl | rfl | rfl | rfl | rfl <;> rfl) (by decide) (by decide) dX2_init_48 (fun q28 H hq_q28 hw => ?_)
  refine W.widen (k := 8) (n := 90) (by decide) (by decide) ?_
  have ne_mo_q28 : mo ≠ q28 := z_ne hm_mo hq_q28
  have ne_qla_q28 : qla ≠ q28 := z_ne hm_qla hq_q28
  have ne_qsa_q28 : qsa ≠ q28 := z_ne hm_qsa hq_q28
  have ne_qmi_q28 : qmi ≠ q28 := z_ne hm_qmi hq_q28
  have ne_qda_q28 : qda ≠ q28 := z_ne hm_qda hq_q28
  have hn_q28 : q28 ∉ L := fun h => hq_q28 (hsub _ h)
  obtain ⟨f30, e_f30⟩ : ∃ z, z = va_up f27 q28 (.inr (0, [.int 0, .int 0, .int 0, .int 0, .int 0, .int 0, .int 0, .int 0])) := ⟨_, rfl⟩
  obtain ⟨L29, e_L29⟩ : ∃ z, z = L24 ++ [q28] := ⟨_, rfl⟩
  rw [← e_f30, ← e_L29] at hw
  have hm_mo : mo ∈ L29 := by rw [e_L29]; exact List.mem_append_left _ hm_mo
  have hf_mo : f30 mo = .inr (2, [.int 0, .int 0, .int 0, .int 0, .int 0, .int 0, .int 0, .ref qla, .ref qsa, .ref qmi, .ref qda]) := (congrFun e_f30 mo).trans (z_up_ne ne_mo_q28 hf_mo)
  have hm_qla : qla ∈ L29 := by rw [e_L29]; exact List.mem_append_left _ hm_qla
  have hf_qla : f30 qla = .inl (cy 1, 5, .inl (fun _ => 0)) := (congrFun e_f30 qla).trans (z_up_ne ne_qla_q28 hf_qla)
  have hm_qsa : qsa ∈ L29 := by rw [e_L29]; exact List.mem_append_left _ hm_qsa
  have hf_qsa : f30 qsa = .inl (cy 1, 4, .inl (fun _ => 0)) := (congrFun e_f30 qsa).trans (z_up_ne ne_qsa_q28 hf_qsa)
  have hm_qmi : qmi ∈ L29 := by rw [e_L29]; exact List.mem_append_left _ hm_qmi
  have hf_qmi : f30 qmi = .inl (cy 1, 36, .inl (fun _ => 0)) := (congrFun e_f30 qmi).trans (z_up_ne ne_qmi_q28 hf_qmi)
  have hm_qda : qda ∈ L29 := by rw [e_L29]; exact List.mem_append_left _ hm_qda
  have hf_qda : f30 qda = .inl (cy 4, 13, .inr (.inr (.inr (.inr g26)))) := (congrFun e_f30 qda).trans (z_up_ne ne_qda_q28 hf_qda)
  have hm_q28 : q28 ∈ L29 := by rw [e_L29]; exact List.mem_append_right _ (List.mem_singleton.mpr rfl)
  have hf_q28 : f30 q28 = .inr (0, [.int 0, .int 0, .int 0, .int 0, .int 0, .int 0, .int 0, .int 0]) := (congrFun e_f30 q28).trans z_up_self
  have hsub : ∀ b ∈ L, b ∈ L29 := fun b h => by rw [e_L29]; exact List.mem_append_left _ (hsub b h)
  have hfr : ∀ b ∈ L, b ≠ mo → f30 b = f b := fun b hb h0 => (congrFun e_f30 b).trans (z_up_ne (z_ne hb hn_q28) (hfr b hb h0))
  refine lv_dup hx hb dX2_init_51 rfl ?_
  refine z_callvIN (cells := 8) (slots := 90) (b := q28) (As := []) (rest := [.ref q28, .int 3, .ref qda]) ⟨hx, hb, hml, hown, hT⟩ (c_X0_init l hm_q28 hf_q28) ⟨va_cnB 0 hT (z_goodI (fun _ h => h) kw_139) rfl rfl rfl hKK.2.2.2.2.1 (hT _ kw_88) (by decide +kernel) ⟨by decide, by decide⟩, rfl, hT _ kw_138⟩ z_mv hKK hw hA rfl hl.1 rfl (Nat.le_of_ble_eq_true rfl) dX2_init_52 ⟨by decide, by decide⟩ (fun u H locs hp hw => ?_)
  obtain ⟨rfl, hp⟩ := hp
  have hw : z_H D vwCl (z_A L sz) s.heap L29 f30 H locs := hw
  refine z_aast (r := (RX0, TX0, 8)) hx hb hK hw 4 0 hm_qda hf_qda rfl hm_q28 hf_q28 rfl (z_ix (show (3 : Int32).toInt = 3 by decide) (by decide)) dX2_init_55 (fun H locs hw => ?_)
  obtain ⟨f32, e_f32⟩ : ∃ z, z = va_up f30 qda (.inl (cy 4, 13, .inr (.inr (.inr (.inr (va_up g26 (3 : Int32).toNatClampNeg (some q28))))))) := ⟨_, rfl⟩
  rw [← e_f32] at hw
  have hf_mo : f32 mo = .inr (2, [.int 0, .int 0, .int 0, .int 0, .int 0, .int 0, .int 0, .ref qla, .ref qsa, .ref qmi, .ref qda]) := (congrFun e_f32 mo).trans (z_up_ne ne_mo_qda hf_mo)
  have hf_qla : f32 qla = .inl (cy 1, 5, .inl (fun _ => 0)) := (congrFun e_f32 qla).trans (z_up_ne ne_qla_qda hf_qla)
  have hf_qsa : f32 qsa = .inl (cy 1, 4, .inl (fun _ => 0)) := (congrFun e_f32 qsa).trans (z_up_ne ne_qsa_qda hf_qsa)
  have hf_qmi : f32 qmi = .inl (cy 1, 36, .inl (fun _ => 0)) := (congrFun e_f32 qmi).trans (z_up_ne ne_qmi_qda hf_qmi)
  have hf_q28 : f32 q28 = .inr (0, [.int 0, .int 0, .int 0, .int 0, .int 0, .int 0, .int 0, .int 0]) := (congrFun e_f32 q28).trans (z_up_ne (Ne.symm ne_qda_q28) hf_q28)
  have hf_qda : f32 qda = .inl (cy 4, 13, .inr (.inr (.inr (.inr (va_up g26 (3 : Int32).toNatClampNeg (some q28)))))) := (congrFun e_f32 qda).trans z_up_self
  have hfr : ∀ b ∈ L, b ≠ mo → f32 b = f b := fun b hb h0 => (congrFun e_f32 b).trans (z_up_ne (z_ne hb hn_qda) (hfr b hb h0))
  obtain ⟨g31, e_g31⟩ : ∃ z, z = (va_up g26 (3 : Int32).toNatClampNeg (some q28)) := ⟨_, rfl⟩
  rw [← e_g31] at hf_qda
  refine lv_iinc (v := 4) (lv' := [(1, .int 4), (0, .ref mo)]) hx hb dX2_init_56 hl (k := 0) rfl (by decide) (by decide) rfl (fun ls hl => ?_)
  refine lv_goto (tgt := 37) hx hb dX2_init_59 (by decide) ?_
  refine lv_iload_n hx hb dX2_init_37 rfl (lv_at hl 0 rfl) ?_
  refine lv_bipush (v := 12) hx hb dX2_init_38 (by decide) ?_
  refine z_icmp_gt (tgt := 62) hx hb (show (4 : Int32).toInt = 4 by decide) (show (12 : Int32).toInt = 12 by decide) dX2_init_40 (by decide) (fun h => absurd h (by decide)) (fun _ => ?_)
  refine lv_aload_n hx hb dX2_init_43 rfl (lv_at hl 1 rfl) ?_
  refine z_get (C := RX2) (T := TX2) (N := 11) (ci := 2) (v := .ref qda) hx hb hT zin_X2 hown hK hw hm_mo hf_mo rfl 10 (by decide) (hT _ kw_241) rfl dX2_init_44 ?_
  refine lv_iload_n hx hb dX2_init_47 rfl (lv_at hl 0 rfl) ?_
  refine z_new (C := RX0) (T := TX0) (N := 8) (ci := 0) (fs := [.int 0, .int 0, .int 0, .int 0, .int 0, .int 0, .int 0, .int 0]) (cells := 8) (slots := 90) hx hb hT zin_X0 tyX0_ok hown (hT _ kw_134) (hT _ kw_136) (hT _ kw_88) hK hw hA rfl (fun j hj => by rcases (show j = 0 ∨ j = 1 ∨ j = 2 ∨ j = 3 ∨ j = 4 ∨ j = 5 ∨ j = 6 ∨ j = 7 by omega) with rfl | rfl | rfl | rfl | rfl | rfl | rfl | rfl <;> rfl) (by decide) (by decide) dX2_init_48 (fun q33 H hq_q33 hw => ?_)
  refine W.widen (k := 9) (n := 98) (by decide) (by decide) ?_
  have ne_mo_q33 : mo ≠ q33 := z_ne hm_mo hq_q33
  have ne_qla_q33 : qla ≠ q33 := z_ne hm_qla hq_q33
  have ne_qsa_q33 : qsa ≠ q33 := z_ne hm_qsa hq_q33
  have ne_qmi_q33 : qmi ≠ q33 := z_ne hm_qmi hq_q33
  have ne_qda_q33 : qda ≠ q33 := z_ne hm_qda hq_q33
  have hn_q33 : q33 ∉ L := fun h => hq_q33 (hsub _ h)
  obtain ⟨f35, e_f35⟩ : ∃ z, z = va_up f32 q33 (.inr (0, [.int 0, .int 0, .int 0, .int 0, .int 0, .int 0, .int 0, .int 0])) := ⟨_, rfl⟩
  obtain ⟨L34, e_L34⟩ : ∃ z, z = L29 ++ [q33] := ⟨_, rfl⟩
  rw [← e_f35, ← e_L34] at hw
  have hm_mo : mo ∈ L34 := by rw [e_L34]; exact List.mem_append_left _ hm_mo
  have hf_mo : f35 mo = .inr (2, [.int 0, .int 0, .int 0, .int 0, .int 0, .int 0, .int 0, .ref qla, .ref qsa, .ref qmi, .ref qda]) := (congrFun e_f35 mo).trans (z_up_ne ne_mo_q33 hf_mo)
  have hm_qla : qla ∈ L34 := by rw [e_L34]; exact List.mem_append_left _ hm_qla
  have hf_qla : f35 qla = .inl (cy 1, 5, .inl (fun _ => 0)) := (congrFun e_f35 qla).trans (z_up_ne ne_qla_q33 hf_qla)
  have hm_qsa : qsa ∈ L34 := by rw [e_L34]; exact List.mem_append_left _ hm_qsa
  have hf_qsa : f35 qsa = .inl (cy 1, 4, .inl (fun _ => 0)) := (congrFun e_f35 qsa).trans (z_up_ne ne_qsa_q33 hf_qsa)
  have hm_qmi : qmi ∈ L34 := by rw [e_L34]; exact List.mem_append_left _ hm_qmi
  have hf_qmi : f35 qmi = .inl (cy 1, 36, .inl (fun _ => 0)) := (congrFun e_f35 qmi).trans (z_up_ne ne_qmi_q33 hf_qmi)
  have hm_qda : qda ∈ L34 := by rw [e_L34]; exact List.mem_append_left _ hm_qda
  have hf_qda : f35 qda = .inl (cy 4, 13, .inr (.inr (.inr (.inr g31)))) := (congrFun e_f35 qda).trans (z_up_ne ne_qda_q33 hf_qda)
  have hm_q33 : q33 ∈ L34 := by rw [e_L34]; exact List.mem_append_right _ (List.mem_singleton.mpr rfl)
  have hf_q33 : f35 q33 = .inr (0, [.int 0, .int 0, .int 0, .int 0, .int 0, .int 0, .int 0, .int 0]) := (congrFun e_f35 q33).trans z_up_self
  have hsub : ∀ b ∈ L, b ∈ L34 := fun b h => by rw [e_L34]; exact List.mem_append_left _ (hsub b h)
  have hfr : ∀ b ∈ L, b ≠ mo → f35 b = f b := fun b hb h0 => (congrFun e_f35 b).trans (z_up_ne (z_ne hb hn_q33) (hfr b hb h0))
  refine lv_dup hx hb dX2_init_51 rfl ?_
  refine z_callvIN (cells := 9) (slots := 98) (b := q33) (As := []) (rest := [.ref q33, .int 4, .ref qda]) ⟨hx, hb, hml, hown, hT⟩ (c_X0_init l hm_q33 hf_q33) ⟨va_cnB 0 hT (z_goodI (fun _ h => h) kw_139) rfl rfl rfl hKK.2.2.2.2.1 (hT _ kw_88) (by decide +kernel) ⟨by decide, by decide⟩, rfl, hT _ kw_138⟩ z_mv hKK hw hA rfl hl.1 rfl (Nat.le_of_ble_eq_true rfl) dX2_init_52 ⟨by decide, by decide⟩ (fun u H locs hp hw => ?_)
  obtain ⟨rfl, hp⟩ := hp
  have hw : z_H D vwCl (z_A L sz) s.heap L34 f35 H locs := hw
  refine z_aast (r := (RX0, TX0, 8)) hx hb hK hw 4 0 hm_qda hf_qda rfl hm_q33 hf_q33 rfl (z_ix (show (4 : Int32).toInt = 4 by decide) (by decide)) dX2_init_55 (fun H locs hw => ?_)
  obtain ⟨f37, e_f37⟩ : ∃ z, z = va_up f35 qda (.inl (cy 4, 13, .inr (.inr (.inr (.inr (va_up g31 (4 : Int32).toNatClampNeg (some q33))))))) := ⟨_, rfl⟩
  rw [← e_f37] at hw
  have hf_mo : f37 mo = .inr (2, [.int 0, .int 0, .int 0, .int 0, .int 0, .int 0, .int 0, .ref qla, .ref qsa, .ref qmi, .ref qda]) := (congrFun e_f37 mo).trans (z_up_ne ne_mo_qda hf_mo)
  have hf_qla : f37 qla = .inl (cy 1, 5, .inl (fun _ => 0)) := (congrFun e_f37 qla).trans (z_up_ne ne_qla_qda hf_qla)
  have hf_qsa : f37 qsa = .inl (cy 1, 4, .inl (fun _ => 0)) := (congrFun e_f37 qsa).trans (z_up_ne ne_qsa_qda hf_qsa)
  have hf_qmi : f37 qmi = .inl (cy 1, 36, .inl (fun _ => 0)) := (congrFun e_f37 qmi).trans (z_up_ne ne_qmi_qda hf_qmi)
  have hf_q33 : f37 q33 = .inr (0, [.int 0, .int 0, .int 0, .int 0, .int 0, .int 0, .int 0, .int 0]) := (congrFun e_f37 q33).trans (z_up_ne (Ne.symm ne_qda_q33) hf_q33)
  have hf_qda : f37 qda = .inl (cy 4, 13, .inr (.inr (.inr (.inr (va_up g31 (4 : Int32).toNatClampNeg (some q33)))))) := (congrFun e_f37 qda).trans z_up_self
  have hfr : ∀ b ∈ L, b ≠ mo → f37 b = f b := fun b hb h0 => (congrFun e_f37 b).trans (z_up_ne (z_ne hb hn_qda) (hfr b hb h0))
  obtain ⟨g36, e_g36⟩ : ∃ z, z = (va_up g31 (4 : Int32).toNatClampNeg (some q33)) := ⟨_, rfl⟩
  rw [← e_g36] at hf_qda
  refine lv_iinc (v := 5) (lv' := [(1, .int 5), (0, .ref mo)]) hx hb dX2_init_56 hl (k := 0) rfl (by decide) (by decide) rfl (fun ls hl => ?_)
  refine lv_goto (tgt := 37) hx hb dX2_init_59 (by decide) ?_
  refine lv_iload_n hx hb dX2_init_37 rfl (lv_at hl 0 rfl) ?_
  refine lv_bipush (v := 12) hx hb dX2_init_38 (by decide) ?_
  refine z_icmp_gt (tgt := 62) hx hb (show (5 : Int32).toInt = 5 by decide) (show (12 : Int32).toInt = 12 by decide) dX2_init_40 (by decide) (fun h => absurd h (by decide)) (fun _ => ?_)
  refine lv_aload_n hx hb dX2_init_43 rfl (lv_at hl 1 rfl) ?_
  refine z_get (C := RX2) (T := TX2) (N := 11) (ci := 2) (v := .ref qda) hx hb hT zin_X2 hown hK hw hm_mo hf_mo rfl 10 (by decide) (hT _ kw_241) rfl dX2_init_44 ?_
  refine lv_iload_n hx hb dX2_init_47 rfl (lv_at hl 0 rfl) ?_
  refine z_new (C := RX0) (T := TX0) (N := 8) (ci := 0) (fs := [.int 0, .int 0, .int 0, .int 0, .int 0, .int 0, .int 0, .int 0]) (cells := 9) (slots := 98) hx hb hT zin_X0 tyX0_ok hown (hT _ kw_134) (hT _ kw_136) (hT _ kw_88) hK hw hA rfl (fun j hj => by rcases (show j = 0 ∨ j = 1 ∨ j = 2 ∨ j = 3 ∨ j = 4 ∨ j = 5 ∨ j = 6 ∨ j = 7 by omega) with rfl | rfl | rfl | rfl | rfl | rfl | rfl | rfl <;> rfl) (by decide) (by decide) dX2_init_48 (fun q38 H hq_q38 hw => ?_)
  refine W.widen (k := 10) (n := 106) (by decide) (by decide) ?_
  have ne_mo_q38 : mo ≠ q38 := z_ne hm_mo hq_q38
  have ne_qla_q38 : qla ≠ q38 := z_ne hm_qla hq_q38
  have ne_qsa_q38 : qsa ≠ q38 := z_ne hm_qsa hq_q38
  have ne_qmi_q38 : qmi ≠ q38 := z_ne hm_qmi hq_q38
  have ne_qda_q38 : qda ≠ q38 := z_ne hm_qda hq_q38
  have hn_q38 : q38 ∉ L := fun h => hq_q38 (hsub _ h)
  obtain ⟨f40, e_f40⟩ : ∃ z, z = va_up f37 q38 (.inr (0, [.int 0, .int 0, .int 0, .int 0, .int 0, .int 0, .int 0, .int 0])) := ⟨_, rfl⟩
  obtain ⟨L39, e_L39⟩ : ∃ z, z = L34 ++ [q38] := ⟨_, rfl⟩
  rw [← e_f40, ← e_L39] at hw
  have hm_mo : mo ∈ L39 := by rw [e_L39]; exact List.mem_append_left _ hm_mo
  have hf_mo : f40 mo = .inr (2, [.int 0, .int 0, .int 0, .int 0, .int 0, .int 0, .int 0, .ref qla, .ref qsa, .ref qmi, .ref qda]) := (congrFun e_f40 mo).trans (z_up_ne ne_mo_q38 hf_mo)
  have hm_qla : qla ∈ L39 := by rw [e_L39]; exact List.mem_append_left _ hm_qla
  have hf_qla : f40 qla = .inl (cy 1, 5, .inl (fun _ => 0)) := (congrFun e_f40 qla).trans (z_up_ne ne_qla_q38 hf_qla)
  have hm_qsa : qsa ∈ L39 := by rw [e_L39]; exact List.mem_append_left _ hm_qsa
  have hf_qsa : f40 qsa = .inl (cy 1, 4, .inl (fun _ => 0)) := (congrFun e_f40 qsa).trans (z_up_ne ne_qsa_q38 hf_qsa)
  have hm_qmi : qmi ∈ L39 := by rw [e_L39]; exact List.mem_append_left _ hm_qmi
  have hf_qmi : f40 qmi = .inl (cy 1, 36, .inl (fun _ => 0)) := (congrFun e_f40 qmi).trans (z_up_ne ne_qmi_q38 hf_qmi)
  have hm_qda : qda ∈ L39 := by rw [e_L39]; exact List.mem_append_left _ hm_qda
  have hf_qda : f40 qda = .inl (cy 4, 13, .inr (.inr (.inr (.inr g36)))) := (congrFun e_f40 qda).trans (z_up_ne ne_qda_q38 hf_qda)
  have hm_q38 : q38 ∈ L39 := by rw [e_L39]; exact List.mem_append_right _ (List.mem_singleton.mpr rfl)
  have hf_q38 : f40 q38 = .inr (0, [.int 0, .int 0, .int 0, .int 0, .int 0, .int 0, .int 0, .int 0]) := (congrFun e_f40 q38).trans z_up_self
  have hsub : ∀ b ∈ L, b ∈ L39 := fun b h => by rw [e_L39]; exact List.mem_append_left _ (hsub b h)
  have hfr : ∀ b ∈ L, b ≠ mo → f40 b = f b := fun b hb h0 => (congrFun e_f40 b).trans (z_up_ne (z_ne hb hn_q38) (hfr b hb h0))
  refine lv_dup hx hb dX2_init_51 rfl ?_
  refine z_callvIN (cells := 10) (slots := 106) (b := q38) (As := []) (rest := [.ref q38, .int 5, .ref qda]) ⟨hx, hb, hml, hown, hT⟩ (c_X0_init l hm_q38 hf_q38) ⟨va_cnB 0 hT (z_goodI (fun _ h => h) kw_139) rfl rfl rfl hKK.2.2.2.2.1 (hT _ kw_88) (by decide +kernel) ⟨by decide, by decide⟩, rfl, hT _ kw_138⟩ z_mv hKK hw hA rfl hl.1 rfl (Nat.le_of_ble_eq_true rfl) dX2_init_52 ⟨by decide, by decide⟩ (fun u H locs hp hw => ?_)
  obtain ⟨rfl, hp⟩ := hp
  have hw : z_H D vwCl (z_A L sz) s.heap L39 f40 H locs := hw
  refine z_aast (r := (RX0, TX0, 8)) hx hb hK hw 4 0 hm_qda hf_qda rfl hm_q38 hf_q38 rfl (z_ix (show (5 : Int32).toInt = 5 by decide) (by decide)) dX2_init_55 (fun H locs hw => ?_)
  obtain ⟨f42, e_f42⟩ : ∃ z, z = va_up f40 qda (.inl (cy 4, 13, .inr (.inr (.inr (.inr (va_up g36 (5 : Int32).toNatClampNeg (some q38))))))) := ⟨_, rfl⟩
  rw [← e_f42] at hw
  have hf_mo : f42 mo = .inr (2, [.int 0, .int 0, .int 0, .int 0, .int 0, .int 0, .int 0, .ref qla, .ref qsa, .ref qmi, .ref qda]) := (congrFun e_f42 mo).trans (z_up_ne ne_mo_qda hf_mo)
  have hf_qla : f42 qla = .inl (cy 1, 5, .inl (fun _ => 0)) := (congrFun e_f42 qla).trans (z_up_ne ne_qla_qda hf_qla)
  have hf_qsa : f42 qsa = .inl (cy 1, 4, .inl (fun _ => 0)) := (congrFun e_f42 qsa).trans (z_up_ne ne_qsa_qda hf_qsa)
  have hf_qmi : f42 qmi = .inl (cy 1, 36, .inl (fun _ => 0)) := (congrFun e_f42 qmi).trans (z_up_ne ne_qmi_qda hf_qmi)
  have hf_q38 : f42 q38 = .inr (0, [.int 0, .int 0, .int 0, .int 0, .int 0, .int 0, .int 0, .int 0]) := (congrFun e_f42 q38).trans (z_up_ne (Ne.symm ne_qda_q38) hf_q38)
  have hf_qda : f42 qda = .inl (cy 4, 13, .inr (.inr (.inr (.inr (va_up g36 (5 : Int32).toNatClampNeg (some q38)))))) := (congrFun e_f42 qda).trans z_up_self
  have hfr : ∀ b ∈ L, b ≠ mo → f42 b = f b := fun b hb h0 => (congrFun e_f42 b).trans (z_up_ne (z_ne hb hn_qda) (hfr b hb h0))
  obtain ⟨g41, e_g41⟩ : ∃ z, z = (va_up g36 (5 : Int32).toNatClampNeg (some q38)) := ⟨_, rfl⟩
  rw [← e_g41] at hf_qda
  refine lv_iinc (v := 6) (lv' := [(1, .int 6), (0, .ref mo)]) hx hb dX2_init_56 hl (k := 0) rfl (by decide) (by decide) rfl (fun ls hl => ?_)
  refine lv_goto (tgt := 37) hx hb dX2_init_59 (by decide) ?_
  refine lv_iload_n hx hb dX2_init_37 rfl (lv_at hl 0 rfl) ?_
  refine lv_bipush (v := 12) hx hb dX2_init_38 (by decide) ?_
  refine z_icmp_gt (tgt := 62) hx hb (show (6 : Int32).toInt = 6 by decide) (show (12 : Int32).toInt = 12 by decide) dX2_init_40 (by decide) (fun h => absurd h (by decide)) (fun _ => ?_)
  refine lv_aload_n hx hb dX2_init_43 rfl (lv_at hl 1 rfl) ?_
  refine z_get (C := RX2) (T := TX2) (N := 11) (ci := 2) (v := .ref qda) hx hb hT zin_X2 hown hK hw hm_mo hf_mo rfl 10 (by decide) (hT _ kw_241) rfl dX2_init_44 ?_
  refine lv_iload_n hx hb dX2_init_47 rfl (lv_at hl 0 rfl) ?_
  refine z_new (C := RX0) (T := TX0) (N := 8) (ci := 0) (fs := [.int 0, .int 0, .int 0, .int 0, .int 0, .int 0, .int 0, .int 0]) (cells := 10) (slots := 106) hx hb hT zin_X0 tyX0_ok hown (hT _ kw_134) (hT _ kw_136) (hT _ kw_88) hK hw hA rfl (fun j hj => by rcases (show j = 0 ∨ j = 1 ∨ j = 2 ∨ j = 3 ∨ j = 4 ∨ j = 5 ∨ j = 6 ∨ j = 7 by omega) with rfl | rfl | rfl | rfl | rfl | rfl | rfl | rfl <;> rfl) (by decide) (by decide) dX2_init_48 (fun q43 H hq_q43 hw => ?_)
  refine W.widen (k := 11) (n := 114) (by decide) (by decide) ?_
  have ne_mo_q43 : mo ≠ q43 := z_ne hm_mo hq_q43
  have ne_qla_q43 : qla ≠ q43 := z_ne hm_qla hq_q43
  have ne_qsa_q43 : qsa ≠ q43 := z_ne hm_qsa hq_q43
  have ne_qmi_q43 : qmi ≠ q43 := z_ne hm_qmi hq_q43
  have ne_qda_q43 : qda ≠ q43 := z_ne hm_qda hq_q43
  have hn_q43 : q43 ∉ L := fun h => hq_q43 (hsub _ h)
  obtain ⟨f45, e_f45⟩ : ∃ z, z = va_up f42 q43 (.inr (0, [.int 0, .int 0, .int 0, .int 0, .int 0, .int 0, .int 0, .int 0])) := ⟨_, rfl⟩
  obtain ⟨L44, e_L44⟩ : ∃ z, z = L39 ++ [q43] := ⟨_, rfl⟩
  rw [← e_f45, ← e_L44] at hw
  have hm_mo : mo ∈ L44 := by rw [e_L44]; exact List.mem_append_left _ hm_mo
  have hf_mo : f45 mo = .inr (2, [.int 0, .int 0, .int 0, .int 0, .int 0, .int 0, .int 0, .ref qla, .ref qsa, .ref qmi, .ref qda]) := (congrFun e_f45 mo).trans (z_up_ne ne_mo_q43 hf_mo)
  have hm_qla : qla ∈ L44 := by rw [e_L44]; exact List.mem_append_left _ hm_qla
  have hf_qla : f45 qla = .inl (cy 1, 5, .inl (fun _ => 0)) := (congrFun e_f45 qla).trans (z_up_ne ne_qla_q43 hf_qla)
  have hm_qsa : qsa ∈ L44 := by rw [e_L44]; exact List.mem_append_left _ hm_qsa
  have hf_qsa : f45 qsa = .inl (cy 1, 4, .inl (fun _ => 0)) := (congrFun e_f45 qsa).trans (z_up_ne ne_qsa_q43 hf_qsa)
  have hm_qmi : qmi ∈ L44 := by rw [e_L44]; exact List.mem_append_left _ hm_qmi
  have hf_qmi : f45 qmi = .inl (cy 1, 36, .inl (fun _ => 0)) := (congrFun e_f45 qmi).trans (z_up_ne ne_qmi_q43 hf_qmi)
  have hm_qda : qda ∈ L44 := by rw [e_L44]; exact List.mem_append_left _ hm_qda
  have hf_qda : f45 qda = .inl (cy 4, 13, .inr (.inr (.inr (.inr g41)))) := (congrFun e_f45 qda).trans (z_up_ne ne_qda_q43 hf_qda)
  have hm_q43 : q43 ∈ L44 := by rw [e_L44]; exact List.mem_append_right _ (List.mem_singleton.mpr rfl)
  have hf_q43 : f45 q43 = .inr (0, [.int 0, .int 0, .int 0, .int 0, .int 0, .int 0, .int 0, .int 0]) := (congrFun e_f45 q43).trans z_up_self
  have hsub : ∀ b ∈ L, b ∈ L44 := fun b h => by rw [e_L44]; exact List.mem_append_left _ (hsub b h)
  have hfr : ∀ b ∈ L, b ≠ mo → f45 b = f b := fun b hb h0 => (congrFun e_f45 b).trans (z_up_ne (z_ne hb hn_q43) (hfr b hb h0))
  refine lv_dup hx hb dX2_init_51 rfl ?_
  refine z_callvIN (cells := 11) (slots := 114) (b := q43) (As := []) (rest := [.ref q43, .int 6, .ref qda]) ⟨hx, hb, hml, hown, hT⟩ (c_X0_init l hm_q43 hf_q43) ⟨va_cnB 0 hT (z_goodI (fun _ h => h) kw_139) rfl rfl rfl hKK.2.2.2.2.1 (hT _ kw_88) (by decide +kernel) ⟨by decide, by decide⟩, rfl, hT _ kw_138⟩ z_mv hKK hw hA rfl hl.1 rfl (Nat.le_of_ble_eq_true rfl) dX2_init_52 ⟨by decide, by decide⟩ (fun u H locs hp hw => ?_)
  obtain ⟨rfl, hp⟩ := hp
  have hw : z_H D vwCl (z_A L sz) s.heap L44 f45 H locs := hw
  refine z_aast (r := (RX0, TX0, 8)) hx hb hK hw 4 0 hm_qda hf_qda rfl hm_q43 hf_q43 rfl (z_ix (show (6 : Int32).toInt = 6 by decide) (by decide)) dX2_init_55 (fun H locs hw => ?_)
  obtain ⟨f47, e_f47⟩ : ∃ z, z = va_up f45 qda (.inl (cy 4, 13, .inr (.inr (.inr (.inr (va_up g41 (6 : Int32).toNatClampNeg (some q43))))))) := ⟨_, rfl⟩
  rw [← e_f47] at hw
  have hf_mo : f47 mo = .inr (2, [.int 0, .int 0, .int 0, .int 0, .int 0, .int 0, .int 0, .ref qla, .ref qsa, .ref qmi, .ref qda]) := (congrFun e_f47 mo).trans (z_up_ne ne_mo_qda hf_mo)
  have hf_qla : f47 qla = .inl (cy 1, 5, .inl (fun _ => 0)) := (congrFun e_f47 qla).trans (z_up_ne ne_qla_qda hf_qla)
  have hf_qsa : f47 qsa = .inl (cy 1, 4, .inl (fun _ => 0)) := (congrFun e_f47 qsa).trans (z_up_ne ne_qsa_qda hf_qsa)
  have hf_qmi : f47 qmi = .inl (cy 1, 36, .inl (fun _ => 0)) := (congrFun e_f47 qmi).trans (z_up_ne ne_qmi_qda hf_qmi)
  have hf_q43 : f47 q43 = .inr (0, [.int 0, .int 0, .int 0, .int 0, .int 0, .int 0, .int 0, .int 0]) := (congrFun e_f47 q43).trans (z_up_ne (Ne.symm ne_qda_q43) hf_q43)
  have hf_qda : f47 qda = .inl (cy 4, 13, .inr (.inr (.inr (.inr (va_up g41 (6 : Int32).toNatClampNeg (some q43)))))) := (congrFun e_f47 qda).trans z_up_self
  have hfr : ∀ b ∈ L, b ≠ mo → f47 b = f b := fun b hb h0 => (congrFun e_f47 b).trans (z_up_ne (z_ne hb hn_qda) (hfr b hb h0))
  obtain ⟨g46, e_g46⟩ : ∃ z, z = (va_up g41 (6 : Int32).toNatClampNeg (some q43)) := ⟨_, rfl⟩
  rw [← e_g46] at hf_qda
  refine lv_iinc (v := 7) (lv' := [(1, .int 7), (0, .ref mo)]) hx hb dX2_init_56 hl (k := 0) rfl (by decide) (by decide) rfl (fun ls hl => ?_)
  refine lv_goto (tgt := 37) hx hb dX2_init_59 (by decide) ?_
  refine lv_iload_n hx hb dX2_init_37 rfl (lv_at hl 0 rfl) ?_
  refine lv_bipush (v := 12) hx hb dX2_init_38 (by decide) ?_
  refine z_icmp_gt (tgt := 62) hx hb (show (7 : Int32).toInt = 7 by decide) (show (12 : Int32).toInt = 12 by decide) dX2_init_40 (by decide) (fun h => absurd h (by decide)) (fun _ => ?_)
  refine lv_aload_n hx hb dX2_init_43 rfl (lv_at hl 1 rfl) ?_
  refine z_get (C := RX2) (T := TX2) (N := 11) (ci := 2) (v := .ref qda) hx hb hT zin_X2 hown hK hw hm_mo hf_mo rfl 10 (by decide) (hT _ kw_241) rfl dX2_init_44 ?_
  refine lv_iload_n hx hb dX2_init_47 rfl (lv_at hl 0 rfl) ?_
  refine z_new (C := RX0) (T := TX0) (N := 8) (ci := 0) (fs := [.int 0, .int 0, .int 0, .int 0, .int 0, .int 0, .int 0, .int 0]) (cells := 11) (slots := 114) hx hb hT zin_X0 tyX0_ok hown (hT _ kw_134) (hT _ kw_136) (hT _ kw_88) hK hw hA rfl (fun j hj => by rcases (show j = 0 ∨ j = 1 ∨ j = 2 ∨ j = 3 ∨ j = 4 ∨ j = 5 ∨ j = 6 ∨ j = 7 by omega) with rfl | rfl | rfl | rfl | rfl | rfl | rfl | rfl <;> rfl) (by decide) (by decide) dX2_init_48 (fun q48 H hq_q48 hw => ?_)
  refine W.widen (k := 12) (n := 122) (by decide) (by decide) ?_
  have ne_mo_q48 : mo ≠ q48 := z_ne hm_mo hq_q48
  have ne_qla_q48 : qla ≠ q48 := z_ne hm_qla hq_q48
  have ne_qsa_q48 : qsa ≠ q48 := z_ne hm_qsa hq_q48
  have ne_qmi_q48 : qmi ≠ q48 := z_ne hm_qmi hq_q48
  have ne_qda_q48 : qda ≠ q48 := z_ne hm_qda hq_q48
  have hn_q48 : q48 ∉ L := fun h => hq_q48 (hsub _ h)
  obtain ⟨f50, e_f50⟩ : ∃ z, z = va_up f47 q48 (.inr (0, [.int 0, .int 0, .int 0, .int 0, .int 0, .int 0, .int 0, .int 0])) := ⟨_, rfl⟩
  obtain ⟨L49, e_L49⟩ : ∃ z, z = L44 ++ [q48] := ⟨_, rfl⟩
  rw [← e_f50, ← e_L49] at hw
  have hm_mo : mo ∈ L49 := by rw [e_L49]; exact List.mem_append_left _ hm_mo
  have hf_mo : f50 mo = .inr (2, [.int 0, .int 0, .int 0, .int 0, .int 0, .int 0, .int 0, .ref qla, .ref qsa, .ref qmi, .ref qda]) := (congrFun e_f50 mo).trans (z_up_ne ne_mo_q48 hf_mo)
  have hm_qla : qla ∈ L49 := by rw [e_L49]; exact List.mem_append_left _ hm_qla
  have hf_qla : f50 qla = .inl (cy 1, 5, .inl (fun _ => 0)) := (congrFun e_f50 qla).trans (z_up_ne ne_qla_q48 hf_qla)
  have hm_qsa : qsa ∈ L49 := by rw [e_L49]; exact List.mem_append_left _ hm_qsa
  have hf_qsa : f50 qsa = .inl (cy 1, 4, .inl (fun _ => 0)) := (congrFun e_f50 qsa).trans (z_up_ne ne_qsa_q48 hf_qsa)
  have hm_qmi : qmi ∈ L49 := by rw [e_L49]; exact List.mem_append_left _ hm_qmi
  have hf_qmi : f50 qmi = .inl (cy 1, 36, .inl (fun _ => 0)) := (congrFun e_f50 qmi).trans (z_up_ne ne_qmi_q48 hf_qmi)
  have hm_qda : qda ∈ L49 := by rw [e_L49]; exact List.mem_append_left _ hm_qda
  have hf_qda : f50 qda = .inl (cy 4, 13, .inr (.inr (.inr (.inr g46)))) := (congrFun e_f50 qda).trans (z_up_ne ne_qda_q48 hf_qda)
  have hm_q48 : q48 ∈ L49 := by rw [e_L49]; exact List.mem_append_right _ (List.mem_singleton.mpr rfl)
  have hf_q48 : f50 q48 = .inr (0, [.int 0, .int 0, .int 0, .int 0, .int 0, .int 0, .int 0, .int 0]) := (congrFun e_f50 q48).trans z_up_self
  have hsub : ∀ b ∈ L, b ∈ L49 := fun b h => by rw [e_L49]; exact List.mem_append_left _ (hsub b h)
  have hfr : ∀ b ∈ L, b ≠ mo → f50 b = f b := fun b hb h0 => (congrFun e_f50 b).trans (z_up_ne (z_ne hb hn_q48) (hfr b hb h0))
  refine lv_dup hx hb dX2_init_51 rfl ?_
  refine z_callvIN (cells := 12) (slots := 122) (b := q48) (As := []) (rest := [.ref q48, .int 7, .ref qda]) ⟨hx, hb, hml, hown, hT⟩ (c_X0_init l hm_q48 hf_q48) ⟨va_cnB 0 hT (z_goodI (fun _ h => h) kw_139) rfl rfl rfl hKK.2.2.2.2.1 (hT _ kw_88) (by decide +kernel) ⟨by decide, by decide⟩, rfl, hT _ kw_138⟩ z_mv hKK hw hA rfl hl.1 rfl (Nat.le_of_ble_eq_true rfl) dX2_init_52 ⟨by decide, by decide⟩ (fun u H locs hp hw => ?_)
  obtain ⟨rfl, hp⟩ := hp
  have hw : z_H D vwCl (z_A L sz) s.heap L49 f50 H locs := hw
  refine z_aast (r := (RX0, TX0, 8)) hx hb hK hw 4 0 hm_qda hf_qda rfl hm_q48 hf_q48 rfl (z_ix (show (7 : Int32).toInt = 7 by decide) (by decide)) dX2_init_55 (fun H locs hw => ?_)
  obtain ⟨f52, e_f52⟩ : ∃ z, z = va_up f50 qda (.inl (cy 4, 13, .inr (.inr (.inr (.inr (va_up g46 (7 : Int32).toNatClampNeg (some q48))))))) := ⟨_, rfl⟩
  rw [← e_f52] at hw
  have hf_mo : f52 mo = .inr (2, [.int 0, .int 0, .int 0, .int 0, .int 0, .int 0, .int 0, .ref qla, .ref qsa, .ref qmi, .ref qda]) := (congrFun e_f52 mo).trans (z_up_ne ne_mo_qda hf_mo)
  have hf_qla : f52 qla = .inl (cy 1, 5, .inl (fun _ => 0)) := (congrFun e_f52 qla).trans (z_up_ne ne_qla_qda hf_qla)
  have hf_qsa : f52 qsa = .inl (cy 1, 4, .inl (fun _ => 0)) := (congrFun e_f52 qsa).trans (z_up_ne ne_qsa_qda hf_qsa)
  have hf_qmi : f52 qmi = .inl (cy 1, 36, .inl (fun _ => 0)) := (congrFun e_f52 qmi).trans (z_up_ne ne_qmi_qda hf_qmi)
  have hf_q48 : f52 q48 = .inr (0, [.int 0, .int 0, .int 0, .int 0, .int 0, .int 0, .int 0, .int 0]) := (congrFun e_f52 q48).trans (z_up_ne (Ne.symm ne_qda_q48) hf_q48)
  have hf_qda : f52 qda = .inl (cy 4, 13, .inr (.inr (.inr (.inr (va_up g46 (7 : Int32).toNatClampNeg (some q48)))))) := (congrFun e_f52 qda).trans z_up_self
  have hfr : ∀ b ∈ L, b ≠ mo → f52 b = f b := fun b hb h0 => (congrFun e_f52 b).trans (z_up_ne (z_ne hb hn_qda) (hfr b hb h0))
  obtain ⟨g51, e_g51⟩ : ∃ z, z = (va_up g46 (7 : Int32).toNatClampNeg (some q48)) := ⟨_, rfl⟩
  rw [← e_g51] at hf_qda
  refine lv_iinc (v := 8) (lv' := [(1, .int 8), (0, .ref mo)]) hx hb dX2_init_56 hl (k := 0) rfl (by decide) (by decide) rfl (fun ls hl => ?_)
  refine lv_goto (tgt := 37) hx hb dX2_init_59 (by decide) ?_
  refine lv_iload_n hx hb dX2_init_37 rfl (lv_at hl 0 rfl) ?_
  refine lv_bipush (v := 12) hx hb dX2_init_38 (by decide) ?_
  refine z_icmp_gt (tgt := 62) hx hb (show (8 : Int32).toInt = 8 by decide) (show (12 : Int32).toInt = 12 by decide) dX2_init_40 (by decide) (fun h => absurd h (by decide)) (fun _ => ?_)
  refine lv_aload_n hx hb dX2_init_43 rfl (lv_at hl 1 rfl) ?_
  refine z_get (C := RX2) (T := TX2) (N := 11) (ci := 2) (v := .ref qda) hx hb hT zin_X2 hown hK hw hm_mo hf_mo rfl 10 (by decide) (hT _ kw_241) rfl dX2_init_44 ?_
  refine lv_iload_n hx hb dX2_init_47 rfl (lv_at hl 0 rfl) ?_
  refine z_new (C := RX0) (T := TX0) (N := 8) (ci := 0) (fs := [.int 0, .int 0, .int 0, .int 0, .int 0, .int 0, .int 0, .int 0]) (cells := 12) (slots := 122) hx hb hT zin_X0 tyX0_ok hown (hT _ kw_134) (hT _ kw_136) (hT _ kw_88) hK hw hA rfl (fun j hj => by rcases (show j = 0 ∨ j = 1 ∨ j = 2 ∨ j = 3 ∨ j = 4 ∨ j = 5 ∨ j = 6 ∨ j = 7 by omega) with rfl | rfl | rfl | rfl | rfl | rfl | rfl | rfl <;> rfl) (by decide) (by decide) dX2_init_48 (fun q53 H hq_q53 hw => ?_)
  refine W.widen (k := 13) (n := 130) (by decide) (by decide) ?_
  have ne_mo_q53 : mo ≠ q53 := z_ne hm_mo hq_q53
  have ne_qla_q53 : qla ≠ q53 := z_ne hm_qla hq_q53
  have ne_qsa_q53 : qsa ≠ q53 := z_ne hm_qsa hq_q53
  have ne_qmi_q53 : qmi ≠ q53 := z_ne hm_qmi hq_q53
  have ne_qda_q53 : qda ≠ q53 := z_ne hm_qda hq_q53
  have hn_q53 : q53 ∉ L := fun h => hq_q53 (hsub _ h)
  obtain ⟨f55, e_f55⟩ : ∃ z, z = va_up f52 q53 (.inr (0, [.int 0, .int 0, .int 0, .int 0, .int 0, .int 0, .int 0, .int 0])) := ⟨_, rfl⟩
  obtain ⟨L54, e_L54⟩ : ∃ z, z = L49 ++ [q53] := ⟨_, rfl⟩
  rw [← e_f55, ← e_L54] at hw
  have hm_mo : mo ∈ L54 := by rw [e_L54]; exact List.mem_append_left _ hm_mo
  have hf_mo : f55 mo = .inr (2, [.int 0, .int 0, .int 0, .int 0, .int 0, .int 0, .int 0, .ref qla, .ref qsa, .ref qmi, .ref qda]) := (congrFun e_f55 mo).trans (z_up_ne ne_mo_q53 hf_mo)
  have hm_qla : qla ∈ L54 := by rw [e_L54]; exact List.mem_append_left _ hm_qla
  have hf_qla : f55 qla = .inl (cy 1, 5, .inl (fun _ => 0)) := (congrFun e_f55 qla).trans (z_up_ne ne_qla_q53 hf_qla)
  have hm_qsa : qsa ∈ L54 := by rw [e_L54]; exact List.mem_append_left _ hm_qsa
  have hf_qsa : f55 qsa = .inl (cy 1, 4, .inl (fun _ => 0)) := (congrFun e_f55 qsa).trans (z_up_ne ne_qsa_q53 hf_qsa)
  have hm_qmi : qmi ∈ L54 := by rw [e_L54]; exact List.mem_append_left _ hm_qmi
  have hf_qmi : f55 qmi = .inl (cy 1, 36, .inl (fun _ => 0)) := (congrFun e_f55 qmi).trans (z_up_ne ne_qmi_q53 hf_qmi)
  have hm_qda : qda ∈ L54 := by rw [e_L54]; exact List.mem_append_left _ hm_qda
  have hf_qda : f55 qda = .inl (cy 4, 13, .inr (.inr (.inr (.inr g51)))) := (congrFun e_f55 qda).trans (z_up_ne ne_qda_q53 hf_qda)
  have hm_q53 : q53 ∈ L54 := by rw [e_L54]; exact List.mem_append_right _ (List.mem_singleton.mpr rfl)
  have hf_q53 : f55 q53 = .inr (0, [.int 0, .int 0, .int 0, .int 0, .int 0, .int 0, .int 0, .int 0]) := (congrFun e_f55 q53).trans z_up_self
  have hsub : ∀ b ∈ L, b ∈ L54 := fun b h => by rw [e_L54]; exact List.mem_append_left _ (hsub b h)
  have hfr : ∀ b ∈ L, b ≠ mo → f55 b = f b := fun b hb h0 => (congrFun e_f55 b).trans (z_up_ne (z_ne hb hn_q53) (hfr b hb h0))
  refine lv_dup hx hb dX2_init_51 rfl ?_
  refine z_callvIN (cells := 13) (slots := 130) (b := q53) (As := []) (rest := [.ref q53, .int 8, .ref qda]) ⟨hx, hb, hml, hown, hT⟩ (c_X0_init l hm_q53 hf_q53) ⟨va_cnB 0 hT (z_goodI (fun _ h => h) kw_139) rfl rfl rfl hKK.2.2.2.2.1 (hT _ kw_88) (by decide +kernel) ⟨by decide, by decide⟩, rfl, hT _ kw_138⟩ z_mv hKK hw hA rfl hl.1 rfl (Nat.le_of_ble_eq_true rfl) dX2_init_52 ⟨by decide, by decide⟩ (fun u H locs hp hw => ?_)
  obtain ⟨rfl, hp⟩ := hp
  have hw : z_H D vwCl (z_A L sz) s.heap L54 f55 H locs := hw
  refine z_aast (r := (RX0, TX0, 8)) hx hb hK hw 4 0 hm_qda hf_qda rfl hm_q53 hf_q53 rfl (z_ix (show (8 : Int32).toInt = 8 by decide) (by decide)) dX2_init_55 (fun H locs hw => ?_)
  obtain ⟨f57, e_f57⟩ : ∃ z, z = va_up f55 qda (.inl (cy 4, 13, .inr (.inr (.inr (.inr (va_up g51 (8 : Int32).toNatClampNeg (some q53))))))) := ⟨_, rfl⟩
  rw [← e_f57] at hw
  have hf_mo : f57 mo = .inr (2, [.int 0, .int 0, .int 0, .int 0, .int 0, .int 0, .int 0, .ref qla, .ref qsa, .ref qmi, .ref qda]) := (congrFun e_f57 mo).trans (z_up_ne ne_mo_qda hf_mo)
  have hf_qla : f57 qla = .inl (cy 1, 5, .inl (fun _ => 0)) := (congrFun e_f57 qla).trans (z_up_ne ne_qla_qda hf_qla)
  have hf_qsa : f57 qsa = .inl (cy 1, 4, .inl (fun _ => 0)) := (congrFun e_f57 qsa).trans (z_up_ne ne_qsa_qda hf_qsa)
  have hf_qmi : f57 qmi = .inl (cy 1, 36, .inl (fun _ => 0)) := (congrFun e_f57 qmi).trans (z_up_ne ne_qmi_qda hf_qmi)
  have hf_q53 : f57 q53 = .inr (0, [.int 0, .int 0, .int 0, .int 0, .int 0, .int 0, .int 0, .int 0]) := (congrFun e_f57 q53).trans (z_up_ne (Ne.symm ne_qda_q53) hf_q53)
  have hf_qda : f57 qda = .inl (cy 4, 13, .inr (.inr (.inr (.inr (va_up g51 (8 : Int32).toNatClampNeg (some q53)))))) := (congrFun e_f57 qda).trans z_up_self
  have hfr : ∀ b ∈ L, b ≠ mo → f57 b = f b := fun b hb h0 => (congrFun e_f57 b).trans (z_up_ne (z_ne hb hn_qda) (hfr b hb h0))
  obtain ⟨g56, e_g56⟩ : ∃ z, z = (va_up g51 (8 : Int32).toNatClampNeg (some q53)) := ⟨_, rfl⟩
  rw [← e_g56] at hf_qda
  refine lv_iinc (v := 9) (lv' := [(1, .int 9), (0, .ref mo)]) hx hb dX2_init_56 hl (k := 0) rfl (by decide) (by decide) rfl (fun ls hl => ?_)
  refine lv_goto (tgt := 37) hx hb dX2_init_59 (by decide) ?_
  refine lv_iload_n hx hb dX2_init_37 rfl (lv_at hl 0 rfl) ?_
  refine lv_bipush (v := 12) hx hb dX2_init_38 (by decide) ?_
  refine z_icmp_gt (tgt := 62) hx hb (show (9 : Int32).toInt = 9 by decide) (show (12 : Int32).toInt = 12 by decide) dX2_init_40 (by decide) (fun h => absurd h (by decide)) (fun _ => ?_)
  refine lv_aload_n hx hb dX2_init_43 rfl (lv_at hl 1 rfl) ?_
  refine z_get (C := RX2) (T := TX2) (N := 11) (ci := 2) (v := .ref qda) hx hb hT zin_X2 hown hK hw hm_mo hf_mo rfl 10 (by decide) (hT _ kw_241) rfl dX2_init_44 ?_
  refine lv_iload_n hx hb dX2_init_47 rfl (lv_at hl 0 rfl) ?_
  refine z_new (C := RX0) (T := TX0) (N := 8) (ci := 0) (fs := [.int 0, .int 0, .int 0, .int 0, .int 0, .int 0, .int 0, .int 0]) (cells := 13) (slots := 130) hx hb hT zin_X0 tyX0_ok hown (hT _ kw_134) (hT _ kw_136) (hT _ kw_88) hK hw hA rfl (fun j hj => by rcases (show j = 0 ∨ j = 1 ∨ j = 2 ∨ j = 3 ∨ j = 4 ∨ j = 5 ∨ j = 6 ∨ j = 7 by omega) with rfl | rfl | rfl | rfl | rfl | rfl | rfl | rfl <;> rfl) (by decide) (by decide) dX2_init_48 (fun q58 H hq_q58 hw => ?_)
  refine W.widen (k := 14) (n := 138) (by decide) (by decide) ?_
  have ne_mo_q58 : mo ≠ q58 := z_ne hm_mo hq_q58
  have ne_qla_q58 : qla ≠ q58 := z_ne hm_qla hq_q58
  have ne_qsa_q58 : qsa ≠ q58 := z_ne hm_qsa hq_q58
  have ne_qmi_q58 : qmi ≠ q58 := z_ne hm_qmi hq_q58
  have ne_qda_q58 : qda ≠ q58 := z_ne hm_qda hq_q58
  have hn_q58 : q58 ∉ L := fun h => hq_q58 (hsub _ h)
  obtain ⟨f60, e_f60⟩ : ∃ z, z = va_up f57 q58 (.inr (0, [.int 0, .int 0, .int 0, .int 0, .int 0, .int 0, .int 0, .int 0])) := ⟨_, rfl⟩
  obtain ⟨L59, e_L59⟩ : ∃ z, z = L54 ++ [q58] := ⟨_, rfl⟩
  rw [← e_f60, ← e_L59] at hw
  have hm_mo : mo ∈ L59 := by rw [e_L59]; exact List.mem_append_left _ hm_mo
  have hf_mo : f60 mo = .inr (2, [.int 0, .int 0, .int 0, .int 0, .int 0, .int 0, .int 0, .ref qla, .ref qsa, .ref qmi, .ref qda]) := (congrFun e_f60 mo).trans (z_up_ne ne_mo_q58 hf_mo)
  have hm_qla : qla ∈ L59 := by rw [e_L59]; exact List.mem_append_left _ hm_qla
  have hf_qla : f60 qla = .inl (cy 1, 5, .inl (fun _ => 0)) := (congrFun e_f60 qla).trans (z_up_ne ne_qla_q58 hf_qla)
  have hm_qsa : qsa ∈ L59 := by rw [e_L59]; exact List.mem_append_left _ hm_qsa
  have hf_qsa : f60 qsa = .inl (cy 1, 4, .inl (fun _ => 0)) := (congrFun e_f60 qsa).trans (z_up_ne ne_qsa_q58 hf_qsa)
  have hm_qmi : qmi ∈ L59 := by rw [e_L59]; exact List.mem_append_left _ hm_qmi
  have hf_qmi : f60 qmi = .inl (cy 1, 36, .inl (fun _ => 0)) := (congrFun e_f60 qmi).trans (z_up_ne ne_qmi_q58 hf_qmi)
  have hm_qda : qda ∈ L59 := by rw [e_L59]; exact List.mem_append_left _ hm_qda
  have hf_qda : f60 qda = .inl (cy 4, 13, .inr (.inr (.inr (.inr g56)))) := (congrFun e_f60 qda).trans (z_up_ne ne_qda_q58 hf_qda)
  have hm_q58 : q58 ∈ L59 := by rw [e_L59]; exact List.mem_append_right _ (List.mem_singleton.mpr rfl)
  have hf_q58 : f60 q58 = .inr (0, [.int 0, .int 0, .int 0, .int 0, .int 0, .int 0, .int 0, .int 0]) := (congrFun e_f60 q58).trans z_up_self
  have hsub : ∀ b ∈ L, b ∈ L59 := fun b h => by rw [e_L59]; exact List.mem_append_left _ (hsub b h)
  have hfr : ∀ b ∈ L, b ≠ mo → f60 b = f b := fun b hb h0 => (congrFun e_f60 b).trans (z_up_ne (z_ne hb hn_q58) (hfr b hb h0))
  refine lv_dup hx hb dX2_init_51 rfl ?_
  refine z_callvIN (cells := 14) (slots := 138) (b := q58) (As := []) (rest := [.ref q58, .int 9, .ref qda]) ⟨hx, hb, hml, hown, hT⟩ (c_X0_init l hm_q58 hf_q58) ⟨va_cnB 0 hT (z_goodI (fun _ h => h) kw_139) rfl rfl rfl hKK.2.2.2.2.1 (hT _ kw_88) (by decide +kernel) ⟨by decide, by decide⟩, rfl, hT _ kw_138⟩ z_mv hKK hw hA rfl hl.1 rfl (Nat.le_of_ble_eq_true rfl) dX2_init_52 ⟨by decide, by decide⟩ (fun u H locs hp hw => ?_)
  obtain ⟨rfl, hp⟩ := hp
  have hw : z_H D vwCl (z_A L sz) s.heap L59 f60 H locs := hw
  refine z_aast (r := (RX0, TX0, 8)) hx hb hK hw 4 0 hm_qda hf_qda rfl hm_q58 hf_q58 rfl (z_ix (show (9 : Int32).toInt = 9 by decide) (by decide)) dX2_init_55 (fun H locs hw => ?_)
  obtain ⟨f62, e_f62⟩ : ∃ z, z = va_up f60 qda (.inl (cy 4, 13, .inr (.inr (.inr (.inr (va_up g56 (9 : Int32).toNatClampNeg (some q58))))))) := ⟨_, rfl⟩
  rw [← e_f62] at hw
  have hf_mo : f62 mo = .inr (2, [.int 0, .int 0, .int 0, .int 0, .int 0, .int 0, .int 0, .ref qla, .ref qsa, .ref qmi, .ref qda]) := (congrFun e_f62 mo).trans (z_up_ne ne_mo_qda hf_mo)
  have hf_qla : f62 qla = .inl (cy 1, 5, .inl (fun _ => 0)) := (congrFun e_f62 qla).trans (z_up_ne ne_qla_qda hf_qla)
  have hf_qsa : f62 qsa = .inl (cy 1, 4, .inl (fun _ => 0)) := (congrFun e_f62 qsa).trans (z_up_ne ne_qsa_qda hf_qsa)
  have hf_qmi : f62 qmi = .inl (cy 1, 36, .inl (fun _ => 0)) := (congrFun e_f62 qmi).trans (z_up_ne ne_qmi_qda hf_qmi)
  have hf_q58 : f62 q58 = .inr (0, [.int 0, .int 0, .int 0, .int 0, .int 0, .int 0, .int 0, .int 0]) := (congrFun e_f62 q58).trans (z_up_ne (Ne.symm ne_qda_q58) hf_q58)
  have hf_qda : f62 qda = .inl (cy 4, 13, .inr (.inr (.inr (.inr (va_up g56 (9 : Int32).toNatClampNeg (some q58)))))) := (congrFun e_f62 qda).trans z_up_self
  have hfr : ∀ b ∈ L, b ≠ mo → f62 b = f b := fun b hb h0 => (congrFun e_f62 b).trans (z_up_ne (z_ne hb hn_qda) (hfr b hb h0))
  obtain ⟨g61, e_g61⟩ : ∃ z, z = (va_up g56 (9 : Int32).toNatClampNeg (some q58)) := ⟨_, rfl⟩
  rw [← e_g61] at hf_qda
  refine lv_iinc (v := 10) (lv' := [(1, .int 10), (0, .ref mo)]) hx hb dX2_init_56 hl (k := 0) rfl (by decide) (by decide) rfl (fun ls hl => ?_)
  refine lv_goto (tgt := 37) hx hb dX2_init_59 (by decide) ?_
  refine lv_iload_n hx hb dX2_init_37 rfl (lv_at hl 0 rfl) ?_
  refine lv_bipush (v := 12) hx hb dX2_init_38 (by decide) ?_
  refine z_icmp_gt (tgt := 62) hx hb (show (10 : Int32).toInt = 10 by decide) (show (12 : Int32).toInt = 12 by decide) dX2_init_40 (by decide) (fun h => absurd h (by decide)) (fun _ => ?_)
  refine lv_aload_n hx hb dX2_init_43 rfl (lv_at hl 1 rfl) ?_
  refine z_get (C := RX2) (T := TX2) (N := 11) (ci := 2) (v := .ref qda) hx hb hT zin_X2 hown hK hw hm_mo hf_mo rfl 10 (by decide) (hT _ kw_241) rfl dX2_init_44 ?_
  refine lv_iload_n hx hb dX2_init_47 rfl (lv_at hl 0 rfl) ?_
  refine z_new (C := RX0) (T := TX0) (N := 8) (ci := 0) (fs := [.int 0, .int 0, .int 0, .int 0, .int 0, .int 0, .int 0, .int 0]) (cells := 14) (slots := 138) hx hb hT zin_X0 tyX0_ok hown (hT _ kw_134) (hT _ kw_136) (hT _ kw_88) hK hw hA rfl (fun j hj => by rcases (show j = 0 ∨ j = 1 ∨ j = 2 ∨ j = 3 ∨ j = 4 ∨ j = 5 ∨ j = 6 ∨ j = 7 by omega) with rfl | rfl | rfl | rfl | rfl | rfl | rfl | rfl <;> rfl) (by decide) (by decide) dX2_init_48 (fun q63 H hq_q63 hw => ?_)
  refine W.widen (k := 15) (n := 146) (by decide) (by decide) ?_
  have ne_mo_q63 : mo ≠ q63 := z_ne hm_mo hq_q63
  have ne_qla_q63 : qla ≠ q63 := z_ne hm_qla hq_q63
  have ne_qsa_q63 : qsa ≠ q63 := z_ne hm_qsa hq_q63
  have ne_qmi_q63 : qmi ≠ q63 := z_ne hm_qmi hq_q63
  have ne_qda_q63 : qda ≠ q63 := z_ne hm_qda hq_q63
  have hn_q63 : q63 ∉ L := fun h => hq_q63 (hsub _ h)
  obtain ⟨f65, e_f65⟩ : ∃ z, z = va_up f62 q63 (.inr (0, [.int 0, .int 0, .int 0, .int 0, .int 0, .int 0, .int 0, .int 0])) := ⟨_, rfl⟩
  obtain ⟨L64, e_L64⟩ : ∃ z, z = L59 ++ [q63] := ⟨_, rfl⟩
  rw [← e_f65, ← e_L64] at hw
  have hm_mo : mo ∈ L64 := by rw [e_L64]; exact List.mem_append_left _ hm_mo
  have hf_mo : f65 mo = .inr (2, [.int 0, .int 0, .int 0, .int 0, .int 0, .int 0, .int 0, .ref qla, .ref qsa, .ref qmi, .ref qda]) := (congrFun e_f65 mo).trans (z_up_ne ne_mo_q63 hf_mo)
  have hm_qla : qla ∈ L64 := by rw [e_L64]; exact List.mem_append_left _ hm_qla
  have hf_qla : f65 qla = .inl (cy 1, 5, .inl (fun _ => 0)) := (congrFun e_f65 qla).trans (z_up_ne ne_qla_q63 hf_qla)
  have hm_qsa : qsa ∈ L64 := by rw [e_L64]; exact List.mem_append_left _ hm_qsa
  have hf_qsa : f65 qsa = .inl (cy 1, 4, .inl (fun _ => 0)) := (congrFun e_f65 qsa).trans (z_up_ne ne_qsa_q63 hf_qsa)
  have hm_qmi : qmi ∈ L64 := by rw [e_L64]; exact List.mem_append_left _ hm_qmi
  have hf_qmi : f65 qmi = .inl (cy 1, 36, .inl (fun _ => 0)) := (congrFun e_f65 qmi).trans (z_up_ne ne_qmi_q63 hf_qmi)
  have hm_qda : qda ∈ L64 := by rw [e_L64]; exact List.mem_append_left _ hm_qda
  have hf_qda : f65 qda = .inl (cy 4, 13, .inr (.inr (.inr (.inr g61)))) := (congrFun e_f65 qda).trans (z_up_ne ne_qda_q63 hf_qda)
  have hm_q63 : q63 ∈ L64 := by rw [e_L64]; exact List.mem_append_right _ (List.mem_singleton.mpr rfl)
  have hf_q63 : f65 q63 = .inr (0, [.int 0, .int 0, .int 0, .int 0, .int 0, .int 0, .int 0, .int 0]) := (congrFun e_f65 q63).trans z_up_self
  have hsub : ∀ b ∈ L, b ∈ L64 := fun b h => by rw [e_L64]; exact List.mem_append_left _ (hsub b h)
  have hfr : ∀ b ∈ L, b ≠ mo → f65 b = f b := fun b hb h0 => (congrFun e_f65 b).trans (z_up_ne (z_ne hb hn_q63) (hfr b hb h0))
  refine lv_dup hx hb dX2_init_51 rfl ?_
  refine z_callvIN (cells := 15) (slots := 146) (b := q63) (As := []) (rest := [.ref q63, .int 10, .ref qda]) ⟨hx, hb, hml, hown, hT⟩ (c_X0_init l hm_q63 hf_q63) ⟨va_cnB 0 hT (z_goodI (fun _ h => h) kw_139) rfl rfl rfl hKK.2.2.2.2.1 (hT _ kw_88) (by decide +kernel) ⟨by decide, by decide⟩, rfl, hT _ kw_138⟩ z_mv hKK hw hA rfl hl.1 rfl (Nat.le_of_ble_eq_true rfl) dX2_init_52 ⟨by decide, by decide⟩ (fun u H locs hp hw => ?_)
  obtain ⟨rfl, hp⟩ := hp
  have hw : z_H D vwCl (z_A L sz) s.heap L64 f65 H locs := hw
  refine z_aast (r := (RX0, TX0, 8)) hx hb hK hw 4 0 hm_qda hf_qda rfl hm_q63 hf_q63 rfl (z_ix (show (10 : Int32).toInt = 10 by decide) (by decide)) dX2_init_55 (fun H locs hw => ?_)
  obtain ⟨f67, e_f67⟩ : ∃ z, z = va_up f65 qda (.inl (cy 4, 13, .inr (.inr (.inr (.inr (va_up g61 (10 : Int32).toNatClampNeg (some q63))))))) := ⟨_, rfl⟩
  rw [← e_f67] at hw
  have hf_mo : f67 mo = .inr (2, [.int 0, .int 0, .int 0, .int 0, .int 0, .int 0, .int 0, .ref qla, .ref qsa, .ref qmi, .ref qda]) := (congrFun e_f67 mo).trans (z_up_ne ne_mo_qda hf_mo)
  have hf_qla : f67 qla = .inl (cy 1, 5, .inl (fun _ => 0)) := (congrFun e_f67 qla).trans (z_up_ne ne_qla_qda hf_qla)
  have hf_qsa : f67 qsa = .inl (cy 1, 4, .inl (fun _ => 0)) := (congrFun e_f67 qsa).trans (z_up_ne ne_qsa_qda hf_qsa)
  have hf_qmi : f67 qmi = .inl (cy 1, 36, .inl (fun _ => 0)) := (congrFun e_f67 qmi).trans (z_up_ne ne_qmi_qda hf_qmi)
  have hf_q63 : f67 q63 = .inr (0, [.int 0, .int 0, .int 0, .int 0, .int 0, .int 0, .int 0, .int 0]) := (congrFun e_f67 q63).trans (z_up_ne (Ne.symm ne_qda_q63) hf_q63)
  have hf_qda : f67 qda = .inl (cy 4, 13, .inr (.inr (.inr (.inr (va_up g61 (10 : Int32).toNatClampNeg (some q63)))))) := (congrFun e_f67 qda).trans z_up_self
  have hfr : ∀ b ∈ L, b ≠ mo → f67 b = f b := fun b hb h0 => (congrFun e_f67 b).trans (z_up_ne (z_ne hb hn_qda) (hfr b hb h0))
  obtain ⟨g66, e_g66⟩ : ∃ z, z = (va_up g61 (10 : Int32).toNatClampNeg (some q63)) := ⟨_, rfl⟩
  rw [← e_g66] at hf_qda
  refine lv_iinc (v := 11) (lv' := [(1, .int 11), (0, .ref mo)]) hx hb dX2_init_56 hl (k := 0) rfl (by decide) (by decide) rfl (fun ls hl => ?_)
  refine lv_goto (tgt := 37) hx hb dX2_init_59 (by decide) ?_
  refine lv_iload_n hx hb dX2_init_37 rfl (lv_at hl 0 rfl) ?_
  refine lv_bipush (v := 12) hx hb dX2_init_38 (by decide) ?_
  refine z_icmp_gt (tgt := 62) hx hb (show (11 : Int32).toInt = 11 by decide) (show (12 : Int32).toInt = 12 by decide) dX2_init_40 (by decide) (fun h => absurd h (by decide)) (fun _ => ?_)
  refine lv_aload_n hx hb dX2_init_43 rfl (lv_at hl 1 rfl) ?_
  refine z_get (C := RX2) (T := TX2) (N := 11) (ci := 2) (v := .ref qda) hx hb hT zin_X2 hown hK hw hm_mo hf_mo rfl 10 (by decide) (hT _ kw_241) rfl dX2_init_44 ?_
  refine lv_iload_n hx hb dX2_init_47 rfl (lv_at hl 0 rfl) ?_
  refine z_new (C := RX0) (T := TX0) (N := 8) (ci := 0) (fs := [.int 0, .int 0, .int 0, .int 0, .int 0, .int 0, .int 0, .int 0]) (cells := 15) (slots := 146) hx hb hT zin_X0 tyX0_ok hown (hT _ kw_134) (hT _ kw_136) (hT _ kw_88) hK hw hA rfl (fun j hj => by rcases (show j = 0 ∨ j = 1 ∨ j = 2 ∨ j = 3 ∨ j = 4 ∨ j = 5 ∨ j = 6 ∨ j = 7 by omega) with rfl | rfl | rfl | rfl | rfl | rfl | rfl | rfl <;> rfl) (by decide) (by decide) dX2_init_48 (fun q68 H hq_q68 hw => ?_)
  refine W.widen (k := 16) (n := 154) (by decide) (by decide) ?_
  have ne_mo_q68 : mo ≠ q68 := z_ne hm_mo hq_q68
  have ne_qla_q68 : qla ≠ q68 := z_ne hm_qla hq_q68
  have ne_qsa_q68 : qsa ≠ q68 := z_ne hm_qsa hq_q68
  have ne_qmi_q68 : qmi ≠ q68 := z_ne hm_qmi hq_q68
  have ne_qda_q68 : qda ≠ q68 := z_ne hm_qda hq_q68
  have hn_q68 : q68 ∉ L := fun h => hq_q68 (hsub _ h)
  obtain ⟨f70, e_f70⟩ : ∃ z, z = va_up f67 q68 (.inr (0, [.int 0, .int 0, .int 0, .int 0, .int 0, .int 0, .int 0, .int 0])) := ⟨_, rfl⟩
  obtain ⟨L69, e_L69⟩ : ∃ z, z = L64 ++ [q68] := ⟨_, rfl⟩
  rw [← e_f70, ← e_L69] at hw
  have hm_mo : mo ∈ L69 := by rw [e_L69]; exact List.mem_append_left _ hm_mo
  have hf_mo : f70 mo = .inr (2, [.int 0, .int 0, .int 0, .int 0, .int 0, .int 0, .int 0, .ref qla, .ref qsa, .ref qmi, .ref qda]) := (congrFun e_f70 mo).trans (z_up_ne ne_mo_q68 hf_mo)
  have hm_qla : qla ∈ L69 := by rw [e_L69]; exact List.mem_append_left _ hm_qla
  have hf_qla : f70 qla = .inl (cy 1, 5, .inl (fun _ => 0)) := (congrFun e_f70 qla).trans (z_up_ne ne_qla_q68 hf_qla)
  have hm_qsa : qsa ∈ L69 := by rw [e_L69]; exact List.mem_append_left _ hm_qsa
  have hf_qsa : f70 qsa = .inl (cy 1, 4, .inl (fun _ => 0)) := (congrFun e_f70 qsa).trans (z_up_ne ne_qsa_q68 hf_qsa)
  have hm_qmi : qmi ∈ L69 := by rw [e_L69]; exact List.mem_append_left _ hm_qmi
  have hf_qmi : f70 qmi = .inl (cy 1, 36, .inl (fun _ => 0)) := (congrFun e_f70 qmi).trans (z_up_ne ne_qmi_q68 hf_qmi)
  have hm_qda : qda ∈ L69 := by rw [e_L69]; exact List.mem_append_left _ hm_qda
  have hf_qda : f70 qda = .inl (cy 4, 13, .inr (.inr (.inr (.inr g66)))) := (congrFun e_f70 qda).trans (z_up_ne ne_qda_q68 hf_qda)
  have hm_q68 : q68 ∈ L69 := by rw [e_L69]; exact List.mem_append_right _ (List.mem_singleton.mpr rfl)
  have hf_q68 : f70 q68 = .inr (0, [.int 0, .int 0, .int 0, .int 0, .int 0, .int 0, .int 0, .int 0]) := (congrFun e_f70 q68).trans z_up_self
  have hsub : ∀ b ∈ L, b ∈ L69 := fun b h => by rw [e_L69]; exact List.mem_append_left _ (hsub b h)
  have hfr : ∀ b ∈ L, b ≠ mo → f70 b = f b := fun b hb h0 => (congrFun e_f70 b).trans (z_up_ne (z_ne hb hn_q68) (hfr b hb h0))
  refine lv_dup hx hb dX2_init_51 rfl ?_
  refine z_callvIN (cells := 16) (slots := 154) (b := q68) (As := []) (rest := [.ref q68, .int 11, .ref qda]) ⟨hx, hb, hml, hown, hT⟩ (c_X0_init l hm_q68 hf_q68) ⟨va_cnB 0 hT (z_goodI (fun _ h => h) kw_139) rfl rfl rfl hKK.2.2.2.2.1 (hT _ kw_88) (by decide +kernel) ⟨by decide, by decide⟩, rfl, hT _ kw_138⟩ z_mv hKK hw hA rfl hl.1 rfl (Nat.le_of_ble_eq_true rfl) dX2_init_52 ⟨by decide, by decide⟩ (fun u H locs hp hw => ?_)
  obtain ⟨rfl, hp⟩ := hp
  have hw : z_H D vwCl (z_A L sz) s.heap L69 f70 H locs := hw
  refine z_aast (r := (RX0, TX0, 8)) hx hb hK hw 4 0 hm_qda hf_qda rfl hm_q68 hf_q68 rfl (z_ix (show (11 : Int32).toInt = 11 by decide) (by decide)) dX2_init_55 (fun H locs hw => ?_)
  obtain ⟨f72, e_f72⟩ : ∃ z, z = va_up f70 qda (.inl (cy 4, 13, .inr (.inr (.inr (.inr (va_up g66 (11 : Int32).toNatClampNeg (some q68))))))) := ⟨_, rfl⟩
  rw [← e_f72] at hw
  have hf_mo : f72 mo = .inr (2, [.int 0, .int 0, .int 0, .int 0, .int 0, .int 0, .int 0, .ref qla, .ref qsa, .ref qmi, .ref qda]) := (congrFun e_f72 mo).trans (z_up_ne ne_mo_qda hf_mo)
  have hf_qla : f72 qla = .inl (cy 1, 5, .inl (fun _ => 0)) := (congrFun e_f72 qla).trans (z_up_ne ne_qla_qda hf_qla)
  have hf_qsa : f72 qsa = .inl (cy 1, 4, .inl (fun _ => 0)) := (congrFun e_f72 qsa).trans (z_up_ne ne_qsa_qda hf_qsa)
  have hf_qmi : f72 qmi = .inl (cy 1, 36, .inl (fun _ => 0)) := (congrFun e_f72 qmi).trans (z_up_ne ne_qmi_qda hf_qmi)
  have hf_q68 : f72 q68 = .inr (0, [.int 0, .int 0, .int 0, .int 0, .int 0, .int 0, .int 0, .int 0]) := (congrFun e_f72 q68).trans (z_up_ne (Ne.symm ne_qda_q68) hf_q68)
  have hf_qda : f72 qda = .inl (cy 4, 13, .inr (.inr (.inr (.inr (va_up g66 (11 : Int32).toNatClampNeg (some q68)))))) := (congrFun e_f72 qda).trans z_up_self
  have hfr : ∀ b ∈ L, b ≠ mo → f72 b = f b := fun b hb h0 => (congrFun e_f72 b).trans (z_up_ne (z_ne hb hn_qda) (hfr b hb h0))
  obtain ⟨g71, e_g71⟩ : ∃ z, z = (va_up g66 (11 : Int32).toNatClampNeg (some q68)) := ⟨_, rfl⟩
  rw [← e_g71] at hf_qda
  refine lv_iinc (v := 12) (lv' := [(1, .int 12), (0, .ref mo)]) hx hb dX2_init_56 hl (k := 0) rfl (by decide) (by decide) rfl (fun ls hl => ?_)
  refine lv_goto (tgt := 37) hx hb dX2_init_59 (by decide) ?_
  refine lv_iload_n hx hb dX2_init_37 rfl (lv_at hl 0 rfl) ?_
  refine lv_bipush (v := 12) hx hb dX2_init_38 (by decide) ?_
  refine z_icmp_gt (tgt := 62) hx hb (show (12 : Int32).toInt = 12 by decide) (show (12 : Int32).toInt = 12 by decide) dX2_init_40 (by decide) (fun h => absurd h (by decide)) (fun _ => ?_)
  refine lv_aload_n hx hb dX2_init_43 rfl (lv_at hl 1 rfl) ?_
  refine z_get (C := RX2) (T := TX2) (N := 11) (ci := 2) (v := .ref qda) hx hb hT zin_X2 hown hK hw hm_mo hf_mo rfl 10 (by decide) (hT _ kw_241) rfl dX2_init_44 ?_
  refine lv_iload_n hx hb dX2_init_47 rfl (lv_at hl 0 rfl) ?_
  refine z_new (C := RX0) (T := TX0) (N := 8) (ci := 0) (fs := [.int 0, .int 0, .int 0, .int 0, .int 0, .int 0, .int 0, .int 0]) (cells := 16) (slots := 154) hx hb hT zin_X0 tyX0_ok hown (hT _ kw_134) (hT _ kw_136) (hT _ kw_88) hK hw hA rfl (fun j hj => by rcases (show j = 0 ∨ j = 1 ∨ j = 2 ∨ j = 3 ∨ j = 4 ∨ j = 5 ∨ j = 6 ∨ j = 7 by omega) with rfl | rfl | rfl | rfl | rfl | rfl | rfl | rfl <;> rfl) (by decide) (by decide) dX2_init_48 (fun q73 H hq_q73 hw => ?_)
  refine W.widen (k := 17) (n := 162) (by decide) (by decide) ?_
  have ne_mo_q73 : mo ≠ q73 := z_ne hm_mo hq_q73
  have ne_qla_q73 : qla ≠ q73 := z_ne hm_qla hq_q73
  have ne_qsa_q73 : qsa ≠ q73 := z_ne hm_qsa hq_q73
  have ne_qmi_q73 : qmi ≠ q73 := z_ne hm_qmi hq_q73
  have ne_qda_q73 : qda ≠ q73 := z_ne hm_qda hq_q73
  have hn_q73 : q73 ∉ L := fun h => hq_q73 (hsub _ h)
  obtain ⟨f75, e_f75⟩ : ∃ z, z = va_up f72 q73 (.inr (0, [.int 0, .int 0, .int 0, .int 0, .int 0, .int 0, .int 0, .int 0])) := ⟨_, rfl⟩
  obtain ⟨L74, e_L74⟩ : ∃ z, z = L69 ++ [q73] := ⟨_, rfl⟩
  rw [← e_f75, ← e_L74] at hw
  have hm_mo : mo ∈ L74 := by rw [e_L74]; exact List.mem_append_left _ hm_mo
  have hf_mo : f75 mo = .inr (2, [.int 0, .int 0, .int 0, .int 0, .int 0, .int 0, .int 0, .ref qla, .ref qsa, .ref qmi, .ref qda]) := (congrFun e_f75 mo).trans (z_up_ne ne_mo_q73 hf_mo)
  have hm_qla : qla ∈ L74 := by rw [e_L74]; exact List.mem_append_left _ hm_qla
  have hf_qla : f75 qla = .inl (cy 1, 5, .inl (fun _ => 0)) := (congrFun e_f75 qla).trans (z_up_ne ne_qla_q73 hf_qla)
  have hm_qsa : qsa ∈ L74 := by rw [e_L74]; exact List.mem_append_left _ hm_qsa
  have hf_qsa : f75 qsa = .inl (cy 1, 4, .inl (fun _ => 0)) := (congrFun e_f75 qsa).trans (z_up_ne ne_qsa_q73 hf_qsa)
  have hm_qmi : qmi ∈ L74 := by rw [e_L74]; exact List.mem_append_left _ hm_qmi
  have hf_qmi : f75 qmi = .inl (cy 1, 36, .inl (fun _ => 0)) := (congrFun e_f75 qmi).trans (z_up_ne ne_qmi_q73 hf_qmi)
  have hm_qda : qda ∈ L74 := by rw [e_L74]; exact List.mem_append_left _ hm_qda
  have hf_qda : f75 qda = .inl (cy 4, 13, .inr (.inr (.inr (.inr g71)))) := (congrFun e_f75 qda).trans (z_up_ne ne_qda_q73 hf_qda)
  have hm_q73 : q73 ∈ L74 := by rw [e_L74]; exact List.mem_append_right _ (List.mem_singleton.mpr rfl)
  have hf_q73 : f75 q73 = .inr (0, [.int 0, .int 0, .int 0, .int 0, .int 0, .int 0, .int 0, .int 0]) := (congrFun e_f75 q73).trans z_up_self
  have hsub : ∀ b ∈ L, b ∈ L74 := fun b h => by rw [e_L74]; exact List.mem_append_left _ (hsub b h)
  have hfr : ∀ b ∈ L, b ≠ mo → f75 b = f b := fun b hb h0 => (congrFun e_f75 b).trans (z_up_ne (z_ne hb hn_q73) (hfr b hb h0))
  refine lv_dup hx hb dX2_init_51 rfl ?_
  refine z_callvIN (cells := 17) (slots := 162) (b := q73) (As := []) (rest := [.ref q73, .int 12, .ref qda]) ⟨hx, hb, hml, hown, hT⟩ (c_X0_init l hm_q73 hf_q73) ⟨va_cnB 0 hT (z_goodI (fun _ h => h) kw_139) rfl rfl rfl hKK.2.2.2.2.1 (hT _ kw_88) (by decide +kernel) ⟨by decide, by decide⟩, rfl, hT _ kw_138⟩ z_mv hKK hw hA rfl hl.1 rfl (Nat.le_of_ble_eq_true rfl) dX2_init_52 ⟨by decide, by decide⟩ (fun u H locs hp hw => ?_)
  obtain ⟨rfl, hp⟩ := hp
  have hw : z_H D vwCl (z_A L sz) s.heap L74 f75 H locs := hw
  refine z_aast (r := (RX0, TX0, 8)) hx hb hK hw 4 0 hm_qda hf_qda rfl hm_q73 hf_q73 rfl (z_ix (show (12 : Int32).toInt = 12 by decide) (by decide)) dX2_init_55 (fun H locs hw => ?_)
  obtain ⟨f77, e_f77⟩ : ∃ z, z = va_up f75 qda (.inl (cy 4, 13, .inr (.inr (.inr (.inr (va_up g71 (12 : Int32).toNatClampNeg (some q73))))))) := ⟨_, rfl⟩
  rw [← e_f77] at hw
  have hf_mo : f77 mo = .inr (2, [.int 0, .int 0, .int 0, .int 0, .int 0, .int 0, .int 0, .ref qla, .ref qsa, .ref qmi, .ref qda]) := (congrFun e_f77 mo).trans (z_up_ne ne_mo_qda hf_mo)
  have hf_qla : f77 qla = .inl (cy 1, 5, .inl (fun _ => 0)) := (congrFun e_f77 qla).trans (z_up_ne ne_qla_qda hf_qla)
  have hf_qsa : f77 qsa = .inl (cy 1, 4, .inl (fun _ => 0)) := (congrFun e_f77 qsa).trans (z_up_ne ne_qsa_qda hf_qsa)
  have hf_qmi : f77 qmi = .inl (cy 1, 36, .inl (fun _ => 0)) := (congrFun e_f77 qmi).trans (z_up_ne ne_qmi_qda hf_qmi)
  have hf_q73 : f77 q73 = .inr (0, [.int 0, .int 0, .int 0, .int 0, .int 0, .int 0, .int 0, .int 0]) := (congrFun e_f77 q73).trans (z_up_ne (Ne.symm ne_qda_q73) hf_q73)
  have hf_qda : f77 qda = .inl (cy 4, 13, .inr (.inr (.inr (.inr (va_up g71 (12 : Int32).toNatClampNeg (some q73)))))) := (congrFun e_f77 qda).trans z_up_self
  have hfr : ∀ b ∈ L, b ≠ mo → f77 b = f b := fun b hb h0 => (congrFun e_f77 b).trans (z_up_ne (z_ne hb hn_qda) (hfr b hb h0))
  obtain ⟨g76, e_g76⟩ : ∃ z, z = (va_up g71 (12 : Int32).toNatClampNeg (some q73)) := ⟨_, rfl⟩
  rw [← e_g76] at hf_qda
  refine lv_iinc (v := 13) (lv' := [(1, .int 13), (0, .ref mo)]) hx hb dX2_init_56 hl (k := 0) rfl (by decide) (by decide) rfl (fun ls hl => ?_)
  refine lv_goto (tgt := 37) hx hb dX2_init_59 (by decide) ?_
  refine lv_iload_n hx hb dX2_init_37 rfl (lv_at hl 0 rfl) ?_
  refine lv_bipush (v := 12) hx hb dX2_init_38 (by decide) ?_
  refine z_icmp_gt (tgt := 62) hx hb (show (13 : Int32).toInt = 13 by decide) (show (12 : Int32).toInt = 12 by decide) dX2_init_40 (by decide) (fun _ => ?_) (fun h => absurd h (by decide))
  exact z_vret hx hb hr hlk (by decide) (by decide) hw (⟨hsub, hfr, qla, qsa, qmi, qda, hf_mo, ⟨hn_qla, hm_qla, hf_qla⟩, ⟨hn_qsa, hm_qsa, hf_qsa⟩, ⟨hn_qmi, hm_qmi, hf_qmi⟩, trivial⟩) dX2_init_62

set_option maxHeartbeats 2000000 in
set_option maxRecDepth 100000 in
theorem c_X5_init (l : Launch) {D : va_G} {cy : Nat → ClassId} {L : List Nat} {f : Nat → va_E} {sz : Nat} {rd tp dr : Nat} (hm_rd : rd ∈ L) (hf_rd : f rd = .inr (5, [.int 0, .int 0, .null, .null, .int 0, .int 0, .int 0, .int 0, .int 0])) : Met l yX5_init (z_ws yX5_init cX5_init 3 none) (z_R 1 0 0) (va_Pc [.ref rd, .ref tp, .ref dr] (z_Pre D vwCl (z_K D cy) L f sz)) (z_Qv D vwCl (fun u => (∀ b ∈ L, b ∈ u.1) ∧ (∀ b ∈ L, b ≠ rd → u.2 b = f b) ∧ ((u.2 rd = .inr (5, [.int 0, .int (-1), .ref tp, .ref dr, .int 0, .int 0, .int 0, .int 0, .int 0])) ∧ (True))) L sz) 0 0 (z_A L sz) := by
  refine z_met (cc := cX5_init) (maxL := 3) (ret := none) (lv := [(0, .ref rd), (1, .ref tp), (2, .ref dr)]) (by decide) rfl (Nat.le_of_ble_eq_true rfl) rfl ?_
  intro p e s m below meth c ls hx hb hr hlk hml hown hnm hts hKK hA hw hl
  have hK := hKK.1
  have hown : s.vm.findClass RX5 = some m.cls := hown
  have hT : ∀ w ∈ lw_all, w.before ([.ref rd, .ref tp, .ref dr] : List Value).toArray s = true := fun w h => hts w (z_cons w h)
  have hsub : ∀ b ∈ L, b ∈ L := fun _ h => h
  have hfr : ∀ b ∈ L, b ≠ rd → f b = f b := fun _ _ _ => rfl
  refine lv_aload_n hx hb dX5_init_0 rfl (lv_at hl 0 rfl) ?_
  refine W.objInit hx hb hown (hT _ ko_RX5) (hT _ ko_i) (hT _ ko_c) rfl (by rw [hml]; exact hl.1) rfl dX5_init_1 (Nat.le_of_ble_eq_true rfl) (Nat.le_of_ble_eq_true rfl) ?_
  refine W.eq (g2 := F0 m 4 ls []) rfl ?_
  refine lv_aload_n hx hb dX5_init_4 rfl (lv_at hl 0 rfl) ?_
  refine lv_iconst (v := (-1)) hx hb dX5_init_5 (by decide) ?_
  refine z_put (C := RX5) (T := TX5) (N := 9) (ci := 5) (v := .int (-1)) (fs' := [.int 0, .int (-1), .null, .null, .int 0, .int 0, .int 0, .int 0, .int 0]) hx hb hT zin_X5 tyX5_ok nmX5 hown hK hw hm_rd hf_rd rfl 1 (by decide) (hT _ kw_279) rfl rfl rfl (Nat.le_of_ble_eq_true rfl) rfl dX5_init_6 (fun H locs hw => ?_)
  obtain ⟨f1, e_f1⟩ : ∃ z, z = va_up f rd (.inr (5, [.int 0, .int (-1), .null, .null, .int 0, .int 0, .int 0, .int 0, .int 0])) := ⟨_, rfl⟩
  rw [← e_f1] at hw
  have hf_rd : f1 rd = .inr (5, [.int 0, .int (-1), .null, .null, .int 0, .int 0, .int 0, .int 0, .int 0]) := (congrFun e_f1 rd).trans z_up_self
  have hfr : ∀ b ∈ L, b ≠ rd → f1 b = f b := fun b hb h0 => (congrFun e_f1 b).trans (z_up_ne h0 (hfr b hb h0))
  refine lv_aload_n hx hb dX5_init_9 rfl (lv_at hl 0 rfl) ?_
  refine lv_aload_n hx hb dX5_init_10 rfl (lv_at hl 1 rfl) ?_
  refine z_putF (C := RX5) (T := TX5) (N := 9) (ci := 5) (v := .ref tp) (fs' := [.int 0, .int (-1), .ref tp, .null, .int 0, .int 0, .int 0, .int 0, .int 0]) hx hb hT zin_X5 tyX5_ok nmX5 hown hK hw hm_rd hf_rd rfl 2 (by decide) (hT _ kw_281) rfl hnm rfl rfl rfl (Nat.le_of_ble_eq_true rfl) rfl dX5_init_11 (fun H locs hw => ?_)
  obtain ⟨f2, e_f2⟩ : ∃ z, z = va_up f1 rd (.inr (5, [.int 0, .int (-1), .ref tp, .null, .int 0, .int 0, .int 0, .int 0, .int 0])) := ⟨_, rfl⟩
  rw [← e_f2] at hw
  have hf_rd : f2 rd = .inr (5, [.int 0, .int (-1), .ref tp, .null, .int 0, .int 0, .int 0, .int 0, .int 0]) := (congrFun e_f2 rd).trans z_up_self
  have hfr : ∀ b ∈ L, b ≠ rd → f2 b = f b := fun b hb h0 => (congrFun e_f2 b).trans (z_up_ne h0 (hfr b hb h0))
  refine lv_aload_n hx hb dX5_init_14 rfl (lv_at hl 0 rfl) ?_
  refine lv_aload_n hx hb dX5_init_15 rfl (lv_at hl 2 rfl) ?_
  refine z_putF (C := RX5) (T := TX5) (N := 9) (ci := 5) (v := .ref dr) (fs' := [.int 0, .int (-1), .ref tp, .ref dr, .int 0, .int 0, .int 0, .int 0, .int 0]) hx hb hT zin_X5 tyX5_ok nmX5 hown hK hw hm_rd hf_rd rfl 3 (by decide) (hT _ kw_282) rfl hnm rfl rfl rfl (Nat.le_of_ble_eq_true rfl) rfl dX5_init_16 (fun H locs hw => ?_)
  obtain ⟨f3, e_f3⟩ : ∃ z, z = va_up f2 rd (.inr (5, [.int 0, .int (-1), .ref tp, .ref dr, .int 0, .int 0, .int 0, .int 0, .int 0])) := ⟨_, rfl⟩
  rw [← e_f3] at hw
  have hf_rd : f3 rd = .inr (5, [.int 0, .int (-1), .ref tp, .ref dr, .int 0, .int 0, .int 0, .int 0, .int 0]) := (congrFun e_f3 rd).trans z_up_self
  have hfr : ∀ b ∈ L, b ≠ rd → f3 b = f b := fun b hb h0 => (congrFun e_f3 b).trans (z_up_ne h0 (hfr b hb h0))
  exact z_vret hx hb hr hlk (by decide) (by decide) hw (⟨hsub, hfr, hf_rd, trivial⟩) dX5_init_19

set_option maxHeartbeats 2000000 in
set_option maxRecDepth 100000 in
theorem c_X6_init (l : Launch) {D : va_G} {cy : Nat → ClassId} {L : List Nat} {f : Nat → va_E} {sz : Nat} {sl : Nat} (hm_sl : sl ∈ L) (hf_sl : f sl = .inr (6, [.null, .null, .null])) : Met l yX6_init (z_ws yX6_init cX6_init 1 none) (z_R 2 7 252) (va_Pc [.ref sl] (z_Pre D vwCl (z_K D cy) L f sz)) (z_Qv D vwCl (fun u => (∀ b ∈ L, b ∈ u.1) ∧ (∀ b ∈ L, b ≠ sl → u.2 b = f b) ∧ (∃ (nu r0 r1 r2 r3 wi si : Nat) (gn : Nat → Option Nat) (gs : Nat → Int32), (u.2 sl = .inr (6, [.ref nu, .ref wi, .ref si])) ∧ (nu ∉ L ∧ nu ∈ u.1 ∧ u.2 nu = .inl (cy 6, 4, .inr (.inr (.inr (.inr gn))))) ∧ (r0 ∉ L ∧ r0 ∈ u.1 ∧ u.2 r0 = .inl (cy 2, 60, .inr (.inl (fun _ => 0)))) ∧ (r1 ∉ L ∧ r1 ∈ u.1 ∧ u.2 r1 = .inl (cy 2, 60, .inr (.inl (fun _ => 0)))) ∧ (r2 ∉ L ∧ r2 ∈ u.1 ∧ u.2 r2 = .inl (cy 2, 60, .inr (.inl (fun _ => 0)))) ∧ (r3 ∉ L ∧ r3 ∈ u.1 ∧ u.2 r3 = .inl (cy 2, 60, .inr (.inl (fun _ => 0)))) ∧ (wi ∉ L ∧ wi ∈ u.1 ∧ u.2 wi = .inl (cy 1, 4, .inl (fun _ => 0))) ∧ (si ∉ L ∧ si ∈ u.1 ∧ u.2 si = .inl (cy 1, 4, .inl gs)) ∧ (gn 0 = some r0 ∧ gn 1 = some r1 ∧ gn 2 = some r2 ∧ gn 3 = some r3 ∧ (∀ j : Nat, j < 4 → gs j = -1) ∧ wi ≠ si))) L sz) 7 252 (z_A L sz) := by
  refine z_met (cc := cX6_init) (maxL := 1) (ret := none) (lv := [(0, .ref sl)]) (by decide) rfl (Nat.le_of_ble_eq_true rfl) rfl ?_
  intro p e s m below meth c ls hx hb hr hlk hml hown hnm hts hKK hA hw hl
  have hK := hKK.1
  have hown : s.vm.findClass RX6 = some m.cls := hown
  have hT : ∀ w ∈ lw_all, w.before ([.ref sl] : List Value).toArray s = true := fun w h => hts w (z_cons w h)
  have hsub : ∀ b ∈ L, b ∈ L := fun _ h => h
  have hfr : ∀ b ∈ L, b ≠ sl → f b = f b := fun _ _ _ => rfl
  refine lv_aload_n hx hb dX6_init_0 rfl (lv_at hl 0 rfl) ?_
  refine W.objInit hx hb hown (hT _ ko_RX6) (hT _ ko_i) (hT _ ko_c) rfl (by rw [hml]; exact hl.1) rfl dX6_init_1 (Nat.le_of_ble_eq_true rfl) (Nat.le_of_ble_eq_true rfl) ?_
  refine W.eq (g2 := F0 m 4 ls []) rfl ?_
  refine lv_aload_n hx hb dX6_init_4 rfl (lv_at hl 0 rfl) ?_
  refine lv_iconst (v := 4) hx hb dX6_init_5 (by decide) ?_
  refine lv_bipush (v := 60) hx hb dX6_init_6 (by decide) ?_
  refine z_mna (cells := 0) (slots := 0) hx hb hown (hT _ kw_314) hKK hw hA (by decide) (by decide) dX6_init_8 (fun qnu qr0 qr1 qr2 qr3 gn H locs hq_qnu hq_qr0 hq_qr1 hq_qr2 hq_qr3 hg0 hg1 hg2 hg3 hw => ?_)
  refine W.widen (k := 5) (n := 244) (by decide) (by decide) ?_
  obtain ⟨f1, e_f1⟩ : ∃ z, z = va_up f qnu (.inl (cy 6, 4, .inr (.inr (.inr (.inr gn))))) := ⟨_, rfl⟩
  obtain ⟨L2, e_L2⟩ : ∃ z, z = L ++ [qnu] := ⟨_, rfl⟩
  rw [← e_f1, ← e_L2] at hw
  rw [← e_L2] at hq_qr0
  rw [← e_L2] at hq_qr1
  rw [← e_L2] at hq_qr2
  rw [← e_L2] at hq_qr3
  have ne_sl_qnu : sl ≠ qnu := z_ne hm_sl hq_qnu
  have hn_qnu : qnu ∉ L := fun h => hq_qnu (hsub _ h)
  have hm_sl : sl ∈ L2 := by rw [e_L2]; exact List.mem_append_left _ hm_sl
  have hf_sl : f1 sl = .inr (6, [.null, .null, .null]) := (congrFun e_f1 sl).trans (z_up_ne ne_sl_qnu hf_sl)
  have hm_qnu : qnu ∈ L2 := by rw [e_L2]; exact List.mem_append_right _ (List.mem_singleton.mpr rfl)
  have hf_qnu : f1 qnu = .inl (cy 6, 4, .inr (.inr (.inr (.inr gn)))) := (congrFun e_f1 qnu).trans z_up_self
  have hsub : ∀ b ∈ L, b ∈ L2 := fun b h => by rw [e_L2]; exact List.mem_append_left _ (hsub b h)
  have hfr : ∀ b ∈ L, b ≠ sl → f1 b = f b := fun b hb h0 => (congrFun e_f1 b).trans (z_up_ne (z_ne hb hn_qnu) (hfr b hb h0))
  obtain ⟨f3, e_f3⟩ : ∃ z, z = va_up f1 qr0 (.inl (cy 2, 60, .inr (.inl (fun _ => 0)))) := ⟨_, rfl⟩
  obtain ⟨L4, e_L4⟩ : ∃ z, z = L2 ++ [qr0] := ⟨_, rfl⟩
  rw [← e_f3, ← e_L4] at hw
  rw [← e_L4] at hq_qr1
  rw [← e_L4] at hq_qr2
  rw [← e_L4] at hq_qr3
  have ne_sl_qr0 : sl ≠ qr0 := z_ne hm_sl hq_qr0
  have ne_qnu_qr0 : qnu ≠ qr0 := z_ne hm_qnu hq_qr0
  have hn_qr0 : qr0 ∉ L := fun h => hq_qr0 (hsub _ h)
  have hm_sl : sl ∈ L4 := by rw [e_L4]; exact List.mem_append_left _ hm_sl
  have hf_sl : f3 sl = .inr (6, [.null, .null, .null]) := (congrFun e_f3 sl).trans (z_up_ne ne_sl_qr0 hf_sl)
  have hm_qnu : qnu ∈ L4 := by rw [e_L4]; exact List.mem_append_left _ hm_qnu
  have hf_qnu : f3 qnu = .inl (cy 6, 4, .inr (.inr (.inr (.inr gn)))) := (congrFun e_f3 qnu).trans (z_up_ne ne_qnu_qr0 hf_qnu)
  have hm_qr0 : qr0 ∈ L4 := by rw [e_L4]; exact List.mem_append_right _ (List.mem_singleton.mpr rfl)
  have hf_qr0 : f3 qr0 = .inl (cy 2, 60, .inr (.inl (fun _ => 0))) := (congrFun e_f3 qr0).trans z_up_self
  have hsub : ∀ b ∈ L, b ∈ L4 := fun b h => by rw [e_L4]; exact List.mem_append_left _ (hsub b h)
  have hfr : ∀ b ∈ L, b ≠ sl → f3 b = f b := fun b hb h0 => (congrFun e_f3 b).trans (z_up_ne (z_ne hb hn_qr0) (hfr b hb h0))
  obtain ⟨f5, e_f5⟩ : ∃ z, z = va_up f3 qr1 (.inl (cy 2, 60, .inr (.inl (fun _ => 0)))) := ⟨_, rfl⟩
  obtain ⟨L6, e_L6⟩ : ∃ z, z = L4 ++ [qr1] := ⟨_, rfl⟩
  rw [← e_f5, ← e_L6] at hw
  rw [← e_L6] at hq_qr2
  rw [← e_L6] at hq_qr3
  have ne_sl_qr1 : sl ≠ qr1 := z_ne hm_sl hq_qr1
  have ne_qnu_qr1 : qnu ≠ qr1 := z_ne hm_qnu hq_qr1
  have ne_qr0_qr1 : qr0 ≠ qr1 := z_ne hm_qr0 hq_qr1
  have hn_qr1 : qr1 ∉ L := fun h => hq_qr1 (hsub _ h)
  have hm_sl : sl ∈ L6 := by rw [e_L6]; exact List.mem_append_left _ hm_sl
  have hf_sl : f5 sl = .inr (6, [.null, .null, .null]) := (congrFun e_f5 sl).trans (z_up_ne ne_sl_qr1 hf_sl)
  have hm_qnu : qnu ∈ L6 := by rw [e_L6]; exact List.mem_append_left _ hm_qnu
  have hf_qnu : f5 qnu = .inl (cy 6, 4, .inr (.inr (.inr (.inr gn)))) := (congrFun e_f5 qnu).trans (z_up_ne ne_qnu_qr1 hf_qnu)
  have hm_qr0 : qr0 ∈ L6 := by rw [e_L6]; exact List.mem_append_left _ hm_qr0
  have hf_qr0 : f5 qr0 = .inl (cy 2, 60, .inr (.inl (fun _ => 0))) := (congrFun e_f5 qr0).trans (z_up_ne ne_qr0_qr1 hf_qr0)
  have hm_qr1 : qr1 ∈ L6 := by rw [e_L6]; exact List.mem_append_right _ (List.mem_singleton.mpr rfl)
  have hf_qr1 : f5 qr1 = .inl (cy 2, 60, .inr (.inl (fun _ => 0))) := (congrFun e_f5 qr1).trans z_up_self
  have hsub : ∀ b ∈ L, b ∈ L6 := fun b h => by rw [e_L6]; exact List.mem_append_left _ (hsub b h)
  have hfr : ∀ b ∈ L, b ≠ sl → f5 b = f b := fun b hb h0 => (congrFun e_f5 b).trans (z_up_ne (z_ne hb hn_qr1) (hfr b hb h0))
  obtain ⟨f7, e_f7⟩ : ∃ z, z = va_up f5 qr2 (.inl (cy 2, 60, .inr (.inl (fun _ => 0)))) := ⟨_, rfl⟩
  obtain ⟨L8, e_L8⟩ : ∃ z, z = L6 ++ [qr2] := ⟨_, rfl⟩
  rw [← e_f7, ← e_L8] at hw
  rw [← e_L8] at hq_qr3
  have ne_sl_qr2 : sl ≠ qr2 := z_ne hm_sl hq_qr2
  have ne_qnu_qr2 : qnu ≠ qr2 := z_ne hm_qnu hq_qr2
  have ne_qr0_qr2 : qr0 ≠ qr2 := z_ne hm_qr0 hq_qr2
  have ne_qr1_qr2 : qr1 ≠ qr2 := z_ne hm_qr1 hq_qr2
  have hn_qr2 : qr2 ∉ L := fun h => hq_qr2 (hsub _ h)
  have hm_sl : sl ∈ L8 := by rw [e_L8]; exact List.mem_append_left _ hm_sl
  have hf_sl : f7 sl = .inr (6, [.null, .null, .null]) := (congrFun e_f7 sl).trans (z_up_ne ne_sl_qr2 hf_sl)
  have hm_qnu : qnu ∈ L8 := by rw [e_L8]; exact List.mem_append_left _ hm_qnu
  have hf_qnu : f7 qnu = .inl (cy 6, 4, .inr (.inr (.inr (.inr gn)))) := (congrFun e_f7 qnu).trans (z_up_ne ne_qnu_qr2 hf_qnu)
  have hm_qr0 : qr0 ∈ L8 := by rw [e_L8]; exact List.mem_append_left _ hm_qr0
  have hf_qr0 : f7 qr0 = .inl (cy 2, 60, .inr (.inl (fun _ => 0))) := (congrFun e_f7 qr0).trans (z_up_ne ne_qr0_qr2 hf_qr0)
  have hm_qr1 : qr1 ∈ L8 := by rw [e_L8]; exact List.mem_append_left _ hm_qr1
  have hf_qr1 : f7 qr1 = .inl (cy 2, 60, .inr (.inl (fun _ => 0))) := (congrFun e_f7 qr1).trans (z_up_ne ne_qr1_qr2 hf_qr1)
  have hm_qr2 : qr2 ∈ L8 := by rw [e_L8]; exact List.mem_append_right _ (List.mem_singleton.mpr rfl)
  have hf_qr2 : f7 qr2 = .inl (cy 2, 60, .inr (.inl (fun _ => 0))) := (congrFun e_f7 qr2).trans z_up_self
  have hsub : ∀ b ∈ L, b ∈ L8 := fun b h => by rw [e_L8]; exact List.mem_append_left _ (hsub b h)
  have hfr : ∀ b ∈ L, b ≠ sl → f7 b = f b := fun b hb h0 => (congrFun e_f7 b).trans (z_up_ne (z_ne hb hn_qr2) (hfr b hb h0))
  obtain ⟨f9, e_f9⟩ : ∃ z, z = va_up f7 qr3 (.inl (cy 2, 60, .inr (.inl (fun _ => 0)))) := ⟨_, rfl⟩
  obtain ⟨L10, e_L10⟩ : ∃ z, z = L8 ++ [qr3] := ⟨_, rfl⟩
  rw [← e_f9, ← e_L10] at hw
  have ne_sl_qr3 : sl ≠ qr3 := z_ne hm_sl hq_qr3
  have ne_qnu_qr3 : qnu ≠ qr3 := z_ne hm_qnu hq_qr3
  have ne_qr0_qr3 : qr0 ≠ qr3 := z_ne hm_qr0 hq_qr3
  have ne_qr1_qr3 : qr1 ≠ qr3 := z_ne hm_qr1 hq_qr3
  have ne_qr2_qr3 : qr2 ≠ qr3 := z_ne hm_qr2 hq_qr3
  have hn_qr3 : qr3 ∉ L := fun h => hq_qr3 (hsub _ h)
  have hm_sl : sl ∈ L10 := by rw [e_L10]; exact List.mem_append_left _ hm_sl
  have hf_sl : f9 sl = .inr (6, [.null, .null, .null]) := (congrFun e_f9 sl).trans (z_up_ne ne_sl_qr3 hf_sl)
  have hm_qnu : qnu ∈ L10 := by rw [e_L10]; exact List.mem_append_left _ hm_qnu
  have hf_qnu : f9 qnu = .inl (cy 6, 4, .inr (.inr (.inr (.inr gn)))) := (congrFun e_f9 qnu).trans (z_up_ne ne_qnu_qr3 hf_qnu)
  have hm_qr0 : qr0 ∈ L10 := by rw [e_L10]; exact List.mem_append_left _ hm_qr0
  have hf_qr0 : f9 qr0 = .inl (cy 2, 60, .inr (.inl (fun _ => 0))) := (congrFun e_f9 qr0).trans (z_up_ne ne_qr0_qr3 hf_qr0)
  have hm_qr1 : qr1 ∈ L10 := by rw [e_L10]; exact List.mem_append_left _ hm_qr1
  have hf_qr1 : f9 qr1 = .inl (cy 2, 60, .inr (.inl (fun _ => 0))) := (congrFun e_f9 qr1).trans (z_up_ne ne_qr1_qr3 hf_qr1)
  have hm_qr2 : qr2 ∈ L10 := by rw [e_L10]; exact List.mem_append_left _ hm_qr2
  have hf_qr2 : f9 qr2 = .inl (cy 2, 60, .inr (.inl (fun _ => 0))) := (congrFun e_f9 qr2).trans (z_up_ne ne_qr2_qr3 hf_qr2)
  have hm_qr3 : qr3 ∈ L10 := by rw [e_L10]; exact List.mem_append_right _ (List.mem_singleton.mpr rfl)
  have hf_qr3 : f9 qr3 = .inl (cy 2, 60, .inr (.inl (fun _ => 0))) := (congrFun e_f9 qr3).trans z_up_self
  have hsub : ∀ b ∈ L, b ∈ L10 := fun b h => by rw [e_L10]; exact List.mem_append_left _ (hsub b h)
  have hfr : ∀ b ∈ L, b ≠ sl → f9 b = f b := fun b hb h0 => (congrFun e_f9 b).trans (z_up_ne (z_ne hb hn_qr3) (hfr b hb h0))
  refine z_putF (C := RX6) (T := TX6) (N := 3) (ci := 6) (v := .ref qnu) (fs' := [.ref qnu, .null, .null]) hx hb hT zin_X6 tyX6_ok nmX6 hown hK hw hm_sl hf_sl rfl 0 (by decide) (hT _ kw_319) rfl hnm rfl rfl rfl (Nat.le_of_ble_eq_true rfl) rfl dX6_init_12 (fun H locs hw => ?_)
  obtain ⟨f11, e_f11⟩ : ∃ z, z = va_up f9 sl (.inr (6, [.ref qnu, .null, .null])) := ⟨_, rfl⟩
  rw [← e_f11] at hw
  have hf_qnu : f11 qnu = .inl (cy 6, 4, .inr (.inr (.inr (.inr gn)))) := (congrFun e_f11 qnu).trans (z_up_ne (Ne.symm ne_sl_qnu) hf_qnu)
  have hf_qr0 : f11 qr0 = .inl (cy 2, 60, .inr (.inl (fun _ => 0))) := (congrFun e_f11 qr0).trans (z_up_ne (Ne.symm ne_sl_qr0) hf_qr0)
  have hf_qr1 : f11 qr1 = .inl (cy 2, 60, .inr (.inl (fun _ => 0))) := (congrFun e_f11 qr1).trans (z_up_ne (Ne.symm ne_sl_qr1) hf_qr1)
  have hf_qr2 : f11 qr2 = .inl (cy 2, 60, .inr (.inl (fun _ => 0))) := (congrFun e_f11 qr2).trans (z_up_ne (Ne.symm ne_sl_qr2) hf_qr2)
  have hf_qr3 : f11 qr3 = .inl (cy 2, 60, .inr (.inl (fun _ => 0))) := (congrFun e_f11 qr3).trans (z_up_ne (Ne.symm ne_sl_qr3) hf_qr3)
  have hf_sl : f11 sl = .inr (6, [.ref qnu, .null, .null]) := (congrFun e_f11 sl).trans z_up_self
  have hfr : ∀ b ∈ L, b ≠ sl → f11 b = f b := fun b hb h0 => (congrFun e_f11 b).trans (z_up_ne h0 (hfr b hb h0))
  refine lv_aload_n hx hb dX6_init_15 rfl (lv_at hl 0 rfl) ?_
  refine lv_iconst (v := 4) hx hb dX6_init_16 (by decide) ?_
  refine z_newa (atype := .int) (n := 4) (N' := 4) (a0 := (4, .inl (fun _ => 0))) (cells := 5) (slots := 244) hx hb (hT _ kw_203) rfl 1 rfl (fun _ h => by cases h) hK hw hA (fun _ => rfl) (by decide) (by decide) (by decide) (by decide) (by decide) dX6_init_17 (fun qwi H hq_qwi hw => ?_)
  refine W.widen (k := 6) (n := 248) (by decide) (by decide) ?_
  have ne_sl_qwi : sl ≠ qwi := z_ne hm_sl hq_qwi
  have ne_qnu_qwi : qnu ≠ qwi := z_ne hm_qnu hq_qwi
  have ne_qr0_qwi : qr0 ≠ qwi := z_ne hm_qr0 hq_qwi
  have ne_qr1_qwi : qr1 ≠ qwi := z_ne hm_qr1 hq_qwi
  have ne_qr2_qwi : qr2 ≠ qwi := z_ne hm_qr2 hq_qwi
  have ne_qr3_qwi : qr3 ≠ qwi := z_ne hm_qr3 hq_qwi
  have hn_qwi : qwi ∉ L := fun h => hq_qwi (hsub _ h)
  obtain ⟨f13, e_f13⟩ : ∃ z, z = va_up f11 qwi (.inl (cy 1, 4, .inl (fun _ => 0))) := ⟨_, rfl⟩
  obtain ⟨L12, e_L12⟩ : ∃ z, z = L10 ++ [qwi] := ⟨_, rfl⟩
  rw [← e_f13, ← e_L12] at hw
  have hm_sl : sl ∈ L12 := by rw [e_L12]; exact List.mem_append_left _ hm_sl
  have hf_sl : f13 sl = .inr (6, [.ref qnu, .null, .null]) := (congrFun e_f13 sl).trans (z_up_ne ne_sl_qwi hf_sl)
  have hm_qnu : qnu ∈ L12 := by rw [e_L12]; exact List.mem_append_left _ hm_qnu
  have hf_qnu : f13 qnu = .inl (cy 6, 4, .inr (.inr (.inr (.inr gn)))) := (congrFun e_f13 qnu).trans (z_up_ne ne_qnu_qwi hf_qnu)
  have hm_qr0 : qr0 ∈ L12 := by rw [e_L12]; exact List.mem_append_left _ hm_qr0
  have hf_qr0 : f13 qr0 = .inl (cy 2, 60, .inr (.inl (fun _ => 0))) := (congrFun e_f13 qr0).trans (z_up_ne ne_qr0_qwi hf_qr0)
  have hm_qr1 : qr1 ∈ L12 := by rw [e_L12]; exact List.mem_append_left _ hm_qr1
  have hf_qr1 : f13 qr1 = .inl (cy 2, 60, .inr (.inl (fun _ => 0))) := (congrFun e_f13 qr1).trans (z_up_ne ne_qr1_qwi hf_qr1)
  have hm_qr2 : qr2 ∈ L12 := by rw [e_L12]; exact List.mem_append_left _ hm_qr2
  have hf_qr2 : f13 qr2 = .inl (cy 2, 60, .inr (.inl (fun _ => 0))) := (congrFun e_f13 qr2).trans (z_up_ne ne_qr2_qwi hf_qr2)
  have hm_qr3 : qr3 ∈ L12 := by rw [e_L12]; exact List.mem_append_left _ hm_qr3
  have hf_qr3 : f13 qr3 = .inl (cy 2, 60, .inr (.inl (fun _ => 0))) := (congrFun e_f13 qr3).trans (z_up_ne ne_qr3_qwi hf_qr3)
  have hm_qwi : qwi ∈ L12 := by rw [e_L12]; exact List.mem_append_right _ (List.mem_singleton.mpr rfl)
  have hf_qwi : f13 qwi = .inl (cy 1, 4, .inl (fun _ => 0)) := (congrFun e_f13 qwi).trans z_up_self
  have hsub : ∀ b ∈ L, b ∈ L12 := fun b h => by rw [e_L12]; exact List.mem_append_left _ (hsub b h)
  have hfr : ∀ b ∈ L, b ≠ sl → f13 b = f b := fun b hb h0 => (congrFun e_f13 b).trans (z_up_ne (z_ne hb hn_qwi) (hfr b hb h0))
  refine z_putF (C := RX6) (T := TX6) (N := 3) (ci := 6) (v := .ref qwi) (fs' := [.ref qnu, .ref qwi, .null]) hx hb hT zin_X6 tyX6_ok nmX6 hown hK hw hm_sl hf_sl rfl 1 (by decide) (hT _ kw_322) rfl hnm rfl rfl rfl (Nat.le_of_ble_eq_true rfl) rfl dX6_init_19 (fun H locs hw => ?_)
  obtain ⟨f14, e_f14⟩ : ∃ z, z = va_up f13 sl (.inr (6, [.ref qnu, .ref qwi, .null])) := ⟨_, rfl⟩
  rw [← e_f14] at hw
  have hf_qnu : f14 qnu = .inl (cy 6, 4, .inr (.inr (.inr (.inr gn)))) := (congrFun e_f14 qnu).trans (z_up_ne (Ne.symm ne_sl_qnu) hf_qnu)
  have hf_qr0 : f14 qr0 = .inl (cy 2, 60, .inr (.inl (fun _ => 0))) := (congrFun e_f14 qr0).trans (z_up_ne (Ne.symm ne_sl_qr0) hf_qr0)
  have hf_qr1 : f14 qr1 = .inl (cy 2, 60, .inr (.inl (fun _ => 0))) := (congrFun e_f14 qr1).trans (z_up_ne (Ne.symm ne_sl_qr1) hf_qr1)
  have hf_qr2 : f14 qr2 = .inl (cy 2, 60, .inr (.inl (fun _ => 0))) := (congrFun e_f14 qr2).trans (z_up_ne (Ne.symm ne_sl_qr2) hf_qr2)
  have hf_qr3 : f14 qr3 = .inl (cy 2, 60, .inr (.inl (fun _ => 0))) := (congrFun e_f14 qr3).trans (z_up_ne (Ne.symm ne_sl_qr3) hf_qr3)
  have hf_qwi : f14 qwi = .inl (cy 1, 4, .inl (fun _ => 0)) := (congrFun e_f14 qwi).trans (z_up_ne (Ne.symm ne_sl_qwi) hf_qwi)
  have hf_sl : f14 sl = .inr (6, [.ref qnu, .ref qwi, .null]) := (congrFun e_f14 sl).trans z_up_self
  have hfr : ∀ b ∈ L, b ≠ sl → f14 b = f b := fun b hb h0 => (congrFun e_f14 b).trans (z_up_ne h0 (hfr b hb h0))
  refine lv_aload_n hx hb dX6_init_22 rfl (lv_at hl 0 rfl) ?_
  refine lv_iconst (v := 4) hx hb dX6_init_23 (by decide) ?_
  refine z_newa (atype := .int) (n := 4) (N' := 4) (a0 := (4, .inl (fun _ => 0))) (cells := 6) (slots := 248) hx hb (hT _ kw_203) rfl 1 rfl (fun _ h => by cases h) hK hw hA (fun _ => rfl) (by decide) (by decide) (by decide) (by decide) (by decide) dX6_init_24 (fun qsi H hq_qsi hw => ?_)
  refine W.widen (k := 7) (n := 252) (by decide) (by decide) ?_
  have ne_sl_qsi : sl ≠ qsi := z_ne hm_sl hq_qsi
  have ne_qnu_qsi : qnu ≠ qsi := z_ne hm_qnu hq_qsi
  have ne_qr0_qsi : qr0 ≠ qsi := z_ne hm_qr0 hq_qsi
  have ne_qr1_qsi : qr1 ≠ qsi := z_ne hm_qr1 hq_qsi
  have ne_qr2_qsi : qr2 ≠ qsi := z_ne hm_qr2 hq_qsi
  have ne_qr3_qsi : qr3 ≠ qsi := z_ne hm_qr3 hq_qsi
  have ne_qwi_qsi : qwi ≠ qsi := z_ne hm_qwi hq_qsi
  have hn_qsi : qsi ∉ L := fun h => hq_qsi (hsub _ h)
  obtain ⟨f16, e_f16⟩ : ∃ z, z = va_up f14 qsi (.inl (cy 1, 4, .inl (fun _ => 0))) := ⟨_, rfl⟩
  obtain ⟨L15, e_L15⟩ : ∃ z, z = L12 ++ [qsi] := ⟨_, rfl⟩
  rw [← e_f16, ← e_L15] at hw
  have hm_sl : sl ∈ L15 := by rw [e_L15]; exact List.mem_append_left _ hm_sl
  have hf_sl : f16 sl = .inr (6, [.ref qnu, .ref qwi, .null]) := (congrFun e_f16 sl).trans (z_up_ne ne_sl_qsi hf_sl)
  have hm_qnu : qnu ∈ L15 := by rw [e_L15]; exact List.mem_append_left _ hm_qnu
  have hf_qnu : f16 qnu = .inl (cy 6, 4, .inr (.inr (.inr (.inr gn)))) := (congrFun e_f16 qnu).trans (z_up_ne ne_qnu_qsi hf_qnu)
  have hm_qr0 : qr0 ∈ L15 := by rw [e_L15]; exact List.mem_append_left _ hm_qr0
  have hf_qr0 : f16 qr0 = .inl (cy 2, 60, .inr (.inl (fun _ => 0))) := (congrFun e_f16 qr0).trans (z_up_ne ne_qr0_qsi hf_qr0)
  have hm_qr1 : qr1 ∈ L15 := by rw [e_L15]; exact List.mem_append_left _ hm_qr1
  have hf_qr1 : f16 qr1 = .inl (cy 2, 60, .inr (.inl (fun _ => 0))) := (congrFun e_f16 qr1).trans (z_up_ne ne_qr1_qsi hf_qr1)
  have hm_qr2 : qr2 ∈ L15 := by rw [e_L15]; exact List.mem_append_left _ hm_qr2
  have hf_qr2 : f16 qr2 = .inl (cy 2, 60, .inr (.inl (fun _ => 0))) := (congrFun e_f16 qr2).trans (z_up_ne ne_qr2_qsi hf_qr2)
  have hm_qr3 : qr3 ∈ L15 := by rw [e_L15]; exact List.mem_append_left _ hm_qr3
  have hf_qr3 : f16 qr3 = .inl (cy 2, 60, .inr (.inl (fun _ => 0))) := (congrFun e_f16 qr3).trans (z_up_ne ne_qr3_qsi hf_qr3)
  have hm_qwi : qwi ∈ L15 := by rw [e_L15]; exact List.mem_append_left _ hm_qwi
  have hf_qwi : f16 qwi = .inl (cy 1, 4, .inl (fun _ => 0)) := (congrFun e_f16 qwi).trans (z_up_ne ne_qwi_qsi hf_qwi)
  have hm_qsi : qsi ∈ L15 := by rw [e_L15]; exact List.mem_append_right _ (List.mem_singleton.mpr rfl)
  have hf_qsi : f16 qsi = .inl (cy 1, 4, .inl (fun _ => 0)) := (congrFun e_f16 qsi).trans z_up_self
  have hsub : ∀ b ∈ L, b ∈ L15 := fun b h => by rw [e_L15]; exact List.mem_append_left _ (hsub b h)
  have hfr : ∀ b ∈ L, b ≠ sl → f16 b = f b := fun b hb h0 => (congrFun e_f16 b).trans (z_up_ne (z_ne hb hn_qsi) (hfr b hb h0))
  refine z_putF (C := RX6) (T := TX6) (N := 3) (ci := 6) (v := .ref qsi) (fs' := [.ref qnu, .ref qwi, .ref qsi]) hx hb hT zin_X6 tyX6_ok nmX6 hown hK hw hm_sl hf_sl rfl 2 (by decide) (hT _ kw_324) rfl hnm rfl rfl rfl (Nat.le_of_ble_eq_true rfl) rfl dX6_init_26 (fun H locs hw => ?_)
  obtain ⟨f17, e_f17⟩ : ∃ z, z = va_up f16 sl (.inr (6, [.ref qnu, .ref qwi, .ref qsi])) := ⟨_, rfl⟩
  rw [← e_f17] at hw
  have hf_qnu : f17 qnu = .inl (cy 6, 4, .inr (.inr (.inr (.inr gn)))) := (congrFun e_f17 qnu).trans (z_up_ne (Ne.symm ne_sl_qnu) hf_qnu)
  have hf_qr0 : f17 qr0 = .inl (cy 2, 60, .inr (.inl (fun _ => 0))) := (congrFun e_f17 qr0).trans (z_up_ne (Ne.symm ne_sl_qr0) hf_qr0)
  have hf_qr1 : f17 qr1 = .inl (cy 2, 60, .inr (.inl (fun _ => 0))) := (congrFun e_f17 qr1).trans (z_up_ne (Ne.symm ne_sl_qr1) hf_qr1)
  have hf_qr2 : f17 qr2 = .inl (cy 2, 60, .inr (.inl (fun _ => 0))) := (congrFun e_f17 qr2).trans (z_up_ne (Ne.symm ne_sl_qr2) hf_qr2)
  have hf_qr3 : f17 qr3 = .inl (cy 2, 60, .inr (.inl (fun _ => 0))) := (congrFun e_f17 qr3).trans (z_up_ne (Ne.symm ne_sl_qr3) hf_qr3)
  have hf_qwi : f17 qwi = .inl (cy 1, 4, .inl (fun _ => 0)) := (congrFun e_f17 qwi).trans (z_up_ne (Ne.symm ne_sl_qwi) hf_qwi)
  have hf_qsi : f17 qsi = .inl (cy 1, 4, .inl (fun _ => 0)) := (congrFun e_f17 qsi).trans (z_up_ne (Ne.symm ne_sl_qsi) hf_qsi)
  have hf_sl : f17 sl = .inr (6, [.ref qnu, .ref qwi, .ref qsi]) := (congrFun e_f17 sl).trans z_up_self
  have hfr : ∀ b ∈ L, b ≠ sl → f17 b = f b := fun b hb h0 => (congrFun e_f17 b).trans (z_up_ne h0 (hfr b hb h0))
  refine lv_aload_n hx hb dX6_init_29 rfl (lv_at hl 0 rfl) ?_
  refine z_get (C := RX6) (T := TX6) (N := 3) (ci := 6) (v := .ref qsi) hx hb hT zin_X6 hown hK hw hm_sl hf_sl rfl 2 (by decide) (hT _ kw_324) rfl dX6_init_30 ?_
  refine lv_iconst (v := (-1)) hx hb dX6_init_33 (by decide) ?_
  refine z_callvS (cells := 7) (slots := 252) (As := [.ref qsi, .int (-1)]) (rest := []) ⟨hx, hb, hml, hown, hT⟩ (c_J7_fill_53178 l hm_qsi hf_qsi (by decide)) (va_cwS 2 hT (z_goodS (fun _ h => h) kw_316 kw_317 kw_91 kw_318) rfl rfl rfl (by decide +kernel) ⟨by decide, by decide⟩) z_mv hKK hw hA rfl hl.1 rfl (Nat.le_of_ble_eq_true rfl) dX6_init_34 ⟨by decide, by decide⟩ (fun u H locs hp hw => ?_)
  obtain ⟨L18, f19⟩ := u
  obtain ⟨hsb, hfm, gs9, ha_0, hp⟩ := hp
  have hw : z_H D vwCl (z_A L sz) s.heap L18 f19 H locs := hw
  have hfr : ∀ b ∈ L, b ≠ sl → f19 b = f b := fun b hb h0 => (hfm b (hsub b hb) (z_ne hb hn_qsi)).trans (hfr b hb h0)
  have hsub : ∀ b ∈ L, b ∈ L18 := fun b h => hsb b (hsub b h)
  have hf_sl : f19 sl = .inr (6, [.ref qnu, .ref qwi, .ref qsi]) := (hfm sl hm_sl ne_sl_qsi).trans hf_sl
  have hf_qnu : f19 qnu = .inl (cy 6, 4, .inr (.inr (.inr (.inr gn)))) := (hfm qnu hm_qnu ne_qnu_qsi).trans hf_qnu
  have hf_qr0 : f19 qr0 = .inl (cy 2, 60, .inr (.inl (fun _ => 0))) := (hfm qr0 hm_qr0 ne_qr0_qsi).trans hf_qr0
  have hf_qr1 : f19 qr1 = .inl (cy 2, 60, .inr (.inl (fun _ => 0))) := (hfm qr1 hm_qr1 ne_qr1_qsi).trans hf_qr1
  have hf_qr2 : f19 qr2 = .inl (cy 2, 60, .inr (.inl (fun _ => 0))) := (hfm qr2 hm_qr2 ne_qr2_qsi).trans hf_qr2
  have hf_qr3 : f19 qr3 = .inl (cy 2, 60, .inr (.inl (fun _ => 0))) := (hfm qr3 hm_qr3 ne_qr3_qsi).trans hf_qr3
  have hf_qwi : f19 qwi = .inl (cy 1, 4, .inl (fun _ => 0)) := (hfm qwi hm_qwi ne_qwi_qsi).trans hf_qwi
  have hm_sl : sl ∈ L18 := hsb _ hm_sl
  have hm_qnu : qnu ∈ L18 := hsb _ hm_qnu
  have hm_qr0 : qr0 ∈ L18 := hsb _ hm_qr0
  have hm_qr1 : qr1 ∈ L18 := hsb _ hm_qr1
  have hm_qr2 : qr2 ∈ L18 := hsb _ hm_qr2
  have hm_qr3 : qr3 ∈ L18 := hsb _ hm_qr3
  have hm_qwi : qwi ∈ L18 := hsb _ hm_qwi
  have hm_qsi : qsi ∈ L18 := hsb _ hm_qsi
  have hf_qsi : f19 qsi = .inl (cy 1, 4, .inl gs9) := ha_0
  exact z_vret hx hb hr hlk (by decide) (by decide) hw (⟨hsub, hfr, qnu, qr0, qr1, qr2, qr3, qwi, qsi, gn, gs9, hf_sl, ⟨hn_qnu, hm_qnu, hf_qnu⟩, ⟨hn_qr0, hm_qr0, hf_qr0⟩, ⟨hn_qr1, hm_qr1, hf_qr1⟩, ⟨hn_qr2, hm_qr2, hf_qr2⟩, ⟨hn_qr3, hm_qr3, hf_qr3⟩, ⟨hn_qwi, hm_qwi, hf_qwi⟩, ⟨hn_qsi, hm_qsi, hf_qsi⟩, ⟨hg0, hg1, hg2, hg3, hp, ne_qwi_qsi⟩⟩) dX6_init_37

set_option maxHeartbeats 2000000 in
set_option maxRecDepth 100000 in
theorem c_X8_init (l : Launch) {D : va_G} {cy : Nat → ClassId} {L : List Nat} {f : Nat → va_E} {sz : Nat} {wk : Nat} (hm_wk : wk ∈ L) (hf_wk : f wk = .inr (8, [.null, .int 0, .null, .null, .null, .int 0, .int 0, .int 0])) : Met l yX8_init (z_ws yX8_init cX8_init 1 none) (z_R 1 4 26) (va_Pc [.ref wk] (z_Pre D vwCl (z_K D cy) L f sz)) (z_Qv D vwCl (fun u => (∀ b ∈ L, b ∈ u.1) ∧ (∀ b ∈ L, b ≠ wk → u.2 b = f b) ∧ ((True))) L sz) 4 26 (z_A L sz) := by
  refine z_met (cc := cX8_init) (maxL := 1) (ret := none) (lv := [(0, .ref wk)]) (by decide) rfl (Nat.le_of_ble_eq_true rfl) rfl ?_
  intro p e s m below meth c ls hx hb hr hlk hml hown hnm hts hKK hA hw hl
  have hK := hKK.1
  have hown : s.vm.findClass RX8 = some m.cls := hown
  have hT : ∀ w ∈ lw_all, w.before ([.ref wk] : List Value).toArray s = true := fun w h => hts w (z_cons w h)
  have hsub : ∀ b ∈ L, b ∈ L := fun _ h => h
  have hfr : ∀ b ∈ L, b ≠ wk → f b = f b := fun _ _ _ => rfl
  refine lv_aload_n hx hb dX8_init_0 rfl (lv_at hl 0 rfl) ?_
  refine W.objInit hx hb hown (hT _ ko_RX8) (hT _ ko_i) (hT _ ko_c) rfl (by rw [hml]; exact hl.1) rfl dX8_init_1 (Nat.le_of_ble_eq_true rfl) (Nat.le_of_ble_eq_true rfl) ?_
  refine W.eq (g2 := F0 m 4 ls []) rfl ?_
  refine lv_aload_n hx hb dX8_init_4 rfl (lv_at hl 0 rfl) ?_
  refine lv_bipush (v := 13) hx hb dX8_init_5 (by decide) ?_
  refine z_newa (atype := .int) (n := 13) (N' := 13) (a0 := (13, .inl (fun _ => 0))) (cells := 0) (slots := 0) hx hb (hT _ kw_203) rfl 1 rfl (fun _ h => by cases h) hK hw hA (fun _ => rfl) (by decide) (by decide) (by decide) (by decide) (by decide) dX8_init_7 (fun q1 H hq_q1 hw => ?_)
  refine W.widen (k := 1) (n := 13) (by decide) (by decide) ?_
  have ne_wk_q1 : wk ≠ q1 := z_ne hm_wk hq_q1
  have hn_q1 : q1 ∉ L := fun h => hq_q1 (hsub _ h)
  obtain ⟨f3, e_f3⟩ : ∃ z, z = va_up f q1 (.inl (cy 1, 13, .inl (fun _ => 0))) := ⟨_, rfl⟩
  obtain ⟨L2, e_L2⟩ : ∃ z, z = L ++ [q1] := ⟨_, rfl⟩
  rw [← e_f3, ← e_L2] at hw
  have hm_wk : wk ∈ L2 := by rw [e_L2]; exact List.mem_append_left _ hm_wk
  have hf_wk : f3 wk = .inr (8, [.null, .int 0, .null, .null, .null, .int 0, .int 0, .int 0]) := (congrFun e_f3 wk).trans (z_up_ne ne_wk_q1 hf_wk)
  have hm_q1 : q1 ∈ L2 := by rw [e_L2]; exact List.mem_append_right _ (List.mem_singleton.mpr rfl)
  have hf_q1 : f3 q1 = .inl (cy 1, 13, .inl (fun _ => 0)) := (congrFun e_f3 q1).trans z_up_self
  have hsub : ∀ b ∈ L, b ∈ L2 := fun b h => by rw [e_L2]; exact List.mem_append_left _ (hsub b h)
  have hfr : ∀ b ∈ L, b ≠ wk → f3 b = f b := fun b hb h0 => (congrFun e_f3 b).trans (z_up_ne (z_ne hb hn_q1) (hfr b hb h0))
  refine z_putF (C := RX8) (T := TX8) (N := 8) (ci := 8) (v := .ref q1) (fs' := [.ref q1, .int 0, .null, .null, .null, .int 0, .int 0, .int 0]) hx hb hT zin_X8 tyX8_ok nmX8 hown hK hw hm_wk hf_wk rfl 0 (by decide) (hT _ kw_342) rfl hnm rfl rfl rfl (Nat.le_of_ble_eq_true rfl) rfl dX8_init_9 (fun H locs hw => ?_)
  obtain ⟨f4, e_f4⟩ : ∃ z, z = va_up f3 wk (.inr (8, [.ref q1, .int 0, .null, .null, .null, .int 0, .int 0, .int 0])) := ⟨_, rfl⟩
  rw [← e_f4] at hw
  have hf_q1 : f4 q1 = .inl (cy 1, 13, .inl (fun _ => 0)) := (congrFun e_f4 q1).trans (z_up_ne (Ne.symm ne_wk_q1) hf_q1)
  have hf_wk : f4 wk = .inr (8, [.ref q1, .int 0, .null, .null, .null, .int 0, .int 0, .int 0]) := (congrFun e_f4 wk).trans z_up_self
  have hfr : ∀ b ∈ L, b ≠ wk → f4 b = f b := fun b hb h0 => (congrFun e_f4 b).trans (z_up_ne h0 (hfr b hb h0))
  refine lv_aload_n hx hb dX8_init_12 rfl (lv_at hl 0 rfl) ?_
  refine lv_iconst (v := 4) hx hb dX8_init_13 (by decide) ?_
  refine z_newa (atype := .int) (n := 4) (N' := 4) (a0 := (4, .inl (fun _ => 0))) (cells := 1) (slots := 13) hx hb (hT _ kw_203) rfl 1 rfl (fun _ h => by cases h) hK hw hA (fun _ => rfl) (by decide) (by decide) (by decide) (by decide) (by decide) dX8_init_14 (fun q5 H hq_q5 hw => ?_)
  refine W.widen (k := 2) (n := 17) (by decide) (by decide) ?_
  have ne_wk_q5 : wk ≠ q5 := z_ne hm_wk hq_q5
  have ne_q1_q5 : q1 ≠ q5 := z_ne hm_q1 hq_q5
  have hn_q5 : q5 ∉ L := fun h => hq_q5 (hsub _ h)
  obtain ⟨f7, e_f7⟩ : ∃ z, z = va_up f4 q5 (.inl (cy 1, 4, .inl (fun _ => 0))) := ⟨_, rfl⟩
  obtain ⟨L6, e_L6⟩ : ∃ z, z = L2 ++ [q5] := ⟨_, rfl⟩
  rw [← e_f7, ← e_L6] at hw
  have hm_wk : wk ∈ L6 := by rw [e_L6]; exact List.mem_append_left _ hm_wk
  have hf_wk : f7 wk = .inr (8, [.ref q1, .int 0, .null, .null, .null, .int 0, .int 0, .int 0]) := (congrFun e_f7 wk).trans (z_up_ne ne_wk_q5 hf_wk)
  have hm_q1 : q1 ∈ L6 := by rw [e_L6]; exact List.mem_append_left _ hm_q1
  have hf_q1 : f7 q1 = .inl (cy 1, 13, .inl (fun _ => 0)) := (congrFun e_f7 q1).trans (z_up_ne ne_q1_q5 hf_q1)
  have hm_q5 : q5 ∈ L6 := by rw [e_L6]; exact List.mem_append_right _ (List.mem_singleton.mpr rfl)
  have hf_q5 : f7 q5 = .inl (cy 1, 4, .inl (fun _ => 0)) := (congrFun e_f7 q5).trans z_up_self
  have hsub : ∀ b ∈ L, b ∈ L6 := fun b h => by rw [e_L6]; exact List.mem_append_left _ (hsub b h)
  have hfr : ∀ b ∈ L, b ≠ wk → f7 b = f b := fun b hb h0 => (congrFun e_f7 b).trans (z_up_ne (z_ne hb hn_q5) (hfr b hb h0))
  refine z_putF (C := RX8) (T := TX8) (N := 8) (ci := 8) (v := .ref q5) (fs' := [.ref q1, .int 0, .ref q5, .null, .null, .int 0, .int 0, .int 0]) hx hb hT zin_X8 tyX8_ok nmX8 hown hK hw hm_wk hf_wk rfl 2 (by decide) (hT _ kw_346) rfl hnm rfl rfl rfl (Nat.le_of_ble_eq_true rfl) rfl dX8_init_16 (fun H locs hw => ?_)
  obtain ⟨f8, e_f8⟩ : ∃ z, z = va_up f7 wk (.inr (8, [.ref q1, .int 0, .ref q5, .null, .null, .int 0, .int 0, .int 0])) := ⟨_, rfl⟩
  rw [← e_f8] at hw
  have hf_q1 : f8 q1 = .inl (cy 1, 13, .inl (fun _ => 0)) := (congrFun e_f8 q1).trans (z_up_ne (Ne.symm ne_wk_q1) hf_q1)
  have hf_q5 : f8 q5 = .inl (cy 1, 4, .inl (fun _ => 0)) := (congrFun e_f8 q5).trans (z_up_ne (Ne.symm ne_wk_q5) hf_q5)
  have hf_wk : f8 wk = .inr (8, [.ref q1, .int 0, .ref q5, .null, .null, .int 0, .int 0, .int 0]) := (congrFun e_f8 wk).trans z_up_self
  have hfr : ∀ b ∈ L, b ≠ wk → f8 b = f b := fun b hb h0 => (congrFun e_f8 b).trans (z_up_ne h0 (hfr b hb h0))
  refine lv_aload_n hx hb dX8_init_19 rfl (lv_at hl 0 rfl) ?_
  refine lv_iconst (v := 4) hx hb dX8_init_20 (by decide) ?_
  refine z_newa (atype := .int) (n := 4) (N' := 4) (a0 := (4, .inl (fun _ => 0))) (cells := 2) (slots := 17) hx hb (hT _ kw_203) rfl 1 rfl (fun _ h => by cases h) hK hw hA (fun _ => rfl) (by decide) (by decide) (by decide) (by decide) (by decide) dX8_init_21 (fun q9 H hq_q9 hw => ?_)
  refine W.widen (k := 3) (n := 21) (by decide) (by decide) ?_
  have ne_wk_q9 : wk ≠ q9 := z_ne hm_wk hq_q9
  have ne_q1_q9 : q1 ≠ q9 := z_ne hm_q1 hq_q9
  have ne_q5_q9 : q5 ≠ q9 := z_ne hm_q5 hq_q9
  have hn_q9 : q9 ∉ L := fun h => hq_q9 (hsub _ h)
  obtain ⟨f11, e_f11⟩ : ∃ z, z = va_up f8 q9 (.inl (cy 1, 4, .inl (fun _ => 0))) := ⟨_, rfl⟩
  obtain ⟨L10, e_L10⟩ : ∃ z, z = L6 ++ [q9] := ⟨_, rfl⟩
  rw [← e_f11, ← e_L10] at hw
  have hm_wk : wk ∈ L10 := by rw [e_L10]; exact List.mem_append_left _ hm_wk
  have hf_wk : f11 wk = .inr (8, [.ref q1, .int 0, .ref q5, .null, .null, .int 0, .int 0, .int 0]) := (congrFun e_f11 wk).trans (z_up_ne ne_wk_q9 hf_wk)
  have hm_q1 : q1 ∈ L10 := by rw [e_L10]; exact List.mem_append_left _ hm_q1
  have hf_q1 : f11 q1 = .inl (cy 1, 13, .inl (fun _ => 0)) := (congrFun e_f11 q1).trans (z_up_ne ne_q1_q9 hf_q1)
  have hm_q5 : q5 ∈ L10 := by rw [e_L10]; exact List.mem_append_left _ hm_q5
  have hf_q5 : f11 q5 = .inl (cy 1, 4, .inl (fun _ => 0)) := (congrFun e_f11 q5).trans (z_up_ne ne_q5_q9 hf_q5)
  have hm_q9 : q9 ∈ L10 := by rw [e_L10]; exact List.mem_append_right _ (List.mem_singleton.mpr rfl)
  have hf_q9 : f11 q9 = .inl (cy 1, 4, .inl (fun _ => 0)) := (congrFun e_f11 q9).trans z_up_self
  have hsub : ∀ b ∈ L, b ∈ L10 := fun b h => by rw [e_L10]; exact List.mem_append_left _ (hsub b h)
  have hfr : ∀ b ∈ L, b ≠ wk → f11 b = f b := fun b hb h0 => (congrFun e_f11 b).trans (z_up_ne (z_ne hb hn_q9) (hfr b hb h0))
  refine z_putF (C := RX8) (T := TX8) (N := 8) (ci := 8) (v := .ref q9) (fs' := [.ref q1, .int 0, .ref q5, .ref q9, .null, .int 0, .int 0, .int 0]) hx hb hT zin_X8 tyX8_ok nmX8 hown hK hw hm_wk hf_wk rfl 3 (by decide) (hT _ kw_349) rfl hnm rfl rfl rfl (Nat.le_of_ble_eq_true rfl) rfl dX8_init_23 (fun H locs hw => ?_)
  obtain ⟨f12, e_f12⟩ : ∃ z, z = va_up f11 wk (.inr (8, [.ref q1, .int 0, .ref q5, .ref q9, .null, .int 0, .int 0, .int 0])) := ⟨_, rfl⟩
  rw [← e_f12] at hw
  have hf_q1 : f12 q1 = .inl (cy 1, 13, .inl (fun _ => 0)) := (congrFun e_f12 q1).trans (z_up_ne (Ne.symm ne_wk_q1) hf_q1)
  have hf_q5 : f12 q5 = .inl (cy 1, 4, .inl (fun _ => 0)) := (congrFun e_f12 q5).trans (z_up_ne (Ne.symm ne_wk_q5) hf_q5)
  have hf_q9 : f12 q9 = .inl (cy 1, 4, .inl (fun _ => 0)) := (congrFun e_f12 q9).trans (z_up_ne (Ne.symm ne_wk_q9) hf_q9)
  have hf_wk : f12 wk = .inr (8, [.ref q1, .int 0, .ref q5, .ref q9, .null, .int 0, .int 0, .int 0]) := (congrFun e_f12 wk).trans z_up_self
  have hfr : ∀ b ∈ L, b ≠ wk → f12 b = f b := fun b hb h0 => (congrFun e_f12 b).trans (z_up_ne h0 (hfr b hb h0))
  refine lv_aload_n hx hb dX8_init_26 rfl (lv_at hl 0 rfl) ?_
  refine lv_iconst (v := 5) hx hb dX8_init_27 (by decide) ?_
  refine z_newa (atype := .int) (n := 5) (N' := 5) (a0 := (5, .inl (fun _ => 0))) (cells := 3) (slots := 21) hx hb (hT _ kw_203) rfl 1 rfl (fun _ h => by cases h) hK hw hA (fun _ => rfl) (by decide) (by decide) (by decide) (by decide) (by decide) dX8_init_28 (fun q13 H hq_q13 hw => ?_)
  refine W.widen (k := 4) (n := 26) (by decide) (by decide) ?_
  have ne_wk_q13 : wk ≠ q13 := z_ne hm_wk hq_q13
  have ne_q1_q13 : q1 ≠ q13 := z_ne hm_q1 hq_q13
  have ne_q5_q13 : q5 ≠ q13 := z_ne hm_q5 hq_q13
  have ne_q9_q13 : q9 ≠ q13 := z_ne hm_q9 hq_q13
  have hn_q13 : q13 ∉ L := fun h => hq_q13 (hsub _ h)
  obtain ⟨f15, e_f15⟩ : ∃ z, z = va_up f12 q13 (.inl (cy 1, 5, .inl (fun _ => 0))) := ⟨_, rfl⟩
  obtain ⟨L14, e_L14⟩ : ∃ z, z = L10 ++ [q13] := ⟨_, rfl⟩
  rw [← e_f15, ← e_L14] at hw
  have hm_wk : wk ∈ L14 := by rw [e_L14]; exact List.mem_append_left _ hm_wk
  have hf_wk : f15 wk = .inr (8, [.ref q1, .int 0, .ref q5, .ref q9, .null, .int 0, .int 0, .int 0]) := (congrFun e_f15 wk).trans (z_up_ne ne_wk_q13 hf_wk)
  have hm_q1 : q1 ∈ L14 := by rw [e_L14]; exact List.mem_append_left _ hm_q1
  have hf_q1 : f15 q1 = .inl (cy 1, 13, .inl (fun _ => 0)) := (congrFun e_f15 q1).trans (z_up_ne ne_q1_q13 hf_q1)
  have hm_q5 : q5 ∈ L14 := by rw [e_L14]; exact List.mem_append_left _ hm_q5
  have hf_q5 : f15 q5 = .inl (cy 1, 4, .inl (fun _ => 0)) := (congrFun e_f15 q5).trans (z_up_ne ne_q5_q13 hf_q5)
  have hm_q9 : q9 ∈ L14 := by rw [e_L14]; exact List.mem_append_left _ hm_q9
  have hf_q9 : f15 q9 = .inl (cy 1, 4, .inl (fun _ => 0)) := (congrFun e_f15 q9).trans (z_up_ne ne_q9_q13 hf_q9)
  have hm_q13 : q13 ∈ L14 := by rw [e_L14]; exact List.mem_append_right _ (List.mem_singleton.mpr rfl)
  have hf_q13 : f15 q13 = .inl (cy 1, 5, .inl (fun _ => 0)) := (congrFun e_f15 q13).trans z_up_self
  have hsub : ∀ b ∈ L, b ∈ L14 := fun b h => by rw [e_L14]; exact List.mem_append_left _ (hsub b h)
  have hfr : ∀ b ∈ L, b ≠ wk → f15 b = f b := fun b hb h0 => (congrFun e_f15 b).trans (z_up_ne (z_ne hb hn_q13) (hfr b hb h0))
  refine z_putF (C := RX8) (T := TX8) (N := 8) (ci := 8) (v := .ref q13) (fs' := [.ref q1, .int 0, .ref q5, .ref q9, .ref q13, .int 0, .int 0, .int 0]) hx hb hT zin_X8 tyX8_ok nmX8 hown hK hw hm_wk hf_wk rfl 4 (by decide) (hT _ kw_351) rfl hnm rfl rfl rfl (Nat.le_of_ble_eq_true rfl) rfl dX8_init_30 (fun H locs hw => ?_)
  obtain ⟨f16, e_f16⟩ : ∃ z, z = va_up f15 wk (.inr (8, [.ref q1, .int 0, .ref q5, .ref q9, .ref q13, .int 0, .int 0, .int 0])) := ⟨_, rfl⟩
  rw [← e_f16] at hw
  have hf_q1 : f16 q1 = .inl (cy 1, 13, .inl (fun _ => 0)) := (congrFun e_f16 q1).trans (z_up_ne (Ne.symm ne_wk_q1) hf_q1)
  have hf_q5 : f16 q5 = .inl (cy 1, 4, .inl (fun _ => 0)) := (congrFun e_f16 q5).trans (z_up_ne (Ne.symm ne_wk_q5) hf_q5)
  have hf_q9 : f16 q9 = .inl (cy 1, 4, .inl (fun _ => 0)) := (congrFun e_f16 q9).trans (z_up_ne (Ne.symm ne_wk_q9) hf_q9)
  have hf_q13 : f16 q13 = .inl (cy 1, 5, .inl (fun _ => 0)) := (congrFun e_f16 q13).trans (z_up_ne (Ne.symm ne_wk_q13) hf_q13)
  have hf_wk : f16 wk = .inr (8, [.ref q1, .int 0, .ref q5, .ref q9, .ref q13, .int 0, .int 0, .int 0]) := (congrFun e_f16 wk).trans z_up_self
  have hfr : ∀ b ∈ L, b ≠ wk → f16 b = f b := fun b hb h0 => (congrFun e_f16 b).trans (z_up_ne h0 (hfr b hb h0))
  exact z_vret hx hb hr hlk (by decide) (by decide) hw (⟨hsub, hfr, trivial⟩) dX8_init_33

set_option maxHeartbeats 2000000 in
set_option maxRecDepth 100000 in
theorem c_X4_init (l : Launch) {D : va_G} {cy : Nat → ClassId} {L : List Nat} {f : Nat → va_E} {sz : Nat} {pl wk : Nat} (hm_pl : pl ∈ L) (hf_pl : f pl = .inr (4, [.null, .null, .null, .int 0, .int 0, .int 0, .int 0, .int 0, .int 0, .int 0, .int 0, .int 0])) : Met l yX4_init (z_ws yX4_init cX4_init 2 none) (z_R 3 19 389) (va_Pc [.ref pl, .ref wk] (z_Pre D vwCl (z_K D cy) L f sz)) (z_Qv D vwCl (fun u => (∀ b ∈ L, b ∈ u.1) ∧ (∀ b ∈ L, b ≠ pl → u.2 b = f b) ∧ ((True))) L sz) 19 389 (z_A L sz) := by
  refine z_met (cc := cX4_init) (maxL := 2) (ret := none) (lv := [(0, .ref pl), (1, .ref wk)]) (by decide) rfl (Nat.le_of_ble_eq_true rfl) rfl ?_
  intro p e s m below meth c ls hx hb hr hlk hml hown hnm hts hKK hA hw hl
  have hK := hKK.1
  have hown : s.vm.findClass RX4 = some m.cls := hown
  have hT : ∀ w ∈ lw_all, w.before ([.ref pl, .ref wk] : List Value).toArray s = true := fun w h => hts w (z_cons w h)
  have hsub : ∀ b ∈ L, b ∈ L := fun _ h => h
  have hfr : ∀ b ∈ L, b ≠ pl → f b = f b := fun _ _ _ => rfl
  refine lv_aload_n hx hb dX4_init_0 rfl (lv_at hl 0 rfl) ?_
  refine W.objInit hx hb hown (hT _ ko_RX4) (hT _ ko_i) (hT _ ko_c) rfl (by rw [hml]; exact hl.1) rfl dX4_init_1 (Nat.le_of_ble_eq_true rfl) (Nat.le_of_ble_eq_true rfl) ?_
  refine W.eq (g2 := F0 m 4 ls []) rfl ?_
  refine lv_aload_n hx hb dX4_init_4 rfl (lv_at hl 0 rfl) ?_
  refine z_new (C := RX2) (T := TX2) (N := 11) (ci := 2) (fs := [.int 0, .int 0, .int 0, .int 0, .int 0, .int 0, .int 0, .null, .null, .null, .null]) (cells := 0) (slots := 0) hx hb hT zin_X2 tyX2_ok hown (hT _ kw_382) (hT _ kw_129) (hT _ kw_87) hK hw hA rfl (fun j hj => by rcases (show j = 0 ∨ j = 1 ∨ j = 2 ∨ j = 3 ∨ j = 4 ∨ j = 5 ∨ j = 6 ∨ j = 7 ∨ j = 8 ∨ j = 9 ∨ j = 10 by omega) with rfl | rfl | rfl | rfl | rfl | rfl | rfl | rfl | rfl | rfl | rfl <;> rfl) (by decide) (by decide) dX4_init_5 (fun q1 H hq_q1 hw => ?_)
  refine W.widen (k := 1) (n := 11) (by decide) (by decide) ?_
  have ne_pl_q1 : pl ≠ q1 := z_ne hm_pl hq_q1
  have hn_q1 : q1 ∉ L := fun h => hq_q1 (hsub _ h)
  obtain ⟨f3, e_f3⟩ : ∃ z, z = va_up f q1 (.inr (2, [.int 0, .int 0, .int 0, .int 0, .int 0, .int 0, .int 0, .null, .null, .null, .null])) := ⟨_, rfl⟩
  obtain ⟨L2, e_L2⟩ : ∃ z, z = L ++ [q1] := ⟨_, rfl⟩
  rw [← e_f3, ← e_L2] at hw
  have hm_pl : pl ∈ L2 := by rw [e_L2]; exact List.mem_append_left _ hm_pl
  have hf_pl : f3 pl = .inr (4, [.null, .null, .null, .int 0, .int 0, .int 0, .int 0, .int 0, .int 0, .int 0, .int 0, .int 0]) := (congrFun e_f3 pl).trans (z_up_ne ne_pl_q1 hf_pl)
  have hm_q1 : q1 ∈ L2 := by rw [e_L2]; exact List.mem_append_right _ (List.mem_singleton.mpr rfl)
  have hf_q1 : f3 q1 = .inr (2, [.int 0, .int 0, .int 0, .int 0, .int 0, .int 0, .int 0, .null, .null, .null, .null]) := (congrFun e_f3 q1).trans z_up_self
  have hsub : ∀ b ∈ L, b ∈ L2 := fun b h => by rw [e_L2]; exact List.mem_append_left _ (hsub b h)
  have hfr : ∀ b ∈ L, b ≠ pl → f3 b = f b := fun b hb h0 => (congrFun e_f3 b).trans (z_up_ne (z_ne hb hn_q1) (hfr b hb h0))
  refine lv_dup hx hb dX4_init_8 rfl ?_
  refine z_callvI (cells := 1) (slots := 11) (b := q1) (As := []) (rest := [.ref q1, .ref pl]) ⟨hx, hb, hml, hown, hT⟩ (c_X2_init l hm_q1 hf_q1) (cwI 0 hT (z_goodI (fun _ h => h) kw_132) rfl rfl rfl (hT _ kw_87) (hT _ kw_383) (hT _ kw_131) rfl (by decide +kernel) ⟨by decide, by decide⟩) z_mv hKK hw hA rfl hl.1 rfl (Nat.le_of_ble_eq_true rfl) dX4_init_9 ⟨by decide, by decide⟩ (fun u H locs hp hw => ?_)
  refine W.widen (k := 18) (n := 173) (by decide) (by decide) ?_
  obtain ⟨L4, f5⟩ := u
  obtain ⟨hsb, hfm, la_6, sa_7, mi_8, da_9, ha_0, ⟨hq_la_6, hm_la_6, hf_la_6⟩, ⟨hq_sa_7, hm_sa_7, hf_sa_7⟩, ⟨hq_mi_8, hm_mi_8, hf_mi_8⟩, hp⟩ := hp
  have hw : z_H D vwCl (z_A L sz) s.heap L4 f5 H locs := hw
  have ne_pl_la_6 : pl ≠ la_6 := z_ne hm_pl hq_la_6
  have ne_q1_la_6 : q1 ≠ la_6 := z_ne hm_q1 hq_la_6
  have ne_pl_sa_7 : pl ≠ sa_7 := z_ne hm_pl hq_sa_7
  have ne_q1_sa_7 : q1 ≠ sa_7 := z_ne hm_q1 hq_sa_7
  have ne_pl_mi_8 : pl ≠ mi_8 := z_ne hm_pl hq_mi_8
  have ne_q1_mi_8 : q1 ≠ mi_8 := z_ne hm_q1 hq_mi_8
  have hfr : ∀ b ∈ L, b ≠ pl → f5 b = f b := fun b hb h0 => (hfm b (hsub b hb) (z_ne hb hn_q1)).trans (hfr b hb h0)
  have hn_la_6 : la_6 ∉ L := fun h => hq_la_6 (hsub _ h)
  have hn_sa_7 : sa_7 ∉ L := fun h => hq_sa_7 (hsub _ h)
  have hn_mi_8 : mi_8 ∉ L := fun h => hq_mi_8 (hsub _ h)
  have hsub : ∀ b ∈ L, b ∈ L4 := fun b h => hsb b (hsub b h)
  have hf_pl : f5 pl = .inr (4, [.null, .null, .null, .int 0, .int 0, .int 0, .int 0, .int 0, .int 0, .int 0, .int 0, .int 0]) := (hfm pl hm_pl ne_pl_q1).trans hf_pl
  have hm_pl : pl ∈ L4 := hsb _ hm_pl
  have hm_q1 : q1 ∈ L4 := hsb _ hm_q1
  have hf_q1 : f5 q1 = .inr (2, [.int 0, .int 0, .int 0, .int 0, .int 0, .int 0, .int 0, .ref la_6, .ref sa_7, .ref mi_8, .ref da_9]) := ha_0
  have hf_la_6 : f5 la_6 = .inl (cy 1, 5, .inl (fun _ => 0)) := hf_la_6
  have hm_la_6 : la_6 ∈ L4 := hm_la_6
  have hf_sa_7 : f5 sa_7 = .inl (cy 1, 4, .inl (fun _ => 0)) := hf_sa_7
  have hm_sa_7 : sa_7 ∈ L4 := hm_sa_7
  have hf_mi_8 : f5 mi_8 = .inl (cy 1, 36, .inl (fun _ => 0)) := hf_mi_8
  have hm_mi_8 : mi_8 ∈ L4 := hm_mi_8
  refine z_putF (C := RX4) (T := TX4) (N := 12) (ci := 4) (v := .ref q1) (fs' := [.ref q1, .null, .null, .int 0, .int 0, .int 0, .int 0, .int 0, .int 0, .int 0, .int 0, .int 0]) hx hb hT zin_X4 tyX4_ok nmX4 hown hK hw hm_pl hf_pl rfl 0 (by decide) (hT _ kw_384) rfl hnm rfl rfl rfl (Nat.le_of_ble_eq_true rfl) rfl dX4_init_12 (fun H locs hw => ?_)
  obtain ⟨f10, e_f10⟩ : ∃ z, z = va_up f5 pl (.inr (4, [.ref q1, .null, .null, .int 0, .int 0, .int 0, .int 0, .int 0, .int 0, .int 0, .int 0, .int 0])) := ⟨_, rfl⟩
  rw [← e_f10] at hw
  have hf_q1 : f10 q1 = .inr (2, [.int 0, .int 0, .int 0, .int 0, .int 0, .int 0, .int 0, .ref la_6, .ref sa_7, .ref mi_8, .ref da_9]) := (congrFun e_f10 q1).trans (z_up_ne (Ne.symm ne_pl_q1) hf_q1)
  have hf_la_6 : f10 la_6 = .inl (cy 1, 5, .inl (fun _ => 0)) := (congrFun e_f10 la_6).trans (z_up_ne (Ne.symm ne_pl_la_6) hf_la_6)
  have hf_sa_7 : f10 sa_7 = .inl (cy 1, 4, .inl (fun _ => 0)) := (congrFun e_f10 sa_7).trans (z_up_ne (Ne.symm ne_pl_sa_7) hf_sa_7)
  have hf_mi_8 : f10 mi_8 = .inl (cy 1, 36, .inl (fun _ => 0)) := (congrFun e_f10 mi_8).trans (z_up_ne (Ne.symm ne_pl_mi_8) hf_mi_8)
  have hf_pl : f10 pl = .inr (4, [.ref q1, .null, .null, .int 0, .int 0, .int 0, .int 0, .int 0, .int 0, .int 0, .int 0, .int 0]) := (congrFun e_f10 pl).trans z_up_self
  have hfr : ∀ b ∈ L, b ≠ pl → f10 b = f b := fun b hb h0 => (congrFun e_f10 b).trans (z_up_ne h0 (hfr b hb h0))
  refine lv_aload_n hx hb dX4_init_15 rfl (lv_at hl 0 rfl) ?_
  refine lv_sipush (v := 216) hx hb dX4_init_16 (by decide) ?_
  refine z_newa (atype := .int) (n := 216) (N' := 216) (a0 := (216, .inl (fun _ => 0))) (cells := 18) (slots := 173) hx hb (hT _ kw_203) rfl 1 rfl (fun _ h => by cases h) hK hw hA (fun _ => rfl) (by decide) (by decide) (by decide) (by decide) (by decide) dX4_init_19 (fun q11 H hq_q11 hw => ?_)
  refine W.widen (k := 19) (n := 389) (by decide) (by decide) ?_
  have ne_pl_q11 : pl ≠ q11 := z_ne hm_pl hq_q11
  have ne_q1_q11 : q1 ≠ q11 := z_ne hm_q1 hq_q11
  have ne_la_6_q11 : la_6 ≠ q11 := z_ne hm_la_6 hq_q11
  have ne_sa_7_q11 : sa_7 ≠ q11 := z_ne hm_sa_7 hq_q11
  have ne_mi_8_q11 : mi_8 ≠ q11 := z_ne hm_mi_8 hq_q11
  have hn_q11 : q11 ∉ L := fun h => hq_q11 (hsub _ h)
  obtain ⟨f13, e_f13⟩ : ∃ z, z = va_up f10 q11 (.inl (cy 1, 216, .inl (fun _ => 0))) := ⟨_, rfl⟩
  obtain ⟨L12, e_L12⟩ : ∃ z, z = L4 ++ [q11] := ⟨_, rfl⟩
  rw [← e_f13, ← e_L12] at hw
  have hm_pl : pl ∈ L12 := by rw [e_L12]; exact List.mem_append_left _ hm_pl
  have hf_pl : f13 pl = .inr (4, [.ref q1, .null, .null, .int 0, .int 0, .int 0, .int 0, .int 0, .int 0, .int 0, .int 0, .int 0]) := (congrFun e_f13 pl).trans (z_up_ne ne_pl_q11 hf_pl)
  have hm_q1 : q1 ∈ L12 := by rw [e_L12]; exact List.mem_append_left _ hm_q1
  have hf_q1 : f13 q1 = .inr (2, [.int 0, .int 0, .int 0, .int 0, .int 0, .int 0, .int 0, .ref la_6, .ref sa_7, .ref mi_8, .ref da_9]) := (congrFun e_f13 q1).trans (z_up_ne ne_q1_q11 hf_q1)
  have hm_la_6 : la_6 ∈ L12 := by rw [e_L12]; exact List.mem_append_left _ hm_la_6
  have hf_la_6 : f13 la_6 = .inl (cy 1, 5, .inl (fun _ => 0)) := (congrFun e_f13 la_6).trans (z_up_ne ne_la_6_q11 hf_la_6)
  have hm_sa_7 : sa_7 ∈ L12 := by rw [e_L12]; exact List.mem_append_left _ hm_sa_7
  have hf_sa_7 : f13 sa_7 = .inl (cy 1, 4, .inl (fun _ => 0)) := (congrFun e_f13 sa_7).trans (z_up_ne ne_sa_7_q11 hf_sa_7)
  have hm_mi_8 : mi_8 ∈ L12 := by rw [e_L12]; exact List.mem_append_left _ hm_mi_8
  have hf_mi_8 : f13 mi_8 = .inl (cy 1, 36, .inl (fun _ => 0)) := (congrFun e_f13 mi_8).trans (z_up_ne ne_mi_8_q11 hf_mi_8)
  have hm_q11 : q11 ∈ L12 := by rw [e_L12]; exact List.mem_append_right _ (List.mem_singleton.mpr rfl)
  have hf_q11 : f13 q11 = .inl (cy 1, 216, .inl (fun _ => 0)) := (congrFun e_f13 q11).trans z_up_self
  have hsub : ∀ b ∈ L, b ∈ L12 := fun b h => by rw [e_L12]; exact List.mem_append_left _ (hsub b h)
  have hfr : ∀ b ∈ L, b ≠ pl → f13 b = f b := fun b hb h0 => (congrFun e_f13 b).trans (z_up_ne (z_ne hb hn_q11) (hfr b hb h0))
  refine z_putF (C := RX4) (T := TX4) (N := 12) (ci := 4) (v := .ref q11) (fs' := [.ref q1, .null, .ref q11, .int 0, .int 0, .int 0, .int 0, .int 0, .int 0, .int 0, .int 0, .int 0]) hx hb hT zin_X4 tyX4_ok nmX4 hown hK hw hm_pl hf_pl rfl 2 (by decide) (hT _ kw_387) rfl hnm rfl rfl rfl (Nat.le_of_ble_eq_true rfl) rfl dX4_init_21 (fun H locs hw => ?_)
  obtain ⟨f14, e_f14⟩ : ∃ z, z = va_up f13 pl (.inr (4, [.ref q1, .null, .ref q11, .int 0, .int 0, .int 0, .int 0, .int 0, .int 0, .int 0, .int 0, .int 0])) := ⟨_, rfl⟩
  rw [← e_f14] at hw
  have hf_q1 : f14 q1 = .inr (2, [.int 0, .int 0, .int 0, .int 0, .int 0, .int 0, .int 0, .ref la_6, .ref sa_7, .ref mi_8, .ref da_9]) := (congrFun e_f14 q1).trans (z_up_ne (Ne.symm ne_pl_q1) hf_q1)
  have hf_la_6 : f14 la_6 = .inl (cy 1, 5, .inl (fun _ => 0)) := (congrFun e_f14 la_6).trans (z_up_ne (Ne.symm ne_pl_la_6) hf_la_6)
  have hf_sa_7 : f14 sa_7 = .inl (cy 1, 4, .inl (fun _ => 0)) := (congrFun e_f14 sa_7).trans (z_up_ne (Ne.symm ne_pl_sa_7) hf_sa_7)
  have hf_mi_8 : f14 mi_8 = .inl (cy 1, 36, .inl (fun _ => 0)) := (congrFun e_f14 mi_8).trans (z_up_ne (Ne.symm ne_pl_mi_8) hf_mi_8)
  have hf_q11 : f14 q11 = .inl (cy 1, 216, .inl (fun _ => 0)) := (congrFun e_f14 q11).trans (z_up_ne (Ne.symm ne_pl_q11) hf_q11)
  have hf_pl : f14 pl = .inr (4, [.ref q1, .null, .ref q11, .int 0, .int 0, .int 0, .int 0, .int 0, .int 0, .int 0, .int 0, .int 0]) := (congrFun e_f14 pl).trans z_up_self
  have hfr : ∀ b ∈ L, b ≠ pl → f14 b = f b := fun b hb h0 => (congrFun e_f14 b).trans (z_up_ne h0 (hfr b hb h0))
  refine lv_aload_n hx hb dX4_init_24 rfl (lv_at hl 0 rfl) ?_
  refine lv_aload_n hx hb dX4_init_25 rfl (lv_at hl 1 rfl) ?_
  refine z_putF (C := RX4) (T := TX4) (N := 12) (ci := 4) (v := .ref wk) (fs' := [.ref q1, .ref wk, .ref q11, .int 0, .int 0, .int 0, .int 0, .int 0, .int 0, .int 0, .int 0, .int 0]) hx hb hT zin_X4 tyX4_ok nmX4 hown hK hw hm_pl hf_pl rfl 1 (by decide) (hT _ kw_386) rfl hnm rfl rfl rfl (Nat.le_of_ble_eq_true rfl) rfl dX4_init_26 (fun H locs hw => ?_)
  obtain ⟨f15, e_f15⟩ : ∃ z, z = va_up f14 pl (.inr (4, [.ref q1, .ref wk, .ref q11, .int 0, .int 0, .int 0, .int 0, .int 0, .int 0, .int 0, .int 0, .int 0])) := ⟨_, rfl⟩
  rw [← e_f15] at hw
  have hf_q1 : f15 q1 = .inr (2, [.int 0, .int 0, .int 0, .int 0, .int 0, .int 0, .int 0, .ref la_6, .ref sa_7, .ref mi_8, .ref da_9]) := (congrFun e_f15 q1).trans (z_up_ne (Ne.symm ne_pl_q1) hf_q1)
  have hf_la_6 : f15 la_6 = .inl (cy 1, 5, .inl (fun _ => 0)) := (congrFun e_f15 la_6).trans (z_up_ne (Ne.symm ne_pl_la_6) hf_la_6)
  have hf_sa_7 : f15 sa_7 = .inl (cy 1, 4, .inl (fun _ => 0)) := (congrFun e_f15 sa_7).trans (z_up_ne (Ne.symm ne_pl_sa_7) hf_sa_7)
  have hf_mi_8 : f15 mi_8 = .inl (cy 1, 36, .inl (fun _ => 0)) := (congrFun e_f15 mi_8).trans (z_up_ne (Ne.symm ne_pl_mi_8) hf_mi_8)
  have hf_q11 : f15 q11 = .inl (cy 1, 216, .inl (fun _ => 0)) := (congrFun e_f15 q11).trans (z_up_ne (Ne.symm ne_pl_q11) hf_q11)
  have hf_pl : f15 pl = .inr (4, [.ref q1, .ref wk, .ref q11, .int 0, .int 0, .int 0, .int 0, .int 0, .int 0, .int 0, .int 0, .int 0]) := (congrFun e_f15 pl).trans z_up_self
  have hfr : ∀ b ∈ L, b ≠ pl → f15 b = f b := fun b hb h0 => (congrFun e_f15 b).trans (z_up_ne h0 (hfr b hb h0))
  exact z_vret hx hb hr hlk (by decide) (by decide) hw (⟨hsub, hfr, trivial⟩) dX4_init_29

set_option maxHeartbeats 2000000 in
set_option maxRecDepth 100000 in
theorem c_X3_init (l : Launch) {D : va_G} {cy : Nat → ClassId} {L : List Nat} {f : Nat → va_E} {sz : Nat} {ex wk : Nat} (hm_ex : ex ∈ L) (hf_ex : f ex = .inr (3, [.null, .null, .null, .null, .int 0, .int 0])) : Met l yX3_init (z_ws yX3_init cX3_init 2 none) (z_R 1 3 24) (va_Pc [.ref ex, .ref wk] (z_Pre D vwCl (z_K D cy) L f sz)) (z_Qv D vwCl (fun u => (∀ b ∈ L, b ∈ u.1) ∧ (∀ b ∈ L, b ≠ ex → u.2 b = f b) ∧ ((True))) L sz) 3 24 (z_A L sz) := by
  refine z_met (cc := cX3_init) (maxL := 2) (ret := none) (lv := [(0, .ref ex), (1, .ref wk)]) (by decide) rfl (Nat.le_of_ble_eq_true rfl) rfl ?_
  intro p e s m below meth c ls hx hb hr hlk hml hown hnm hts hKK hA hw hl
  have hK := hKK.1
  have hown : s.vm.findClass RX3 = some m.cls := hown
  have hT : ∀ w ∈ lw_all, w.before ([.ref ex, .ref wk] : List Value).toArray s = true := fun w h => hts w (z_cons w h)
  have hsub : ∀ b ∈ L, b ∈ L := fun _ h => h
  have hfr : ∀ b ∈ L, b ≠ ex → f b = f b := fun _ _ _ => rfl
  refine lv_aload_n hx hb dX3_init_0 rfl (lv_at hl 0 rfl) ?_
  refine W.objInit hx hb hown (hT _ ko_RX3) (hT _ ko_i) (hT _ ko_c) rfl (by rw [hml]; exact hl.1) rfl dX3_init_1 (Nat.le_of_ble_eq_true rfl) (Nat.le_of_ble_eq_true rfl) ?_
  refine W.eq (g2 := F0 m 4 ls []) rfl ?_
  refine lv_aload_n hx hb dX3_init_4 rfl (lv_at hl 0 rfl) ?_
  refine lv_bipush (v := 6) hx hb dX3_init_5 (by decide) ?_
  refine z_newa (atype := .int) (n := 6) (N' := 6) (a0 := (6, .inl (fun _ => 0))) (cells := 0) (slots := 0) hx hb (hT _ kw_203) rfl 1 rfl (fun _ h => by cases h) hK hw hA (fun _ => rfl) (by decide) (by decide) (by decide) (by decide) (by decide) dX3_init_7 (fun q1 H hq_q1 hw => ?_)
  refine W.widen (k := 1) (n := 6) (by decide) (by decide) ?_
  have ne_ex_q1 : ex ≠ q1 := z_ne hm_ex hq_q1
  have hn_q1 : q1 ∉ L := fun h => hq_q1 (hsub _ h)
  obtain ⟨f3, e_f3⟩ : ∃ z, z = va_up f q1 (.inl (cy 1, 6, .inl (fun _ => 0))) := ⟨_, rfl⟩
  obtain ⟨L2, e_L2⟩ : ∃ z, z = L ++ [q1] := ⟨_, rfl⟩
  rw [← e_f3, ← e_L2] at hw
  have hm_ex : ex ∈ L2 := by rw [e_L2]; exact List.mem_append_left _ hm_ex
  have hf_ex : f3 ex = .inr (3, [.null, .null, .null, .null, .int 0, .int 0]) := (congrFun e_f3 ex).trans (z_up_ne ne_ex_q1 hf_ex)
  have hm_q1 : q1 ∈ L2 := by rw [e_L2]; exact List.mem_append_right _ (List.mem_singleton.mpr rfl)
  have hf_q1 : f3 q1 = .inl (cy 1, 6, .inl (fun _ => 0)) := (congrFun e_f3 q1).trans z_up_self
  have hsub : ∀ b ∈ L, b ∈ L2 := fun b h => by rw [e_L2]; exact List.mem_append_left _ (hsub b h)
  have hfr : ∀ b ∈ L, b ≠ ex → f3 b = f b := fun b hb h0 => (congrFun e_f3 b).trans (z_up_ne (z_ne hb hn_q1) (hfr b hb h0))
  refine z_putF (C := RX3) (T := TX3) (N := 6) (ci := 3) (v := .ref q1) (fs' := [.null, .ref q1, .null, .null, .int 0, .int 0]) hx hb hT zin_X3 tyX3_ok nmX3 hown hK hw hm_ex hf_ex rfl 1 (by decide) (hT _ kw_436) rfl hnm rfl rfl rfl (Nat.le_of_ble_eq_true rfl) rfl dX3_init_9 (fun H locs hw => ?_)
  obtain ⟨f4, e_f4⟩ : ∃ z, z = va_up f3 ex (.inr (3, [.null, .ref q1, .null, .null, .int 0, .int 0])) := ⟨_, rfl⟩
  rw [← e_f4] at hw
  have hf_q1 : f4 q1 = .inl (cy 1, 6, .inl (fun _ => 0)) := (congrFun e_f4 q1).trans (z_up_ne (Ne.symm ne_ex_q1) hf_q1)
  have hf_ex : f4 ex = .inr (3, [.null, .ref q1, .null, .null, .int 0, .int 0]) := (congrFun e_f4 ex).trans z_up_self
  have hfr : ∀ b ∈ L, b ≠ ex → f4 b = f b := fun b hb h0 => (congrFun e_f4 b).trans (z_up_ne h0 (hfr b hb h0))
  refine lv_aload_n hx hb dX3_init_12 rfl (lv_at hl 0 rfl) ?_
  refine lv_bipush (v := 6) hx hb dX3_init_13 (by decide) ?_
  refine z_newa (atype := .int) (n := 6) (N' := 6) (a0 := (6, .inl (fun _ => 0))) (cells := 1) (slots := 6) hx hb (hT _ kw_203) rfl 1 rfl (fun _ h => by cases h) hK hw hA (fun _ => rfl) (by decide) (by decide) (by decide) (by decide) (by decide) dX3_init_15 (fun q5 H hq_q5 hw => ?_)
  refine W.widen (k := 2) (n := 12) (by decide) (by decide) ?_
  have ne_ex_q5 : ex ≠ q5 := z_ne hm_ex hq_q5
  have ne_q1_q5 : q1 ≠ q5 := z_ne hm_q1 hq_q5
  have hn_q5 : q5 ∉ L := fun h => hq_q5 (hsub _ h)
  obtain ⟨f7, e_f7⟩ : ∃ z, z = va_up f4 q5 (.inl (cy 1, 6, .inl (fun _ => 0))) := ⟨_, rfl⟩
  obtain ⟨L6, e_L6⟩ : ∃ z, z = L2 ++ [q5] := ⟨_, rfl⟩
  rw [← e_f7, ← e_L6] at hw
  have hm_ex : ex ∈ L6 := by rw [e_L6]; exact List.mem_append_left _ hm_ex
  have hf_ex : f7 ex = .inr (3, [.null, .ref q1, .null, .null, .int 0, .int 0]) := (congrFun e_f7 ex).trans (z_up_ne ne_ex_q5 hf_ex)
  have hm_q1 : q1 ∈ L6 := by rw [e_L6]; exact List.mem_append_left _ hm_q1
  have hf_q1 : f7 q1 = .inl (cy 1, 6, .inl (fun _ => 0)) := (congrFun e_f7 q1).trans (z_up_ne ne_q1_q5 hf_q1)
  have hm_q5 : q5 ∈ L6 := by rw [e_L6]; exact List.mem_append_right _ (List.mem_singleton.mpr rfl)
  have hf_q5 : f7 q5 = .inl (cy 1, 6, .inl (fun _ => 0)) := (congrFun e_f7 q5).trans z_up_self
  have hsub : ∀ b ∈ L, b ∈ L6 := fun b h => by rw [e_L6]; exact List.mem_append_left _ (hsub b h)
  have hfr : ∀ b ∈ L, b ≠ ex → f7 b = f b := fun b hb h0 => (congrFun e_f7 b).trans (z_up_ne (z_ne hb hn_q5) (hfr b hb h0))
  refine z_putF (C := RX3) (T := TX3) (N := 6) (ci := 3) (v := .ref q5) (fs' := [.null, .ref q1, .ref q5, .null, .int 0, .int 0]) hx hb hT zin_X3 tyX3_ok nmX3 hown hK hw hm_ex hf_ex rfl 2 (by decide) (hT _ kw_437) rfl hnm rfl rfl rfl (Nat.le_of_ble_eq_true rfl) rfl dX3_init_17 (fun H locs hw => ?_)
  obtain ⟨f8, e_f8⟩ : ∃ z, z = va_up f7 ex (.inr (3, [.null, .ref q1, .ref q5, .null, .int 0, .int 0])) := ⟨_, rfl⟩
  rw [← e_f8] at hw
  have hf_q1 : f8 q1 = .inl (cy 1, 6, .inl (fun _ => 0)) := (congrFun e_f8 q1).trans (z_up_ne (Ne.symm ne_ex_q1) hf_q1)
  have hf_q5 : f8 q5 = .inl (cy 1, 6, .inl (fun _ => 0)) := (congrFun e_f8 q5).trans (z_up_ne (Ne.symm ne_ex_q5) hf_q5)
  have hf_ex : f8 ex = .inr (3, [.null, .ref q1, .ref q5, .null, .int 0, .int 0]) := (congrFun e_f8 ex).trans z_up_self
  have hfr : ∀ b ∈ L, b ≠ ex → f8 b = f b := fun b hb h0 => (congrFun e_f8 b).trans (z_up_ne h0 (hfr b hb h0))
  refine lv_aload_n hx hb dX3_init_20 rfl (lv_at hl 0 rfl) ?_
  refine lv_bipush (v := 12) hx hb dX3_init_21 (by decide) ?_
  refine z_newa (atype := .int) (n := 12) (N' := 12) (a0 := (12, .inl (fun _ => 0))) (cells := 2) (slots := 12) hx hb (hT _ kw_203) rfl 1 rfl (fun _ h => by cases h) hK hw hA (fun _ => rfl) (by decide) (by decide) (by decide) (by decide) (by decide) dX3_init_23 (fun q9 H hq_q9 hw => ?_)
  refine W.widen (k := 3) (n := 24) (by decide) (by decide) ?_
  have ne_ex_q9 : ex ≠ q9 := z_ne hm_ex hq_q9
  have ne_q1_q9 : q1 ≠ q9 := z_ne hm_q1 hq_q9
  have ne_q5_q9 : q5 ≠ q9 := z_ne hm_q5 hq_q9
  have hn_q9 : q9 ∉ L := fun h => hq_q9 (hsub _ h)
  obtain ⟨f11, e_f11⟩ : ∃ z, z = va_up f8 q9 (.inl (cy 1, 12, .inl (fun _ => 0))) := ⟨_, rfl⟩
  obtain ⟨L10, e_L10⟩ : ∃ z, z = L6 ++ [q9] := ⟨_, rfl⟩
  rw [← e_f11, ← e_L10] at hw
  have hm_ex : ex ∈ L10 := by rw [e_L10]; exact List.mem_append_left _ hm_ex
  have hf_ex : f11 ex = .inr (3, [.null, .ref q1, .ref q5, .null, .int 0, .int 0]) := (congrFun e_f11 ex).trans (z_up_ne ne_ex_q9 hf_ex)
  have hm_q1 : q1 ∈ L10 := by rw [e_L10]; exact List.mem_append_left _ hm_q1
  have hf_q1 : f11 q1 = .inl (cy 1, 6, .inl (fun _ => 0)) := (congrFun e_f11 q1).trans (z_up_ne ne_q1_q9 hf_q1)
  have hm_q5 : q5 ∈ L10 := by rw [e_L10]; exact List.mem_append_left _ hm_q5
  have hf_q5 : f11 q5 = .inl (cy 1, 6, .inl (fun _ => 0)) := (congrFun e_f11 q5).trans (z_up_ne ne_q5_q9 hf_q5)
  have hm_q9 : q9 ∈ L10 := by rw [e_L10]; exact List.mem_append_right _ (List.mem_singleton.mpr rfl)
  have hf_q9 : f11 q9 = .inl (cy 1, 12, .inl (fun _ => 0)) := (congrFun e_f11 q9).trans z_up_self
  have hsub : ∀ b ∈ L, b ∈ L10 := fun b h => by rw [e_L10]; exact List.mem_append_left _ (hsub b h)
  have hfr : ∀ b ∈ L, b ≠ ex → f11 b = f b := fun b hb h0 => (congrFun e_f11 b).trans (z_up_ne (z_ne hb hn_q9) (hfr b hb h0))
  refine z_putF (C := RX3) (T := TX3) (N := 6) (ci := 3) (v := .ref q9) (fs' := [.null, .ref q1, .ref q5, .ref q9, .int 0, .int 0]) hx hb hT zin_X3 tyX3_ok nmX3 hown hK hw hm_ex hf_ex rfl 3 (by decide) (hT _ kw_439) rfl hnm rfl rfl rfl (Nat.le_of_ble_eq_true rfl) rfl dX3_init_25 (fun H locs hw => ?_)
  obtain ⟨f12, e_f12⟩ : ∃ z, z = va_up f11 ex (.inr (3, [.null, .ref q1, .ref q5, .ref q9, .int 0, .int 0])) := ⟨_, rfl⟩
  rw [← e_f12] at hw
  have hf_q1 : f12 q1 = .inl (cy 1, 6, .inl (fun _ => 0)) := (congrFun e_f12 q1).trans (z_up_ne (Ne.symm ne_ex_q1) hf_q1)
  have hf_q5 : f12 q5 = .inl (cy 1, 6, .inl (fun _ => 0)) := (congrFun e_f12 q5).trans (z_up_ne (Ne.symm ne_ex_q5) hf_q5)
  have hf_q9 : f12 q9 = .inl (cy 1, 12, .inl (fun _ => 0)) := (congrFun e_f12 q9).trans (z_up_ne (Ne.symm ne_ex_q9) hf_q9)
  have hf_ex : f12 ex = .inr (3, [.null, .ref q1, .ref q5, .ref q9, .int 0, .int 0]) := (congrFun e_f12 ex).trans z_up_self
  have hfr : ∀ b ∈ L, b ≠ ex → f12 b = f b := fun b hb h0 => (congrFun e_f12 b).trans (z_up_ne h0 (hfr b hb h0))
  refine lv_aload_n hx hb dX3_init_28 rfl (lv_at hl 0 rfl) ?_
  refine lv_aload_n hx hb dX3_init_29 rfl (lv_at hl 1 rfl) ?_
  refine z_putF (C := RX3) (T := TX3) (N := 6) (ci := 3) (v := .ref wk) (fs' := [.ref wk, .ref q1, .ref q5, .ref q9, .int 0, .int 0]) hx hb hT zin_X3 tyX3_ok nmX3 hown hK hw hm_ex hf_ex rfl 0 (by decide) (hT _ kw_435) rfl hnm rfl rfl rfl (Nat.le_of_ble_eq_true rfl) rfl dX3_init_30 (fun H locs hw => ?_)
  obtain ⟨f13, e_f13⟩ : ∃ z, z = va_up f12 ex (.inr (3, [.ref wk, .ref q1, .ref q5, .ref q9, .int 0, .int 0])) := ⟨_, rfl⟩
  rw [← e_f13] at hw
  have hf_q1 : f13 q1 = .inl (cy 1, 6, .inl (fun _ => 0)) := (congrFun e_f13 q1).trans (z_up_ne (Ne.symm ne_ex_q1) hf_q1)
  have hf_q5 : f13 q5 = .inl (cy 1, 6, .inl (fun _ => 0)) := (congrFun e_f13 q5).trans (z_up_ne (Ne.symm ne_ex_q5) hf_q5)
  have hf_q9 : f13 q9 = .inl (cy 1, 12, .inl (fun _ => 0)) := (congrFun e_f13 q9).trans (z_up_ne (Ne.symm ne_ex_q9) hf_q9)
  have hf_ex : f13 ex = .inr (3, [.ref wk, .ref q1, .ref q5, .ref q9, .int 0, .int 0]) := (congrFun e_f13 ex).trans z_up_self
  have hfr : ∀ b ∈ L, b ≠ ex → f13 b = f b := fun b hb h0 => (congrFun e_f13 b).trans (z_up_ne h0 (hfr b hb h0))
  exact z_vret hx hb hr hlk (by decide) (by decide) hw (⟨hsub, hfr, trivial⟩) dX3_init_33

set_option maxHeartbeats 2000000 in
set_option maxRecDepth 100000 in
theorem c_X1_init (l : Launch) {D : va_G} {cy : Nat → ClassId} {L : List Nat} {f : Nat → va_E} {sz : Nat} {mx wk : Nat} (hm_mx : mx ∈ L) (hf_mx : f mx = .inr (1, [.null, .null, .int 0, .long 0])) : Met l yX1_init (z_ws yX1_init cX1_init 2 none) (z_R 1 1 2376) (va_Pc [.ref mx, .ref wk] (z_Pre D vwCl (z_K D cy) L f sz)) (z_Qv D vwCl (fun u => (∀ b ∈ L, b ∈ u.1) ∧ (∀ b ∈ L, b ≠ mx → u.2 b = f b) ∧ ((True))) L sz) 1 2376 (z_A L sz) := by
  refine z_met (cc := cX1_init) (maxL := 2) (ret := none) (lv := [(0, .ref mx), (1, .ref wk)]) (by decide) rfl (Nat.le_of_ble_eq_true rfl) rfl ?_
  intro p e s m below meth c ls hx hb hr hlk hml hown hnm hts hKK hA hw hl
  have hK := hKK.1
  have hown : s.vm.findClass RX1 = some m.cls := hown
  have hT : ∀ w ∈ lw_all, w.before ([.ref mx, .ref wk] : List Value).toArray s = true := fun w h => hts w (z_cons w h)
  have hsub : ∀ b ∈ L, b ∈ L := fun _ h => h
  have hfr : ∀ b ∈ L, b ≠ mx → f b = f b := fun _ _ _ => rfl
  refine lv_aload_n hx hb dX1_init_0 rfl (lv_at hl 0 rfl) ?_
  refine W.objInit hx hb hown (hT _ ko_RX1) (hT _ ko_i) (hT _ ko_c) rfl (by rw [hml]; exact hl.1) rfl dX1_init_1 (Nat.le_of_ble_eq_true rfl) (Nat.le_of_ble_eq_true rfl) ?_
  refine W.eq (g2 := F0 m 4 ls []) rfl ?_
  refine lv_aload_n hx hb dX1_init_4 rfl (lv_at hl 0 rfl) ?_
  refine lv_sipush (v := 2376) hx hb dX1_init_5 (by decide) ?_
  refine z_newa (atype := .byte) (n := 2376) (N' := 2376) (a0 := (2376, .inl (fun _ => 0))) (cells := 0) (slots := 0) hx hb (hT _ kw_127) rfl 0 rfl (fun _ h => by cases h) hK hw hA (fun _ => rfl) (by decide) (by decide) (by decide) (by decide) (by decide) dX1_init_8 (fun q1 H hq_q1 hw => ?_)
  refine W.widen (k := 1) (n := 2376) (by decide) (by decide) ?_
  have ne_mx_q1 : mx ≠ q1 := z_ne hm_mx hq_q1
  have hn_q1 : q1 ∉ L := fun h => hq_q1 (hsub _ h)
  obtain ⟨f3, e_f3⟩ : ∃ z, z = va_up f q1 (.inl (cy 0, 2376, .inl (fun _ => 0))) := ⟨_, rfl⟩
  obtain ⟨L2, e_L2⟩ : ∃ z, z = L ++ [q1] := ⟨_, rfl⟩
  rw [← e_f3, ← e_L2] at hw
  have hm_mx : mx ∈ L2 := by rw [e_L2]; exact List.mem_append_left _ hm_mx
  have hf_mx : f3 mx = .inr (1, [.null, .null, .int 0, .long 0]) := (congrFun e_f3 mx).trans (z_up_ne ne_mx_q1 hf_mx)
  have hm_q1 : q1 ∈ L2 := by rw [e_L2]; exact List.mem_append_right _ (List.mem_singleton.mpr rfl)
  have hf_q1 : f3 q1 = .inl (cy 0, 2376, .inl (fun _ => 0)) := (congrFun e_f3 q1).trans z_up_self
  have hsub : ∀ b ∈ L, b ∈ L2 := fun b h => by rw [e_L2]; exact List.mem_append_left _ (hsub b h)
  have hfr : ∀ b ∈ L, b ≠ mx → f3 b = f b := fun b hb h0 => (congrFun e_f3 b).trans (z_up_ne (z_ne hb hn_q1) (hfr b hb h0))
  refine z_putF (C := RX1) (T := TX1) (N := 4) (ci := 1) (v := .ref q1) (fs' := [.null, .ref q1, .int 0, .long 0]) hx hb hT zin_X1 tyX1_ok nmX1 hown hK hw hm_mx hf_mx rfl 1 (by decide) (hT _ kw_465) rfl hnm rfl rfl rfl (Nat.le_of_ble_eq_true rfl) rfl dX1_init_10 (fun H locs hw => ?_)
  obtain ⟨f4, e_f4⟩ : ∃ z, z = va_up f3 mx (.inr (1, [.null, .ref q1, .int 0, .long 0])) := ⟨_, rfl⟩
  rw [← e_f4] at hw
  have hf_q1 : f4 q1 = .inl (cy 0, 2376, .inl (fun _ => 0)) := (congrFun e_f4 q1).trans (z_up_ne (Ne.symm ne_mx_q1) hf_q1)
  have hf_mx : f4 mx = .inr (1, [.null, .ref q1, .int 0, .long 0]) := (congrFun e_f4 mx).trans z_up_self
  have hfr : ∀ b ∈ L, b ≠ mx → f4 b = f b := fun b hb h0 => (congrFun e_f4 b).trans (z_up_ne h0 (hfr b hb h0))
  refine lv_aload_n hx hb dX1_init_13 rfl (lv_at hl 0 rfl) ?_
  refine lv_aload_n hx hb dX1_init_14 rfl (lv_at hl 1 rfl) ?_
  refine z_putF (C := RX1) (T := TX1) (N := 4) (ci := 1) (v := .ref wk) (fs' := [.ref wk, .ref q1, .int 0, .long 0]) hx hb hT zin_X1 tyX1_ok nmX1 hown hK hw hm_mx hf_mx rfl 0 (by decide) (hT _ kw_464) rfl hnm rfl rfl rfl (Nat.le_of_ble_eq_true rfl) rfl dX1_init_15 (fun H locs hw => ?_)
  obtain ⟨f5, e_f5⟩ : ∃ z, z = va_up f4 mx (.inr (1, [.ref wk, .ref q1, .int 0, .long 0])) := ⟨_, rfl⟩
  rw [← e_f5] at hw
  have hf_q1 : f5 q1 = .inl (cy 0, 2376, .inl (fun _ => 0)) := (congrFun e_f5 q1).trans (z_up_ne (Ne.symm ne_mx_q1) hf_q1)
  have hf_mx : f5 mx = .inr (1, [.ref wk, .ref q1, .int 0, .long 0]) := (congrFun e_f5 mx).trans z_up_self
  have hfr : ∀ b ∈ L, b ≠ mx → f5 b = f b := fun b hb h0 => (congrFun e_f5 b).trans (z_up_ne h0 (hfr b hb h0))
  exact z_vret hx hb hr hlk (by decide) (by decide) hw (⟨hsub, hfr, trivial⟩) dX1_init_18
