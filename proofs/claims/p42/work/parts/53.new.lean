set_option maxHeartbeats 2000000 in
set_option maxRecDepth 100000 in
theorem c_X0_init (l : Launch) {D : va_G} {cy : Nat → ClassId} {L : List Nat} {f : Nat → va_E} {sz : Nat} {adK adV : Nat → Nat} {dv : Nat} (hm_dv : dv ∈ L) (hf_dv : f dv = .inr (0, [.int 0, .int 0, .int 0, .int 0, .int 0, .int 0, .int 0, .int 0])) : Met l yX0_init (z_ws yX0_init cX0_init 1 none) (z_R 1 0 0) (va_Pc [.ref dv] (z_Pre D vwCl (z_KK D cy adK adV) L f sz)) (z_Qv D vwCl (fun u => u = (L, f) ∧ (True)) L sz) 0 0 (z_A L sz) := by
  refine z_met (cc := cX0_init) (maxL := 1) (ret := none) (lv := [(0, .ref dv)]) (by decide) rfl (Nat.le_of_ble_eq_true rfl) rfl ?_
  intro p e s m below meth c ls hx hb hr hlk hml hown hnm hts hKK hA hw hl
  have hK := hKK.1.1
  have hown : s.vm.findClass RX0 = some m.cls := hown
  have hT : ∀ w ∈ lw_all, w.before ([.ref dv] : List Value).toArray s = true := fun w h => hts w (z_cons w h)
  refine lv_aload_n hx hb dX0_init_0 rfl (lv_at hl 0 rfl) ?_
  refine W.objInit hx hb hown (hT _ ko_RX0) (hT _ ko_i) (hT _ ko_c) rfl (by rw [hml]; exact hl.1) rfl dX0_init_1 (Nat.le_of_ble_eq_true rfl) (Nat.le_of_ble_eq_true rfl) ?_
  refine W.eq (g2 := F0 m 4 ls []) rfl ?_
  exact z_vret hx hb hr hlk (by decide) (by decide) hw (⟨rfl, trivial⟩) dX0_init_4

set_option maxHeartbeats 2000000 in
set_option maxRecDepth 100000 in
theorem c_X7_init (l : Launch) {D : va_G} {cy : Nat → ClassId} {L : List Nat} {f : Nat → va_E} {sz : Nat} {adK adV : Nat → Nat} {tp : Nat} (hm_tp : tp ∈ L) (hf_tp : f tp = .inr (7, [.null, .int 0])) : Met l yX7_init (z_ws yX7_init cX7_init 1 none) (z_R 1 1 1600) (va_Pc [.ref tp] (z_Pre D vwCl (z_KK D cy adK adV) L f sz)) (z_Qv D vwCl (fun u => (∀ b ∈ L, b ∈ u.1) ∧ (∀ b ∈ L, b ≠ tp → u.2 b = f b) ∧ (∃ (ba : Nat), (u.2 tp = .inr (7, [.ref ba, .int 0])) ∧ (ba ∉ L ∧ ba ∈ u.1 ∧ u.2 ba = .inl (cy 0, 1600, .inl (fun _ => 0))) ∧ ((u.1 = L ++ [ba])))) L sz) 1 1600 (z_A L sz) := by
  refine z_met (cc := cX7_init) (maxL := 1) (ret := none) (lv := [(0, .ref tp)]) (by decide) rfl (Nat.le_of_ble_eq_true rfl) rfl ?_
  intro p e s m below meth c ls hx hb hr hlk hml hown hnm hts hKK hA hw hl
  have hK := hKK.1.1
  have hown : s.vm.findClass RX7 = some m.cls := hown
  have hT : ∀ w ∈ lw_all, w.before ([.ref tp] : List Value).toArray s = true := fun w h => hts w (z_cons w h)
  have hsub : ∀ b ∈ L, b ∈ L := fun _ h => h
  have hfr : ∀ b ∈ L, b ≠ tp → f b = f b := fun _ _ _ => rfl
  refine lv_aload_n hx hb dX7_init_0 rfl (lv_at hl 0 rfl) ?_
  refine W.objInit hx hb hown (hT _ ko_RX7) (hT _ ko_i) (hT _ ko_c) rfl (by rw [hml]; exact hl.1) rfl dX7_init_1 (Nat.le_of_ble_eq_true rfl) (Nat.le_of_ble_eq_true rfl) ?_
  refine W.eq (g2 := F0 m 4 ls []) rfl ?_
  refine lv_aload_n hx hb dX7_init_4 rfl (lv_at hl 0 rfl) ?_
  refine lv_sipush (v := 1600) hx hb dX7_init_5 (by decide) ?_
  refine z_newa (atype := .byte) (n := 1600) (N' := 1600) (a0 := (1600, .inl (fun _ => 0))) (cells := 0) (slots := 0) hx hb (hT _ kw_127) rfl 0 rfl (fun _ h => by cases h) hK hw hA (fun _ => rfl) (by decide) (by decide) (by decide) (by decide) (by decide) dX7_init_8 (fun qba H hq_qba hw => ?_)
  refine W.widen (k := 1) (n := 1600) (by decide) (by decide) ?_
  have ne_tp_qba : tp ≠ qba := z_ne hm_tp hq_qba
  have hn_qba : qba ∉ L := fun h => hq_qba (hsub _ h)
  obtain ⟨f2, e_f2⟩ : ∃ z, z = va_up f qba (.inl (cy 0, 1600, .inl (fun _ => 0))) := ⟨_, rfl⟩
  obtain ⟨L1, e_L1⟩ : ∃ z, z = L ++ [qba] := ⟨_, rfl⟩
  rw [← e_f2, ← e_L1] at hw
  have hm_tp : tp ∈ L1 := by rw [e_L1]; exact List.mem_append_left _ hm_tp
  have hf_tp : f2 tp = .inr (7, [.null, .int 0]) := (congrFun e_f2 tp).trans (z_up_ne ne_tp_qba hf_tp)
  have hm_qba : qba ∈ L1 := by rw [e_L1]; exact List.mem_append_right _ (List.mem_singleton.mpr rfl)
  have hf_qba : f2 qba = .inl (cy 0, 1600, .inl (fun _ => 0)) := (congrFun e_f2 qba).trans z_up_self
  have hsub : ∀ b ∈ L, b ∈ L1 := fun b h => by rw [e_L1]; exact List.mem_append_left _ (hsub b h)
  have hfr : ∀ b ∈ L, b ≠ tp → f2 b = f b := fun b hb h0 => (congrFun e_f2 b).trans (z_up_ne (z_ne hb hn_qba) (hfr b hb h0))
  refine z_putF (C := RX7) (T := TX7) (N := 2) (ci := 7) (v := .ref qba) (fs' := [.ref qba, .int 0]) hx hb hT zin_X7 tyX7_ok nmX7 hown hK hw hm_tp hf_tp rfl 0 (by decide) (hT _ kw_117) rfl hnm rfl rfl rfl (Nat.le_of_ble_eq_true rfl) rfl dX7_init_10 (fun H locs hw => ?_)
  obtain ⟨f3, e_f3⟩ : ∃ z, z = va_up f2 tp (.inr (7, [.ref qba, .int 0])) := ⟨_, rfl⟩
  rw [← e_f3] at hw
  have hf_qba : f3 qba = .inl (cy 0, 1600, .inl (fun _ => 0)) := (congrFun e_f3 qba).trans (z_up_ne (Ne.symm ne_tp_qba) hf_qba)
  have hf_tp : f3 tp = .inr (7, [.ref qba, .int 0]) := (congrFun e_f3 tp).trans z_up_self
  have hfr : ∀ b ∈ L, b ≠ tp → f3 b = f b := fun b hb h0 => (congrFun e_f3 b).trans (z_up_ne h0 (hfr b hb h0))
  exact z_vret hx hb hr hlk (by decide) (by decide) hw (⟨hsub, hfr, qba, hf_tp, ⟨hn_qba, hm_qba, hf_qba⟩, by show L1 = _; rw [e_L1]; (try simp only [List.append_assoc, List.cons_append, List.nil_append])⟩) dX7_init_13

set_option maxHeartbeats 2000000 in
set_option maxRecDepth 100000 in
theorem c_X2_init (l : Launch) {D : va_G} {cy : Nat → ClassId} {L : List Nat} {f : Nat → va_E} {sz : Nat} {adK adV : Nat → Nat} {mo : Nat} (hm_mo : mo ∈ L) (hf_mo : f mo = .inr (2, [.int 0, .int 0, .int 0, .int 0, .int 0, .int 0, .int 0, .null, .null, .null, .null])) : Met l yX2_init (z_ws yX2_init cX2_init 2 none) (z_R 2 17 162) (va_Pc [.ref mo] (z_Pre D vwCl (z_KK D cy adK adV) L f sz)) (z_Qv D vwCl (fun u => (∀ b ∈ L, b ∈ u.1) ∧ (∀ b ∈ L, b ≠ mo → u.2 b = f b) ∧ (∃ (la sa mi da d0 d1 d2 d3 d4 d5 d6 d7 d8 d9 d10 d11 d12 : Nat) (gd : Nat → Option Nat), (u.2 mo = .inr (2, [.int 0, .int 0, .int 0, .int 0, .int 0, .int 0, .int 0, .ref la, .ref sa, .ref mi, .ref da])) ∧ (la ∉ L ∧ la ∈ u.1 ∧ u.2 la = .inl (cy 1, 5, .inl (fun _ => 0))) ∧ (sa ∉ L ∧ sa ∈ u.1 ∧ u.2 sa = .inl (cy 1, 4, .inl (fun _ => 0))) ∧ (mi ∉ L ∧ mi ∈ u.1 ∧ u.2 mi = .inl (cy 1, 36, .inl (fun _ => 0))) ∧ (da ∉ L ∧ da ∈ u.1 ∧ u.2 da = .inl (cy 4, 13, .inr (.inr (.inr (.inr gd))))) ∧ (d0 ∉ L ∧ d0 ∈ u.1 ∧ u.2 d0 = .inr (0, [.int 0, .int 0, .int 0, .int 0, .int 0, .int 0, .int 0, .int 0])) ∧ (d1 ∉ L ∧ d1 ∈ u.1 ∧ u.2 d1 = .inr (0, [.int 0, .int 0, .int 0, .int 0, .int 0, .int 0, .int 0, .int 0])) ∧ (d2 ∉ L ∧ d2 ∈ u.1 ∧ u.2 d2 = .inr (0, [.int 0, .int 0, .int 0, .int 0, .int 0, .int 0, .int 0, .int 0])) ∧ (d3 ∉ L ∧ d3 ∈ u.1 ∧ u.2 d3 = .inr (0, [.int 0, .int 0, .int 0, .int 0, .int 0, .int 0, .int 0, .int 0])) ∧ (d4 ∉ L ∧ d4 ∈ u.1 ∧ u.2 d4 = .inr (0, [.int 0, .int 0, .int 0, .int 0, .int 0, .int 0, .int 0, .int 0])) ∧ (d5 ∉ L ∧ d5 ∈ u.1 ∧ u.2 d5 = .inr (0, [.int 0, .int 0, .int 0, .int 0, .int 0, .int 0, .int 0, .int 0])) ∧ (d6 ∉ L ∧ d6 ∈ u.1 ∧ u.2 d6 = .inr (0, [.int 0, .int 0, .int 0, .int 0, .int 0, .int 0, .int 0, .int 0])) ∧ (d7 ∉ L ∧ d7 ∈ u.1 ∧ u.2 d7 = .inr (0, [.int 0, .int 0, .int 0, .int 0, .int 0, .int 0, .int 0, .int 0])) ∧ (d8 ∉ L ∧ d8 ∈ u.1 ∧ u.2 d8 = .inr (0, [.int 0, .int 0, .int 0, .int 0, .int 0, .int 0, .int 0, .int 0])) ∧ (d9 ∉ L ∧ d9 ∈ u.1 ∧ u.2 d9 = .inr (0, [.int 0, .int 0, .int 0, .int 0, .int 0, .int 0, .int 0, .int 0])) ∧ (d10 ∉ L ∧ d10 ∈ u.1 ∧ u.2 d10 = .inr (0, [.int 0, .int 0, .int 0, .int 0, .int 0, .int 0, .int 0, .int 0])) ∧ (d11 ∉ L ∧ d11 ∈ u.1 ∧ u.2 d11 = .inr (0, [.int 0, .int 0, .int 0, .int 0, .int 0, .int 0, .int 0, .int 0])) ∧ (d12 ∉ L ∧ d12 ∈ u.1 ∧ u.2 d12 = .inr (0, [.int 0, .int 0, .int 0, .int 0, .int 0, .int 0, .int 0, .int 0])) ∧ ((u.1 = L ++ [la, sa, mi, da, d0, d1, d2, d3, d4, d5, d6, d7, d8, d9, d10, d11, d12]) ∧ (gd 0 = some d0) ∧ (gd 1 = some d1) ∧ (gd 2 = some d2) ∧ (gd 3 = some d3) ∧ (gd 4 = some d4) ∧ (gd 5 = some d5) ∧ (gd 6 = some d6) ∧ (gd 7 = some d7) ∧ (gd 8 = some d8) ∧ (gd 9 = some d9) ∧ (gd 10 = some d10) ∧ (gd 11 = some d11) ∧ (gd 12 = some d12)))) L sz) 17 162 (z_A L sz) := by
  refine z_met (cc := cX2_init) (maxL := 2) (ret := none) (lv := [(0, .ref mo)]) (by decide) rfl (Nat.le_of_ble_eq_true rfl) rfl ?_
  intro p e s m below meth c ls hx hb hr hlk hml hown hnm hts hKK hA hw hl
  have hK := hKK.1.1
  have hown : s.vm.findClass RX2 = some m.cls := hown
  have hT : ∀ w ∈ lw_all, w.before ([.ref mo] : List Value).toArray s = true := fun w h => hts w (z_cons w h)
  have hsub : ∀ b ∈ L, b ∈ L := fun _ h => h
  have hfr : ∀ b ∈ L, b ≠ mo → f b = f b := fun _ _ _ => rfl
  refine lv_aload_n hx hb dX2_init_0 rfl (lv_at hl 0 rfl) ?_
  refine W.objInit hx hb hown (hT _ ko_RX2) (hT _ ko_i) (hT _ ko_c) rfl (by rw [hml]; exact hl.1) rfl dX2_init_1 (Nat.le_of_ble_eq_true rfl) (Nat.le_of_ble_eq_true rfl) ?_
  refine W.eq (g2 := F0 m 4 ls []) rfl ?_
  refine lv_aload_n hx hb dX2_init_4 rfl (lv_at hl 0 rfl) ?_
  refine lv_iconst (v := 5) hx hb dX2_init_5 (by decide) ?_
  refine z_newa (atype := .int) (n := 5) (N' := 5) (a0 := (5, .inl (fun _ => 0))) (cells := 0) (slots := 0) hx hb (hT _ kw_203) rfl 1 rfl (fun _ h => by cases h) hK hw hA (fun _ => rfl) (by decide) (by decide) (by decide) (by decide) (by decide) dX2_init_6 (fun qla H hq_qla hw => ?_)
  refine W.widen (k := 1) (n := 5) (by decide) (by decide) ?_
  have ne_mo_qla : mo ≠ qla := z_ne hm_mo hq_qla
  have hn_qla : qla ∉ L := fun h => hq_qla (hsub _ h)
  obtain ⟨f2, e_f2⟩ : ∃ z, z = va_up f qla (.inl (cy 1, 5, .inl (fun _ => 0))) := ⟨_, rfl⟩
  obtain ⟨L1, e_L1⟩ : ∃ z, z = L ++ [qla] := ⟨_, rfl⟩
  rw [← e_f2, ← e_L1] at hw
  have hm_mo : mo ∈ L1 := by rw [e_L1]; exact List.mem_append_left _ hm_mo
  have hf_mo : f2 mo = .inr (2, [.int 0, .int 0, .int 0, .int 0, .int 0, .int 0, .int 0, .null, .null, .null, .null]) := (congrFun e_f2 mo).trans (z_up_ne ne_mo_qla hf_mo)
  have hm_qla : qla ∈ L1 := by rw [e_L1]; exact List.mem_append_right _ (List.mem_singleton.mpr rfl)
  have hf_qla : f2 qla = .inl (cy 1, 5, .inl (fun _ => 0)) := (congrFun e_f2 qla).trans z_up_self
  have hsub : ∀ b ∈ L, b ∈ L1 := fun b h => by rw [e_L1]; exact List.mem_append_left _ (hsub b h)
  have hfr : ∀ b ∈ L, b ≠ mo → f2 b = f b := fun b hb h0 => (congrFun e_f2 b).trans (z_up_ne (z_ne hb hn_qla) (hfr b hb h0))
  refine z_putF (C := RX2) (T := TX2) (N := 11) (ci := 2) (v := .ref qla) (fs' := [.int 0, .int 0, .int 0, .int 0, .int 0, .int 0, .int 0, .ref qla, .null, .null, .null]) hx hb hT zin_X2 tyX2_ok nmX2 hown hK hw hm_mo hf_mo rfl 7 (by decide) (hT _ kw_230) rfl hnm rfl rfl rfl (Nat.le_of_ble_eq_true rfl) rfl dX2_init_8 (fun H locs hw => ?_)
  obtain ⟨f3, e_f3⟩ : ∃ z, z = va_up f2 mo (.inr (2, [.int 0, .int 0, .int 0, .int 0, .int 0, .int 0, .int 0, .ref qla, .null, .null, .null])) := ⟨_, rfl⟩
  rw [← e_f3] at hw
  have hf_qla : f3 qla = .inl (cy 1, 5, .inl (fun _ => 0)) := (congrFun e_f3 qla).trans (z_up_ne (Ne.symm ne_mo_qla) hf_qla)
  have hf_mo : f3 mo = .inr (2, [.int 0, .int 0, .int 0, .int 0, .int 0, .int 0, .int 0, .ref qla, .null, .null, .null]) := (congrFun e_f3 mo).trans z_up_self
  have hfr : ∀ b ∈ L, b ≠ mo → f3 b = f b := fun b hb h0 => (congrFun e_f3 b).trans (z_up_ne h0 (hfr b hb h0))
  refine lv_aload_n hx hb dX2_init_11 rfl (lv_at hl 0 rfl) ?_
  refine lv_iconst (v := 4) hx hb dX2_init_12 (by decide) ?_
  refine z_newa (atype := .int) (n := 4) (N' := 4) (a0 := (4, .inl (fun _ => 0))) (cells := 1) (slots := 5) hx hb (hT _ kw_203) rfl 1 rfl (fun _ h => by cases h) hK hw hA (fun _ => rfl) (by decide) (by decide) (by decide) (by decide) (by decide) dX2_init_13 (fun qsa H hq_qsa hw => ?_)
  refine W.widen (k := 2) (n := 9) (by decide) (by decide) ?_
  have ne_mo_qsa : mo ≠ qsa := z_ne hm_mo hq_qsa
  have ne_qla_qsa : qla ≠ qsa := z_ne hm_qla hq_qsa
  have hn_qsa : qsa ∉ L := fun h => hq_qsa (hsub _ h)
  obtain ⟨f5, e_f5⟩ : ∃ z, z = va_up f3 qsa (.inl (cy 1, 4, .inl (fun _ => 0))) := ⟨_, rfl⟩
  obtain ⟨L4, e_L4⟩ : ∃ z, z = L1 ++ [qsa] := ⟨_, rfl⟩
  rw [← e_f5, ← e_L4] at hw
  have hm_mo : mo ∈ L4 := by rw [e_L4]; exact List.mem_append_left _ hm_mo
  have hf_mo : f5 mo = .inr (2, [.int 0, .int 0, .int 0, .int 0, .int 0, .int 0, .int 0, .ref qla, .null, .null, .null]) := (congrFun e_f5 mo).trans (z_up_ne ne_mo_qsa hf_mo)
  have hm_qla : qla ∈ L4 := by rw [e_L4]; exact List.mem_append_left _ hm_qla
  have hf_qla : f5 qla = .inl (cy 1, 5, .inl (fun _ => 0)) := (congrFun e_f5 qla).trans (z_up_ne ne_qla_qsa hf_qla)
  have hm_qsa : qsa ∈ L4 := by rw [e_L4]; exact List.mem_append_right _ (List.mem_singleton.mpr rfl)
  have hf_qsa : f5 qsa = .inl (cy 1, 4, .inl (fun _ => 0)) := (congrFun e_f5 qsa).trans z_up_self
  have hsub : ∀ b ∈ L, b ∈ L4 := fun b h => by rw [e_L4]; exact List.mem_append_left _ (hsub b h)
  have hfr : ∀ b ∈ L, b ≠ mo → f5 b = f b := fun b hb h0 => (congrFun e_f5 b).trans (z_up_ne (z_ne hb hn_qsa) (hfr b hb h0))
  refine z_putF (C := RX2) (T := TX2) (N := 11) (ci := 2) (v := .ref qsa) (fs' := [.int 0, .int 0, .int 0, .int 0, .int 0, .int 0, .int 0, .ref qla, .ref qsa, .null, .null]) hx hb hT zin_X2 tyX2_ok nmX2 hown hK hw hm_mo hf_mo rfl 8 (by decide) (hT _ kw_236) rfl hnm rfl rfl rfl (Nat.le_of_ble_eq_true rfl) rfl dX2_init_15 (fun H locs hw => ?_)
  obtain ⟨f6, e_f6⟩ : ∃ z, z = va_up f5 mo (.inr (2, [.int 0, .int 0, .int 0, .int 0, .int 0, .int 0, .int 0, .ref qla, .ref qsa, .null, .null])) := ⟨_, rfl⟩
  rw [← e_f6] at hw
  have hf_qla : f6 qla = .inl (cy 1, 5, .inl (fun _ => 0)) := (congrFun e_f6 qla).trans (z_up_ne (Ne.symm ne_mo_qla) hf_qla)
  have hf_qsa : f6 qsa = .inl (cy 1, 4, .inl (fun _ => 0)) := (congrFun e_f6 qsa).trans (z_up_ne (Ne.symm ne_mo_qsa) hf_qsa)
  have hf_mo : f6 mo = .inr (2, [.int 0, .int 0, .int 0, .int 0, .int 0, .int 0, .int 0, .ref qla, .ref qsa, .null, .null]) := (congrFun e_f6 mo).trans z_up_self
  have hfr : ∀ b ∈ L, b ≠ mo → f6 b = f b := fun b hb h0 => (congrFun e_f6 b).trans (z_up_ne h0 (hfr b hb h0))
  refine lv_aload_n hx hb dX2_init_18 rfl (lv_at hl 0 rfl) ?_
  refine lv_bipush (v := 36) hx hb dX2_init_19 (by decide) ?_
  refine z_newa (atype := .int) (n := 36) (N' := 36) (a0 := (36, .inl (fun _ => 0))) (cells := 2) (slots := 9) hx hb (hT _ kw_203) rfl 1 rfl (fun _ h => by cases h) hK hw hA (fun _ => rfl) (by decide) (by decide) (by decide) (by decide) (by decide) dX2_init_21 (fun qmi H hq_qmi hw => ?_)
  refine W.widen (k := 3) (n := 45) (by decide) (by decide) ?_
  have ne_mo_qmi : mo ≠ qmi := z_ne hm_mo hq_qmi
  have ne_qla_qmi : qla ≠ qmi := z_ne hm_qla hq_qmi
  have ne_qsa_qmi : qsa ≠ qmi := z_ne hm_qsa hq_qmi
  have hn_qmi : qmi ∉ L := fun h => hq_qmi (hsub _ h)
  obtain ⟨f8, e_f8⟩ : ∃ z, z = va_up f6 qmi (.inl (cy 1, 36, .inl (fun _ => 0))) := ⟨_, rfl⟩
  obtain ⟨L7, e_L7⟩ : ∃ z, z = L4 ++ [qmi] := ⟨_, rfl⟩
  rw [← e_f8, ← e_L7] at hw
  have hm_mo : mo ∈ L7 := by rw [e_L7]; exact List.mem_append_left _ hm_mo
  have hf_mo : f8 mo = .inr (2, [.int 0, .int 0, .int 0, .int 0, .int 0, .int 0, .int 0, .ref qla, .ref qsa, .null, .null]) := (congrFun e_f8 mo).trans (z_up_ne ne_mo_qmi hf_mo)
  have hm_qla : qla ∈ L7 := by rw [e_L7]; exact List.mem_append_left _ hm_qla
  have hf_qla : f8 qla = .inl (cy 1, 5, .inl (fun _ => 0)) := (congrFun e_f8 qla).trans (z_up_ne ne_qla_qmi hf_qla)
  have hm_qsa : qsa ∈ L7 := by rw [e_L7]; exact List.mem_append_left _ hm_qsa
  have hf_qsa : f8 qsa = .inl (cy 1, 4, .inl (fun _ => 0)) := (congrFun e_f8 qsa).trans (z_up_ne ne_qsa_qmi hf_qsa)
  have hm_qmi : qmi ∈ L7 := by rw [e_L7]; exact List.mem_append_right _ (List.mem_singleton.mpr rfl)
  have hf_qmi : f8 qmi = .inl (cy 1, 36, .inl (fun _ => 0)) := (congrFun e_f8 qmi).trans z_up_self
  have hsub : ∀ b ∈ L, b ∈ L7 := fun b h => by rw [e_L7]; exact List.mem_append_left _ (hsub b h)
  have hfr : ∀ b ∈ L, b ≠ mo → f8 b = f b := fun b hb h0 => (congrFun e_f8 b).trans (z_up_ne (z_ne hb hn_qmi) (hfr b hb h0))
  refine z_putF (C := RX2) (T := TX2) (N := 11) (ci := 2) (v := .ref qmi) (fs' := [.int 0, .int 0, .int 0, .int 0, .int 0, .int 0, .int 0, .ref qla, .ref qsa, .ref qmi, .null]) hx hb hT zin_X2 tyX2_ok nmX2 hown hK hw hm_mo hf_mo rfl 9 (by decide) (hT _ kw_239) rfl hnm rfl rfl rfl (Nat.le_of_ble_eq_true rfl) rfl dX2_init_23 (fun H locs hw => ?_)
  obtain ⟨f9, e_f9⟩ : ∃ z, z = va_up f8 mo (.inr (2, [.int 0, .int 0, .int 0, .int 0, .int 0, .int 0, .int 0, .ref qla, .ref qsa, .ref qmi, .null])) := ⟨_, rfl⟩
  rw [← e_f9] at hw
  have hf_qla : f9 qla = .inl (cy 1, 5, .inl (fun _ => 0)) := (congrFun e_f9 qla).trans (z_up_ne (Ne.symm ne_mo_qla) hf_qla)
  have hf_qsa : f9 qsa = .inl (cy 1, 4, .inl (fun _ => 0)) := (congrFun e_f9 qsa).trans (z_up_ne (Ne.symm ne_mo_qsa) hf_qsa)
  have hf_qmi : f9 qmi = .inl (cy 1, 36, .inl (fun _ => 0)) := (congrFun e_f9 qmi).trans (z_up_ne (Ne.symm ne_mo_qmi) hf_qmi)
  have hf_mo : f9 mo = .inr (2, [.int 0, .int 0, .int 0, .int 0, .int 0, .int 0, .int 0, .ref qla, .ref qsa, .ref qmi, .null]) := (congrFun e_f9 mo).trans z_up_self
  have hfr : ∀ b ∈ L, b ≠ mo → f9 b = f b := fun b hb h0 => (congrFun e_f9 b).trans (z_up_ne h0 (hfr b hb h0))
  refine lv_aload_n hx hb dX2_init_26 rfl (lv_at hl 0 rfl) ?_
  refine lv_bipush (v := 13) hx hb dX2_init_27 (by decide) ?_
  refine z_newq (n := 13) (N' := 13) (C := RX0) (cells := 3) (slots := 45) hx hb hown (hT _ kw_134) hKK.1.2.1 4 rfl hK hw hA (by decide) (by decide) (by decide) (by decide) (by decide) dX2_init_29 (fun qda H hq_qda hw => ?_)
  refine W.widen (k := 4) (n := 58) (by decide) (by decide) ?_
  have ne_mo_qda : mo ≠ qda := z_ne hm_mo hq_qda
  have ne_qla_qda : qla ≠ qda := z_ne hm_qla hq_qda
  have ne_qsa_qda : qsa ≠ qda := z_ne hm_qsa hq_qda
  have ne_qmi_qda : qmi ≠ qda := z_ne hm_qmi hq_qda
  have hn_qda : qda ∉ L := fun h => hq_qda (hsub _ h)
  obtain ⟨f11, e_f11⟩ : ∃ z, z = va_up f9 qda (.inl (cy 4, 13, .inr (.inr (.inr (.inr (fun _ => none)))))) := ⟨_, rfl⟩
  obtain ⟨L10, e_L10⟩ : ∃ z, z = L7 ++ [qda] := ⟨_, rfl⟩
  rw [← e_f11, ← e_L10] at hw
  have hm_mo : mo ∈ L10 := by rw [e_L10]; exact List.mem_append_left _ hm_mo
  have hf_mo : f11 mo = .inr (2, [.int 0, .int 0, .int 0, .int 0, .int 0, .int 0, .int 0, .ref qla, .ref qsa, .ref qmi, .null]) := (congrFun e_f11 mo).trans (z_up_ne ne_mo_qda hf_mo)
  have hm_qla : qla ∈ L10 := by rw [e_L10]; exact List.mem_append_left _ hm_qla
  have hf_qla : f11 qla = .inl (cy 1, 5, .inl (fun _ => 0)) := (congrFun e_f11 qla).trans (z_up_ne ne_qla_qda hf_qla)
  have hm_qsa : qsa ∈ L10 := by rw [e_L10]; exact List.mem_append_left _ hm_qsa
  have hf_qsa : f11 qsa = .inl (cy 1, 4, .inl (fun _ => 0)) := (congrFun e_f11 qsa).trans (z_up_ne ne_qsa_qda hf_qsa)
  have hm_qmi : qmi ∈ L10 := by rw [e_L10]; exact List.mem_append_left _ hm_qmi
  have hf_qmi : f11 qmi = .inl (cy 1, 36, .inl (fun _ => 0)) := (congrFun e_f11 qmi).trans (z_up_ne ne_qmi_qda hf_qmi)
  have hm_qda : qda ∈ L10 := by rw [e_L10]; exact List.mem_append_right _ (List.mem_singleton.mpr rfl)
  have hf_qda : f11 qda = .inl (cy 4, 13, .inr (.inr (.inr (.inr (fun _ => none))))) := (congrFun e_f11 qda).trans z_up_self
  have hsub : ∀ b ∈ L, b ∈ L10 := fun b h => by rw [e_L10]; exact List.mem_append_left _ (hsub b h)
  have hfr : ∀ b ∈ L, b ≠ mo → f11 b = f b := fun b hb h0 => (congrFun e_f11 b).trans (z_up_ne (z_ne hb hn_qda) (hfr b hb h0))
  refine z_putF (C := RX2) (T := TX2) (N := 11) (ci := 2) (v := .ref qda) (fs' := [.int 0, .int 0, .int 0, .int 0, .int 0, .int 0, .int 0, .ref qla, .ref qsa, .ref qmi, .ref qda]) hx hb hT zin_X2 tyX2_ok nmX2 hown hK hw hm_mo hf_mo rfl 10 (by decide) (hT _ kw_241) rfl hnm rfl rfl rfl (Nat.le_of_ble_eq_true rfl) rfl dX2_init_32 (fun H locs hw => ?_)
  obtain ⟨f12, e_f12⟩ : ∃ z, z = va_up f11 mo (.inr (2, [.int 0, .int 0, .int 0, .int 0, .int 0, .int 0, .int 0, .ref qla, .ref qsa, .ref qmi, .ref qda])) := ⟨_, rfl⟩
  rw [← e_f12] at hw
  have hf_qla : f12 qla = .inl (cy 1, 5, .inl (fun _ => 0)) := (congrFun e_f12 qla).trans (z_up_ne (Ne.symm ne_mo_qla) hf_qla)
  have hf_qsa : f12 qsa = .inl (cy 1, 4, .inl (fun _ => 0)) := (congrFun e_f12 qsa).trans (z_up_ne (Ne.symm ne_mo_qsa) hf_qsa)
  have hf_qmi : f12 qmi = .inl (cy 1, 36, .inl (fun _ => 0)) := (congrFun e_f12 qmi).trans (z_up_ne (Ne.symm ne_mo_qmi) hf_qmi)
  have hf_qda : f12 qda = .inl (cy 4, 13, .inr (.inr (.inr (.inr (fun _ => none))))) := (congrFun e_f12 qda).trans (z_up_ne (Ne.symm ne_mo_qda) hf_qda)
  have hf_mo : f12 mo = .inr (2, [.int 0, .int 0, .int 0, .int 0, .int 0, .int 0, .int 0, .ref qla, .ref qsa, .ref qmi, .ref qda]) := (congrFun e_f12 mo).trans z_up_self
  have hfr : ∀ b ∈ L, b ≠ mo → f12 b = f b := fun b hb h0 => (congrFun e_f12 b).trans (z_up_ne h0 (hfr b hb h0))
  refine lv_iconst (v := 0) hx hb dX2_init_35 (by decide) ?_
  refine lv_istore_n (lv' := [(1, .int 0), (0, .ref mo)]) hx hb dX2_init_36 rfl hl (by decide) rfl (fun ls hl => ?_)
  refine lv_iload_n hx hb dX2_init_37 rfl (lv_at hl 0 rfl) ?_
  refine lv_bipush (v := 12) hx hb dX2_init_38 (by decide) ?_
  refine z_icmp_gt (tgt := 62) hx hb (show (0 : Int32).toInt = 0 by decide) (show (12 : Int32).toInt = 12 by decide) dX2_init_40 (by decide) (fun h => absurd h (by decide)) (fun _ => ?_)
  refine lv_aload_n hx hb dX2_init_43 rfl (lv_at hl 1 rfl) ?_
  refine z_get (C := RX2) (T := TX2) (N := 11) (ci := 2) (v := .ref qda) hx hb hT zin_X2 hown hK hw hm_mo hf_mo rfl 10 (by decide) (hT _ kw_241) rfl dX2_init_44 ?_
  refine lv_iload_n hx hb dX2_init_47 rfl (lv_at hl 0 rfl) ?_
  refine z_new (C := RX0) (T := TX0) (N := 8) (ci := 0) (fs := [.int 0, .int 0, .int 0, .int 0, .int 0, .int 0, .int 0, .int 0]) (cells := 4) (slots := 58) hx hb hT zin_X0 tyX0_ok hown (hT _ kw_134) (hT _ kw_136) (hT _ kw_88) hK hw hA rfl (fun j hj => by rcases (show j = 0 ∨ j = 1 ∨ j = 2 ∨ j = 3 ∨ j = 4 ∨ j = 5 ∨ j = 6 ∨ j = 7 by omega) with rfl | rfl | rfl | rfl | rfl | rfl | rfl | rfl <;> rfl) (by decide) (by decide) dX2_init_48 (fun qd0 H hq_qd0 hw => ?_)
  refine W.widen (k := 5) (n := 66) (by decide) (by decide) ?_
  have ne_mo_qd0 : mo ≠ qd0 := z_ne hm_mo hq_qd0
  have ne_qla_qd0 : qla ≠ qd0 := z_ne hm_qla hq_qd0
  have ne_qsa_qd0 : qsa ≠ qd0 := z_ne hm_qsa hq_qd0
  have ne_qmi_qd0 : qmi ≠ qd0 := z_ne hm_qmi hq_qd0
  have ne_qda_qd0 : qda ≠ qd0 := z_ne hm_qda hq_qd0
  have hn_qd0 : qd0 ∉ L := fun h => hq_qd0 (hsub _ h)
  obtain ⟨f14, e_f14⟩ : ∃ z, z = va_up f12 qd0 (.inr (0, [.int 0, .int 0, .int 0, .int 0, .int 0, .int 0, .int 0, .int 0])) := ⟨_, rfl⟩
  obtain ⟨L13, e_L13⟩ : ∃ z, z = L10 ++ [qd0] := ⟨_, rfl⟩
  rw [← e_f14, ← e_L13] at hw
  have hm_mo : mo ∈ L13 := by rw [e_L13]; exact List.mem_append_left _ hm_mo
  have hf_mo : f14 mo = .inr (2, [.int 0, .int 0, .int 0, .int 0, .int 0, .int 0, .int 0, .ref qla, .ref qsa, .ref qmi, .ref qda]) := (congrFun e_f14 mo).trans (z_up_ne ne_mo_qd0 hf_mo)
  have hm_qla : qla ∈ L13 := by rw [e_L13]; exact List.mem_append_left _ hm_qla
  have hf_qla : f14 qla = .inl (cy 1, 5, .inl (fun _ => 0)) := (congrFun e_f14 qla).trans (z_up_ne ne_qla_qd0 hf_qla)
  have hm_qsa : qsa ∈ L13 := by rw [e_L13]; exact List.mem_append_left _ hm_qsa
  have hf_qsa : f14 qsa = .inl (cy 1, 4, .inl (fun _ => 0)) := (congrFun e_f14 qsa).trans (z_up_ne ne_qsa_qd0 hf_qsa)
  have hm_qmi : qmi ∈ L13 := by rw [e_L13]; exact List.mem_append_left _ hm_qmi
  have hf_qmi : f14 qmi = .inl (cy 1, 36, .inl (fun _ => 0)) := (congrFun e_f14 qmi).trans (z_up_ne ne_qmi_qd0 hf_qmi)
  have hm_qda : qda ∈ L13 := by rw [e_L13]; exact List.mem_append_left _ hm_qda
  have hf_qda : f14 qda = .inl (cy 4, 13, .inr (.inr (.inr (.inr (fun _ => none))))) := (congrFun e_f14 qda).trans (z_up_ne ne_qda_qd0 hf_qda)
  have hm_qd0 : qd0 ∈ L13 := by rw [e_L13]; exact List.mem_append_right _ (List.mem_singleton.mpr rfl)
  have hf_qd0 : f14 qd0 = .inr (0, [.int 0, .int 0, .int 0, .int 0, .int 0, .int 0, .int 0, .int 0]) := (congrFun e_f14 qd0).trans z_up_self
  have hsub : ∀ b ∈ L, b ∈ L13 := fun b h => by rw [e_L13]; exact List.mem_append_left _ (hsub b h)
  have hfr : ∀ b ∈ L, b ≠ mo → f14 b = f b := fun b hb h0 => (congrFun e_f14 b).trans (z_up_ne (z_ne hb hn_qd0) (hfr b hb h0))
  refine lv_dup hx hb dX2_init_51 rfl ?_
  refine z_callvIN (cells := 5) (slots := 66) (b := qd0) (As := []) (rest := [.ref qd0, .int 0, .ref qda]) ⟨hx, hb, hml, hown, hT⟩ (c_X0_init l hm_qd0 hf_qd0) ⟨va_cnB 0 hT (z_goodI (fun _ h => h) kw_139) rfl rfl rfl hKK.1.2.2.2.2.1 (hT _ kw_88) (by decide +kernel) ⟨by decide, by decide⟩, rfl, hT _ kw_138⟩ z_mv hKK hw hA rfl hl.1 rfl (Nat.le_of_ble_eq_true rfl) dX2_init_52 ⟨by decide, by decide⟩ (fun u H locs hp hw => ?_)
  obtain ⟨rfl, hp⟩ := hp
  have hw : z_H D vwCl (z_A L sz) s.heap L13 f14 H locs := hw
  refine z_aast (r := (RX0, TX0, 8)) hx hb hK hw 4 0 hm_qda hf_qda rfl hm_qd0 hf_qd0 rfl (z_ix (show (0 : Int32).toInt = 0 by decide) (by decide)) dX2_init_55 (fun H locs hw => ?_)
  obtain ⟨f16, e_f16⟩ : ∃ z, z = va_up f14 qda (.inl (cy 4, 13, .inr (.inr (.inr (.inr (va_up (fun _ => none) (0 : Int32).toNatClampNeg (some qd0))))))) := ⟨_, rfl⟩
  rw [← e_f16] at hw
  have hf_mo : f16 mo = .inr (2, [.int 0, .int 0, .int 0, .int 0, .int 0, .int 0, .int 0, .ref qla, .ref qsa, .ref qmi, .ref qda]) := (congrFun e_f16 mo).trans (z_up_ne ne_mo_qda hf_mo)
  have hf_qla : f16 qla = .inl (cy 1, 5, .inl (fun _ => 0)) := (congrFun e_f16 qla).trans (z_up_ne ne_qla_qda hf_qla)
  have hf_qsa : f16 qsa = .inl (cy 1, 4, .inl (fun _ => 0)) := (congrFun e_f16 qsa).trans (z_up_ne ne_qsa_qda hf_qsa)
  have hf_qmi : f16 qmi = .inl (cy 1, 36, .inl (fun _ => 0)) := (congrFun e_f16 qmi).trans (z_up_ne ne_qmi_qda hf_qmi)
  have hf_qd0 : f16 qd0 = .inr (0, [.int 0, .int 0, .int 0, .int 0, .int 0, .int 0, .int 0, .int 0]) := (congrFun e_f16 qd0).trans (z_up_ne (Ne.symm ne_qda_qd0) hf_qd0)
  have hf_qda : f16 qda = .inl (cy 4, 13, .inr (.inr (.inr (.inr (va_up (fun _ => none) (0 : Int32).toNatClampNeg (some qd0)))))) := (congrFun e_f16 qda).trans z_up_self
  have hfr : ∀ b ∈ L, b ≠ mo → f16 b = f b := fun b hb h0 => (congrFun e_f16 b).trans (z_up_ne (z_ne hb hn_qda) (hfr b hb h0))
  obtain ⟨g15, e_g15⟩ : ∃ z, z = (va_up (fun _ => none) (0 : Int32).toNatClampNeg (some qd0)) := ⟨_, rfl⟩
  rw [← e_g15] at hf_qda
  refine lv_iinc (v := 1) (lv' := [(1, .int 1), (0, .ref mo)]) hx hb dX2_init_56 hl (k := 0) rfl (by decide) (by decide) rfl (fun ls hl => ?_)
  refine lv_goto (tgt := 37) hx hb dX2_init_59 (by decide) ?_
  refine lv_iload_n hx hb dX2_init_37 rfl (lv_at hl 0 rfl) ?_
  refine lv_bipush (v := 12) hx hb dX2_init_38 (by decide) ?_
  refine z_icmp_gt (tgt := 62) hx hb (show (1 : Int32).toInt = 1 by decide) (show (12 : Int32).toInt = 12 by decide) dX2_init_40 (by decide) (fun h => absurd h (by decide)) (fun _ => ?_)
  refine lv_aload_n hx hb dX2_init_43 rfl (lv_at hl 1 rfl) ?_
  refine z_get (C := RX2) (T := TX2) (N := 11) (ci := 2) (v := .ref qda) hx hb hT zin_X2 hown hK hw hm_mo hf_mo rfl 10 (by decide) (hT _ kw_241) rfl dX2_init_44 ?_
  refine lv_iload_n hx hb dX2_init_47 rfl (lv_at hl 0 rfl) ?_
  refine z_new (C := RX0) (T := TX0) (N := 8) (ci := 0) (fs := [.int 0, .int 0, .int 0, .int 0, .int 0, .int 0, .int 0, .int 0]) (cells := 5) (slots := 66) hx hb hT zin_X0 tyX0_ok hown (hT _ kw_134) (hT _ kw_136) (hT _ kw_88) hK hw hA rfl (fun j hj => by rcases (show j = 0 ∨ j = 1 ∨ j = 2 ∨ j = 3 ∨ j = 4 ∨ j = 5 ∨ j = 6 ∨ j = 7 by omega) with rfl | rfl | rfl | rfl | rfl | rfl | rfl | rfl <;> rfl) (by decide) (by decide) dX2_init_48 (fun qd1 H hq_qd1 hw => ?_)
  refine W.widen (k := 6) (n := 74) (by decide) (by decide) ?_
  have ne_mo_qd1 : mo ≠ qd1 := z_ne hm_mo hq_qd1
  have ne_qla_qd1 : qla ≠ qd1 := z_ne hm_qla hq_qd1
  have ne_qsa_qd1 : qsa ≠ qd1 := z_ne hm_qsa hq_qd1
  have ne_qmi_qd1 : qmi ≠ qd1 := z_ne hm_qmi hq_qd1
  have ne_qda_qd1 : qda ≠ qd1 := z_ne hm_qda hq_qd1
  have ne_qd0_qd1 : qd0 ≠ qd1 := z_ne hm_qd0 hq_qd1
  have hn_qd1 : qd1 ∉ L := fun h => hq_qd1 (hsub _ h)
  obtain ⟨f18, e_f18⟩ : ∃ z, z = va_up f16 qd1 (.inr (0, [.int 0, .int 0, .int 0, .int 0, .int 0, .int 0, .int 0, .int 0])) := ⟨_, rfl⟩
  obtain ⟨L17, e_L17⟩ : ∃ z, z = L13 ++ [qd1] := ⟨_, rfl⟩
  rw [← e_f18, ← e_L17] at hw
  have hm_mo : mo ∈ L17 := by rw [e_L17]; exact List.mem_append_left _ hm_mo
  have hf_mo : f18 mo = .inr (2, [.int 0, .int 0, .int 0, .int 0, .int 0, .int 0, .int 0, .ref qla, .ref qsa, .ref qmi, .ref qda]) := (congrFun e_f18 mo).trans (z_up_ne ne_mo_qd1 hf_mo)
  have hm_qla : qla ∈ L17 := by rw [e_L17]; exact List.mem_append_left _ hm_qla
  have hf_qla : f18 qla = .inl (cy 1, 5, .inl (fun _ => 0)) := (congrFun e_f18 qla).trans (z_up_ne ne_qla_qd1 hf_qla)
  have hm_qsa : qsa ∈ L17 := by rw [e_L17]; exact List.mem_append_left _ hm_qsa
  have hf_qsa : f18 qsa = .inl (cy 1, 4, .inl (fun _ => 0)) := (congrFun e_f18 qsa).trans (z_up_ne ne_qsa_qd1 hf_qsa)
  have hm_qmi : qmi ∈ L17 := by rw [e_L17]; exact List.mem_append_left _ hm_qmi
  have hf_qmi : f18 qmi = .inl (cy 1, 36, .inl (fun _ => 0)) := (congrFun e_f18 qmi).trans (z_up_ne ne_qmi_qd1 hf_qmi)
  have hm_qda : qda ∈ L17 := by rw [e_L17]; exact List.mem_append_left _ hm_qda
  have hf_qda : f18 qda = .inl (cy 4, 13, .inr (.inr (.inr (.inr g15)))) := (congrFun e_f18 qda).trans (z_up_ne ne_qda_qd1 hf_qda)
  have hm_qd0 : qd0 ∈ L17 := by rw [e_L17]; exact List.mem_append_left _ hm_qd0
  have hf_qd0 : f18 qd0 = .inr (0, [.int 0, .int 0, .int 0, .int 0, .int 0, .int 0, .int 0, .int 0]) := (congrFun e_f18 qd0).trans (z_up_ne ne_qd0_qd1 hf_qd0)
  have hm_qd1 : qd1 ∈ L17 := by rw [e_L17]; exact List.mem_append_right _ (List.mem_singleton.mpr rfl)
  have hf_qd1 : f18 qd1 = .inr (0, [.int 0, .int 0, .int 0, .int 0, .int 0, .int 0, .int 0, .int 0]) := (congrFun e_f18 qd1).trans z_up_self
  have hsub : ∀ b ∈ L, b ∈ L17 := fun b h => by rw [e_L17]; exact List.mem_append_left _ (hsub b h)
  have hfr : ∀ b ∈ L, b ≠ mo → f18 b = f b := fun b hb h0 => (congrFun e_f18 b).trans (z_up_ne (z_ne hb hn_qd1) (hfr b hb h0))
  refine lv_dup hx hb dX2_init_51 rfl ?_
  refine z_callvIN (cells := 6) (slots := 74) (b := qd1) (As := []) (rest := [.ref qd1, .int 1, .ref qda]) ⟨hx, hb, hml, hown, hT⟩ (c_X0_init l hm_qd1 hf_qd1) ⟨va_cnB 0 hT (z_goodI (fun _ h => h) kw_139) rfl rfl rfl hKK.1.2.2.2.2.1 (hT _ kw_88) (by decide +kernel) ⟨by decide, by decide⟩, rfl, hT _ kw_138⟩ z_mv hKK hw hA rfl hl.1 rfl (Nat.le_of_ble_eq_true rfl) dX2_init_52 ⟨by decide, by decide⟩ (fun u H locs hp hw => ?_)
  obtain ⟨rfl, hp⟩ := hp
  have hw : z_H D vwCl (z_A L sz) s.heap L17 f18 H locs := hw
  refine z_aast (r := (RX0, TX0, 8)) hx hb hK hw 4 0 hm_qda hf_qda rfl hm_qd1 hf_qd1 rfl (z_ix (show (1 : Int32).toInt = 1 by decide) (by decide)) dX2_init_55 (fun H locs hw => ?_)
  obtain ⟨f20, e_f20⟩ : ∃ z, z = va_up f18 qda (.inl (cy 4, 13, .inr (.inr (.inr (.inr (va_up g15 (1 : Int32).toNatClampNeg (some qd1))))))) := ⟨_, rfl⟩
  rw [← e_f20] at hw
  have hf_mo : f20 mo = .inr (2, [.int 0, .int 0, .int 0, .int 0, .int 0, .int 0, .int 0, .ref qla, .ref qsa, .ref qmi, .ref qda]) := (congrFun e_f20 mo).trans (z_up_ne ne_mo_qda hf_mo)
  have hf_qla : f20 qla = .inl (cy 1, 5, .inl (fun _ => 0)) := (congrFun e_f20 qla).trans (z_up_ne ne_qla_qda hf_qla)
  have hf_qsa : f20 qsa = .inl (cy 1, 4, .inl (fun _ => 0)) := (congrFun e_f20 qsa).trans (z_up_ne ne_qsa_qda hf_qsa)
  have hf_qmi : f20 qmi = .inl (cy 1, 36, .inl (fun _ => 0)) := (congrFun e_f20 qmi).trans (z_up_ne ne_qmi_qda hf_qmi)
  have hf_qd0 : f20 qd0 = .inr (0, [.int 0, .int 0, .int 0, .int 0, .int 0, .int 0, .int 0, .int 0]) := (congrFun e_f20 qd0).trans (z_up_ne (Ne.symm ne_qda_qd0) hf_qd0)
  have hf_qd1 : f20 qd1 = .inr (0, [.int 0, .int 0, .int 0, .int 0, .int 0, .int 0, .int 0, .int 0]) := (congrFun e_f20 qd1).trans (z_up_ne (Ne.symm ne_qda_qd1) hf_qd1)
  have hf_qda : f20 qda = .inl (cy 4, 13, .inr (.inr (.inr (.inr (va_up g15 (1 : Int32).toNatClampNeg (some qd1)))))) := (congrFun e_f20 qda).trans z_up_self
  have hfr : ∀ b ∈ L, b ≠ mo → f20 b = f b := fun b hb h0 => (congrFun e_f20 b).trans (z_up_ne (z_ne hb hn_qda) (hfr b hb h0))
  obtain ⟨g19, e_g19⟩ : ∃ z, z = (va_up g15 (1 : Int32).toNatClampNeg (some qd1)) := ⟨_, rfl⟩
  rw [← e_g19] at hf_qda
  refine lv_iinc (v := 2) (lv' := [(1, .int 2), (0, .ref mo)]) hx hb dX2_init_56 hl (k := 0) rfl (by decide) (by decide) rfl (fun ls hl => ?_)
  refine lv_goto (tgt := 37) hx hb dX2_init_59 (by decide) ?_
  refine lv_iload_n hx hb dX2_init_37 rfl (lv_at hl 0 rfl) ?_
  refine lv_bipush (v := 12) hx hb dX2_init_38 (by decide) ?_
  refine z_icmp_gt (tgt := 62) hx hb (show (2 : Int32).toInt = 2 by decide) (show (12 : Int32).toInt = 12 by decide) dX2_init_40 (by decide) (fun h => absurd h (by decide)) (fun _ => ?_)
  refine lv_aload_n hx hb dX2_init_43 rfl (lv_at hl 1 rfl) ?_
  refine z_get (C := RX2) (T := TX2) (N := 11) (ci := 2) (v := .ref qda) hx hb hT zin_X2 hown hK hw hm_mo hf_mo rfl 10 (by decide) (hT _ kw_241) rfl dX2_init_44 ?_
  refine lv_iload_n hx hb dX2_init_47 rfl (lv_at hl 0 rfl) ?_
  refine z_new (C := RX0) (T := TX0) (N := 8) (ci := 0) (fs := [.int 0, .int 0, .int 0, .int 0, .int 0, .int 0, .int 0, .int 0]) (cells := 6) (slots := 74) hx hb hT zin_X0 tyX0_ok hown (hT _ kw_134) (hT _ kw_136) (hT _ kw_88) hK hw hA rfl (fun j hj => by rcases (show j = 0 ∨ j = 1 ∨ j = 2 ∨ j = 3 ∨ j = 4 ∨ j = 5 ∨ j = 6 ∨ j = 7 by omega) with rfl | rfl | rfl | rfl | rfl | rfl | rfl | rfl <;> rfl) (by decide) (by decide) dX2_init_48 (fun qd2 H hq_qd2 hw => ?_)
  refine W.widen (k := 7) (n := 82) (by decide) (by decide) ?_
  have ne_mo_qd2 : mo ≠ qd2 := z_ne hm_mo hq_qd2
  have ne_qla_qd2 : qla ≠ qd2 := z_ne hm_qla hq_qd2
  have ne_qsa_qd2 : qsa ≠ qd2 := z_ne hm_qsa hq_qd2
  have ne_qmi_qd2 : qmi ≠ qd2 := z_ne hm_qmi hq_qd2
  have ne_qda_qd2 : qda ≠ qd2 := z_ne hm_qda hq_qd2
  have ne_qd0_qd2 : qd0 ≠ qd2 := z_ne hm_qd0 hq_qd2
  have ne_qd1_qd2 : qd1 ≠ qd2 := z_ne hm_qd1 hq_qd2
  have hn_qd2 : qd2 ∉ L := fun h => hq_qd2 (hsub _ h)
  obtain ⟨f22, e_f22⟩ : ∃ z, z = va_up f20 qd2 (.inr (0, [.int 0, .int 0, .int 0, .int 0, .int 0, .int 0, .int 0, .int 0])) := ⟨_, rfl⟩
  obtain ⟨L21, e_L21⟩ : ∃ z, z = L17 ++ [qd2] := ⟨_, rfl⟩
  rw [← e_f22, ← e_L21] at hw
  have hm_mo : mo ∈ L21 := by rw [e_L21]; exact List.mem_append_left _ hm_mo
  have hf_mo : f22 mo = .inr (2, [.int 0, .int 0, .int 0, .int 0, .int 0, .int 0, .int 0, .ref qla, .ref qsa, .ref qmi, .ref qda]) := (congrFun e_f22 mo).trans (z_up_ne ne_mo_qd2 hf_mo)
  have hm_qla : qla ∈ L21 := by rw [e_L21]; exact List.mem_append_left _ hm_qla
  have hf_qla : f22 qla = .inl (cy 1, 5, .inl (fun _ => 0)) := (congrFun e_f22 qla).trans (z_up_ne ne_qla_qd2 hf_qla)
  have hm_qsa : qsa ∈ L21 := by rw [e_L21]; exact List.mem_append_left _ hm_qsa
  have hf_qsa : f22 qsa = .inl (cy 1, 4, .inl (fun _ => 0)) := (congrFun e_f22 qsa).trans (z_up_ne ne_qsa_qd2 hf_qsa)
  have hm_qmi : qmi ∈ L21 := by rw [e_L21]; exact List.mem_append_left _ hm_qmi
  have hf_qmi : f22 qmi = .inl (cy 1, 36, .inl (fun _ => 0)) := (congrFun e_f22 qmi).trans (z_up_ne ne_qmi_qd2 hf_qmi)
  have hm_qda : qda ∈ L21 := by rw [e_L21]; exact List.mem_append_left _ hm_qda
  have hf_qda : f22 qda = .inl (cy 4, 13, .inr (.inr (.inr (.inr g19)))) := (congrFun e_f22 qda).trans (z_up_ne ne_qda_qd2 hf_qda)
  have hm_qd0 : qd0 ∈ L21 := by rw [e_L21]; exact List.mem_append_left _ hm_qd0
  have hf_qd0 : f22 qd0 = .inr (0, [.int 0, .int 0, .int 0, .int 0, .int 0, .int 0, .int 0, .int 0]) := (congrFun e_f22 qd0).trans (z_up_ne ne_qd0_qd2 hf_qd0)
  have hm_qd1 : qd1 ∈ L21 := by rw [e_L21]; exact List.mem_append_left _ hm_qd1
  have hf_qd1 : f22 qd1 = .inr (0, [.int 0, .int 0, .int 0, .int 0, .int 0, .int 0, .int 0, .int 0]) := (congrFun e_f22 qd1).trans (z_up_ne ne_qd1_qd2 hf_qd1)
  have hm_qd2 : qd2 ∈ L21 := by rw [e_L21]; exact List.mem_append_right _ (List.mem_singleton.mpr rfl)
  have hf_qd2 : f22 qd2 = .inr (0, [.int 0, .int 0, .int 0, .int 0, .int 0, .int 0, .int 0, .int 0]) := (congrFun e_f22 qd2).trans z_up_self
  have hsub : ∀ b ∈ L, b ∈ L21 := fun b h => by rw [e_L21]; exact List.mem_append_left _ (hsub b h)
  have hfr : ∀ b ∈ L, b ≠ mo → f22 b = f b := fun b hb h0 => (congrFun e_f22 b).trans (z_up_ne (z_ne hb hn_qd2) (hfr b hb h0))
  refine lv_dup hx hb dX2_init_51 rfl ?_
  refine z_callvIN (cells := 7) (slots := 82) (b := qd2) (As := []) (rest := [.ref qd2, .int 2, .ref qda]) ⟨hx, hb, hml, hown, hT⟩ (c_X0_init l hm_qd2 hf_qd2) ⟨va_cnB 0 hT (z_goodI (fun _ h => h) kw_139) rfl rfl rfl hKK.1.2.2.2.2.1 (hT _ kw_88) (by decide +kernel) ⟨by decide, by decide⟩, rfl, hT _ kw_138⟩ z_mv hKK hw hA rfl hl.1 rfl (Nat.le_of_ble_eq_true rfl) dX2_init_52 ⟨by decide, by decide⟩ (fun u H locs hp hw => ?_)
  obtain ⟨rfl, hp⟩ := hp
  have hw : z_H D vwCl (z_A L sz) s.heap L21 f22 H locs := hw
  refine z_aast (r := (RX0, TX0, 8)) hx hb hK hw 4 0 hm_qda hf_qda rfl hm_qd2 hf_qd2 rfl (z_ix (show (2 : Int32).toInt = 2 by decide) (by decide)) dX2_init_55 (fun H locs hw => ?_)
  obtain ⟨f24, e_f24⟩ : ∃ z, z = va_up f22 qda (.inl (cy 4, 13, .inr (.inr (.inr (.inr (va_up g19 (2 : Int32).toNatClampNeg (some qd2))))))) := ⟨_, rfl⟩
  rw [← e_f24] at hw
  have hf_mo : f24 mo = .inr (2, [.int 0, .int 0, .int 0, .int 0, .int 0, .int 0, .int 0, .ref qla, .ref qsa, .ref qmi, .ref qda]) := (congrFun e_f24 mo).trans (z_up_ne ne_mo_qda hf_mo)
  have hf_qla : f24 qla = .inl (cy 1, 5, .inl (fun _ => 0)) := (congrFun e_f24 qla).trans (z_up_ne ne_qla_qda hf_qla)
  have hf_qsa : f24 qsa = .inl (cy 1, 4, .inl (fun _ => 0)) := (congrFun e_f24 qsa).trans (z_up_ne ne_qsa_qda hf_qsa)
  have hf_qmi : f24 qmi = .inl (cy 1, 36, .inl (fun _ => 0)) := (congrFun e_f24 qmi).trans (z_up_ne ne_qmi_qda hf_qmi)
  have hf_qd0 : f24 qd0 = .inr (0, [.int 0, .int 0, .int 0, .int 0, .int 0, .int 0, .int 0, .int 0]) := (congrFun e_f24 qd0).trans (z_up_ne (Ne.symm ne_qda_qd0) hf_qd0)
  have hf_qd1 : f24 qd1 = .inr (0, [.int 0, .int 0, .int 0, .int 0, .int 0, .int 0, .int 0, .int 0]) := (congrFun e_f24 qd1).trans (z_up_ne (Ne.symm ne_qda_qd1) hf_qd1)
  have hf_qd2 : f24 qd2 = .inr (0, [.int 0, .int 0, .int 0, .int 0, .int 0, .int 0, .int 0, .int 0]) := (congrFun e_f24 qd2).trans (z_up_ne (Ne.symm ne_qda_qd2) hf_qd2)
  have hf_qda : f24 qda = .inl (cy 4, 13, .inr (.inr (.inr (.inr (va_up g19 (2 : Int32).toNatClampNeg (some qd2)))))) := (congrFun e_f24 qda).trans z_up_self
  have hfr : ∀ b ∈ L, b ≠ mo → f24 b = f b := fun b hb h0 => (congrFun e_f24 b).trans (z_up_ne (z_ne hb hn_qda) (hfr b hb h0))
  obtain ⟨g23, e_g23⟩ : ∃ z, z = (va_up g19 (2 : Int32).toNatClampNeg (some qd2)) := ⟨_, rfl⟩
  rw [← e_g23] at hf_qda
  refine lv_iinc (v := 3) (lv' := [(1, .int 3), (0, .ref mo)]) hx hb dX2_init_56 hl (k := 0) rfl (by decide) (by decide) rfl (fun ls hl => ?_)
  refine lv_goto (tgt := 37) hx hb dX2_init_59 (by decide) ?_
  refine lv_iload_n hx hb dX2_init_37 rfl (lv_at hl 0 rfl) ?_
  refine lv_bipush (v := 12) hx hb dX2_init_38 (by decide) ?_
  refine z_icmp_gt (tgt := 62) hx hb (show (3 : Int32).toInt = 3 by decide) (show (12 : Int32).toInt = 12 by decide) dX2_init_40 (by decide) (fun h => absurd h (by decide)) (fun _ => ?_)
  refine lv_aload_n hx hb dX2_init_43 rfl (lv_at hl 1 rfl) ?_
  refine z_get (C := RX2) (T := TX2) (N := 11) (ci := 2) (v := .ref qda) hx hb hT zin_X2 hown hK hw hm_mo hf_mo rfl 10 (by decide) (hT _ kw_241) rfl dX2_init_44 ?_
  refine lv_iload_n hx hb dX2_init_47 rfl (lv_at hl 0 rfl) ?_
  refine z_new (C := RX0) (T := TX0) (N := 8) (ci := 0) (fs := [.int 0, .int 0, .int 0, .int 0, .int 0, .int 0, .int 0, .int 0]) (cells := 7) (slots := 82) hx hb hT zin_X0 tyX0_ok hown (hT _ kw_134) (hT _ kw_136) (hT _ kw_88) hK hw hA rfl (fun j hj => by rcases (show j = 0 ∨ j = 1 ∨ j = 2 ∨ j = 3 ∨ j = 4 ∨ j = 5 ∨ j = 6 ∨ j = 7 by omega) with rfl | rfl | rfl | rfl | rfl | rfl | rfl | rfl <;> rfl) (by decide) (by decide) dX2_init_48 (fun qd3 H hq_qd3 hw => ?_)
  refine W.widen (k := 8) (n := 90) (by decide) (by decide) ?_
  have ne_mo_qd3 : mo ≠ qd3 := z_ne hm_mo hq_qd3
  have ne_qla_qd3 : qla ≠ qd3 := z_ne hm_qla hq_qd3
  have ne_qsa_qd3 : qsa ≠ qd3 := z_ne hm_qsa hq_qd3
  have ne_qmi_qd3 : qmi ≠ qd3 := z_ne hm_qmi hq_qd3
  have ne_qda_qd3 : qda ≠ qd3 := z_ne hm_qda hq_qd3
  have ne_qd0_qd3 : qd0 ≠ qd3 := z_ne hm_qd0 hq_qd3
  have ne_qd1_qd3 : qd1 ≠ qd3 := z_ne hm_qd1 hq_qd3
  have ne_qd2_qd3 : qd2 ≠ qd3 := z_ne hm_qd2 hq_qd3
  have hn_qd3 : qd3 ∉ L := fun h => hq_qd3 (hsub _ h)
  obtain ⟨f26, e_f26⟩ : ∃ z, z = va_up f24 qd3 (.inr (0, [.int 0, .int 0, .int 0, .int 0, .int 0, .int 0, .int 0, .int 0])) := ⟨_, rfl⟩
  obtain ⟨L25, e_L25⟩ : ∃ z, z = L21 ++ [qd3] := ⟨_, rfl⟩
  rw [← e_f26, ← e_L25] at hw
  have hm_mo : mo ∈ L25 := by rw [e_L25]; exact List.mem_append_left _ hm_mo
  have hf_mo : f26 mo = .inr (2, [.int 0, .int 0, .int 0, .int 0, .int 0, .int 0, .int 0, .ref qla, .ref qsa, .ref qmi, .ref qda]) := (congrFun e_f26 mo).trans (z_up_ne ne_mo_qd3 hf_mo)
  have hm_qla : qla ∈ L25 := by rw [e_L25]; exact List.mem_append_left _ hm_qla
  have hf_qla : f26 qla = .inl (cy 1, 5, .inl (fun _ => 0)) := (congrFun e_f26 qla).trans (z_up_ne ne_qla_qd3 hf_qla)
  have hm_qsa : qsa ∈ L25 := by rw [e_L25]; exact List.mem_append_left _ hm_qsa
  have hf_qsa : f26 qsa = .inl (cy 1, 4, .inl (fun _ => 0)) := (congrFun e_f26 qsa).trans (z_up_ne ne_qsa_qd3 hf_qsa)
  have hm_qmi : qmi ∈ L25 := by rw [e_L25]; exact List.mem_append_left _ hm_qmi
  have hf_qmi : f26 qmi = .inl (cy 1, 36, .inl (fun _ => 0)) := (congrFun e_f26 qmi).trans (z_up_ne ne_qmi_qd3 hf_qmi)
  have hm_qda : qda ∈ L25 := by rw [e_L25]; exact List.mem_append_left _ hm_qda
  have hf_qda : f26 qda = .inl (cy 4, 13, .inr (.inr (.inr (.inr g23)))) := (congrFun e_f26 qda).trans (z_up_ne ne_qda_qd3 hf_qda)
  have hm_qd0 : qd0 ∈ L25 := by rw [e_L25]; exact List.mem_append_left _ hm_qd0
  have hf_qd0 : f26 qd0 = .inr (0, [.int 0, .int 0, .int 0, .int 0, .int 0, .int 0, .int 0, .int 0]) := (congrFun e_f26 qd0).trans (z_up_ne ne_qd0_qd3 hf_qd0)
  have hm_qd1 : qd1 ∈ L25 := by rw [e_L25]; exact List.mem_append_left _ hm_qd1
  have hf_qd1 : f26 qd1 = .inr (0, [.int 0, .int 0, .int 0, .int 0, .int 0, .int 0, .int 0, .int 0]) := (congrFun e_f26 qd1).trans (z_up_ne ne_qd1_qd3 hf_qd1)
  have hm_qd2 : qd2 ∈ L25 := by rw [e_L25]; exact List.mem_append_left _ hm_qd2
  have hf_qd2 : f26 qd2 = .inr (0, [.int 0, .int 0, .int 0, .int 0, .int 0, .int 0, .int 0, .int 0]) := (congrFun e_f26 qd2).trans (z_up_ne ne_qd2_qd3 hf_qd2)
  have hm_qd3 : qd3 ∈ L25 := by rw [e_L25]; exact List.mem_append_right _ (List.mem_singleton.mpr rfl)
  have hf_qd3 : f26 qd3 = .inr (0, [.int 0, .int 0, .int 0, .int 0, .int 0, .int 0, .int 0, .int 0]) := (congrFun e_f26 qd3).trans z_up_self
  have hsub : ∀ b ∈ L, b ∈ L25 := fun b h => by rw [e_L25]; exact List.mem_append_left _ (hsub b h)
  have hfr : ∀ b ∈ L, b ≠ mo → f26 b = f b := fun b hb h0 => (congrFun e_f26 b).trans (z_up_ne (z_ne hb hn_qd3) (hfr b hb h0))
  refine lv_dup hx hb dX2_init_51 rfl ?_
  refine z_callvIN (cells := 8) (slots := 90) (b := qd3) (As := []) (rest := [.ref qd3, .int 3, .ref qda]) ⟨hx, hb, hml, hown, hT⟩ (c_X0_init l hm_qd3 hf_qd3) ⟨va_cnB 0 hT (z_goodI (fun _ h => h) kw_139) rfl rfl rfl hKK.1.2.2.2.2.1 (hT _ kw_88) (by decide +kernel) ⟨by decide, by decide⟩, rfl, hT _ kw_138⟩ z_mv hKK hw hA rfl hl.1 rfl (Nat.le_of_ble_eq_true rfl) dX2_init_52 ⟨by decide, by decide⟩ (fun u H locs hp hw => ?_)
  obtain ⟨rfl, hp⟩ := hp
  have hw : z_H D vwCl (z_A L sz) s.heap L25 f26 H locs := hw
  refine z_aast (r := (RX0, TX0, 8)) hx hb hK hw 4 0 hm_qda hf_qda rfl hm_qd3 hf_qd3 rfl (z_ix (show (3 : Int32).toInt = 3 by decide) (by decide)) dX2_init_55 (fun H locs hw => ?_)
  obtain ⟨f28, e_f28⟩ : ∃ z, z = va_up f26 qda (.inl (cy 4, 13, .inr (.inr (.inr (.inr (va_up g23 (3 : Int32).toNatClampNeg (some qd3))))))) := ⟨_, rfl⟩
  rw [← e_f28] at hw
  have hf_mo : f28 mo = .inr (2, [.int 0, .int 0, .int 0, .int 0, .int 0, .int 0, .int 0, .ref qla, .ref qsa, .ref qmi, .ref qda]) := (congrFun e_f28 mo).trans (z_up_ne ne_mo_qda hf_mo)
  have hf_qla : f28 qla = .inl (cy 1, 5, .inl (fun _ => 0)) := (congrFun e_f28 qla).trans (z_up_ne ne_qla_qda hf_qla)
  have hf_qsa : f28 qsa = .inl (cy 1, 4, .inl (fun _ => 0)) := (congrFun e_f28 qsa).trans (z_up_ne ne_qsa_qda hf_qsa)
  have hf_qmi : f28 qmi = .inl (cy 1, 36, .inl (fun _ => 0)) := (congrFun e_f28 qmi).trans (z_up_ne ne_qmi_qda hf_qmi)
  have hf_qd0 : f28 qd0 = .inr (0, [.int 0, .int 0, .int 0, .int 0, .int 0, .int 0, .int 0, .int 0]) := (congrFun e_f28 qd0).trans (z_up_ne (Ne.symm ne_qda_qd0) hf_qd0)
  have hf_qd1 : f28 qd1 = .inr (0, [.int 0, .int 0, .int 0, .int 0, .int 0, .int 0, .int 0, .int 0]) := (congrFun e_f28 qd1).trans (z_up_ne (Ne.symm ne_qda_qd1) hf_qd1)
  have hf_qd2 : f28 qd2 = .inr (0, [.int 0, .int 0, .int 0, .int 0, .int 0, .int 0, .int 0, .int 0]) := (congrFun e_f28 qd2).trans (z_up_ne (Ne.symm ne_qda_qd2) hf_qd2)
  have hf_qd3 : f28 qd3 = .inr (0, [.int 0, .int 0, .int 0, .int 0, .int 0, .int 0, .int 0, .int 0]) := (congrFun e_f28 qd3).trans (z_up_ne (Ne.symm ne_qda_qd3) hf_qd3)
  have hf_qda : f28 qda = .inl (cy 4, 13, .inr (.inr (.inr (.inr (va_up g23 (3 : Int32).toNatClampNeg (some qd3)))))) := (congrFun e_f28 qda).trans z_up_self
  have hfr : ∀ b ∈ L, b ≠ mo → f28 b = f b := fun b hb h0 => (congrFun e_f28 b).trans (z_up_ne (z_ne hb hn_qda) (hfr b hb h0))
  obtain ⟨g27, e_g27⟩ : ∃ z, z = (va_up g23 (3 : Int32).toNatClampNeg (some qd3)) := ⟨_, rfl⟩
  rw [← e_g27] at hf_qda
  refine lv_iinc (v := 4) (lv' := [(1, .int 4), (0, .ref mo)]) hx hb dX2_init_56 hl (k := 0) rfl (by decide) (by decide) rfl (fun ls hl => ?_)
  refine lv_goto (tgt := 37) hx hb dX2_init_59 (by decide) ?_
  refine lv_iload_n hx hb dX2_init_37 rfl (lv_at hl 0 rfl) ?_
  refine lv_bipush (v := 12) hx hb dX2_init_38 (by decide) ?_
  refine z_icmp_gt (tgt := 62) hx hb (show (4 : Int32).toInt = 4 by decide) (show (12 : Int32).toInt = 12 by decide) dX2_init_40 (by decide) (fun h => absurd h (by decide)) (fun _ => ?_)
  refine lv_aload_n hx hb dX2_init_43 rfl (lv_at hl 1 rfl) ?_
  refine z_get (C := RX2) (T := TX2) (N := 11) (ci := 2) (v := .ref qda) hx hb hT zin_X2 hown hK hw hm_mo hf_mo rfl 10 (by decide) (hT _ kw_241) rfl dX2_init_44 ?_
  refine lv_iload_n hx hb dX2_init_47 rfl (lv_at hl 0 rfl) ?_
  refine z_new (C := RX0) (T := TX0) (N := 8) (ci := 0) (fs := [.int 0, .int 0, .int 0, .int 0, .int 0, .int 0, .int 0, .int 0]) (cells := 8) (slots := 90) hx hb hT zin_X0 tyX0_ok hown (hT _ kw_134) (hT _ kw_136) (hT _ kw_88) hK hw hA rfl (fun j hj => by rcases (show j = 0 ∨ j = 1 ∨ j = 2 ∨ j = 3 ∨ j = 4 ∨ j = 5 ∨ j = 6 ∨ j = 7 by omega) with rfl | rfl | rfl | rfl | rfl | rfl | rfl | rfl <;> rfl) (by decide) (by decide) dX2_init_48 (fun qd4 H hq_qd4 hw => ?_)
  refine W.widen (k := 9) (n := 98) (by decide) (by decide) ?_
  have ne_mo_qd4 : mo ≠ qd4 := z_ne hm_mo hq_qd4
  have ne_qla_qd4 : qla ≠ qd4 := z_ne hm_qla hq_qd4
  have ne_qsa_qd4 : qsa ≠ qd4 := z_ne hm_qsa hq_qd4
  have ne_qmi_qd4 : qmi ≠ qd4 := z_ne hm_qmi hq_qd4
  have ne_qda_qd4 : qda ≠ qd4 := z_ne hm_qda hq_qd4
  have ne_qd0_qd4 : qd0 ≠ qd4 := z_ne hm_qd0 hq_qd4
  have ne_qd1_qd4 : qd1 ≠ qd4 := z_ne hm_qd1 hq_qd4
  have ne_qd2_qd4 : qd2 ≠ qd4 := z_ne hm_qd2 hq_qd4
  have ne_qd3_qd4 : qd3 ≠ qd4 := z_ne hm_qd3 hq_qd4
  have hn_qd4 : qd4 ∉ L := fun h => hq_qd4 (hsub _ h)
  obtain ⟨f30, e_f30⟩ : ∃ z, z = va_up f28 qd4 (.inr (0, [.int 0, .int 0, .int 0, .int 0, .int 0, .int 0, .int 0, .int 0])) := ⟨_, rfl⟩
  obtain ⟨L29, e_L29⟩ : ∃ z, z = L25 ++ [qd4] := ⟨_, rfl⟩
  rw [← e_f30, ← e_L29] at hw
  have hm_mo : mo ∈ L29 := by rw [e_L29]; exact List.mem_append_left _ hm_mo
  have hf_mo : f30 mo = .inr (2, [.int 0, .int 0, .int 0, .int 0, .int 0, .int 0, .int 0, .ref qla, .ref qsa, .ref qmi, .ref qda]) := (congrFun e_f30 mo).trans (z_up_ne ne_mo_qd4 hf_mo)
  have hm_qla : qla ∈ L29 := by rw [e_L29]; exact List.mem_append_left _ hm_qla
  have hf_qla : f30 qla = .inl (cy 1, 5, .inl (fun _ => 0)) := (congrFun e_f30 qla).trans (z_up_ne ne_qla_qd4 hf_qla)
  have hm_qsa : qsa ∈ L29 := by rw [e_L29]; exact List.mem_append_left _ hm_qsa
  have hf_qsa : f30 qsa = .inl (cy 1, 4, .inl (fun _ => 0)) := (congrFun e_f30 qsa).trans (z_up_ne ne_qsa_qd4 hf_qsa)
  have hm_qmi : qmi ∈ L29 := by rw [e_L29]; exact List.mem_append_left _ hm_qmi
  have hf_qmi : f30 qmi = .inl (cy 1, 36, .inl (fun _ => 0)) := (congrFun e_f30 qmi).trans (z_up_ne ne_qmi_qd4 hf_qmi)
  have hm_qda : qda ∈ L29 := by rw [e_L29]; exact List.mem_append_left _ hm_qda
  have hf_qda : f30 qda = .inl (cy 4, 13, .inr (.inr (.inr (.inr g27)))) := (congrFun e_f30 qda).trans (z_up_ne ne_qda_qd4 hf_qda)
  have hm_qd0 : qd0 ∈ L29 := by rw [e_L29]; exact List.mem_append_left _ hm_qd0
  have hf_qd0 : f30 qd0 = .inr (0, [.int 0, .int 0, .int 0, .int 0, .int 0, .int 0, .int 0, .int 0]) := (congrFun e_f30 qd0).trans (z_up_ne ne_qd0_qd4 hf_qd0)
  have hm_qd1 : qd1 ∈ L29 := by rw [e_L29]; exact List.mem_append_left _ hm_qd1
  have hf_qd1 : f30 qd1 = .inr (0, [.int 0, .int 0, .int 0, .int 0, .int 0, .int 0, .int 0, .int 0]) := (congrFun e_f30 qd1).trans (z_up_ne ne_qd1_qd4 hf_qd1)
  have hm_qd2 : qd2 ∈ L29 := by rw [e_L29]; exact List.mem_append_left _ hm_qd2
  have hf_qd2 : f30 qd2 = .inr (0, [.int 0, .int 0, .int 0, .int 0, .int 0, .int 0, .int 0, .int 0]) := (congrFun e_f30 qd2).trans (z_up_ne ne_qd2_qd4 hf_qd2)
  have hm_qd3 : qd3 ∈ L29 := by rw [e_L29]; exact List.mem_append_left _ hm_qd3
  have hf_qd3 : f30 qd3 = .inr (0, [.int 0, .int 0, .int 0, .int 0, .int 0, .int 0, .int 0, .int 0]) := (congrFun e_f30 qd3).trans (z_up_ne ne_qd3_qd4 hf_qd3)
  have hm_qd4 : qd4 ∈ L29 := by rw [e_L29]; exact List.mem_append_right _ (List.mem_singleton.mpr rfl)
  have hf_qd4 : f30 qd4 = .inr (0, [.int 0, .int 0, .int 0, .int 0, .int 0, .int 0, .int 0, .int 0]) := (congrFun e_f30 qd4).trans z_up_self
  have hsub : ∀ b ∈ L, b ∈ L29 := fun b h => by rw [e_L29]; exact List.mem_append_left _ (hsub b h)
  have hfr : ∀ b ∈ L, b ≠ mo → f30 b = f b := fun b hb h0 => (congrFun e_f30 b).trans (z_up_ne (z_ne hb hn_qd4) (hfr b hb h0))
  refine lv_dup hx hb dX2_init_51 rfl ?_
  refine z_callvIN (cells := 9) (slots := 98) (b := qd4) (As := []) (rest := [.ref qd4, .int 4, .ref qda]) ⟨hx, hb, hml, hown, hT⟩ (c_X0_init l hm_qd4 hf_qd4) ⟨va_cnB 0 hT (z_goodI (fun _ h => h) kw_139) rfl rfl rfl hKK.1.2.2.2.2.1 (hT _ kw_88) (by decide +kernel) ⟨by decide, by decide⟩, rfl, hT _ kw_138⟩ z_mv hKK hw hA rfl hl.1 rfl (Nat.le_of_ble_eq_true rfl) dX2_init_52 ⟨by decide, by decide⟩ (fun u H locs hp hw => ?_)
  obtain ⟨rfl, hp⟩ := hp
  have hw : z_H D vwCl (z_A L sz) s.heap L29 f30 H locs := hw
  refine z_aast (r := (RX0, TX0, 8)) hx hb hK hw 4 0 hm_qda hf_qda rfl hm_qd4 hf_qd4 rfl (z_ix (show (4 : Int32).toInt = 4 by decide) (by decide)) dX2_init_55 (fun H locs hw => ?_)
  obtain ⟨f32, e_f32⟩ : ∃ z, z = va_up f30 qda (.inl (cy 4, 13, .inr (.inr (.inr (.inr (va_up g27 (4 : Int32).toNatClampNeg (some qd4))))))) := ⟨_, rfl⟩
  rw [← e_f32] at hw
  have hf_mo : f32 mo = .inr (2, [.int 0, .int 0, .int 0, .int 0, .int 0, .int 0, .int 0, .ref qla, .ref qsa, .ref qmi, .ref qda]) := (congrFun e_f32 mo).trans (z_up_ne ne_mo_qda hf_mo)
  have hf_qla : f32 qla = .inl (cy 1, 5, .inl (fun _ => 0)) := (congrFun e_f32 qla).trans (z_up_ne ne_qla_qda hf_qla)
  have hf_qsa : f32 qsa = .inl (cy 1, 4, .inl (fun _ => 0)) := (congrFun e_f32 qsa).trans (z_up_ne ne_qsa_qda hf_qsa)
  have hf_qmi : f32 qmi = .inl (cy 1, 36, .inl (fun _ => 0)) := (congrFun e_f32 qmi).trans (z_up_ne ne_qmi_qda hf_qmi)
  have hf_qd0 : f32 qd0 = .inr (0, [.int 0, .int 0, .int 0, .int 0, .int 0, .int 0, .int 0, .int 0]) := (congrFun e_f32 qd0).trans (z_up_ne (Ne.symm ne_qda_qd0) hf_qd0)
  have hf_qd1 : f32 qd1 = .inr (0, [.int 0, .int 0, .int 0, .int 0, .int 0, .int 0, .int 0, .int 0]) := (congrFun e_f32 qd1).trans (z_up_ne (Ne.symm ne_qda_qd1) hf_qd1)
  have hf_qd2 : f32 qd2 = .inr (0, [.int 0, .int 0, .int 0, .int 0, .int 0, .int 0, .int 0, .int 0]) := (congrFun e_f32 qd2).trans (z_up_ne (Ne.symm ne_qda_qd2) hf_qd2)
  have hf_qd3 : f32 qd3 = .inr (0, [.int 0, .int 0, .int 0, .int 0, .int 0, .int 0, .int 0, .int 0]) := (congrFun e_f32 qd3).trans (z_up_ne (Ne.symm ne_qda_qd3) hf_qd3)
  have hf_qd4 : f32 qd4 = .inr (0, [.int 0, .int 0, .int 0, .int 0, .int 0, .int 0, .int 0, .int 0]) := (congrFun e_f32 qd4).trans (z_up_ne (Ne.symm ne_qda_qd4) hf_qd4)
  have hf_qda : f32 qda = .inl (cy 4, 13, .inr (.inr (.inr (.inr (va_up g27 (4 : Int32).toNatClampNeg (some qd4)))))) := (congrFun e_f32 qda).trans z_up_self
  have hfr : ∀ b ∈ L, b ≠ mo → f32 b = f b := fun b hb h0 => (congrFun e_f32 b).trans (z_up_ne (z_ne hb hn_qda) (hfr b hb h0))
  obtain ⟨g31, e_g31⟩ : ∃ z, z = (va_up g27 (4 : Int32).toNatClampNeg (some qd4)) := ⟨_, rfl⟩
  rw [← e_g31] at hf_qda
  refine lv_iinc (v := 5) (lv' := [(1, .int 5), (0, .ref mo)]) hx hb dX2_init_56 hl (k := 0) rfl (by decide) (by decide) rfl (fun ls hl => ?_)
  refine lv_goto (tgt := 37) hx hb dX2_init_59 (by decide) ?_
  refine lv_iload_n hx hb dX2_init_37 rfl (lv_at hl 0 rfl) ?_
  refine lv_bipush (v := 12) hx hb dX2_init_38 (by decide) ?_
  refine z_icmp_gt (tgt := 62) hx hb (show (5 : Int32).toInt = 5 by decide) (show (12 : Int32).toInt = 12 by decide) dX2_init_40 (by decide) (fun h => absurd h (by decide)) (fun _ => ?_)
  refine lv_aload_n hx hb dX2_init_43 rfl (lv_at hl 1 rfl) ?_
  refine z_get (C := RX2) (T := TX2) (N := 11) (ci := 2) (v := .ref qda) hx hb hT zin_X2 hown hK hw hm_mo hf_mo rfl 10 (by decide) (hT _ kw_241) rfl dX2_init_44 ?_
  refine lv_iload_n hx hb dX2_init_47 rfl (lv_at hl 0 rfl) ?_
  refine z_new (C := RX0) (T := TX0) (N := 8) (ci := 0) (fs := [.int 0, .int 0, .int 0, .int 0, .int 0, .int 0, .int 0, .int 0]) (cells := 9) (slots := 98) hx hb hT zin_X0 tyX0_ok hown (hT _ kw_134) (hT _ kw_136) (hT _ kw_88) hK hw hA rfl (fun j hj => by rcases (show j = 0 ∨ j = 1 ∨ j = 2 ∨ j = 3 ∨ j = 4 ∨ j = 5 ∨ j = 6 ∨ j = 7 by omega) with rfl | rfl | rfl | rfl | rfl | rfl | rfl | rfl <;> rfl) (by decide) (by decide) dX2_init_48 (fun qd5 H hq_qd5 hw => ?_)
  refine W.widen (k := 10) (n := 106) (by decide) (by decide) ?_
  have ne_mo_qd5 : mo ≠ qd5 := z_ne hm_mo hq_qd5
  have ne_qla_qd5 : qla ≠ qd5 := z_ne hm_qla hq_qd5
  have ne_qsa_qd5 : qsa ≠ qd5 := z_ne hm_qsa hq_qd5
  have ne_qmi_qd5 : qmi ≠ qd5 := z_ne hm_qmi hq_qd5
  have ne_qda_qd5 : qda ≠ qd5 := z_ne hm_qda hq_qd5
  have ne_qd0_qd5 : qd0 ≠ qd5 := z_ne hm_qd0 hq_qd5
  have ne_qd1_qd5 : qd1 ≠ qd5 := z_ne hm_qd1 hq_qd5
  have ne_qd2_qd5 : qd2 ≠ qd5 := z_ne hm_qd2 hq_qd5
  have ne_qd3_qd5 : qd3 ≠ qd5 := z_ne hm_qd3 hq_qd5
  have ne_qd4_qd5 : qd4 ≠ qd5 := z_ne hm_qd4 hq_qd5
  have hn_qd5 : qd5 ∉ L := fun h => hq_qd5 (hsub _ h)
  obtain ⟨f34, e_f34⟩ : ∃ z, z = va_up f32 qd5 (.inr (0, [.int 0, .int 0, .int 0, .int 0, .int 0, .int 0, .int 0, .int 0])) := ⟨_, rfl⟩
  obtain ⟨L33, e_L33⟩ : ∃ z, z = L29 ++ [qd5] := ⟨_, rfl⟩
  rw [← e_f34, ← e_L33] at hw
  have hm_mo : mo ∈ L33 := by rw [e_L33]; exact List.mem_append_left _ hm_mo
  have hf_mo : f34 mo = .inr (2, [.int 0, .int 0, .int 0, .int 0, .int 0, .int 0, .int 0, .ref qla, .ref qsa, .ref qmi, .ref qda]) := (congrFun e_f34 mo).trans (z_up_ne ne_mo_qd5 hf_mo)
  have hm_qla : qla ∈ L33 := by rw [e_L33]; exact List.mem_append_left _ hm_qla
  have hf_qla : f34 qla = .inl (cy 1, 5, .inl (fun _ => 0)) := (congrFun e_f34 qla).trans (z_up_ne ne_qla_qd5 hf_qla)
  have hm_qsa : qsa ∈ L33 := by rw [e_L33]; exact List.mem_append_left _ hm_qsa
  have hf_qsa : f34 qsa = .inl (cy 1, 4, .inl (fun _ => 0)) := (congrFun e_f34 qsa).trans (z_up_ne ne_qsa_qd5 hf_qsa)
  have hm_qmi : qmi ∈ L33 := by rw [e_L33]; exact List.mem_append_left _ hm_qmi
  have hf_qmi : f34 qmi = .inl (cy 1, 36, .inl (fun _ => 0)) := (congrFun e_f34 qmi).trans (z_up_ne ne_qmi_qd5 hf_qmi)
  have hm_qda : qda ∈ L33 := by rw [e_L33]; exact List.mem_append_left _ hm_qda
  have hf_qda : f34 qda = .inl (cy 4, 13, .inr (.inr (.inr (.inr g31)))) := (congrFun e_f34 qda).trans (z_up_ne ne_qda_qd5 hf_qda)
  have hm_qd0 : qd0 ∈ L33 := by rw [e_L33]; exact List.mem_append_left _ hm_qd0
  have hf_qd0 : f34 qd0 = .inr (0, [.int 0, .int 0, .int 0, .int 0, .int 0, .int 0, .int 0, .int 0]) := (congrFun e_f34 qd0).trans (z_up_ne ne_qd0_qd5 hf_qd0)
  have hm_qd1 : qd1 ∈ L33 := by rw [e_L33]; exact List.mem_append_left _ hm_qd1
  have hf_qd1 : f34 qd1 = .inr (0, [.int 0, .int 0, .int 0, .int 0, .int 0, .int 0, .int 0, .int 0]) := (congrFun e_f34 qd1).trans (z_up_ne ne_qd1_qd5 hf_qd1)
  have hm_qd2 : qd2 ∈ L33 := by rw [e_L33]; exact List.mem_append_left _ hm_qd2
  have hf_qd2 : f34 qd2 = .inr (0, [.int 0, .int 0, .int 0, .int 0, .int 0, .int 0, .int 0, .int 0]) := (congrFun e_f34 qd2).trans (z_up_ne ne_qd2_qd5 hf_qd2)
  have hm_qd3 : qd3 ∈ L33 := by rw [e_L33]; exact List.mem_append_left _ hm_qd3
  have hf_qd3 : f34 qd3 = .inr (0, [.int 0, .int 0, .int 0, .int 0, .int 0, .int 0, .int 0, .int 0]) := (congrFun e_f34 qd3).trans (z_up_ne ne_qd3_qd5 hf_qd3)
  have hm_qd4 : qd4 ∈ L33 := by rw [e_L33]; exact List.mem_append_left _ hm_qd4
  have hf_qd4 : f34 qd4 = .inr (0, [.int 0, .int 0, .int 0, .int 0, .int 0, .int 0, .int 0, .int 0]) := (congrFun e_f34 qd4).trans (z_up_ne ne_qd4_qd5 hf_qd4)
  have hm_qd5 : qd5 ∈ L33 := by rw [e_L33]; exact List.mem_append_right _ (List.mem_singleton.mpr rfl)
  have hf_qd5 : f34 qd5 = .inr (0, [.int 0, .int 0, .int 0, .int 0, .int 0, .int 0, .int 0, .int 0]) := (congrFun e_f34 qd5).trans z_up_self
  have hsub : ∀ b ∈ L, b ∈ L33 := fun b h => by rw [e_L33]; exact List.mem_append_left _ (hsub b h)
  have hfr : ∀ b ∈ L, b ≠ mo → f34 b = f b := fun b hb h0 => (congrFun e_f34 b).trans (z_up_ne (z_ne hb hn_qd5) (hfr b hb h0))
  refine lv_dup hx hb dX2_init_51 rfl ?_
  refine z_callvIN (cells := 10) (slots := 106) (b := qd5) (As := []) (rest := [.ref qd5, .int 5, .ref qda]) ⟨hx, hb, hml, hown, hT⟩ (c_X0_init l hm_qd5 hf_qd5) ⟨va_cnB 0 hT (z_goodI (fun _ h => h) kw_139) rfl rfl rfl hKK.1.2.2.2.2.1 (hT _ kw_88) (by decide +kernel) ⟨by decide, by decide⟩, rfl, hT _ kw_138⟩ z_mv hKK hw hA rfl hl.1 rfl (Nat.le_of_ble_eq_true rfl) dX2_init_52 ⟨by decide, by decide⟩ (fun u H locs hp hw => ?_)
  obtain ⟨rfl, hp⟩ := hp
  have hw : z_H D vwCl (z_A L sz) s.heap L33 f34 H locs := hw
  refine z_aast (r := (RX0, TX0, 8)) hx hb hK hw 4 0 hm_qda hf_qda rfl hm_qd5 hf_qd5 rfl (z_ix (show (5 : Int32).toInt = 5 by decide) (by decide)) dX2_init_55 (fun H locs hw => ?_)
  obtain ⟨f36, e_f36⟩ : ∃ z, z = va_up f34 qda (.inl (cy 4, 13, .inr (.inr (.inr (.inr (va_up g31 (5 : Int32).toNatClampNeg (some qd5))))))) := ⟨_, rfl⟩
  rw [← e_f36] at hw
  have hf_mo : f36 mo = .inr (2, [.int 0, .int 0, .int 0, .int 0, .int 0, .int 0, .int 0, .ref qla, .ref qsa, .ref qmi, .ref qda]) := (congrFun e_f36 mo).trans (z_up_ne ne_mo_qda hf_mo)
  have hf_qla : f36 qla = .inl (cy 1, 5, .inl (fun _ => 0)) := (congrFun e_f36 qla).trans (z_up_ne ne_qla_qda hf_qla)
  have hf_qsa : f36 qsa = .inl (cy 1, 4, .inl (fun _ => 0)) := (congrFun e_f36 qsa).trans (z_up_ne ne_qsa_qda hf_qsa)
  have hf_qmi : f36 qmi = .inl (cy 1, 36, .inl (fun _ => 0)) := (congrFun e_f36 qmi).trans (z_up_ne ne_qmi_qda hf_qmi)
  have hf_qd0 : f36 qd0 = .inr (0, [.int 0, .int 0, .int 0, .int 0, .int 0, .int 0, .int 0, .int 0]) := (congrFun e_f36 qd0).trans (z_up_ne (Ne.symm ne_qda_qd0) hf_qd0)
  have hf_qd1 : f36 qd1 = .inr (0, [.int 0, .int 0, .int 0, .int 0, .int 0, .int 0, .int 0, .int 0]) := (congrFun e_f36 qd1).trans (z_up_ne (Ne.symm ne_qda_qd1) hf_qd1)
  have hf_qd2 : f36 qd2 = .inr (0, [.int 0, .int 0, .int 0, .int 0, .int 0, .int 0, .int 0, .int 0]) := (congrFun e_f36 qd2).trans (z_up_ne (Ne.symm ne_qda_qd2) hf_qd2)
  have hf_qd3 : f36 qd3 = .inr (0, [.int 0, .int 0, .int 0, .int 0, .int 0, .int 0, .int 0, .int 0]) := (congrFun e_f36 qd3).trans (z_up_ne (Ne.symm ne_qda_qd3) hf_qd3)
  have hf_qd4 : f36 qd4 = .inr (0, [.int 0, .int 0, .int 0, .int 0, .int 0, .int 0, .int 0, .int 0]) := (congrFun e_f36 qd4).trans (z_up_ne (Ne.symm ne_qda_qd4) hf_qd4)
  have hf_qd5 : f36 qd5 = .inr (0, [.int 0, .int 0, .int 0, .int 0, .int 0, .int 0, .int 0, .int 0]) := (congrFun e_f36 qd5).trans (z_up_ne (Ne.symm ne_qda_qd5) hf_qd5)
  have hf_qda : f36 qda = .inl (cy 4, 13, .inr (.inr (.inr (.inr (va_up g31 (5 : Int32).toNatClampNeg (some qd5)))))) := (congrFun e_f36 qda).trans z_up_self
  have hfr : ∀ b ∈ L, b ≠ mo → f36 b = f b := fun b hb h0 => (congrFun e_f36 b).trans (z_up_ne (z_ne hb hn_qda) (hfr b hb h0))
  obtain ⟨g35, e_g35⟩ : ∃ z, z = (va_up g31 (5 : Int32).toNatClampNeg (some qd5)) := ⟨_, rfl⟩
  rw [← e_g35] at hf_qda
  refine lv_iinc (v := 6) (lv' := [(1, .int 6), (0, .ref mo)]) hx hb dX2_init_56 hl (k := 0) rfl (by decide) (by decide) rfl (fun ls hl => ?_)
  refine lv_goto (tgt := 37) hx hb dX2_init_59 (by decide) ?_
  refine lv_iload_n hx hb dX2_init_37 rfl (lv_at hl 0 rfl) ?_
  refine lv_bipush (v := 12) hx hb dX2_init_38 (by decide) ?_
  refine z_icmp_gt (tgt := 62) hx hb (show (6 : Int32).toInt = 6 by decide) (show (12 : Int32).toInt = 12 by decide) dX2_init_40 (by decide) (fun h => absurd h (by decide)) (fun _ => ?_)
  refine lv_aload_n hx hb dX2_init_43 rfl (lv_at hl 1 rfl) ?_
  refine z_get (C := RX2) (T := TX2) (N := 11) (ci := 2) (v := .ref qda) hx hb hT zin_X2 hown hK hw hm_mo hf_mo rfl 10 (by decide) (hT _ kw_241) rfl dX2_init_44 ?_
  refine lv_iload_n hx hb dX2_init_47 rfl (lv_at hl 0 rfl) ?_
  refine z_new (C := RX0) (T := TX0) (N := 8) (ci := 0) (fs := [.int 0, .int 0, .int 0, .int 0, .int 0, .int 0, .int 0, .int 0]) (cells := 10) (slots := 106) hx hb hT zin_X0 tyX0_ok hown (hT _ kw_134) (hT _ kw_136) (hT _ kw_88) hK hw hA rfl (fun j hj => by rcases (show j = 0 ∨ j = 1 ∨ j = 2 ∨ j = 3 ∨ j = 4 ∨ j = 5 ∨ j = 6 ∨ j = 7 by omega) with rfl | rfl | rfl | rfl | rfl | rfl | rfl | rfl <;> rfl) (by decide) (by decide) dX2_init_48 (fun qd6 H hq_qd6 hw => ?_)
  refine W.widen (k := 11) (n := 114) (by decide) (by decide) ?_
  have ne_mo_qd6 : mo ≠ qd6 := z_ne hm_mo hq_qd6
  have ne_qla_qd6 : qla ≠ qd6 := z_ne hm_qla hq_qd6
  have ne_qsa_qd6 : qsa ≠ qd6 := z_ne hm_qsa hq_qd6
  have ne_qmi_qd6 : qmi ≠ qd6 := z_ne hm_qmi hq_qd6
  have ne_qda_qd6 : qda ≠ qd6 := z_ne hm_qda hq_qd6
  have ne_qd0_qd6 : qd0 ≠ qd6 := z_ne hm_qd0 hq_qd6
  have ne_qd1_qd6 : qd1 ≠ qd6 := z_ne hm_qd1 hq_qd6
  have ne_qd2_qd6 : qd2 ≠ qd6 := z_ne hm_qd2 hq_qd6
  have ne_qd3_qd6 : qd3 ≠ qd6 := z_ne hm_qd3 hq_qd6
  have ne_qd4_qd6 : qd4 ≠ qd6 := z_ne hm_qd4 hq_qd6
  have ne_qd5_qd6 : qd5 ≠ qd6 := z_ne hm_qd5 hq_qd6
  have hn_qd6 : qd6 ∉ L := fun h => hq_qd6 (hsub _ h)
  obtain ⟨f38, e_f38⟩ : ∃ z, z = va_up f36 qd6 (.inr (0, [.int 0, .int 0, .int 0, .int 0, .int 0, .int 0, .int 0, .int 0])) := ⟨_, rfl⟩
  obtain ⟨L37, e_L37⟩ : ∃ z, z = L33 ++ [qd6] := ⟨_, rfl⟩
  rw [← e_f38, ← e_L37] at hw
  have hm_mo : mo ∈ L37 := by rw [e_L37]; exact List.mem_append_left _ hm_mo
  have hf_mo : f38 mo = .inr (2, [.int 0, .int 0, .int 0, .int 0, .int 0, .int 0, .int 0, .ref qla, .ref qsa, .ref qmi, .ref qda]) := (congrFun e_f38 mo).trans (z_up_ne ne_mo_qd6 hf_mo)
  have hm_qla : qla ∈ L37 := by rw [e_L37]; exact List.mem_append_left _ hm_qla
  have hf_qla : f38 qla = .inl (cy 1, 5, .inl (fun _ => 0)) := (congrFun e_f38 qla).trans (z_up_ne ne_qla_qd6 hf_qla)
  have hm_qsa : qsa ∈ L37 := by rw [e_L37]; exact List.mem_append_left _ hm_qsa
  have hf_qsa : f38 qsa = .inl (cy 1, 4, .inl (fun _ => 0)) := (congrFun e_f38 qsa).trans (z_up_ne ne_qsa_qd6 hf_qsa)
  have hm_qmi : qmi ∈ L37 := by rw [e_L37]; exact List.mem_append_left _ hm_qmi
  have hf_qmi : f38 qmi = .inl (cy 1, 36, .inl (fun _ => 0)) := (congrFun e_f38 qmi).trans (z_up_ne ne_qmi_qd6 hf_qmi)
  have hm_qda : qda ∈ L37 := by rw [e_L37]; exact List.mem_append_left _ hm_qda
  have hf_qda : f38 qda = .inl (cy 4, 13, .inr (.inr (.inr (.inr g35)))) := (congrFun e_f38 qda).trans (z_up_ne ne_qda_qd6 hf_qda)
  have hm_qd0 : qd0 ∈ L37 := by rw [e_L37]; exact List.mem_append_left _ hm_qd0
  have hf_qd0 : f38 qd0 = .inr (0, [.int 0, .int 0, .int 0, .int 0, .int 0, .int 0, .int 0, .int 0]) := (congrFun e_f38 qd0).trans (z_up_ne ne_qd0_qd6 hf_qd0)
  have hm_qd1 : qd1 ∈ L37 := by rw [e_L37]; exact List.mem_append_left _ hm_qd1
  have hf_qd1 : f38 qd1 = .inr (0, [.int 0, .int 0, .int 0, .int 0, .int 0, .int 0, .int 0, .int 0]) := (congrFun e_f38 qd1).trans (z_up_ne ne_qd1_qd6 hf_qd1)
  have hm_qd2 : qd2 ∈ L37 := by rw [e_L37]; exact List.mem_append_left _ hm_qd2
  have hf_qd2 : f38 qd2 = .inr (0, [.int 0, .int 0, .int 0, .int 0, .int 0, .int 0, .int 0, .int 0]) := (congrFun e_f38 qd2).trans (z_up_ne ne_qd2_qd6 hf_qd2)
  have hm_qd3 : qd3 ∈ L37 := by rw [e_L37]; exact List.mem_append_left _ hm_qd3
  have hf_qd3 : f38 qd3 = .inr (0, [.int 0, .int 0, .int 0, .int 0, .int 0, .int 0, .int 0, .int 0]) := (congrFun e_f38 qd3).trans (z_up_ne ne_qd3_qd6 hf_qd3)
  have hm_qd4 : qd4 ∈ L37 := by rw [e_L37]; exact List.mem_append_left _ hm_qd4
  have hf_qd4 : f38 qd4 = .inr (0, [.int 0, .int 0, .int 0, .int 0, .int 0, .int 0, .int 0, .int 0]) := (congrFun e_f38 qd4).trans (z_up_ne ne_qd4_qd6 hf_qd4)
  have hm_qd5 : qd5 ∈ L37 := by rw [e_L37]; exact List.mem_append_left _ hm_qd5
  have hf_qd5 : f38 qd5 = .inr (0, [.int 0, .int 0, .int 0, .int 0, .int 0, .int 0, .int 0, .int 0]) := (congrFun e_f38 qd5).trans (z_up_ne ne_qd5_qd6 hf_qd5)
  have hm_qd6 : qd6 ∈ L37 := by rw [e_L37]; exact List.mem_append_right _ (List.mem_singleton.mpr rfl)
  have hf_qd6 : f38 qd6 = .inr (0, [.int 0, .int 0, .int 0, .int 0, .int 0, .int 0, .int 0, .int 0]) := (congrFun e_f38 qd6).trans z_up_self
  have hsub : ∀ b ∈ L, b ∈ L37 := fun b h => by rw [e_L37]; exact List.mem_append_left _ (hsub b h)
  have hfr : ∀ b ∈ L, b ≠ mo → f38 b = f b := fun b hb h0 => (congrFun e_f38 b).trans (z_up_ne (z_ne hb hn_qd6) (hfr b hb h0))
  refine lv_dup hx hb dX2_init_51 rfl ?_
  refine z_callvIN (cells := 11) (slots := 114) (b := qd6) (As := []) (rest := [.ref qd6, .int 6, .ref qda]) ⟨hx, hb, hml, hown, hT⟩ (c_X0_init l hm_qd6 hf_qd6) ⟨va_cnB 0 hT (z_goodI (fun _ h => h) kw_139) rfl rfl rfl hKK.1.2.2.2.2.1 (hT _ kw_88) (by decide +kernel) ⟨by decide, by decide⟩, rfl, hT _ kw_138⟩ z_mv hKK hw hA rfl hl.1 rfl (Nat.le_of_ble_eq_true rfl) dX2_init_52 ⟨by decide, by decide⟩ (fun u H locs hp hw => ?_)
  obtain ⟨rfl, hp⟩ := hp
  have hw : z_H D vwCl (z_A L sz) s.heap L37 f38 H locs := hw
  refine z_aast (r := (RX0, TX0, 8)) hx hb hK hw 4 0 hm_qda hf_qda rfl hm_qd6 hf_qd6 rfl (z_ix (show (6 : Int32).toInt = 6 by decide) (by decide)) dX2_init_55 (fun H locs hw => ?_)
  obtain ⟨f40, e_f40⟩ : ∃ z, z = va_up f38 qda (.inl (cy 4, 13, .inr (.inr (.inr (.inr (va_up g35 (6 : Int32).toNatClampNeg (some qd6))))))) := ⟨_, rfl⟩
  rw [← e_f40] at hw
  have hf_mo : f40 mo = .inr (2, [.int 0, .int 0, .int 0, .int 0, .int 0, .int 0, .int 0, .ref qla, .ref qsa, .ref qmi, .ref qda]) := (congrFun e_f40 mo).trans (z_up_ne ne_mo_qda hf_mo)
  have hf_qla : f40 qla = .inl (cy 1, 5, .inl (fun _ => 0)) := (congrFun e_f40 qla).trans (z_up_ne ne_qla_qda hf_qla)
  have hf_qsa : f40 qsa = .inl (cy 1, 4, .inl (fun _ => 0)) := (congrFun e_f40 qsa).trans (z_up_ne ne_qsa_qda hf_qsa)
  have hf_qmi : f40 qmi = .inl (cy 1, 36, .inl (fun _ => 0)) := (congrFun e_f40 qmi).trans (z_up_ne ne_qmi_qda hf_qmi)
  have hf_qd0 : f40 qd0 = .inr (0, [.int 0, .int 0, .int 0, .int 0, .int 0, .int 0, .int 0, .int 0]) := (congrFun e_f40 qd0).trans (z_up_ne (Ne.symm ne_qda_qd0) hf_qd0)
  have hf_qd1 : f40 qd1 = .inr (0, [.int 0, .int 0, .int 0, .int 0, .int 0, .int 0, .int 0, .int 0]) := (congrFun e_f40 qd1).trans (z_up_ne (Ne.symm ne_qda_qd1) hf_qd1)
  have hf_qd2 : f40 qd2 = .inr (0, [.int 0, .int 0, .int 0, .int 0, .int 0, .int 0, .int 0, .int 0]) := (congrFun e_f40 qd2).trans (z_up_ne (Ne.symm ne_qda_qd2) hf_qd2)
  have hf_qd3 : f40 qd3 = .inr (0, [.int 0, .int 0, .int 0, .int 0, .int 0, .int 0, .int 0, .int 0]) := (congrFun e_f40 qd3).trans (z_up_ne (Ne.symm ne_qda_qd3) hf_qd3)
  have hf_qd4 : f40 qd4 = .inr (0, [.int 0, .int 0, .int 0, .int 0, .int 0, .int 0, .int 0, .int 0]) := (congrFun e_f40 qd4).trans (z_up_ne (Ne.symm ne_qda_qd4) hf_qd4)
  have hf_qd5 : f40 qd5 = .inr (0, [.int 0, .int 0, .int 0, .int 0, .int 0, .int 0, .int 0, .int 0]) := (congrFun e_f40 qd5).trans (z_up_ne (Ne.symm ne_qda_qd5) hf_qd5)
  have hf_qd6 : f40 qd6 = .inr (0, [.int 0, .int 0, .int 0, .int 0, .int 0, .int 0, .int 0, .int 0]) := (congrFun e_f40 qd6).trans (z_up_ne (Ne.symm ne_qda_qd6) hf_qd6)
  have hf_qda : f40 qda = .inl (cy 4, 13, .inr (.inr (.inr (.inr (va_up g35 (6 : Int32).toNatClampNeg (some qd6)))))) := (congrFun e_f40 qda).trans z_up_self
  have hfr : ∀ b ∈ L, b ≠ mo → f40 b = f b := fun b hb h0 => (congrFun e_f40 b).trans (z_up_ne (z_ne hb hn_qda) (hfr b hb h0))
  obtain ⟨g39, e_g39⟩ : ∃ z, z = (va_up g35 (6 : Int32).toNatClampNeg (some qd6)) := ⟨_, rfl⟩
  rw [← e_g39] at hf_qda
  refine lv_iinc (v := 7) (lv' := [(1, .int 7), (0, .ref mo)]) hx hb dX2_init_56 hl (k := 0) rfl (by decide) (by decide) rfl (fun ls hl => ?_)
  refine lv_goto (tgt := 37) hx hb dX2_init_59 (by decide) ?_
  refine lv_iload_n hx hb dX2_init_37 rfl (lv_at hl 0 rfl) ?_
  refine lv_bipush (v := 12) hx hb dX2_init_38 (by decide) ?_
  refine z_icmp_gt (tgt := 62) hx hb (show (7 : Int32).toInt = 7 by decide) (show (12 : Int32).toInt = 12 by decide) dX2_init_40 (by decide) (fun h => absurd h (by decide)) (fun _ => ?_)
  refine lv_aload_n hx hb dX2_init_43 rfl (lv_at hl 1 rfl) ?_
  refine z_get (C := RX2) (T := TX2) (N := 11) (ci := 2) (v := .ref qda) hx hb hT zin_X2 hown hK hw hm_mo hf_mo rfl 10 (by decide) (hT _ kw_241) rfl dX2_init_44 ?_
  refine lv_iload_n hx hb dX2_init_47 rfl (lv_at hl 0 rfl) ?_
  refine z_new (C := RX0) (T := TX0) (N := 8) (ci := 0) (fs := [.int 0, .int 0, .int 0, .int 0, .int 0, .int 0, .int 0, .int 0]) (cells := 11) (slots := 114) hx hb hT zin_X0 tyX0_ok hown (hT _ kw_134) (hT _ kw_136) (hT _ kw_88) hK hw hA rfl (fun j hj => by rcases (show j = 0 ∨ j = 1 ∨ j = 2 ∨ j = 3 ∨ j = 4 ∨ j = 5 ∨ j = 6 ∨ j = 7 by omega) with rfl | rfl | rfl | rfl | rfl | rfl | rfl | rfl <;> rfl) (by decide) (by decide) dX2_init_48 (fun qd7 H hq_qd7 hw => ?_)
  refine W.widen (k := 12) (n := 122) (by decide) (by decide) ?_
  have ne_mo_qd7 : mo ≠ qd7 := z_ne hm_mo hq_qd7
  have ne_qla_qd7 : qla ≠ qd7 := z_ne hm_qla hq_qd7
  have ne_qsa_qd7 : qsa ≠ qd7 := z_ne hm_qsa hq_qd7
  have ne_qmi_qd7 : qmi ≠ qd7 := z_ne hm_qmi hq_qd7
  have ne_qda_qd7 : qda ≠ qd7 := z_ne hm_qda hq_qd7
  have ne_qd0_qd7 : qd0 ≠ qd7 := z_ne hm_qd0 hq_qd7
  have ne_qd1_qd7 : qd1 ≠ qd7 := z_ne hm_qd1 hq_qd7
  have ne_qd2_qd7 : qd2 ≠ qd7 := z_ne hm_qd2 hq_qd7
  have ne_qd3_qd7 : qd3 ≠ qd7 := z_ne hm_qd3 hq_qd7
  have ne_qd4_qd7 : qd4 ≠ qd7 := z_ne hm_qd4 hq_qd7
  have ne_qd5_qd7 : qd5 ≠ qd7 := z_ne hm_qd5 hq_qd7
  have ne_qd6_qd7 : qd6 ≠ qd7 := z_ne hm_qd6 hq_qd7
  have hn_qd7 : qd7 ∉ L := fun h => hq_qd7 (hsub _ h)
  obtain ⟨f42, e_f42⟩ : ∃ z, z = va_up f40 qd7 (.inr (0, [.int 0, .int 0, .int 0, .int 0, .int 0, .int 0, .int 0, .int 0])) := ⟨_, rfl⟩
  obtain ⟨L41, e_L41⟩ : ∃ z, z = L37 ++ [qd7] := ⟨_, rfl⟩
  rw [← e_f42, ← e_L41] at hw
  have hm_mo : mo ∈ L41 := by rw [e_L41]; exact List.mem_append_left _ hm_mo
  have hf_mo : f42 mo = .inr (2, [.int 0, .int 0, .int 0, .int 0, .int 0, .int 0, .int 0, .ref qla, .ref qsa, .ref qmi, .ref qda]) := (congrFun e_f42 mo).trans (z_up_ne ne_mo_qd7 hf_mo)
  have hm_qla : qla ∈ L41 := by rw [e_L41]; exact List.mem_append_left _ hm_qla
  have hf_qla : f42 qla = .inl (cy 1, 5, .inl (fun _ => 0)) := (congrFun e_f42 qla).trans (z_up_ne ne_qla_qd7 hf_qla)
  have hm_qsa : qsa ∈ L41 := by rw [e_L41]; exact List.mem_append_left _ hm_qsa
  have hf_qsa : f42 qsa = .inl (cy 1, 4, .inl (fun _ => 0)) := (congrFun e_f42 qsa).trans (z_up_ne ne_qsa_qd7 hf_qsa)
  have hm_qmi : qmi ∈ L41 := by rw [e_L41]; exact List.mem_append_left _ hm_qmi
  have hf_qmi : f42 qmi = .inl (cy 1, 36, .inl (fun _ => 0)) := (congrFun e_f42 qmi).trans (z_up_ne ne_qmi_qd7 hf_qmi)
  have hm_qda : qda ∈ L41 := by rw [e_L41]; exact List.mem_append_left _ hm_qda
  have hf_qda : f42 qda = .inl (cy 4, 13, .inr (.inr (.inr (.inr g39)))) := (congrFun e_f42 qda).trans (z_up_ne ne_qda_qd7 hf_qda)
  have hm_qd0 : qd0 ∈ L41 := by rw [e_L41]; exact List.mem_append_left _ hm_qd0
  have hf_qd0 : f42 qd0 = .inr (0, [.int 0, .int 0, .int 0, .int 0, .int 0, .int 0, .int 0, .int 0]) := (congrFun e_f42 qd0).trans (z_up_ne ne_qd0_qd7 hf_qd0)
  have hm_qd1 : qd1 ∈ L41 := by rw [e_L41]; exact List.mem_append_left _ hm_qd1
  have hf_qd1 : f42 qd1 = .inr (0, [.int 0, .int 0, .int 0, .int 0, .int 0, .int 0, .int 0, .int 0]) := (congrFun e_f42 qd1).trans (z_up_ne ne_qd1_qd7 hf_qd1)
  have hm_qd2 : qd2 ∈ L41 := by rw [e_L41]; exact List.mem_append_left _ hm_qd2
  have hf_qd2 : f42 qd2 = .inr (0, [.int 0, .int 0, .int 0, .int 0, .int 0, .int 0, .int 0, .int 0]) := (congrFun e_f42 qd2).trans (z_up_ne ne_qd2_qd7 hf_qd2)
  have hm_qd3 : qd3 ∈ L41 := by rw [e_L41]; exact List.mem_append_left _ hm_qd3
  have hf_qd3 : f42 qd3 = .inr (0, [.int 0, .int 0, .int 0, .int 0, .int 0, .int 0, .int 0, .int 0]) := (congrFun e_f42 qd3).trans (z_up_ne ne_qd3_qd7 hf_qd3)
  have hm_qd4 : qd4 ∈ L41 := by rw [e_L41]; exact List.mem_append_left _ hm_qd4
  have hf_qd4 : f42 qd4 = .inr (0, [.int 0, .int 0, .int 0, .int 0, .int 0, .int 0, .int 0, .int 0]) := (congrFun e_f42 qd4).trans (z_up_ne ne_qd4_qd7 hf_qd4)
  have hm_qd5 : qd5 ∈ L41 := by rw [e_L41]; exact List.mem_append_left _ hm_qd5
  have hf_qd5 : f42 qd5 = .inr (0, [.int 0, .int 0, .int 0, .int 0, .int 0, .int 0, .int 0, .int 0]) := (congrFun e_f42 qd5).trans (z_up_ne ne_qd5_qd7 hf_qd5)
  have hm_qd6 : qd6 ∈ L41 := by rw [e_L41]; exact List.mem_append_left _ hm_qd6
  have hf_qd6 : f42 qd6 = .inr (0, [.int 0, .int 0, .int 0, .int 0, .int 0, .int 0, .int 0, .int 0]) := (congrFun e_f42 qd6).trans (z_up_ne ne_qd6_qd7 hf_qd6)
  have hm_qd7 : qd7 ∈ L41 := by rw [e_L41]; exact List.mem_append_right _ (List.mem_singleton.mpr rfl)
  have hf_qd7 : f42 qd7 = .inr (0, [.int 0, .int 0, .int 0, .int 0, .int 0, .int 0, .int 0, .int 0]) := (congrFun e_f42 qd7).trans z_up_self
  have hsub : ∀ b ∈ L, b ∈ L41 := fun b h => by rw [e_L41]; exact List.mem_append_left _ (hsub b h)
  have hfr : ∀ b ∈ L, b ≠ mo → f42 b = f b := fun b hb h0 => (congrFun e_f42 b).trans (z_up_ne (z_ne hb hn_qd7) (hfr b hb h0))
  refine lv_dup hx hb dX2_init_51 rfl ?_
  refine z_callvIN (cells := 12) (slots := 122) (b := qd7) (As := []) (rest := [.ref qd7, .int 7, .ref qda]) ⟨hx, hb, hml, hown, hT⟩ (c_X0_init l hm_qd7 hf_qd7) ⟨va_cnB 0 hT (z_goodI (fun _ h => h) kw_139) rfl rfl rfl hKK.1.2.2.2.2.1 (hT _ kw_88) (by decide +kernel) ⟨by decide, by decide⟩, rfl, hT _ kw_138⟩ z_mv hKK hw hA rfl hl.1 rfl (Nat.le_of_ble_eq_true rfl) dX2_init_52 ⟨by decide, by decide⟩ (fun u H locs hp hw => ?_)
  obtain ⟨rfl, hp⟩ := hp
  have hw : z_H D vwCl (z_A L sz) s.heap L41 f42 H locs := hw
  refine z_aast (r := (RX0, TX0, 8)) hx hb hK hw 4 0 hm_qda hf_qda rfl hm_qd7 hf_qd7 rfl (z_ix (show (7 : Int32).toInt = 7 by decide) (by decide)) dX2_init_55 (fun H locs hw => ?_)
  obtain ⟨f44, e_f44⟩ : ∃ z, z = va_up f42 qda (.inl (cy 4, 13, .inr (.inr (.inr (.inr (va_up g39 (7 : Int32).toNatClampNeg (some qd7))))))) := ⟨_, rfl⟩
  rw [← e_f44] at hw
  have hf_mo : f44 mo = .inr (2, [.int 0, .int 0, .int 0, .int 0, .int 0, .int 0, .int 0, .ref qla, .ref qsa, .ref qmi, .ref qda]) := (congrFun e_f44 mo).trans (z_up_ne ne_mo_qda hf_mo)
  have hf_qla : f44 qla = .inl (cy 1, 5, .inl (fun _ => 0)) := (congrFun e_f44 qla).trans (z_up_ne ne_qla_qda hf_qla)
  have hf_qsa : f44 qsa = .inl (cy 1, 4, .inl (fun _ => 0)) := (congrFun e_f44 qsa).trans (z_up_ne ne_qsa_qda hf_qsa)
  have hf_qmi : f44 qmi = .inl (cy 1, 36, .inl (fun _ => 0)) := (congrFun e_f44 qmi).trans (z_up_ne ne_qmi_qda hf_qmi)
  have hf_qd0 : f44 qd0 = .inr (0, [.int 0, .int 0, .int 0, .int 0, .int 0, .int 0, .int 0, .int 0]) := (congrFun e_f44 qd0).trans (z_up_ne (Ne.symm ne_qda_qd0) hf_qd0)
  have hf_qd1 : f44 qd1 = .inr (0, [.int 0, .int 0, .int 0, .int 0, .int 0, .int 0, .int 0, .int 0]) := (congrFun e_f44 qd1).trans (z_up_ne (Ne.symm ne_qda_qd1) hf_qd1)
  have hf_qd2 : f44 qd2 = .inr (0, [.int 0, .int 0, .int 0, .int 0, .int 0, .int 0, .int 0, .int 0]) := (congrFun e_f44 qd2).trans (z_up_ne (Ne.symm ne_qda_qd2) hf_qd2)
  have hf_qd3 : f44 qd3 = .inr (0, [.int 0, .int 0, .int 0, .int 0, .int 0, .int 0, .int 0, .int 0]) := (congrFun e_f44 qd3).trans (z_up_ne (Ne.symm ne_qda_qd3) hf_qd3)
  have hf_qd4 : f44 qd4 = .inr (0, [.int 0, .int 0, .int 0, .int 0, .int 0, .int 0, .int 0, .int 0]) := (congrFun e_f44 qd4).trans (z_up_ne (Ne.symm ne_qda_qd4) hf_qd4)
  have hf_qd5 : f44 qd5 = .inr (0, [.int 0, .int 0, .int 0, .int 0, .int 0, .int 0, .int 0, .int 0]) := (congrFun e_f44 qd5).trans (z_up_ne (Ne.symm ne_qda_qd5) hf_qd5)
  have hf_qd6 : f44 qd6 = .inr (0, [.int 0, .int 0, .int 0, .int 0, .int 0, .int 0, .int 0, .int 0]) := (congrFun e_f44 qd6).trans (z_up_ne (Ne.symm ne_qda_qd6) hf_qd6)
  have hf_qd7 : f44 qd7 = .inr (0, [.int 0, .int 0, .int 0, .int 0, .int 0, .int 0, .int 0, .int 0]) := (congrFun e_f44 qd7).trans (z_up_ne (Ne.symm ne_qda_qd7) hf_qd7)
  have hf_qda : f44 qda = .inl (cy 4, 13, .inr (.inr (.inr (.inr (va_up g39 (7 : Int32).toNatClampNeg (some qd7)))))) := (congrFun e_f44 qda).trans z_up_self
  have hfr : ∀ b ∈ L, b ≠ mo → f44 b = f b := fun b hb h0 => (congrFun e_f44 b).trans (z_up_ne (z_ne hb hn_qda) (hfr b hb h0))
  obtain ⟨g43, e_g43⟩ : ∃ z, z = (va_up g39 (7 : Int32).toNatClampNeg (some qd7)) := ⟨_, rfl⟩
  rw [← e_g43] at hf_qda
  refine lv_iinc (v := 8) (lv' := [(1, .int 8), (0, .ref mo)]) hx hb dX2_init_56 hl (k := 0) rfl (by decide) (by decide) rfl (fun ls hl => ?_)
  refine lv_goto (tgt := 37) hx hb dX2_init_59 (by decide) ?_
  refine lv_iload_n hx hb dX2_init_37 rfl (lv_at hl 0 rfl) ?_
  refine lv_bipush (v := 12) hx hb dX2_init_38 (by decide) ?_
  refine z_icmp_gt (tgt := 62) hx hb (show (8 : Int32).toInt = 8 by decide) (show (12 : Int32).toInt = 12 by decide) dX2_init_40 (by decide) (fun h => absurd h (by decide)) (fun _ => ?_)
  refine lv_aload_n hx hb dX2_init_43 rfl (lv_at hl 1 rfl) ?_
  refine z_get (C := RX2) (T := TX2) (N := 11) (ci := 2) (v := .ref qda) hx hb hT zin_X2 hown hK hw hm_mo hf_mo rfl 10 (by decide) (hT _ kw_241) rfl dX2_init_44 ?_
  refine lv_iload_n hx hb dX2_init_47 rfl (lv_at hl 0 rfl) ?_
  refine z_new (C := RX0) (T := TX0) (N := 8) (ci := 0) (fs := [.int 0, .int 0, .int 0, .int 0, .int 0, .int 0, .int 0, .int 0]) (cells := 12) (slots := 122) hx hb hT zin_X0 tyX0_ok hown (hT _ kw_134) (hT _ kw_136) (hT _ kw_88) hK hw hA rfl (fun j hj => by rcases (show j = 0 ∨ j = 1 ∨ j = 2 ∨ j = 3 ∨ j = 4 ∨ j = 5 ∨ j = 6 ∨ j = 7 by omega) with rfl | rfl | rfl | rfl | rfl | rfl | rfl | rfl <;> rfl) (by decide) (by decide) dX2_init_48 (fun qd8 H hq_qd8 hw => ?_)
  refine W.widen (k := 13) (n := 130) (by decide) (by decide) ?_
  have ne_mo_qd8 : mo ≠ qd8 := z_ne hm_mo hq_qd8
  have ne_qla_qd8 : qla ≠ qd8 := z_ne hm_qla hq_qd8
  have ne_qsa_qd8 : qsa ≠ qd8 := z_ne hm_qsa hq_qd8
  have ne_qmi_qd8 : qmi ≠ qd8 := z_ne hm_qmi hq_qd8
  have ne_qda_qd8 : qda ≠ qd8 := z_ne hm_qda hq_qd8
  have ne_qd0_qd8 : qd0 ≠ qd8 := z_ne hm_qd0 hq_qd8
  have ne_qd1_qd8 : qd1 ≠ qd8 := z_ne hm_qd1 hq_qd8
  have ne_qd2_qd8 : qd2 ≠ qd8 := z_ne hm_qd2 hq_qd8
  have ne_qd3_qd8 : qd3 ≠ qd8 := z_ne hm_qd3 hq_qd8
  have ne_qd4_qd8 : qd4 ≠ qd8 := z_ne hm_qd4 hq_qd8
  have ne_qd5_qd8 : qd5 ≠ qd8 := z_ne hm_qd5 hq_qd8
  have ne_qd6_qd8 : qd6 ≠ qd8 := z_ne hm_qd6 hq_qd8
  have ne_qd7_qd8 : qd7 ≠ qd8 := z_ne hm_qd7 hq_qd8
  have hn_qd8 : qd8 ∉ L := fun h => hq_qd8 (hsub _ h)
  obtain ⟨f46, e_f46⟩ : ∃ z, z = va_up f44 qd8 (.inr (0, [.int 0, .int 0, .int 0, .int 0, .int 0, .int 0, .int 0, .int 0])) := ⟨_, rfl⟩
  obtain ⟨L45, e_L45⟩ : ∃ z, z = L41 ++ [qd8] := ⟨_, rfl⟩
  rw [← e_f46, ← e_L45] at hw
  have hm_mo : mo ∈ L45 := by rw [e_L45]; exact List.mem_append_left _ hm_mo
  have hf_mo : f46 mo = .inr (2, [.int 0, .int 0, .int 0, .int 0, .int 0, .int 0, .int 0, .ref qla, .ref qsa, .ref qmi, .ref qda]) := (congrFun e_f46 mo).trans (z_up_ne ne_mo_qd8 hf_mo)
  have hm_qla : qla ∈ L45 := by rw [e_L45]; exact List.mem_append_left _ hm_qla
  have hf_qla : f46 qla = .inl (cy 1, 5, .inl (fun _ => 0)) := (congrFun e_f46 qla).trans (z_up_ne ne_qla_qd8 hf_qla)
  have hm_qsa : qsa ∈ L45 := by rw [e_L45]; exact List.mem_append_left _ hm_qsa
  have hf_qsa : f46 qsa = .inl (cy 1, 4, .inl (fun _ => 0)) := (congrFun e_f46 qsa).trans (z_up_ne ne_qsa_qd8 hf_qsa)
  have hm_qmi : qmi ∈ L45 := by rw [e_L45]; exact List.mem_append_left _ hm_qmi
  have hf_qmi : f46 qmi = .inl (cy 1, 36, .inl (fun _ => 0)) := (congrFun e_f46 qmi).trans (z_up_ne ne_qmi_qd8 hf_qmi)
  have hm_qda : qda ∈ L45 := by rw [e_L45]; exact List.mem_append_left _ hm_qda
  have hf_qda : f46 qda = .inl (cy 4, 13, .inr (.inr (.inr (.inr g43)))) := (congrFun e_f46 qda).trans (z_up_ne ne_qda_qd8 hf_qda)
  have hm_qd0 : qd0 ∈ L45 := by rw [e_L45]; exact List.mem_append_left _ hm_qd0
  have hf_qd0 : f46 qd0 = .inr (0, [.int 0, .int 0, .int 0, .int 0, .int 0, .int 0, .int 0, .int 0]) := (congrFun e_f46 qd0).trans (z_up_ne ne_qd0_qd8 hf_qd0)
  have hm_qd1 : qd1 ∈ L45 := by rw [e_L45]; exact List.mem_append_left _ hm_qd1
  have hf_qd1 : f46 qd1 = .inr (0, [.int 0, .int 0, .int 0, .int 0, .int 0, .int 0, .int 0, .int 0]) := (congrFun e_f46 qd1).trans (z_up_ne ne_qd1_qd8 hf_qd1)
  have hm_qd2 : qd2 ∈ L45 := by rw [e_L45]; exact List.mem_append_left _ hm_qd2
  have hf_qd2 : f46 qd2 = .inr (0, [.int 0, .int 0, .int 0, .int 0, .int 0, .int 0, .int 0, .int 0]) := (congrFun e_f46 qd2).trans (z_up_ne ne_qd2_qd8 hf_qd2)
  have hm_qd3 : qd3 ∈ L45 := by rw [e_L45]; exact List.mem_append_left _ hm_qd3
  have hf_qd3 : f46 qd3 = .inr (0, [.int 0, .int 0, .int 0, .int 0, .int 0, .int 0, .int 0, .int 0]) := (congrFun e_f46 qd3).trans (z_up_ne ne_qd3_qd8 hf_qd3)
  have hm_qd4 : qd4 ∈ L45 := by rw [e_L45]; exact List.mem_append_left _ hm_qd4
  have hf_qd4 : f46 qd4 = .inr (0, [.int 0, .int 0, .int 0, .int 0, .int 0, .int 0, .int 0, .int 0]) := (congrFun e_f46 qd4).trans (z_up_ne ne_qd4_qd8 hf_qd4)
  have hm_qd5 : qd5 ∈ L45 := by rw [e_L45]; exact List.mem_append_left _ hm_qd5
  have hf_qd5 : f46 qd5 = .inr (0, [.int 0, .int 0, .int 0, .int 0, .int 0, .int 0, .int 0, .int 0]) := (congrFun e_f46 qd5).trans (z_up_ne ne_qd5_qd8 hf_qd5)
  have hm_qd6 : qd6 ∈ L45 := by rw [e_L45]; exact List.mem_append_left _ hm_qd6
  have hf_qd6 : f46 qd6 = .inr (0, [.int 0, .int 0, .int 0, .int 0, .int 0, .int 0, .int 0, .int 0]) := (congrFun e_f46 qd6).trans (z_up_ne ne_qd6_qd8 hf_qd6)
  have hm_qd7 : qd7 ∈ L45 := by rw [e_L45]; exact List.mem_append_left _ hm_qd7
  have hf_qd7 : f46 qd7 = .inr (0, [.int 0, .int 0, .int 0, .int 0, .int 0, .int 0, .int 0, .int 0]) := (congrFun e_f46 qd7).trans (z_up_ne ne_qd7_qd8 hf_qd7)
  have hm_qd8 : qd8 ∈ L45 := by rw [e_L45]; exact List.mem_append_right _ (List.mem_singleton.mpr rfl)
  have hf_qd8 : f46 qd8 = .inr (0, [.int 0, .int 0, .int 0, .int 0, .int 0, .int 0, .int 0, .int 0]) := (congrFun e_f46 qd8).trans z_up_self
  have hsub : ∀ b ∈ L, b ∈ L45 := fun b h => by rw [e_L45]; exact List.mem_append_left _ (hsub b h)
  have hfr : ∀ b ∈ L, b ≠ mo → f46 b = f b := fun b hb h0 => (congrFun e_f46 b).trans (z_up_ne (z_ne hb hn_qd8) (hfr b hb h0))
  refine lv_dup hx hb dX2_init_51 rfl ?_
  refine z_callvIN (cells := 13) (slots := 130) (b := qd8) (As := []) (rest := [.ref qd8, .int 8, .ref qda]) ⟨hx, hb, hml, hown, hT⟩ (c_X0_init l hm_qd8 hf_qd8) ⟨va_cnB 0 hT (z_goodI (fun _ h => h) kw_139) rfl rfl rfl hKK.1.2.2.2.2.1 (hT _ kw_88) (by decide +kernel) ⟨by decide, by decide⟩, rfl, hT _ kw_138⟩ z_mv hKK hw hA rfl hl.1 rfl (Nat.le_of_ble_eq_true rfl) dX2_init_52 ⟨by decide, by decide⟩ (fun u H locs hp hw => ?_)
  obtain ⟨rfl, hp⟩ := hp
  have hw : z_H D vwCl (z_A L sz) s.heap L45 f46 H locs := hw
  refine z_aast (r := (RX0, TX0, 8)) hx hb hK hw 4 0 hm_qda hf_qda rfl hm_qd8 hf_qd8 rfl (z_ix (show (8 : Int32).toInt = 8 by decide) (by decide)) dX2_init_55 (fun H locs hw => ?_)
  obtain ⟨f48, e_f48⟩ : ∃ z, z = va_up f46 qda (.inl (cy 4, 13, .inr (.inr (.inr (.inr (va_up g43 (8 : Int32).toNatClampNeg (some qd8))))))) := ⟨_, rfl⟩
  rw [← e_f48] at hw
  have hf_mo : f48 mo = .inr (2, [.int 0, .int 0, .int 0, .int 0, .int 0, .int 0, .int 0, .ref qla, .ref qsa, .ref qmi, .ref qda]) := (congrFun e_f48 mo).trans (z_up_ne ne_mo_qda hf_mo)
  have hf_qla : f48 qla = .inl (cy 1, 5, .inl (fun _ => 0)) := (congrFun e_f48 qla).trans (z_up_ne ne_qla_qda hf_qla)
  have hf_qsa : f48 qsa = .inl (cy 1, 4, .inl (fun _ => 0)) := (congrFun e_f48 qsa).trans (z_up_ne ne_qsa_qda hf_qsa)
  have hf_qmi : f48 qmi = .inl (cy 1, 36, .inl (fun _ => 0)) := (congrFun e_f48 qmi).trans (z_up_ne ne_qmi_qda hf_qmi)
  have hf_qd0 : f48 qd0 = .inr (0, [.int 0, .int 0, .int 0, .int 0, .int 0, .int 0, .int 0, .int 0]) := (congrFun e_f48 qd0).trans (z_up_ne (Ne.symm ne_qda_qd0) hf_qd0)
  have hf_qd1 : f48 qd1 = .inr (0, [.int 0, .int 0, .int 0, .int 0, .int 0, .int 0, .int 0, .int 0]) := (congrFun e_f48 qd1).trans (z_up_ne (Ne.symm ne_qda_qd1) hf_qd1)
  have hf_qd2 : f48 qd2 = .inr (0, [.int 0, .int 0, .int 0, .int 0, .int 0, .int 0, .int 0, .int 0]) := (congrFun e_f48 qd2).trans (z_up_ne (Ne.symm ne_qda_qd2) hf_qd2)
  have hf_qd3 : f48 qd3 = .inr (0, [.int 0, .int 0, .int 0, .int 0, .int 0, .int 0, .int 0, .int 0]) := (congrFun e_f48 qd3).trans (z_up_ne (Ne.symm ne_qda_qd3) hf_qd3)
  have hf_qd4 : f48 qd4 = .inr (0, [.int 0, .int 0, .int 0, .int 0, .int 0, .int 0, .int 0, .int 0]) := (congrFun e_f48 qd4).trans (z_up_ne (Ne.symm ne_qda_qd4) hf_qd4)
  have hf_qd5 : f48 qd5 = .inr (0, [.int 0, .int 0, .int 0, .int 0, .int 0, .int 0, .int 0, .int 0]) := (congrFun e_f48 qd5).trans (z_up_ne (Ne.symm ne_qda_qd5) hf_qd5)
  have hf_qd6 : f48 qd6 = .inr (0, [.int 0, .int 0, .int 0, .int 0, .int 0, .int 0, .int 0, .int 0]) := (congrFun e_f48 qd6).trans (z_up_ne (Ne.symm ne_qda_qd6) hf_qd6)
  have hf_qd7 : f48 qd7 = .inr (0, [.int 0, .int 0, .int 0, .int 0, .int 0, .int 0, .int 0, .int 0]) := (congrFun e_f48 qd7).trans (z_up_ne (Ne.symm ne_qda_qd7) hf_qd7)
  have hf_qd8 : f48 qd8 = .inr (0, [.int 0, .int 0, .int 0, .int 0, .int 0, .int 0, .int 0, .int 0]) := (congrFun e_f48 qd8).trans (z_up_ne (Ne.symm ne_qda_qd8) hf_qd8)
  have hf_qda : f48 qda = .inl (cy 4, 13, .inr (.inr (.inr (.inr (va_up g43 (8 : Int32).toNatClampNeg (some qd8)))))) := (congrFun e_f48 qda).trans z_up_self
  have hfr : ∀ b ∈ L, b ≠ mo → f48 b = f b := fun b hb h0 => (congrFun e_f48 b).trans (z_up_ne (z_ne hb hn_qda) (hfr b hb h0))
  obtain ⟨g47, e_g47⟩ : ∃ z, z = (va_up g43 (8 : Int32).toNatClampNeg (some qd8)) := ⟨_, rfl⟩
  rw [← e_g47] at hf_qda
  refine lv_iinc (v := 9) (lv' := [(1, .int 9), (0, .ref mo)]) hx hb dX2_init_56 hl (k := 0) rfl (by decide) (by decide) rfl (fun ls hl => ?_)
  refine lv_goto (tgt := 37) hx hb dX2_init_59 (by decide) ?_
  refine lv_iload_n hx hb dX2_init_37 rfl (lv_at hl 0 rfl) ?_
  refine lv_bipush (v := 12) hx hb dX2_init_38 (by decide) ?_
  refine z_icmp_gt (tgt := 62) hx hb (show (9 : Int32).toInt = 9 by decide) (show (12 : Int32).toInt = 12 by decide) dX2_init_40 (by decide) (fun h => absurd h (by decide)) (fun _ => ?_)
  refine lv_aload_n hx hb dX2_init_43 rfl (lv_at hl 1 rfl) ?_
  refine z_get (C := RX2) (T := TX2) (N := 11) (ci := 2) (v := .ref qda) hx hb hT zin_X2 hown hK hw hm_mo hf_mo rfl 10 (by decide) (hT _ kw_241) rfl dX2_init_44 ?_
  refine lv_iload_n hx hb dX2_init_47 rfl (lv_at hl 0 rfl) ?_
  refine z_new (C := RX0) (T := TX0) (N := 8) (ci := 0) (fs := [.int 0, .int 0, .int 0, .int 0, .int 0, .int 0, .int 0, .int 0]) (cells := 13) (slots := 130) hx hb hT zin_X0 tyX0_ok hown (hT _ kw_134) (hT _ kw_136) (hT _ kw_88) hK hw hA rfl (fun j hj => by rcases (show j = 0 ∨ j = 1 ∨ j = 2 ∨ j = 3 ∨ j = 4 ∨ j = 5 ∨ j = 6 ∨ j = 7 by omega) with rfl | rfl | rfl | rfl | rfl | rfl | rfl | rfl <;> rfl) (by decide) (by decide) dX2_init_48 (fun qd9 H hq_qd9 hw => ?_)
  refine W.widen (k := 14) (n := 138) (by decide) (by decide) ?_
  have ne_mo_qd9 : mo ≠ qd9 := z_ne hm_mo hq_qd9
  have ne_qla_qd9 : qla ≠ qd9 := z_ne hm_qla hq_qd9
  have ne_qsa_qd9 : qsa ≠ qd9 := z_ne hm_qsa hq_qd9
  have ne_qmi_qd9 : qmi ≠ qd9 := z_ne hm_qmi hq_qd9
  have ne_qda_qd9 : qda ≠ qd9 := z_ne hm_qda hq_qd9
  have ne_qd0_qd9 : qd0 ≠ qd9 := z_ne hm_qd0 hq_qd9
  have ne_qd1_qd9 : qd1 ≠ qd9 := z_ne hm_qd1 hq_qd9
  have ne_qd2_qd9 : qd2 ≠ qd9 := z_ne hm_qd2 hq_qd9
  have ne_qd3_qd9 : qd3 ≠ qd9 := z_ne hm_qd3 hq_qd9
  have ne_qd4_qd9 : qd4 ≠ qd9 := z_ne hm_qd4 hq_qd9
  have ne_qd5_qd9 : qd5 ≠ qd9 := z_ne hm_qd5 hq_qd9
  have ne_qd6_qd9 : qd6 ≠ qd9 := z_ne hm_qd6 hq_qd9
  have ne_qd7_qd9 : qd7 ≠ qd9 := z_ne hm_qd7 hq_qd9
  have ne_qd8_qd9 : qd8 ≠ qd9 := z_ne hm_qd8 hq_qd9
  have hn_qd9 : qd9 ∉ L := fun h => hq_qd9 (hsub _ h)
  obtain ⟨f50, e_f50⟩ : ∃ z, z = va_up f48 qd9 (.inr (0, [.int 0, .int 0, .int 0, .int 0, .int 0, .int 0, .int 0, .int 0])) := ⟨_, rfl⟩
  obtain ⟨L49, e_L49⟩ : ∃ z, z = L45 ++ [qd9] := ⟨_, rfl⟩
  rw [← e_f50, ← e_L49] at hw
  have hm_mo : mo ∈ L49 := by rw [e_L49]; exact List.mem_append_left _ hm_mo
  have hf_mo : f50 mo = .inr (2, [.int 0, .int 0, .int 0, .int 0, .int 0, .int 0, .int 0, .ref qla, .ref qsa, .ref qmi, .ref qda]) := (congrFun e_f50 mo).trans (z_up_ne ne_mo_qd9 hf_mo)
  have hm_qla : qla ∈ L49 := by rw [e_L49]; exact List.mem_append_left _ hm_qla
  have hf_qla : f50 qla = .inl (cy 1, 5, .inl (fun _ => 0)) := (congrFun e_f50 qla).trans (z_up_ne ne_qla_qd9 hf_qla)
  have hm_qsa : qsa ∈ L49 := by rw [e_L49]; exact List.mem_append_left _ hm_qsa
  have hf_qsa : f50 qsa = .inl (cy 1, 4, .inl (fun _ => 0)) := (congrFun e_f50 qsa).trans (z_up_ne ne_qsa_qd9 hf_qsa)
  have hm_qmi : qmi ∈ L49 := by rw [e_L49]; exact List.mem_append_left _ hm_qmi
  have hf_qmi : f50 qmi = .inl (cy 1, 36, .inl (fun _ => 0)) := (congrFun e_f50 qmi).trans (z_up_ne ne_qmi_qd9 hf_qmi)
  have hm_qda : qda ∈ L49 := by rw [e_L49]; exact List.mem_append_left _ hm_qda
  have hf_qda : f50 qda = .inl (cy 4, 13, .inr (.inr (.inr (.inr g47)))) := (congrFun e_f50 qda).trans (z_up_ne ne_qda_qd9 hf_qda)
  have hm_qd0 : qd0 ∈ L49 := by rw [e_L49]; exact List.mem_append_left _ hm_qd0
  have hf_qd0 : f50 qd0 = .inr (0, [.int 0, .int 0, .int 0, .int 0, .int 0, .int 0, .int 0, .int 0]) := (congrFun e_f50 qd0).trans (z_up_ne ne_qd0_qd9 hf_qd0)
  have hm_qd1 : qd1 ∈ L49 := by rw [e_L49]; exact List.mem_append_left _ hm_qd1
  have hf_qd1 : f50 qd1 = .inr (0, [.int 0, .int 0, .int 0, .int 0, .int 0, .int 0, .int 0, .int 0]) := (congrFun e_f50 qd1).trans (z_up_ne ne_qd1_qd9 hf_qd1)
  have hm_qd2 : qd2 ∈ L49 := by rw [e_L49]; exact List.mem_append_left _ hm_qd2
  have hf_qd2 : f50 qd2 = .inr (0, [.int 0, .int 0, .int 0, .int 0, .int 0, .int 0, .int 0, .int 0]) := (congrFun e_f50 qd2).trans (z_up_ne ne_qd2_qd9 hf_qd2)
  have hm_qd3 : qd3 ∈ L49 := by rw [e_L49]; exact List.mem_append_left _ hm_qd3
  have hf_qd3 : f50 qd3 = .inr (0, [.int 0, .int 0, .int 0, .int 0, .int 0, .int 0, .int 0, .int 0]) := (congrFun e_f50 qd3).trans (z_up_ne ne_qd3_qd9 hf_qd3)
  have hm_qd4 : qd4 ∈ L49 := by rw [e_L49]; exact List.mem_append_left _ hm_qd4
  have hf_qd4 : f50 qd4 = .inr (0, [.int 0, .int 0, .int 0, .int 0, .int 0, .int 0, .int 0, .int 0]) := (congrFun e_f50 qd4).trans (z_up_ne ne_qd4_qd9 hf_qd4)
  have hm_qd5 : qd5 ∈ L49 := by rw [e_L49]; exact List.mem_append_left _ hm_qd5
  have hf_qd5 : f50 qd5 = .inr (0, [.int 0, .int 0, .int 0, .int 0, .int 0, .int 0, .int 0, .int 0]) := (congrFun e_f50 qd5).trans (z_up_ne ne_qd5_qd9 hf_qd5)
  have hm_qd6 : qd6 ∈ L49 := by rw [e_L49]; exact List.mem_append_left _ hm_qd6
  have hf_qd6 : f50 qd6 = .inr (0, [.int 0, .int 0, .int 0, .int 0, .int 0, .int 0, .int 0, .int 0]) := (congrFun e_f50 qd6).trans (z_up_ne ne_qd6_qd9 hf_qd6)
  have hm_qd7 : qd7 ∈ L49 := by rw [e_L49]; exact List.mem_append_left _ hm_qd7
  have hf_qd7 : f50 qd7 = .inr (0, [.int 0, .int 0, .int 0, .int 0, .int 0, .int 0, .int 0, .int 0]) := (congrFun e_f50 qd7).trans (z_up_ne ne_qd7_qd9 hf_qd7)
  have hm_qd8 : qd8 ∈ L49 := by rw [e_L49]; exact List.mem_append_left _ hm_qd8
  have hf_qd8 : f50 qd8 = .inr (0, [.int 0, .int 0, .int 0, .int 0, .int 0, .int 0, .int 0, .int 0]) := (congrFun e_f50 qd8).trans (z_up_ne ne_qd8_qd9 hf_qd8)
  have hm_qd9 : qd9 ∈ L49 := by rw [e_L49]; exact List.mem_append_right _ (List.mem_singleton.mpr rfl)
  have hf_qd9 : f50 qd9 = .inr (0, [.int 0, .int 0, .int 0, .int 0, .int 0, .int 0, .int 0, .int 0]) := (congrFun e_f50 qd9).trans z_up_self
  have hsub : ∀ b ∈ L, b ∈ L49 := fun b h => by rw [e_L49]; exact List.mem_append_left _ (hsub b h)
  have hfr : ∀ b ∈ L, b ≠ mo → f50 b = f b := fun b hb h0 => (congrFun e_f50 b).trans (z_up_ne (z_ne hb hn_qd9) (hfr b hb h0))
  refine lv_dup hx hb dX2_init_51 rfl ?_
  refine z_callvIN (cells := 14) (slots := 138) (b := qd9) (As := []) (rest := [.ref qd9, .int 9, .ref qda]) ⟨hx, hb, hml, hown, hT⟩ (c_X0_init l hm_qd9 hf_qd9) ⟨va_cnB 0 hT (z_goodI (fun _ h => h) kw_139) rfl rfl rfl hKK.1.2.2.2.2.1 (hT _ kw_88) (by decide +kernel) ⟨by decide, by decide⟩, rfl, hT _ kw_138⟩ z_mv hKK hw hA rfl hl.1 rfl (Nat.le_of_ble_eq_true rfl) dX2_init_52 ⟨by decide, by decide⟩ (fun u H locs hp hw => ?_)
  obtain ⟨rfl, hp⟩ := hp
  have hw : z_H D vwCl (z_A L sz) s.heap L49 f50 H locs := hw
  refine z_aast (r := (RX0, TX0, 8)) hx hb hK hw 4 0 hm_qda hf_qda rfl hm_qd9 hf_qd9 rfl (z_ix (show (9 : Int32).toInt = 9 by decide) (by decide)) dX2_init_55 (fun H locs hw => ?_)
  obtain ⟨f52, e_f52⟩ : ∃ z, z = va_up f50 qda (.inl (cy 4, 13, .inr (.inr (.inr (.inr (va_up g47 (9 : Int32).toNatClampNeg (some qd9))))))) := ⟨_, rfl⟩
  rw [← e_f52] at hw
  have hf_mo : f52 mo = .inr (2, [.int 0, .int 0, .int 0, .int 0, .int 0, .int 0, .int 0, .ref qla, .ref qsa, .ref qmi, .ref qda]) := (congrFun e_f52 mo).trans (z_up_ne ne_mo_qda hf_mo)
  have hf_qla : f52 qla = .inl (cy 1, 5, .inl (fun _ => 0)) := (congrFun e_f52 qla).trans (z_up_ne ne_qla_qda hf_qla)
  have hf_qsa : f52 qsa = .inl (cy 1, 4, .inl (fun _ => 0)) := (congrFun e_f52 qsa).trans (z_up_ne ne_qsa_qda hf_qsa)
  have hf_qmi : f52 qmi = .inl (cy 1, 36, .inl (fun _ => 0)) := (congrFun e_f52 qmi).trans (z_up_ne ne_qmi_qda hf_qmi)
  have hf_qd0 : f52 qd0 = .inr (0, [.int 0, .int 0, .int 0, .int 0, .int 0, .int 0, .int 0, .int 0]) := (congrFun e_f52 qd0).trans (z_up_ne (Ne.symm ne_qda_qd0) hf_qd0)
  have hf_qd1 : f52 qd1 = .inr (0, [.int 0, .int 0, .int 0, .int 0, .int 0, .int 0, .int 0, .int 0]) := (congrFun e_f52 qd1).trans (z_up_ne (Ne.symm ne_qda_qd1) hf_qd1)
  have hf_qd2 : f52 qd2 = .inr (0, [.int 0, .int 0, .int 0, .int 0, .int 0, .int 0, .int 0, .int 0]) := (congrFun e_f52 qd2).trans (z_up_ne (Ne.symm ne_qda_qd2) hf_qd2)
  have hf_qd3 : f52 qd3 = .inr (0, [.int 0, .int 0, .int 0, .int 0, .int 0, .int 0, .int 0, .int 0]) := (congrFun e_f52 qd3).trans (z_up_ne (Ne.symm ne_qda_qd3) hf_qd3)
  have hf_qd4 : f52 qd4 = .inr (0, [.int 0, .int 0, .int 0, .int 0, .int 0, .int 0, .int 0, .int 0]) := (congrFun e_f52 qd4).trans (z_up_ne (Ne.symm ne_qda_qd4) hf_qd4)
  have hf_qd5 : f52 qd5 = .inr (0, [.int 0, .int 0, .int 0, .int 0, .int 0, .int 0, .int 0, .int 0]) := (congrFun e_f52 qd5).trans (z_up_ne (Ne.symm ne_qda_qd5) hf_qd5)
  have hf_qd6 : f52 qd6 = .inr (0, [.int 0, .int 0, .int 0, .int 0, .int 0, .int 0, .int 0, .int 0]) := (congrFun e_f52 qd6).trans (z_up_ne (Ne.symm ne_qda_qd6) hf_qd6)
  have hf_qd7 : f52 qd7 = .inr (0, [.int 0, .int 0, .int 0, .int 0, .int 0, .int 0, .int 0, .int 0]) := (congrFun e_f52 qd7).trans (z_up_ne (Ne.symm ne_qda_qd7) hf_qd7)
  have hf_qd8 : f52 qd8 = .inr (0, [.int 0, .int 0, .int 0, .int 0, .int 0, .int 0, .int 0, .int 0]) := (congrFun e_f52 qd8).trans (z_up_ne (Ne.symm ne_qda_qd8) hf_qd8)
  have hf_qd9 : f52 qd9 = .inr (0, [.int 0, .int 0, .int 0, .int 0, .int 0, .int 0, .int 0, .int 0]) := (congrFun e_f52 qd9).trans (z_up_ne (Ne.symm ne_qda_qd9) hf_qd9)
  have hf_qda : f52 qda = .inl (cy 4, 13, .inr (.inr (.inr (.inr (va_up g47 (9 : Int32).toNatClampNeg (some qd9)))))) := (congrFun e_f52 qda).trans z_up_self
  have hfr : ∀ b ∈ L, b ≠ mo → f52 b = f b := fun b hb h0 => (congrFun e_f52 b).trans (z_up_ne (z_ne hb hn_qda) (hfr b hb h0))
  obtain ⟨g51, e_g51⟩ : ∃ z, z = (va_up g47 (9 : Int32).toNatClampNeg (some qd9)) := ⟨_, rfl⟩
  rw [← e_g51] at hf_qda
  refine lv_iinc (v := 10) (lv' := [(1, .int 10), (0, .ref mo)]) hx hb dX2_init_56 hl (k := 0) rfl (by decide) (by decide) rfl (fun ls hl => ?_)
  refine lv_goto (tgt := 37) hx hb dX2_init_59 (by decide) ?_
  refine lv_iload_n hx hb dX2_init_37 rfl (lv_at hl 0 rfl) ?_
  refine lv_bipush (v := 12) hx hb dX2_init_38 (by decide) ?_
  refine z_icmp_gt (tgt := 62) hx hb (show (10 : Int32).toInt = 10 by decide) (show (12 : Int32).toInt = 12 by decide) dX2_init_40 (by decide) (fun h => absurd h (by decide)) (fun _ => ?_)
  refine lv_aload_n hx hb dX2_init_43 rfl (lv_at hl 1 rfl) ?_
  refine z_get (C := RX2) (T := TX2) (N := 11) (ci := 2) (v := .ref qda) hx hb hT zin_X2 hown hK hw hm_mo hf_mo rfl 10 (by decide) (hT _ kw_241) rfl dX2_init_44 ?_
  refine lv_iload_n hx hb dX2_init_47 rfl (lv_at hl 0 rfl) ?_
  refine z_new (C := RX0) (T := TX0) (N := 8) (ci := 0) (fs := [.int 0, .int 0, .int 0, .int 0, .int 0, .int 0, .int 0, .int 0]) (cells := 14) (slots := 138) hx hb hT zin_X0 tyX0_ok hown (hT _ kw_134) (hT _ kw_136) (hT _ kw_88) hK hw hA rfl (fun j hj => by rcases (show j = 0 ∨ j = 1 ∨ j = 2 ∨ j = 3 ∨ j = 4 ∨ j = 5 ∨ j = 6 ∨ j = 7 by omega) with rfl | rfl | rfl | rfl | rfl | rfl | rfl | rfl <;> rfl) (by decide) (by decide) dX2_init_48 (fun qd10 H hq_qd10 hw => ?_)
  refine W.widen (k := 15) (n := 146) (by decide) (by decide) ?_
  have ne_mo_qd10 : mo ≠ qd10 := z_ne hm_mo hq_qd10
  have ne_qla_qd10 : qla ≠ qd10 := z_ne hm_qla hq_qd10
  have ne_qsa_qd10 : qsa ≠ qd10 := z_ne hm_qsa hq_qd10
  have ne_qmi_qd10 : qmi ≠ qd10 := z_ne hm_qmi hq_qd10
  have ne_qda_qd10 : qda ≠ qd10 := z_ne hm_qda hq_qd10
  have ne_qd0_qd10 : qd0 ≠ qd10 := z_ne hm_qd0 hq_qd10
  have ne_qd1_qd10 : qd1 ≠ qd10 := z_ne hm_qd1 hq_qd10
  have ne_qd2_qd10 : qd2 ≠ qd10 := z_ne hm_qd2 hq_qd10
  have ne_qd3_qd10 : qd3 ≠ qd10 := z_ne hm_qd3 hq_qd10
  have ne_qd4_qd10 : qd4 ≠ qd10 := z_ne hm_qd4 hq_qd10
  have ne_qd5_qd10 : qd5 ≠ qd10 := z_ne hm_qd5 hq_qd10
  have ne_qd6_qd10 : qd6 ≠ qd10 := z_ne hm_qd6 hq_qd10
  have ne_qd7_qd10 : qd7 ≠ qd10 := z_ne hm_qd7 hq_qd10
  have ne_qd8_qd10 : qd8 ≠ qd10 := z_ne hm_qd8 hq_qd10
  have ne_qd9_qd10 : qd9 ≠ qd10 := z_ne hm_qd9 hq_qd10
  have hn_qd10 : qd10 ∉ L := fun h => hq_qd10 (hsub _ h)
  obtain ⟨f54, e_f54⟩ : ∃ z, z = va_up f52 qd10 (.inr (0, [.int 0, .int 0, .int 0, .int 0, .int 0, .int 0, .int 0, .int 0])) := ⟨_, rfl⟩
  obtain ⟨L53, e_L53⟩ : ∃ z, z = L49 ++ [qd10] := ⟨_, rfl⟩
  rw [← e_f54, ← e_L53] at hw
  have hm_mo : mo ∈ L53 := by rw [e_L53]; exact List.mem_append_left _ hm_mo
  have hf_mo : f54 mo = .inr (2, [.int 0, .int 0, .int 0, .int 0, .int 0, .int 0, .int 0, .ref qla, .ref qsa, .ref qmi, .ref qda]) := (congrFun e_f54 mo).trans (z_up_ne ne_mo_qd10 hf_mo)
  have hm_qla : qla ∈ L53 := by rw [e_L53]; exact List.mem_append_left _ hm_qla
  have hf_qla : f54 qla = .inl (cy 1, 5, .inl (fun _ => 0)) := (congrFun e_f54 qla).trans (z_up_ne ne_qla_qd10 hf_qla)
  have hm_qsa : qsa ∈ L53 := by rw [e_L53]; exact List.mem_append_left _ hm_qsa
  have hf_qsa : f54 qsa = .inl (cy 1, 4, .inl (fun _ => 0)) := (congrFun e_f54 qsa).trans (z_up_ne ne_qsa_qd10 hf_qsa)
  have hm_qmi : qmi ∈ L53 := by rw [e_L53]; exact List.mem_append_left _ hm_qmi
  have hf_qmi : f54 qmi = .inl (cy 1, 36, .inl (fun _ => 0)) := (congrFun e_f54 qmi).trans (z_up_ne ne_qmi_qd10 hf_qmi)
  have hm_qda : qda ∈ L53 := by rw [e_L53]; exact List.mem_append_left _ hm_qda
  have hf_qda : f54 qda = .inl (cy 4, 13, .inr (.inr (.inr (.inr g51)))) := (congrFun e_f54 qda).trans (z_up_ne ne_qda_qd10 hf_qda)
  have hm_qd0 : qd0 ∈ L53 := by rw [e_L53]; exact List.mem_append_left _ hm_qd0
  have hf_qd0 : f54 qd0 = .inr (0, [.int 0, .int 0, .int 0, .int 0, .int 0, .int 0, .int 0, .int 0]) := (congrFun e_f54 qd0).trans (z_up_ne ne_qd0_qd10 hf_qd0)
  have hm_qd1 : qd1 ∈ L53 := by rw [e_L53]; exact List.mem_append_left _ hm_qd1
  have hf_qd1 : f54 qd1 = .inr (0, [.int 0, .int 0, .int 0, .int 0, .int 0, .int 0, .int 0, .int 0]) := (congrFun e_f54 qd1).trans (z_up_ne ne_qd1_qd10 hf_qd1)
  have hm_qd2 : qd2 ∈ L53 := by rw [e_L53]; exact List.mem_append_left _ hm_qd2
  have hf_qd2 : f54 qd2 = .inr (0, [.int 0, .int 0, .int 0, .int 0, .int 0, .int 0, .int 0, .int 0]) := (congrFun e_f54 qd2).trans (z_up_ne ne_qd2_qd10 hf_qd2)
  have hm_qd3 : qd3 ∈ L53 := by rw [e_L53]; exact List.mem_append_left _ hm_qd3
  have hf_qd3 : f54 qd3 = .inr (0, [.int 0, .int 0, .int 0, .int 0, .int 0, .int 0, .int 0, .int 0]) := (congrFun e_f54 qd3).trans (z_up_ne ne_qd3_qd10 hf_qd3)
  have hm_qd4 : qd4 ∈ L53 := by rw [e_L53]; exact List.mem_append_left _ hm_qd4
  have hf_qd4 : f54 qd4 = .inr (0, [.int 0, .int 0, .int 0, .int 0, .int 0, .int 0, .int 0, .int 0]) := (congrFun e_f54 qd4).trans (z_up_ne ne_qd4_qd10 hf_qd4)
  have hm_qd5 : qd5 ∈ L53 := by rw [e_L53]; exact List.mem_append_left _ hm_qd5
  have hf_qd5 : f54 qd5 = .inr (0, [.int 0, .int 0, .int 0, .int 0, .int 0, .int 0, .int 0, .int 0]) := (congrFun e_f54 qd5).trans (z_up_ne ne_qd5_qd10 hf_qd5)
  have hm_qd6 : qd6 ∈ L53 := by rw [e_L53]; exact List.mem_append_left _ hm_qd6
  have hf_qd6 : f54 qd6 = .inr (0, [.int 0, .int 0, .int 0, .int 0, .int 0, .int 0, .int 0, .int 0]) := (congrFun e_f54 qd6).trans (z_up_ne ne_qd6_qd10 hf_qd6)
  have hm_qd7 : qd7 ∈ L53 := by rw [e_L53]; exact List.mem_append_left _ hm_qd7
  have hf_qd7 : f54 qd7 = .inr (0, [.int 0, .int 0, .int 0, .int 0, .int 0, .int 0, .int 0, .int 0]) := (congrFun e_f54 qd7).trans (z_up_ne ne_qd7_qd10 hf_qd7)
  have hm_qd8 : qd8 ∈ L53 := by rw [e_L53]; exact List.mem_append_left _ hm_qd8
  have hf_qd8 : f54 qd8 = .inr (0, [.int 0, .int 0, .int 0, .int 0, .int 0, .int 0, .int 0, .int 0]) := (congrFun e_f54 qd8).trans (z_up_ne ne_qd8_qd10 hf_qd8)
  have hm_qd9 : qd9 ∈ L53 := by rw [e_L53]; exact List.mem_append_left _ hm_qd9
  have hf_qd9 : f54 qd9 = .inr (0, [.int 0, .int 0, .int 0, .int 0, .int 0, .int 0, .int 0, .int 0]) := (congrFun e_f54 qd9).trans (z_up_ne ne_qd9_qd10 hf_qd9)
  have hm_qd10 : qd10 ∈ L53 := by rw [e_L53]; exact List.mem_append_right _ (List.mem_singleton.mpr rfl)
  have hf_qd10 : f54 qd10 = .inr (0, [.int 0, .int 0, .int 0, .int 0, .int 0, .int 0, .int 0, .int 0]) := (congrFun e_f54 qd10).trans z_up_self
  have hsub : ∀ b ∈ L, b ∈ L53 := fun b h => by rw [e_L53]; exact List.mem_append_left _ (hsub b h)
  have hfr : ∀ b ∈ L, b ≠ mo → f54 b = f b := fun b hb h0 => (congrFun e_f54 b).trans (z_up_ne (z_ne hb hn_qd10) (hfr b hb h0))
  refine lv_dup hx hb dX2_init_51 rfl ?_
  refine z_callvIN (cells := 15) (slots := 146) (b := qd10) (As := []) (rest := [.ref qd10, .int 10, .ref qda]) ⟨hx, hb, hml, hown, hT⟩ (c_X0_init l hm_qd10 hf_qd10) ⟨va_cnB 0 hT (z_goodI (fun _ h => h) kw_139) rfl rfl rfl hKK.1.2.2.2.2.1 (hT _ kw_88) (by decide +kernel) ⟨by decide, by decide⟩, rfl, hT _ kw_138⟩ z_mv hKK hw hA rfl hl.1 rfl (Nat.le_of_ble_eq_true rfl) dX2_init_52 ⟨by decide, by decide⟩ (fun u H locs hp hw => ?_)
  obtain ⟨rfl, hp⟩ := hp
  have hw : z_H D vwCl (z_A L sz) s.heap L53 f54 H locs := hw
  refine z_aast (r := (RX0, TX0, 8)) hx hb hK hw 4 0 hm_qda hf_qda rfl hm_qd10 hf_qd10 rfl (z_ix (show (10 : Int32).toInt = 10 by decide) (by decide)) dX2_init_55 (fun H locs hw => ?_)
  obtain ⟨f56, e_f56⟩ : ∃ z, z = va_up f54 qda (.inl (cy 4, 13, .inr (.inr (.inr (.inr (va_up g51 (10 : Int32).toNatClampNeg (some qd10))))))) := ⟨_, rfl⟩
  rw [← e_f56] at hw
  have hf_mo : f56 mo = .inr (2, [.int 0, .int 0, .int 0, .int 0, .int 0, .int 0, .int 0, .ref qla, .ref qsa, .ref qmi, .ref qda]) := (congrFun e_f56 mo).trans (z_up_ne ne_mo_qda hf_mo)
  have hf_qla : f56 qla = .inl (cy 1, 5, .inl (fun _ => 0)) := (congrFun e_f56 qla).trans (z_up_ne ne_qla_qda hf_qla)
  have hf_qsa : f56 qsa = .inl (cy 1, 4, .inl (fun _ => 0)) := (congrFun e_f56 qsa).trans (z_up_ne ne_qsa_qda hf_qsa)
  have hf_qmi : f56 qmi = .inl (cy 1, 36, .inl (fun _ => 0)) := (congrFun e_f56 qmi).trans (z_up_ne ne_qmi_qda hf_qmi)
  have hf_qd0 : f56 qd0 = .inr (0, [.int 0, .int 0, .int 0, .int 0, .int 0, .int 0, .int 0, .int 0]) := (congrFun e_f56 qd0).trans (z_up_ne (Ne.symm ne_qda_qd0) hf_qd0)
  have hf_qd1 : f56 qd1 = .inr (0, [.int 0, .int 0, .int 0, .int 0, .int 0, .int 0, .int 0, .int 0]) := (congrFun e_f56 qd1).trans (z_up_ne (Ne.symm ne_qda_qd1) hf_qd1)
  have hf_qd2 : f56 qd2 = .inr (0, [.int 0, .int 0, .int 0, .int 0, .int 0, .int 0, .int 0, .int 0]) := (congrFun e_f56 qd2).trans (z_up_ne (Ne.symm ne_qda_qd2) hf_qd2)
  have hf_qd3 : f56 qd3 = .inr (0, [.int 0, .int 0, .int 0, .int 0, .int 0, .int 0, .int 0, .int 0]) := (congrFun e_f56 qd3).trans (z_up_ne (Ne.symm ne_qda_qd3) hf_qd3)
  have hf_qd4 : f56 qd4 = .inr (0, [.int 0, .int 0, .int 0, .int 0, .int 0, .int 0, .int 0, .int 0]) := (congrFun e_f56 qd4).trans (z_up_ne (Ne.symm ne_qda_qd4) hf_qd4)
  have hf_qd5 : f56 qd5 = .inr (0, [.int 0, .int 0, .int 0, .int 0, .int 0, .int 0, .int 0, .int 0]) := (congrFun e_f56 qd5).trans (z_up_ne (Ne.symm ne_qda_qd5) hf_qd5)
  have hf_qd6 : f56 qd6 = .inr (0, [.int 0, .int 0, .int 0, .int 0, .int 0, .int 0, .int 0, .int 0]) := (congrFun e_f56 qd6).trans (z_up_ne (Ne.symm ne_qda_qd6) hf_qd6)
  have hf_qd7 : f56 qd7 = .inr (0, [.int 0, .int 0, .int 0, .int 0, .int 0, .int 0, .int 0, .int 0]) := (congrFun e_f56 qd7).trans (z_up_ne (Ne.symm ne_qda_qd7) hf_qd7)
  have hf_qd8 : f56 qd8 = .inr (0, [.int 0, .int 0, .int 0, .int 0, .int 0, .int 0, .int 0, .int 0]) := (congrFun e_f56 qd8).trans (z_up_ne (Ne.symm ne_qda_qd8) hf_qd8)
  have hf_qd9 : f56 qd9 = .inr (0, [.int 0, .int 0, .int 0, .int 0, .int 0, .int 0, .int 0, .int 0]) := (congrFun e_f56 qd9).trans (z_up_ne (Ne.symm ne_qda_qd9) hf_qd9)
  have hf_qd10 : f56 qd10 = .inr (0, [.int 0, .int 0, .int 0, .int 0, .int 0, .int 0, .int 0, .int 0]) := (congrFun e_f56 qd10).trans (z_up_ne (Ne.symm ne_qda_qd10) hf_qd10)
  have hf_qda : f56 qda = .inl (cy 4, 13, .inr (.inr (.inr (.inr (va_up g51 (10 : Int32).toNatClampNeg (some qd10)))))) := (congrFun e_f56 qda).trans z_up_self
  have hfr : ∀ b ∈ L, b ≠ mo → f56 b = f b := fun b hb h0 => (congrFun e_f56 b).trans (z_up_ne (z_ne hb hn_qda) (hfr b hb h0))
  obtain ⟨g55, e_g55⟩ : ∃ z, z = (va_up g51 (10 : Int32).toNatClampNeg (some qd10)) := ⟨_, rfl⟩
  rw [← e_g55] at hf_qda
  refine lv_iinc (v := 11) (lv' := [(1, .int 11), (0, .ref mo)]) hx hb dX2_init_56 hl (k := 0) rfl (by decide) (by decide) rfl (fun ls hl => ?_)
  refine lv_goto (tgt := 37) hx hb dX2_init_59 (by decide) ?_
  refine lv_iload_n hx hb dX2_init_37 rfl (lv_at hl 0 rfl) ?_
  refine lv_bipush (v := 12) hx hb dX2_init_38 (by decide) ?_
  refine z_icmp_gt (tgt := 62) hx hb (show (11 : Int32).toInt = 11 by decide) (show (12 : Int32).toInt = 12 by decide) dX2_init_40 (by decide) (fun h => absurd h (by decide)) (fun _ => ?_)
  refine lv_aload_n hx hb dX2_init_43 rfl (lv_at hl 1 rfl) ?_
  refine z_get (C := RX2) (T := TX2) (N := 11) (ci := 2) (v := .ref qda) hx hb hT zin_X2 hown hK hw hm_mo hf_mo rfl 10 (by decide) (hT _ kw_241) rfl dX2_init_44 ?_
  refine lv_iload_n hx hb dX2_init_47 rfl (lv_at hl 0 rfl) ?_
  refine z_new (C := RX0) (T := TX0) (N := 8) (ci := 0) (fs := [.int 0, .int 0, .int 0, .int 0, .int 0, .int 0, .int 0, .int 0]) (cells := 15) (slots := 146) hx hb hT zin_X0 tyX0_ok hown (hT _ kw_134) (hT _ kw_136) (hT _ kw_88) hK hw hA rfl (fun j hj => by rcases (show j = 0 ∨ j = 1 ∨ j = 2 ∨ j = 3 ∨ j = 4 ∨ j = 5 ∨ j = 6 ∨ j = 7 by omega) with rfl | rfl | rfl | rfl | rfl | rfl | rfl | rfl <;> rfl) (by decide) (by decide) dX2_init_48 (fun qd11 H hq_qd11 hw => ?_)
  refine W.widen (k := 16) (n := 154) (by decide) (by decide) ?_
  have ne_mo_qd11 : mo ≠ qd11 := z_ne hm_mo hq_qd11
  have ne_qla_qd11 : qla ≠ qd11 := z_ne hm_qla hq_qd11
  have ne_qsa_qd11 : qsa ≠ qd11 := z_ne hm_qsa hq_qd11
  have ne_qmi_qd11 : qmi ≠ qd11 := z_ne hm_qmi hq_qd11
  have ne_qda_qd11 : qda ≠ qd11 := z_ne hm_qda hq_qd11
  have ne_qd0_qd11 : qd0 ≠ qd11 := z_ne hm_qd0 hq_qd11
  have ne_qd1_qd11 : qd1 ≠ qd11 := z_ne hm_qd1 hq_qd11
  have ne_qd2_qd11 : qd2 ≠ qd11 := z_ne hm_qd2 hq_qd11
  have ne_qd3_qd11 : qd3 ≠ qd11 := z_ne hm_qd3 hq_qd11
  have ne_qd4_qd11 : qd4 ≠ qd11 := z_ne hm_qd4 hq_qd11
  have ne_qd5_qd11 : qd5 ≠ qd11 := z_ne hm_qd5 hq_qd11
  have ne_qd6_qd11 : qd6 ≠ qd11 := z_ne hm_qd6 hq_qd11
  have ne_qd7_qd11 : qd7 ≠ qd11 := z_ne hm_qd7 hq_qd11
  have ne_qd8_qd11 : qd8 ≠ qd11 := z_ne hm_qd8 hq_qd11
  have ne_qd9_qd11 : qd9 ≠ qd11 := z_ne hm_qd9 hq_qd11
  have ne_qd10_qd11 : qd10 ≠ qd11 := z_ne hm_qd10 hq_qd11
  have hn_qd11 : qd11 ∉ L := fun h => hq_qd11 (hsub _ h)
  obtain ⟨f58, e_f58⟩ : ∃ z, z = va_up f56 qd11 (.inr (0, [.int 0, .int 0, .int 0, .int 0, .int 0, .int 0, .int 0, .int 0])) := ⟨_, rfl⟩
  obtain ⟨L57, e_L57⟩ : ∃ z, z = L53 ++ [qd11] := ⟨_, rfl⟩
  rw [← e_f58, ← e_L57] at hw
  have hm_mo : mo ∈ L57 := by rw [e_L57]; exact List.mem_append_left _ hm_mo
  have hf_mo : f58 mo = .inr (2, [.int 0, .int 0, .int 0, .int 0, .int 0, .int 0, .int 0, .ref qla, .ref qsa, .ref qmi, .ref qda]) := (congrFun e_f58 mo).trans (z_up_ne ne_mo_qd11 hf_mo)
  have hm_qla : qla ∈ L57 := by rw [e_L57]; exact List.mem_append_left _ hm_qla
  have hf_qla : f58 qla = .inl (cy 1, 5, .inl (fun _ => 0)) := (congrFun e_f58 qla).trans (z_up_ne ne_qla_qd11 hf_qla)
  have hm_qsa : qsa ∈ L57 := by rw [e_L57]; exact List.mem_append_left _ hm_qsa
  have hf_qsa : f58 qsa = .inl (cy 1, 4, .inl (fun _ => 0)) := (congrFun e_f58 qsa).trans (z_up_ne ne_qsa_qd11 hf_qsa)
  have hm_qmi : qmi ∈ L57 := by rw [e_L57]; exact List.mem_append_left _ hm_qmi
  have hf_qmi : f58 qmi = .inl (cy 1, 36, .inl (fun _ => 0)) := (congrFun e_f58 qmi).trans (z_up_ne ne_qmi_qd11 hf_qmi)
  have hm_qda : qda ∈ L57 := by rw [e_L57]; exact List.mem_append_left _ hm_qda
  have hf_qda : f58 qda = .inl (cy 4, 13, .inr (.inr (.inr (.inr g55)))) := (congrFun e_f58 qda).trans (z_up_ne ne_qda_qd11 hf_qda)
  have hm_qd0 : qd0 ∈ L57 := by rw [e_L57]; exact List.mem_append_left _ hm_qd0
  have hf_qd0 : f58 qd0 = .inr (0, [.int 0, .int 0, .int 0, .int 0, .int 0, .int 0, .int 0, .int 0]) := (congrFun e_f58 qd0).trans (z_up_ne ne_qd0_qd11 hf_qd0)
  have hm_qd1 : qd1 ∈ L57 := by rw [e_L57]; exact List.mem_append_left _ hm_qd1
  have hf_qd1 : f58 qd1 = .inr (0, [.int 0, .int 0, .int 0, .int 0, .int 0, .int 0, .int 0, .int 0]) := (congrFun e_f58 qd1).trans (z_up_ne ne_qd1_qd11 hf_qd1)
  have hm_qd2 : qd2 ∈ L57 := by rw [e_L57]; exact List.mem_append_left _ hm_qd2
  have hf_qd2 : f58 qd2 = .inr (0, [.int 0, .int 0, .int 0, .int 0, .int 0, .int 0, .int 0, .int 0]) := (congrFun e_f58 qd2).trans (z_up_ne ne_qd2_qd11 hf_qd2)
  have hm_qd3 : qd3 ∈ L57 := by rw [e_L57]; exact List.mem_append_left _ hm_qd3
  have hf_qd3 : f58 qd3 = .inr (0, [.int 0, .int 0, .int 0, .int 0, .int 0, .int 0, .int 0, .int 0]) := (congrFun e_f58 qd3).trans (z_up_ne ne_qd3_qd11 hf_qd3)
  have hm_qd4 : qd4 ∈ L57 := by rw [e_L57]; exact List.mem_append_left _ hm_qd4
  have hf_qd4 : f58 qd4 = .inr (0, [.int 0, .int 0, .int 0, .int 0, .int 0, .int 0, .int 0, .int 0]) := (congrFun e_f58 qd4).trans (z_up_ne ne_qd4_qd11 hf_qd4)
  have hm_qd5 : qd5 ∈ L57 := by rw [e_L57]; exact List.mem_append_left _ hm_qd5
  have hf_qd5 : f58 qd5 = .inr (0, [.int 0, .int 0, .int 0, .int 0, .int 0, .int 0, .int 0, .int 0]) := (congrFun e_f58 qd5).trans (z_up_ne ne_qd5_qd11 hf_qd5)
  have hm_qd6 : qd6 ∈ L57 := by rw [e_L57]; exact List.mem_append_left _ hm_qd6
  have hf_qd6 : f58 qd6 = .inr (0, [.int 0, .int 0, .int 0, .int 0, .int 0, .int 0, .int 0, .int 0]) := (congrFun e_f58 qd6).trans (z_up_ne ne_qd6_qd11 hf_qd6)
  have hm_qd7 : qd7 ∈ L57 := by rw [e_L57]; exact List.mem_append_left _ hm_qd7
  have hf_qd7 : f58 qd7 = .inr (0, [.int 0, .int 0, .int 0, .int 0, .int 0, .int 0, .int 0, .int 0]) := (congrFun e_f58 qd7).trans (z_up_ne ne_qd7_qd11 hf_qd7)
  have hm_qd8 : qd8 ∈ L57 := by rw [e_L57]; exact List.mem_append_left _ hm_qd8
  have hf_qd8 : f58 qd8 = .inr (0, [.int 0, .int 0, .int 0, .int 0, .int 0, .int 0, .int 0, .int 0]) := (congrFun e_f58 qd8).trans (z_up_ne ne_qd8_qd11 hf_qd8)
  have hm_qd9 : qd9 ∈ L57 := by rw [e_L57]; exact List.mem_append_left _ hm_qd9
  have hf_qd9 : f58 qd9 = .inr (0, [.int 0, .int 0, .int 0, .int 0, .int 0, .int 0, .int 0, .int 0]) := (congrFun e_f58 qd9).trans (z_up_ne ne_qd9_qd11 hf_qd9)
  have hm_qd10 : qd10 ∈ L57 := by rw [e_L57]; exact List.mem_append_left _ hm_qd10
  have hf_qd10 : f58 qd10 = .inr (0, [.int 0, .int 0, .int 0, .int 0, .int 0, .int 0, .int 0, .int 0]) := (congrFun e_f58 qd10).trans (z_up_ne ne_qd10_qd11 hf_qd10)
  have hm_qd11 : qd11 ∈ L57 := by rw [e_L57]; exact List.mem_append_right _ (List.mem_singleton.mpr rfl)
  have hf_qd11 : f58 qd11 = .inr (0, [.int 0, .int 0, .int 0, .int 0, .int 0, .int 0, .int 0, .int 0]) := (congrFun e_f58 qd11).trans z_up_self
  have hsub : ∀ b ∈ L, b ∈ L57 := fun b h => by rw [e_L57]; exact List.mem_append_left _ (hsub b h)
  have hfr : ∀ b ∈ L, b ≠ mo → f58 b = f b := fun b hb h0 => (congrFun e_f58 b).trans (z_up_ne (z_ne hb hn_qd11) (hfr b hb h0))
  refine lv_dup hx hb dX2_init_51 rfl ?_
  refine z_callvIN (cells := 16) (slots := 154) (b := qd11) (As := []) (rest := [.ref qd11, .int 11, .ref qda]) ⟨hx, hb, hml, hown, hT⟩ (c_X0_init l hm_qd11 hf_qd11) ⟨va_cnB 0 hT (z_goodI (fun _ h => h) kw_139) rfl rfl rfl hKK.1.2.2.2.2.1 (hT _ kw_88) (by decide +kernel) ⟨by decide, by decide⟩, rfl, hT _ kw_138⟩ z_mv hKK hw hA rfl hl.1 rfl (Nat.le_of_ble_eq_true rfl) dX2_init_52 ⟨by decide, by decide⟩ (fun u H locs hp hw => ?_)
  obtain ⟨rfl, hp⟩ := hp
  have hw : z_H D vwCl (z_A L sz) s.heap L57 f58 H locs := hw
  refine z_aast (r := (RX0, TX0, 8)) hx hb hK hw 4 0 hm_qda hf_qda rfl hm_qd11 hf_qd11 rfl (z_ix (show (11 : Int32).toInt = 11 by decide) (by decide)) dX2_init_55 (fun H locs hw => ?_)
  obtain ⟨f60, e_f60⟩ : ∃ z, z = va_up f58 qda (.inl (cy 4, 13, .inr (.inr (.inr (.inr (va_up g55 (11 : Int32).toNatClampNeg (some qd11))))))) := ⟨_, rfl⟩
  rw [← e_f60] at hw
  have hf_mo : f60 mo = .inr (2, [.int 0, .int 0, .int 0, .int 0, .int 0, .int 0, .int 0, .ref qla, .ref qsa, .ref qmi, .ref qda]) := (congrFun e_f60 mo).trans (z_up_ne ne_mo_qda hf_mo)
  have hf_qla : f60 qla = .inl (cy 1, 5, .inl (fun _ => 0)) := (congrFun e_f60 qla).trans (z_up_ne ne_qla_qda hf_qla)
  have hf_qsa : f60 qsa = .inl (cy 1, 4, .inl (fun _ => 0)) := (congrFun e_f60 qsa).trans (z_up_ne ne_qsa_qda hf_qsa)
  have hf_qmi : f60 qmi = .inl (cy 1, 36, .inl (fun _ => 0)) := (congrFun e_f60 qmi).trans (z_up_ne ne_qmi_qda hf_qmi)
  have hf_qd0 : f60 qd0 = .inr (0, [.int 0, .int 0, .int 0, .int 0, .int 0, .int 0, .int 0, .int 0]) := (congrFun e_f60 qd0).trans (z_up_ne (Ne.symm ne_qda_qd0) hf_qd0)
  have hf_qd1 : f60 qd1 = .inr (0, [.int 0, .int 0, .int 0, .int 0, .int 0, .int 0, .int 0, .int 0]) := (congrFun e_f60 qd1).trans (z_up_ne (Ne.symm ne_qda_qd1) hf_qd1)
  have hf_qd2 : f60 qd2 = .inr (0, [.int 0, .int 0, .int 0, .int 0, .int 0, .int 0, .int 0, .int 0]) := (congrFun e_f60 qd2).trans (z_up_ne (Ne.symm ne_qda_qd2) hf_qd2)
  have hf_qd3 : f60 qd3 = .inr (0, [.int 0, .int 0, .int 0, .int 0, .int 0, .int 0, .int 0, .int 0]) := (congrFun e_f60 qd3).trans (z_up_ne (Ne.symm ne_qda_qd3) hf_qd3)
  have hf_qd4 : f60 qd4 = .inr (0, [.int 0, .int 0, .int 0, .int 0, .int 0, .int 0, .int 0, .int 0]) := (congrFun e_f60 qd4).trans (z_up_ne (Ne.symm ne_qda_qd4) hf_qd4)
  have hf_qd5 : f60 qd5 = .inr (0, [.int 0, .int 0, .int 0, .int 0, .int 0, .int 0, .int 0, .int 0]) := (congrFun e_f60 qd5).trans (z_up_ne (Ne.symm ne_qda_qd5) hf_qd5)
  have hf_qd6 : f60 qd6 = .inr (0, [.int 0, .int 0, .int 0, .int 0, .int 0, .int 0, .int 0, .int 0]) := (congrFun e_f60 qd6).trans (z_up_ne (Ne.symm ne_qda_qd6) hf_qd6)
  have hf_qd7 : f60 qd7 = .inr (0, [.int 0, .int 0, .int 0, .int 0, .int 0, .int 0, .int 0, .int 0]) := (congrFun e_f60 qd7).trans (z_up_ne (Ne.symm ne_qda_qd7) hf_qd7)
  have hf_qd8 : f60 qd8 = .inr (0, [.int 0, .int 0, .int 0, .int 0, .int 0, .int 0, .int 0, .int 0]) := (congrFun e_f60 qd8).trans (z_up_ne (Ne.symm ne_qda_qd8) hf_qd8)
  have hf_qd9 : f60 qd9 = .inr (0, [.int 0, .int 0, .int 0, .int 0, .int 0, .int 0, .int 0, .int 0]) := (congrFun e_f60 qd9).trans (z_up_ne (Ne.symm ne_qda_qd9) hf_qd9)
  have hf_qd10 : f60 qd10 = .inr (0, [.int 0, .int 0, .int 0, .int 0, .int 0, .int 0, .int 0, .int 0]) := (congrFun e_f60 qd10).trans (z_up_ne (Ne.symm ne_qda_qd10) hf_qd10)
  have hf_qd11 : f60 qd11 = .inr (0, [.int 0, .int 0, .int 0, .int 0, .int 0, .int 0, .int 0, .int 0]) := (congrFun e_f60 qd11).trans (z_up_ne (Ne.symm ne_qda_qd11) hf_qd11)
  have hf_qda : f60 qda = .inl (cy 4, 13, .inr (.inr (.inr (.inr (va_up g55 (11 : Int32).toNatClampNeg (some qd11)))))) := (congrFun e_f60 qda).trans z_up_self
  have hfr : ∀ b ∈ L, b ≠ mo → f60 b = f b := fun b hb h0 => (congrFun e_f60 b).trans (z_up_ne (z_ne hb hn_qda) (hfr b hb h0))
  obtain ⟨g59, e_g59⟩ : ∃ z, z = (va_up g55 (11 : Int32).toNatClampNeg (some qd11)) := ⟨_, rfl⟩
  rw [← e_g59] at hf_qda
  refine lv_iinc (v := 12) (lv' := [(1, .int 12), (0, .ref mo)]) hx hb dX2_init_56 hl (k := 0) rfl (by decide) (by decide) rfl (fun ls hl => ?_)
  refine lv_goto (tgt := 37) hx hb dX2_init_59 (by decide) ?_
  refine lv_iload_n hx hb dX2_init_37 rfl (lv_at hl 0 rfl) ?_
  refine lv_bipush (v := 12) hx hb dX2_init_38 (by decide) ?_
  refine z_icmp_gt (tgt := 62) hx hb (show (12 : Int32).toInt = 12 by decide) (show (12 : Int32).toInt = 12 by decide) dX2_init_40 (by decide) (fun h => absurd h (by decide)) (fun _ => ?_)
  refine lv_aload_n hx hb dX2_init_43 rfl (lv_at hl 1 rfl) ?_
  refine z_get (C := RX2) (T := TX2) (N := 11) (ci := 2) (v := .ref qda) hx hb hT zin_X2 hown hK hw hm_mo hf_mo rfl 10 (by decide) (hT _ kw_241) rfl dX2_init_44 ?_
  refine lv_iload_n hx hb dX2_init_47 rfl (lv_at hl 0 rfl) ?_
  refine z_new (C := RX0) (T := TX0) (N := 8) (ci := 0) (fs := [.int 0, .int 0, .int 0, .int 0, .int 0, .int 0, .int 0, .int 0]) (cells := 16) (slots := 154) hx hb hT zin_X0 tyX0_ok hown (hT _ kw_134) (hT _ kw_136) (hT _ kw_88) hK hw hA rfl (fun j hj => by rcases (show j = 0 ∨ j = 1 ∨ j = 2 ∨ j = 3 ∨ j = 4 ∨ j = 5 ∨ j = 6 ∨ j = 7 by omega) with rfl | rfl | rfl | rfl | rfl | rfl | rfl | rfl <;> rfl) (by decide) (by decide) dX2_init_48 (fun qd12 H hq_qd12 hw => ?_)
  refine W.widen (k := 17) (n := 162) (by decide) (by decide) ?_
  have ne_mo_qd12 : mo ≠ qd12 := z_ne hm_mo hq_qd12
  have ne_qla_qd12 : qla ≠ qd12 := z_ne hm_qla hq_qd12
  have ne_qsa_qd12 : qsa ≠ qd12 := z_ne hm_qsa hq_qd12
  have ne_qmi_qd12 : qmi ≠ qd12 := z_ne hm_qmi hq_qd12
  have ne_qda_qd12 : qda ≠ qd12 := z_ne hm_qda hq_qd12
  have ne_qd0_qd12 : qd0 ≠ qd12 := z_ne hm_qd0 hq_qd12
  have ne_qd1_qd12 : qd1 ≠ qd12 := z_ne hm_qd1 hq_qd12
  have ne_qd2_qd12 : qd2 ≠ qd12 := z_ne hm_qd2 hq_qd12
  have ne_qd3_qd12 : qd3 ≠ qd12 := z_ne hm_qd3 hq_qd12
  have ne_qd4_qd12 : qd4 ≠ qd12 := z_ne hm_qd4 hq_qd12
  have ne_qd5_qd12 : qd5 ≠ qd12 := z_ne hm_qd5 hq_qd12
  have ne_qd6_qd12 : qd6 ≠ qd12 := z_ne hm_qd6 hq_qd12
  have ne_qd7_qd12 : qd7 ≠ qd12 := z_ne hm_qd7 hq_qd12
  have ne_qd8_qd12 : qd8 ≠ qd12 := z_ne hm_qd8 hq_qd12
  have ne_qd9_qd12 : qd9 ≠ qd12 := z_ne hm_qd9 hq_qd12
  have ne_qd10_qd12 : qd10 ≠ qd12 := z_ne hm_qd10 hq_qd12
  have ne_qd11_qd12 : qd11 ≠ qd12 := z_ne hm_qd11 hq_qd12
  have hn_qd12 : qd12 ∉ L := fun h => hq_qd12 (hsub _ h)
  obtain ⟨f62, e_f62⟩ : ∃ z, z = va_up f60 qd12 (.inr (0, [.int 0, .int 0, .int 0, .int 0, .int 0, .int 0, .int 0, .int 0])) := ⟨_, rfl⟩
  obtain ⟨L61, e_L61⟩ : ∃ z, z = L57 ++ [qd12] := ⟨_, rfl⟩
  rw [← e_f62, ← e_L61] at hw
  have hm_mo : mo ∈ L61 := by rw [e_L61]; exact List.mem_append_left _ hm_mo
  have hf_mo : f62 mo = .inr (2, [.int 0, .int 0, .int 0, .int 0, .int 0, .int 0, .int 0, .ref qla, .ref qsa, .ref qmi, .ref qda]) := (congrFun e_f62 mo).trans (z_up_ne ne_mo_qd12 hf_mo)
  have hm_qla : qla ∈ L61 := by rw [e_L61]; exact List.mem_append_left _ hm_qla
  have hf_qla : f62 qla = .inl (cy 1, 5, .inl (fun _ => 0)) := (congrFun e_f62 qla).trans (z_up_ne ne_qla_qd12 hf_qla)
  have hm_qsa : qsa ∈ L61 := by rw [e_L61]; exact List.mem_append_left _ hm_qsa
  have hf_qsa : f62 qsa = .inl (cy 1, 4, .inl (fun _ => 0)) := (congrFun e_f62 qsa).trans (z_up_ne ne_qsa_qd12 hf_qsa)
  have hm_qmi : qmi ∈ L61 := by rw [e_L61]; exact List.mem_append_left _ hm_qmi
  have hf_qmi : f62 qmi = .inl (cy 1, 36, .inl (fun _ => 0)) := (congrFun e_f62 qmi).trans (z_up_ne ne_qmi_qd12 hf_qmi)
  have hm_qda : qda ∈ L61 := by rw [e_L61]; exact List.mem_append_left _ hm_qda
  have hf_qda : f62 qda = .inl (cy 4, 13, .inr (.inr (.inr (.inr g59)))) := (congrFun e_f62 qda).trans (z_up_ne ne_qda_qd12 hf_qda)
  have hm_qd0 : qd0 ∈ L61 := by rw [e_L61]; exact List.mem_append_left _ hm_qd0
  have hf_qd0 : f62 qd0 = .inr (0, [.int 0, .int 0, .int 0, .int 0, .int 0, .int 0, .int 0, .int 0]) := (congrFun e_f62 qd0).trans (z_up_ne ne_qd0_qd12 hf_qd0)
  have hm_qd1 : qd1 ∈ L61 := by rw [e_L61]; exact List.mem_append_left _ hm_qd1
  have hf_qd1 : f62 qd1 = .inr (0, [.int 0, .int 0, .int 0, .int 0, .int 0, .int 0, .int 0, .int 0]) := (congrFun e_f62 qd1).trans (z_up_ne ne_qd1_qd12 hf_qd1)
  have hm_qd2 : qd2 ∈ L61 := by rw [e_L61]; exact List.mem_append_left _ hm_qd2
  have hf_qd2 : f62 qd2 = .inr (0, [.int 0, .int 0, .int 0, .int 0, .int 0, .int 0, .int 0, .int 0]) := (congrFun e_f62 qd2).trans (z_up_ne ne_qd2_qd12 hf_qd2)
  have hm_qd3 : qd3 ∈ L61 := by rw [e_L61]; exact List.mem_append_left _ hm_qd3
  have hf_qd3 : f62 qd3 = .inr (0, [.int 0, .int 0, .int 0, .int 0, .int 0, .int 0, .int 0, .int 0]) := (congrFun e_f62 qd3).trans (z_up_ne ne_qd3_qd12 hf_qd3)
  have hm_qd4 : qd4 ∈ L61 := by rw [e_L61]; exact List.mem_append_left _ hm_qd4
  have hf_qd4 : f62 qd4 = .inr (0, [.int 0, .int 0, .int 0, .int 0, .int 0, .int 0, .int 0, .int 0]) := (congrFun e_f62 qd4).trans (z_up_ne ne_qd4_qd12 hf_qd4)
  have hm_qd5 : qd5 ∈ L61 := by rw [e_L61]; exact List.mem_append_left _ hm_qd5
  have hf_qd5 : f62 qd5 = .inr (0, [.int 0, .int 0, .int 0, .int 0, .int 0, .int 0, .int 0, .int 0]) := (congrFun e_f62 qd5).trans (z_up_ne ne_qd5_qd12 hf_qd5)
  have hm_qd6 : qd6 ∈ L61 := by rw [e_L61]; exact List.mem_append_left _ hm_qd6
  have hf_qd6 : f62 qd6 = .inr (0, [.int 0, .int 0, .int 0, .int 0, .int 0, .int 0, .int 0, .int 0]) := (congrFun e_f62 qd6).trans (z_up_ne ne_qd6_qd12 hf_qd6)
  have hm_qd7 : qd7 ∈ L61 := by rw [e_L61]; exact List.mem_append_left _ hm_qd7
  have hf_qd7 : f62 qd7 = .inr (0, [.int 0, .int 0, .int 0, .int 0, .int 0, .int 0, .int 0, .int 0]) := (congrFun e_f62 qd7).trans (z_up_ne ne_qd7_qd12 hf_qd7)
  have hm_qd8 : qd8 ∈ L61 := by rw [e_L61]; exact List.mem_append_left _ hm_qd8
  have hf_qd8 : f62 qd8 = .inr (0, [.int 0, .int 0, .int 0, .int 0, .int 0, .int 0, .int 0, .int 0]) := (congrFun e_f62 qd8).trans (z_up_ne ne_qd8_qd12 hf_qd8)
  have hm_qd9 : qd9 ∈ L61 := by rw [e_L61]; exact List.mem_append_left _ hm_qd9
  have hf_qd9 : f62 qd9 = .inr (0, [.int 0, .int 0, .int 0, .int 0, .int 0, .int 0, .int 0, .int 0]) := (congrFun e_f62 qd9).trans (z_up_ne ne_qd9_qd12 hf_qd9)
  have hm_qd10 : qd10 ∈ L61 := by rw [e_L61]; exact List.mem_append_left _ hm_qd10
  have hf_qd10 : f62 qd10 = .inr (0, [.int 0, .int 0, .int 0, .int 0, .int 0, .int 0, .int 0, .int 0]) := (congrFun e_f62 qd10).trans (z_up_ne ne_qd10_qd12 hf_qd10)
  have hm_qd11 : qd11 ∈ L61 := by rw [e_L61]; exact List.mem_append_left _ hm_qd11
  have hf_qd11 : f62 qd11 = .inr (0, [.int 0, .int 0, .int 0, .int 0, .int 0, .int 0, .int 0, .int 0]) := (congrFun e_f62 qd11).trans (z_up_ne ne_qd11_qd12 hf_qd11)
  have hm_qd12 : qd12 ∈ L61 := by rw [e_L61]; exact List.mem_append_right _ (List.mem_singleton.mpr rfl)
  have hf_qd12 : f62 qd12 = .inr (0, [.int 0, .int 0, .int 0, .int 0, .int 0, .int 0, .int 0, .int 0]) := (congrFun e_f62 qd12).trans z_up_self
  have hsub : ∀ b ∈ L, b ∈ L61 := fun b h => by rw [e_L61]; exact List.mem_append_left _ (hsub b h)
  have hfr : ∀ b ∈ L, b ≠ mo → f62 b = f b := fun b hb h0 => (congrFun e_f62 b).trans (z_up_ne (z_ne hb hn_qd12) (hfr b hb h0))
  refine lv_dup hx hb dX2_init_51 rfl ?_
  refine z_callvIN (cells := 17) (slots := 162) (b := qd12) (As := []) (rest := [.ref qd12, .int 12, .ref qda]) ⟨hx, hb, hml, hown, hT⟩ (c_X0_init l hm_qd12 hf_qd12) ⟨va_cnB 0 hT (z_goodI (fun _ h => h) kw_139) rfl rfl rfl hKK.1.2.2.2.2.1 (hT _ kw_88) (by decide +kernel) ⟨by decide, by decide⟩, rfl, hT _ kw_138⟩ z_mv hKK hw hA rfl hl.1 rfl (Nat.le_of_ble_eq_true rfl) dX2_init_52 ⟨by decide, by decide⟩ (fun u H locs hp hw => ?_)
  obtain ⟨rfl, hp⟩ := hp
  have hw : z_H D vwCl (z_A L sz) s.heap L61 f62 H locs := hw
  refine z_aast (r := (RX0, TX0, 8)) hx hb hK hw 4 0 hm_qda hf_qda rfl hm_qd12 hf_qd12 rfl (z_ix (show (12 : Int32).toInt = 12 by decide) (by decide)) dX2_init_55 (fun H locs hw => ?_)
  obtain ⟨f64, e_f64⟩ : ∃ z, z = va_up f62 qda (.inl (cy 4, 13, .inr (.inr (.inr (.inr (va_up g59 (12 : Int32).toNatClampNeg (some qd12))))))) := ⟨_, rfl⟩
  rw [← e_f64] at hw
  have hf_mo : f64 mo = .inr (2, [.int 0, .int 0, .int 0, .int 0, .int 0, .int 0, .int 0, .ref qla, .ref qsa, .ref qmi, .ref qda]) := (congrFun e_f64 mo).trans (z_up_ne ne_mo_qda hf_mo)
  have hf_qla : f64 qla = .inl (cy 1, 5, .inl (fun _ => 0)) := (congrFun e_f64 qla).trans (z_up_ne ne_qla_qda hf_qla)
  have hf_qsa : f64 qsa = .inl (cy 1, 4, .inl (fun _ => 0)) := (congrFun e_f64 qsa).trans (z_up_ne ne_qsa_qda hf_qsa)
  have hf_qmi : f64 qmi = .inl (cy 1, 36, .inl (fun _ => 0)) := (congrFun e_f64 qmi).trans (z_up_ne ne_qmi_qda hf_qmi)
  have hf_qd0 : f64 qd0 = .inr (0, [.int 0, .int 0, .int 0, .int 0, .int 0, .int 0, .int 0, .int 0]) := (congrFun e_f64 qd0).trans (z_up_ne (Ne.symm ne_qda_qd0) hf_qd0)
  have hf_qd1 : f64 qd1 = .inr (0, [.int 0, .int 0, .int 0, .int 0, .int 0, .int 0, .int 0, .int 0]) := (congrFun e_f64 qd1).trans (z_up_ne (Ne.symm ne_qda_qd1) hf_qd1)
  have hf_qd2 : f64 qd2 = .inr (0, [.int 0, .int 0, .int 0, .int 0, .int 0, .int 0, .int 0, .int 0]) := (congrFun e_f64 qd2).trans (z_up_ne (Ne.symm ne_qda_qd2) hf_qd2)
  have hf_qd3 : f64 qd3 = .inr (0, [.int 0, .int 0, .int 0, .int 0, .int 0, .int 0, .int 0, .int 0]) := (congrFun e_f64 qd3).trans (z_up_ne (Ne.symm ne_qda_qd3) hf_qd3)
  have hf_qd4 : f64 qd4 = .inr (0, [.int 0, .int 0, .int 0, .int 0, .int 0, .int 0, .int 0, .int 0]) := (congrFun e_f64 qd4).trans (z_up_ne (Ne.symm ne_qda_qd4) hf_qd4)
  have hf_qd5 : f64 qd5 = .inr (0, [.int 0, .int 0, .int 0, .int 0, .int 0, .int 0, .int 0, .int 0]) := (congrFun e_f64 qd5).trans (z_up_ne (Ne.symm ne_qda_qd5) hf_qd5)
  have hf_qd6 : f64 qd6 = .inr (0, [.int 0, .int 0, .int 0, .int 0, .int 0, .int 0, .int 0, .int 0]) := (congrFun e_f64 qd6).trans (z_up_ne (Ne.symm ne_qda_qd6) hf_qd6)
  have hf_qd7 : f64 qd7 = .inr (0, [.int 0, .int 0, .int 0, .int 0, .int 0, .int 0, .int 0, .int 0]) := (congrFun e_f64 qd7).trans (z_up_ne (Ne.symm ne_qda_qd7) hf_qd7)
  have hf_qd8 : f64 qd8 = .inr (0, [.int 0, .int 0, .int 0, .int 0, .int 0, .int 0, .int 0, .int 0]) := (congrFun e_f64 qd8).trans (z_up_ne (Ne.symm ne_qda_qd8) hf_qd8)
  have hf_qd9 : f64 qd9 = .inr (0, [.int 0, .int 0, .int 0, .int 0, .int 0, .int 0, .int 0, .int 0]) := (congrFun e_f64 qd9).trans (z_up_ne (Ne.symm ne_qda_qd9) hf_qd9)
  have hf_qd10 : f64 qd10 = .inr (0, [.int 0, .int 0, .int 0, .int 0, .int 0, .int 0, .int 0, .int 0]) := (congrFun e_f64 qd10).trans (z_up_ne (Ne.symm ne_qda_qd10) hf_qd10)
  have hf_qd11 : f64 qd11 = .inr (0, [.int 0, .int 0, .int 0, .int 0, .int 0, .int 0, .int 0, .int 0]) := (congrFun e_f64 qd11).trans (z_up_ne (Ne.symm ne_qda_qd11) hf_qd11)
  have hf_qd12 : f64 qd12 = .inr (0, [.int 0, .int 0, .int 0, .int 0, .int 0, .int 0, .int 0, .int 0]) := (congrFun e_f64 qd12).trans (z_up_ne (Ne.symm ne_qda_qd12) hf_qd12)
  have hf_qda : f64 qda = .inl (cy 4, 13, .inr (.inr (.inr (.inr (va_up g59 (12 : Int32).toNatClampNeg (some qd12)))))) := (congrFun e_f64 qda).trans z_up_self
  have hfr : ∀ b ∈ L, b ≠ mo → f64 b = f b := fun b hb h0 => (congrFun e_f64 b).trans (z_up_ne (z_ne hb hn_qda) (hfr b hb h0))
  obtain ⟨g63, e_g63⟩ : ∃ z, z = (va_up g59 (12 : Int32).toNatClampNeg (some qd12)) := ⟨_, rfl⟩
  rw [← e_g63] at hf_qda
  refine lv_iinc (v := 13) (lv' := [(1, .int 13), (0, .ref mo)]) hx hb dX2_init_56 hl (k := 0) rfl (by decide) (by decide) rfl (fun ls hl => ?_)
  refine lv_goto (tgt := 37) hx hb dX2_init_59 (by decide) ?_
  refine lv_iload_n hx hb dX2_init_37 rfl (lv_at hl 0 rfl) ?_
  refine lv_bipush (v := 12) hx hb dX2_init_38 (by decide) ?_
  refine z_icmp_gt (tgt := 62) hx hb (show (13 : Int32).toInt = 13 by decide) (show (12 : Int32).toInt = 12 by decide) dX2_init_40 (by decide) (fun _ => ?_) (fun h => absurd h (by decide))
  exact z_vret hx hb hr hlk (by decide) (by decide) hw (⟨hsub, hfr, qla, qsa, qmi, qda, qd0, qd1, qd2, qd3, qd4, qd5, qd6, qd7, qd8, qd9, qd10, qd11, qd12, g63, hf_mo, ⟨hn_qla, hm_qla, hf_qla⟩, ⟨hn_qsa, hm_qsa, hf_qsa⟩, ⟨hn_qmi, hm_qmi, hf_qmi⟩, ⟨hn_qda, hm_qda, hf_qda⟩, ⟨hn_qd0, hm_qd0, hf_qd0⟩, ⟨hn_qd1, hm_qd1, hf_qd1⟩, ⟨hn_qd2, hm_qd2, hf_qd2⟩, ⟨hn_qd3, hm_qd3, hf_qd3⟩, ⟨hn_qd4, hm_qd4, hf_qd4⟩, ⟨hn_qd5, hm_qd5, hf_qd5⟩, ⟨hn_qd6, hm_qd6, hf_qd6⟩, ⟨hn_qd7, hm_qd7, hf_qd7⟩, ⟨hn_qd8, hm_qd8, hf_qd8⟩, ⟨hn_qd9, hm_qd9, hf_qd9⟩, ⟨hn_qd10, hm_qd10, hf_qd10⟩, ⟨hn_qd11, hm_qd11, hf_qd11⟩, ⟨hn_qd12, hm_qd12, hf_qd12⟩, by show L61 = _; rw [e_L61, e_L57, e_L53, e_L49, e_L45, e_L41, e_L37, e_L33, e_L29, e_L25, e_L21, e_L17, e_L13, e_L10, e_L7, e_L4, e_L1]; (try simp only [List.append_assoc, List.cons_append, List.nil_append]), by rw [e_g63, e_g59, e_g55, e_g51, e_g47, e_g43, e_g39, e_g35, e_g31, e_g27, e_g23, e_g19, e_g15]; rfl, by rw [e_g63, e_g59, e_g55, e_g51, e_g47, e_g43, e_g39, e_g35, e_g31, e_g27, e_g23, e_g19, e_g15]; rfl, by rw [e_g63, e_g59, e_g55, e_g51, e_g47, e_g43, e_g39, e_g35, e_g31, e_g27, e_g23, e_g19, e_g15]; rfl, by rw [e_g63, e_g59, e_g55, e_g51, e_g47, e_g43, e_g39, e_g35, e_g31, e_g27, e_g23, e_g19, e_g15]; rfl, by rw [e_g63, e_g59, e_g55, e_g51, e_g47, e_g43, e_g39, e_g35, e_g31, e_g27, e_g23, e_g19, e_g15]; rfl, by rw [e_g63, e_g59, e_g55, e_g51, e_g47, e_g43, e_g39, e_g35, e_g31, e_g27, e_g23, e_g19, e_g15]; rfl, by rw [e_g63, e_g59, e_g55, e_g51, e_g47, e_g43, e_g39, e_g35, e_g31, e_g27, e_g23, e_g19, e_g15]; rfl, by rw [e_g63, e_g59, e_g55, e_g51, e_g47, e_g43, e_g39, e_g35, e_g31, e_g27, e_g23, e_g19, e_g15]; rfl, by rw [e_g63, e_g59, e_g55, e_g51, e_g47, e_g43, e_g39, e_g35, e_g31, e_g27, e_g23, e_g19, e_g15]; rfl, by rw [e_g63, e_g59, e_g55, e_g51, e_g47, e_g43, e_g39, e_g35, e_g31, e_g27, e_g23, e_g19, e_g15]; rfl, by rw [e_g63, e_g59, e_g55, e_g51, e_g47, e_g43, e_g39, e_g35, e_g31, e_g27, e_g23, e_g19, e_g15]; rfl, by rw [e_g63, e_g59, e_g55, e_g51, e_g47, e_g43, e_g39, e_g35, e_g31, e_g27, e_g23, e_g19, e_g15]; rfl, by rw [e_g63, e_g59, e_g55, e_g51, e_g47, e_g43, e_g39, e_g35, e_g31, e_g27, e_g23, e_g19, e_g15]; rfl⟩) dX2_init_62

set_option maxHeartbeats 2000000 in
set_option maxRecDepth 100000 in
theorem c_X5_init (l : Launch) {D : va_G} {cy : Nat → ClassId} {L : List Nat} {f : Nat → va_E} {sz : Nat} {adK adV : Nat → Nat} {rd tp dr : Nat} (hm_rd : rd ∈ L) (hf_rd : f rd = .inr (5, [.int 0, .int 0, .null, .null, .int 0, .int 0, .int 0, .int 0, .int 0])) : Met l yX5_init (z_ws yX5_init cX5_init 3 none) (z_R 1 0 0) (va_Pc [.ref rd, .ref tp, .ref dr] (z_Pre D vwCl (z_KK D cy adK adV) L f sz)) (z_Qv D vwCl (fun u => L = u.1 ∧ (∀ b ∈ L, b ≠ rd → u.2 b = f b) ∧ ((u.2 rd = .inr (5, [.int 0, .int (-1), .ref tp, .ref dr, .int 0, .int 0, .int 0, .int 0, .int 0])) ∧ (True))) L sz) 0 0 (z_A L sz) := by
  refine z_met (cc := cX5_init) (maxL := 3) (ret := none) (lv := [(0, .ref rd), (1, .ref tp), (2, .ref dr)]) (by decide) rfl (Nat.le_of_ble_eq_true rfl) rfl ?_
  intro p e s m below meth c ls hx hb hr hlk hml hown hnm hts hKK hA hw hl
  have hK := hKK.1.1
  have hown : s.vm.findClass RX5 = some m.cls := hown
  have hT : ∀ w ∈ lw_all, w.before ([.ref rd, .ref tp, .ref dr] : List Value).toArray s = true := fun w h => hts w (z_cons w h)
  have hsub : L = L := rfl
  have hfr : ∀ b ∈ L, b ≠ rd → f b = f b := fun _ _ _ => rfl
  refine lv_aload_n hx hb dX5_init_0 rfl (lv_at hl 0 rfl) ?_
  refine W.objInit hx hb hown (hT _ ko_RX5) (hT _ ko_i) (hT _ ko_c) rfl (by rw [hml]; exact hl.1) rfl dX5_init_1 (Nat.le_of_ble_eq_true rfl) (Nat.le_of_ble_eq_true rfl) ?_
  refine W.eq (g2 := F0 m 4 ls []) rfl ?_
  refine lv_aload_n hx hb dX5_init_4 rfl (lv_at hl 0 rfl) ?_
  refine lv_iconst (v := (-1)) hx hb dX5_init_5 (by decide) ?_
  refine z_put (C := RX5) (T := TX5) (N := 9) (ci := 5) (v := .int (-1)) (fs' := [.int 0, .int (-1), .null, .null, .int 0, .int 0, .int 0, .int 0, .int 0]) hx hb hT zin_X5 tyX5_ok nmX5 hown hK hw hm_rd hf_rd rfl 1 (by decide) (hT _ kw_279) rfl rfl rfl (Nat.le_of_ble_eq_true rfl) rfl dX5_init_6 (fun H locs hw => ?_)
  obtain ⟨f1, e_f1⟩ : ∃ z, z = va_up f rd (.inr (5, [.int 0, .int (-1), .null, .null, .int 0, .int 0, .int 0, .int 0, .int 0])) := ⟨_, rfl⟩
  rw [← e_f1] at hw
  have hf_rd : f1 rd = .inr (5, [.int 0, .int (-1), .null, .null, .int 0, .int 0, .int 0, .int 0, .int 0]) := (congrFun e_f1 rd).trans z_up_self
  have hfr : ∀ b ∈ L, b ≠ rd → f1 b = f b := fun b hb h0 => (congrFun e_f1 b).trans (z_up_ne h0 (hfr b hb h0))
  refine lv_aload_n hx hb dX5_init_9 rfl (lv_at hl 0 rfl) ?_
  refine lv_aload_n hx hb dX5_init_10 rfl (lv_at hl 1 rfl) ?_
  refine z_putF (C := RX5) (T := TX5) (N := 9) (ci := 5) (v := .ref tp) (fs' := [.int 0, .int (-1), .ref tp, .null, .int 0, .int 0, .int 0, .int 0, .int 0]) hx hb hT zin_X5 tyX5_ok nmX5 hown hK hw hm_rd hf_rd rfl 2 (by decide) (hT _ kw_281) rfl hnm rfl rfl rfl (Nat.le_of_ble_eq_true rfl) rfl dX5_init_11 (fun H locs hw => ?_)
  obtain ⟨f2, e_f2⟩ : ∃ z, z = va_up f1 rd (.inr (5, [.int 0, .int (-1), .ref tp, .null, .int 0, .int 0, .int 0, .int 0, .int 0])) := ⟨_, rfl⟩
  rw [← e_f2] at hw
  have hf_rd : f2 rd = .inr (5, [.int 0, .int (-1), .ref tp, .null, .int 0, .int 0, .int 0, .int 0, .int 0]) := (congrFun e_f2 rd).trans z_up_self
  have hfr : ∀ b ∈ L, b ≠ rd → f2 b = f b := fun b hb h0 => (congrFun e_f2 b).trans (z_up_ne h0 (hfr b hb h0))
  refine lv_aload_n hx hb dX5_init_14 rfl (lv_at hl 0 rfl) ?_
  refine lv_aload_n hx hb dX5_init_15 rfl (lv_at hl 2 rfl) ?_
  refine z_putF (C := RX5) (T := TX5) (N := 9) (ci := 5) (v := .ref dr) (fs' := [.int 0, .int (-1), .ref tp, .ref dr, .int 0, .int 0, .int 0, .int 0, .int 0]) hx hb hT zin_X5 tyX5_ok nmX5 hown hK hw hm_rd hf_rd rfl 3 (by decide) (hT _ kw_282) rfl hnm rfl rfl rfl (Nat.le_of_ble_eq_true rfl) rfl dX5_init_16 (fun H locs hw => ?_)
  obtain ⟨f3, e_f3⟩ : ∃ z, z = va_up f2 rd (.inr (5, [.int 0, .int (-1), .ref tp, .ref dr, .int 0, .int 0, .int 0, .int 0, .int 0])) := ⟨_, rfl⟩
  rw [← e_f3] at hw
  have hf_rd : f3 rd = .inr (5, [.int 0, .int (-1), .ref tp, .ref dr, .int 0, .int 0, .int 0, .int 0, .int 0]) := (congrFun e_f3 rd).trans z_up_self
  have hfr : ∀ b ∈ L, b ≠ rd → f3 b = f b := fun b hb h0 => (congrFun e_f3 b).trans (z_up_ne h0 (hfr b hb h0))
  exact z_vret hx hb hr hlk (by decide) (by decide) hw (⟨hsub, hfr, hf_rd, trivial⟩) dX5_init_19

set_option maxHeartbeats 2000000 in
set_option maxRecDepth 100000 in
theorem c_X6_init (l : Launch) {D : va_G} {cy : Nat → ClassId} {L : List Nat} {f : Nat → va_E} {sz : Nat} {adK adV : Nat → Nat} {sl : Nat} (hm_sl : sl ∈ L) (hf_sl : f sl = .inr (6, [.null, .null, .null])) : Met l yX6_init (z_ws yX6_init cX6_init 1 none) (z_R 2 7 252) (va_Pc [.ref sl] (z_Pre D vwCl (z_KK D cy adK adV) L f sz)) (z_Qv D vwCl (fun u => (∀ b ∈ L, b ∈ u.1) ∧ (∀ b ∈ L, b ≠ sl → u.2 b = f b) ∧ (∃ (nu r0 r1 r2 r3 wi si : Nat) (gn : Nat → Option Nat) (gs : Nat → Int32), (u.2 sl = .inr (6, [.ref nu, .ref wi, .ref si])) ∧ (nu ∉ L ∧ nu ∈ u.1 ∧ u.2 nu = .inl (cy 6, 4, .inr (.inr (.inr (.inr gn))))) ∧ (r0 ∉ L ∧ r0 ∈ u.1 ∧ u.2 r0 = .inl (cy 2, 60, .inr (.inl (fun _ => 0)))) ∧ (r1 ∉ L ∧ r1 ∈ u.1 ∧ u.2 r1 = .inl (cy 2, 60, .inr (.inl (fun _ => 0)))) ∧ (r2 ∉ L ∧ r2 ∈ u.1 ∧ u.2 r2 = .inl (cy 2, 60, .inr (.inl (fun _ => 0)))) ∧ (r3 ∉ L ∧ r3 ∈ u.1 ∧ u.2 r3 = .inl (cy 2, 60, .inr (.inl (fun _ => 0)))) ∧ (wi ∉ L ∧ wi ∈ u.1 ∧ u.2 wi = .inl (cy 1, 4, .inl (fun _ => 0))) ∧ (si ∉ L ∧ si ∈ u.1 ∧ u.2 si = .inl (cy 1, 4, .inl gs)) ∧ ((u.1 = L ++ [nu, r0, r1, r2, r3, wi, si]) ∧ gn 0 = some r0 ∧ gn 1 = some r1 ∧ gn 2 = some r2 ∧ gn 3 = some r3 ∧ (∀ j : Nat, j < 4 → gs j = -1)))) L sz) 7 252 (z_A L sz) := by
  refine z_met (cc := cX6_init) (maxL := 1) (ret := none) (lv := [(0, .ref sl)]) (by decide) rfl (Nat.le_of_ble_eq_true rfl) rfl ?_
  intro p e s m below meth c ls hx hb hr hlk hml hown hnm hts hKK hA hw hl
  have hK := hKK.1.1
  have hown : s.vm.findClass RX6 = some m.cls := hown
  have hT : ∀ w ∈ lw_all, w.before ([.ref sl] : List Value).toArray s = true := fun w h => hts w (z_cons w h)
  have hsub : ∀ b ∈ L, b ∈ L := fun _ h => h
  have hfr : ∀ b ∈ L, b ≠ sl → f b = f b := fun _ _ _ => rfl
  refine lv_aload_n hx hb dX6_init_0 rfl (lv_at hl 0 rfl) ?_
  refine W.objInit hx hb hown (hT _ ko_RX6) (hT _ ko_i) (hT _ ko_c) rfl (by rw [hml]; exact hl.1) rfl dX6_init_1 (Nat.le_of_ble_eq_true rfl) (Nat.le_of_ble_eq_true rfl) ?_
  refine W.eq (g2 := F0 m 4 ls []) rfl ?_
  refine lv_aload_n hx hb dX6_init_4 rfl (lv_at hl 0 rfl) ?_
  refine lv_iconst (v := 4) hx hb dX6_init_5 (by decide) ?_
  refine lv_bipush (v := 60) hx hb dX6_init_6 (by decide) ?_
  refine z_mna (cells := 0) (slots := 0) hx hb hown (hT _ kw_314) hKK.1 hw hA (by decide) (by decide) dX6_init_8 (fun qnu qr0 qr1 qr2 qr3 gn H locs hq_qnu hq_qr0 hq_qr1 hq_qr2 hq_qr3 hg0 hg1 hg2 hg3 hw => ?_)
  refine W.widen (k := 5) (n := 244) (by decide) (by decide) ?_
  obtain ⟨f1, e_f1⟩ : ∃ z, z = va_up f qnu (.inl (cy 6, 4, .inr (.inr (.inr (.inr gn))))) := ⟨_, rfl⟩
  obtain ⟨L2, e_L2⟩ : ∃ z, z = L ++ [qnu] := ⟨_, rfl⟩
  rw [← e_f1, ← e_L2] at hw
  rw [← e_L2] at hq_qr0
  rw [← e_L2] at hq_qr1
  rw [← e_L2] at hq_qr2
  rw [← e_L2] at hq_qr3
  have ne_sl_qnu : sl ≠ qnu := z_ne hm_sl hq_qnu
  have hn_qnu : qnu ∉ L := fun h => hq_qnu (hsub _ h)
  have hm_sl : sl ∈ L2 := by rw [e_L2]; exact List.mem_append_left _ hm_sl
  have hf_sl : f1 sl = .inr (6, [.null, .null, .null]) := (congrFun e_f1 sl).trans (z_up_ne ne_sl_qnu hf_sl)
  have hm_qnu : qnu ∈ L2 := by rw [e_L2]; exact List.mem_append_right _ (List.mem_singleton.mpr rfl)
  have hf_qnu : f1 qnu = .inl (cy 6, 4, .inr (.inr (.inr (.inr gn)))) := (congrFun e_f1 qnu).trans z_up_self
  have hsub : ∀ b ∈ L, b ∈ L2 := fun b h => by rw [e_L2]; exact List.mem_append_left _ (hsub b h)
  have hfr : ∀ b ∈ L, b ≠ sl → f1 b = f b := fun b hb h0 => (congrFun e_f1 b).trans (z_up_ne (z_ne hb hn_qnu) (hfr b hb h0))
  obtain ⟨f3, e_f3⟩ : ∃ z, z = va_up f1 qr0 (.inl (cy 2, 60, .inr (.inl (fun _ => 0)))) := ⟨_, rfl⟩
  obtain ⟨L4, e_L4⟩ : ∃ z, z = L2 ++ [qr0] := ⟨_, rfl⟩
  rw [← e_f3, ← e_L4] at hw
  rw [← e_L4] at hq_qr1
  rw [← e_L4] at hq_qr2
  rw [← e_L4] at hq_qr3
  have ne_sl_qr0 : sl ≠ qr0 := z_ne hm_sl hq_qr0
  have ne_qnu_qr0 : qnu ≠ qr0 := z_ne hm_qnu hq_qr0
  have hn_qr0 : qr0 ∉ L := fun h => hq_qr0 (hsub _ h)
  have hm_sl : sl ∈ L4 := by rw [e_L4]; exact List.mem_append_left _ hm_sl
  have hf_sl : f3 sl = .inr (6, [.null, .null, .null]) := (congrFun e_f3 sl).trans (z_up_ne ne_sl_qr0 hf_sl)
  have hm_qnu : qnu ∈ L4 := by rw [e_L4]; exact List.mem_append_left _ hm_qnu
  have hf_qnu : f3 qnu = .inl (cy 6, 4, .inr (.inr (.inr (.inr gn)))) := (congrFun e_f3 qnu).trans (z_up_ne ne_qnu_qr0 hf_qnu)
  have hm_qr0 : qr0 ∈ L4 := by rw [e_L4]; exact List.mem_append_right _ (List.mem_singleton.mpr rfl)
  have hf_qr0 : f3 qr0 = .inl (cy 2, 60, .inr (.inl (fun _ => 0))) := (congrFun e_f3 qr0).trans z_up_self
  have hsub : ∀ b ∈ L, b ∈ L4 := fun b h => by rw [e_L4]; exact List.mem_append_left _ (hsub b h)
  have hfr : ∀ b ∈ L, b ≠ sl → f3 b = f b := fun b hb h0 => (congrFun e_f3 b).trans (z_up_ne (z_ne hb hn_qr0) (hfr b hb h0))
  obtain ⟨f5, e_f5⟩ : ∃ z, z = va_up f3 qr1 (.inl (cy 2, 60, .inr (.inl (fun _ => 0)))) := ⟨_, rfl⟩
  obtain ⟨L6, e_L6⟩ : ∃ z, z = L4 ++ [qr1] := ⟨_, rfl⟩
  rw [← e_f5, ← e_L6] at hw
  rw [← e_L6] at hq_qr2
  rw [← e_L6] at hq_qr3
  have ne_sl_qr1 : sl ≠ qr1 := z_ne hm_sl hq_qr1
  have ne_qnu_qr1 : qnu ≠ qr1 := z_ne hm_qnu hq_qr1
  have ne_qr0_qr1 : qr0 ≠ qr1 := z_ne hm_qr0 hq_qr1
  have hn_qr1 : qr1 ∉ L := fun h => hq_qr1 (hsub _ h)
  have hm_sl : sl ∈ L6 := by rw [e_L6]; exact List.mem_append_left _ hm_sl
  have hf_sl : f5 sl = .inr (6, [.null, .null, .null]) := (congrFun e_f5 sl).trans (z_up_ne ne_sl_qr1 hf_sl)
  have hm_qnu : qnu ∈ L6 := by rw [e_L6]; exact List.mem_append_left _ hm_qnu
  have hf_qnu : f5 qnu = .inl (cy 6, 4, .inr (.inr (.inr (.inr gn)))) := (congrFun e_f5 qnu).trans (z_up_ne ne_qnu_qr1 hf_qnu)
  have hm_qr0 : qr0 ∈ L6 := by rw [e_L6]; exact List.mem_append_left _ hm_qr0
  have hf_qr0 : f5 qr0 = .inl (cy 2, 60, .inr (.inl (fun _ => 0))) := (congrFun e_f5 qr0).trans (z_up_ne ne_qr0_qr1 hf_qr0)
  have hm_qr1 : qr1 ∈ L6 := by rw [e_L6]; exact List.mem_append_right _ (List.mem_singleton.mpr rfl)
  have hf_qr1 : f5 qr1 = .inl (cy 2, 60, .inr (.inl (fun _ => 0))) := (congrFun e_f5 qr1).trans z_up_self
  have hsub : ∀ b ∈ L, b ∈ L6 := fun b h => by rw [e_L6]; exact List.mem_append_left _ (hsub b h)
  have hfr : ∀ b ∈ L, b ≠ sl → f5 b = f b := fun b hb h0 => (congrFun e_f5 b).trans (z_up_ne (z_ne hb hn_qr1) (hfr b hb h0))
  obtain ⟨f7, e_f7⟩ : ∃ z, z = va_up f5 qr2 (.inl (cy 2, 60, .inr (.inl (fun _ => 0)))) := ⟨_, rfl⟩
  obtain ⟨L8, e_L8⟩ : ∃ z, z = L6 ++ [qr2] := ⟨_, rfl⟩
  rw [← e_f7, ← e_L8] at hw
  rw [← e_L8] at hq_qr3
  have ne_sl_qr2 : sl ≠ qr2 := z_ne hm_sl hq_qr2
  have ne_qnu_qr2 : qnu ≠ qr2 := z_ne hm_qnu hq_qr2
  have ne_qr0_qr2 : qr0 ≠ qr2 := z_ne hm_qr0 hq_qr2
  have ne_qr1_qr2 : qr1 ≠ qr2 := z_ne hm_qr1 hq_qr2
  have hn_qr2 : qr2 ∉ L := fun h => hq_qr2 (hsub _ h)
  have hm_sl : sl ∈ L8 := by rw [e_L8]; exact List.mem_append_left _ hm_sl
  have hf_sl : f7 sl = .inr (6, [.null, .null, .null]) := (congrFun e_f7 sl).trans (z_up_ne ne_sl_qr2 hf_sl)
  have hm_qnu : qnu ∈ L8 := by rw [e_L8]; exact List.mem_append_left _ hm_qnu
  have hf_qnu : f7 qnu = .inl (cy 6, 4, .inr (.inr (.inr (.inr gn)))) := (congrFun e_f7 qnu).trans (z_up_ne ne_qnu_qr2 hf_qnu)
  have hm_qr0 : qr0 ∈ L8 := by rw [e_L8]; exact List.mem_append_left _ hm_qr0
  have hf_qr0 : f7 qr0 = .inl (cy 2, 60, .inr (.inl (fun _ => 0))) := (congrFun e_f7 qr0).trans (z_up_ne ne_qr0_qr2 hf_qr0)
  have hm_qr1 : qr1 ∈ L8 := by rw [e_L8]; exact List.mem_append_left _ hm_qr1
  have hf_qr1 : f7 qr1 = .inl (cy 2, 60, .inr (.inl (fun _ => 0))) := (congrFun e_f7 qr1).trans (z_up_ne ne_qr1_qr2 hf_qr1)
  have hm_qr2 : qr2 ∈ L8 := by rw [e_L8]; exact List.mem_append_right _ (List.mem_singleton.mpr rfl)
  have hf_qr2 : f7 qr2 = .inl (cy 2, 60, .inr (.inl (fun _ => 0))) := (congrFun e_f7 qr2).trans z_up_self
  have hsub : ∀ b ∈ L, b ∈ L8 := fun b h => by rw [e_L8]; exact List.mem_append_left _ (hsub b h)
  have hfr : ∀ b ∈ L, b ≠ sl → f7 b = f b := fun b hb h0 => (congrFun e_f7 b).trans (z_up_ne (z_ne hb hn_qr2) (hfr b hb h0))
  obtain ⟨f9, e_f9⟩ : ∃ z, z = va_up f7 qr3 (.inl (cy 2, 60, .inr (.inl (fun _ => 0)))) := ⟨_, rfl⟩
  obtain ⟨L10, e_L10⟩ : ∃ z, z = L8 ++ [qr3] := ⟨_, rfl⟩
  rw [← e_f9, ← e_L10] at hw
  have ne_sl_qr3 : sl ≠ qr3 := z_ne hm_sl hq_qr3
  have ne_qnu_qr3 : qnu ≠ qr3 := z_ne hm_qnu hq_qr3
  have ne_qr0_qr3 : qr0 ≠ qr3 := z_ne hm_qr0 hq_qr3
  have ne_qr1_qr3 : qr1 ≠ qr3 := z_ne hm_qr1 hq_qr3
  have ne_qr2_qr3 : qr2 ≠ qr3 := z_ne hm_qr2 hq_qr3
  have hn_qr3 : qr3 ∉ L := fun h => hq_qr3 (hsub _ h)
  have hm_sl : sl ∈ L10 := by rw [e_L10]; exact List.mem_append_left _ hm_sl
  have hf_sl : f9 sl = .inr (6, [.null, .null, .null]) := (congrFun e_f9 sl).trans (z_up_ne ne_sl_qr3 hf_sl)
  have hm_qnu : qnu ∈ L10 := by rw [e_L10]; exact List.mem_append_left _ hm_qnu
  have hf_qnu : f9 qnu = .inl (cy 6, 4, .inr (.inr (.inr (.inr gn)))) := (congrFun e_f9 qnu).trans (z_up_ne ne_qnu_qr3 hf_qnu)
  have hm_qr0 : qr0 ∈ L10 := by rw [e_L10]; exact List.mem_append_left _ hm_qr0
  have hf_qr0 : f9 qr0 = .inl (cy 2, 60, .inr (.inl (fun _ => 0))) := (congrFun e_f9 qr0).trans (z_up_ne ne_qr0_qr3 hf_qr0)
  have hm_qr1 : qr1 ∈ L10 := by rw [e_L10]; exact List.mem_append_left _ hm_qr1
  have hf_qr1 : f9 qr1 = .inl (cy 2, 60, .inr (.inl (fun _ => 0))) := (congrFun e_f9 qr1).trans (z_up_ne ne_qr1_qr3 hf_qr1)
  have hm_qr2 : qr2 ∈ L10 := by rw [e_L10]; exact List.mem_append_left _ hm_qr2
  have hf_qr2 : f9 qr2 = .inl (cy 2, 60, .inr (.inl (fun _ => 0))) := (congrFun e_f9 qr2).trans (z_up_ne ne_qr2_qr3 hf_qr2)
  have hm_qr3 : qr3 ∈ L10 := by rw [e_L10]; exact List.mem_append_right _ (List.mem_singleton.mpr rfl)
  have hf_qr3 : f9 qr3 = .inl (cy 2, 60, .inr (.inl (fun _ => 0))) := (congrFun e_f9 qr3).trans z_up_self
  have hsub : ∀ b ∈ L, b ∈ L10 := fun b h => by rw [e_L10]; exact List.mem_append_left _ (hsub b h)
  have hfr : ∀ b ∈ L, b ≠ sl → f9 b = f b := fun b hb h0 => (congrFun e_f9 b).trans (z_up_ne (z_ne hb hn_qr3) (hfr b hb h0))
  refine z_putF (C := RX6) (T := TX6) (N := 3) (ci := 6) (v := .ref qnu) (fs' := [.ref qnu, .null, .null]) hx hb hT zin_X6 tyX6_ok nmX6 hown hK hw hm_sl hf_sl rfl 0 (by decide) (hT _ kw_319) rfl hnm rfl rfl rfl (Nat.le_of_ble_eq_true rfl) rfl dX6_init_12 (fun H locs hw => ?_)
  obtain ⟨f11, e_f11⟩ : ∃ z, z = va_up f9 sl (.inr (6, [.ref qnu, .null, .null])) := ⟨_, rfl⟩
  rw [← e_f11] at hw
  have hf_qnu : f11 qnu = .inl (cy 6, 4, .inr (.inr (.inr (.inr gn)))) := (congrFun e_f11 qnu).trans (z_up_ne (Ne.symm ne_sl_qnu) hf_qnu)
  have hf_qr0 : f11 qr0 = .inl (cy 2, 60, .inr (.inl (fun _ => 0))) := (congrFun e_f11 qr0).trans (z_up_ne (Ne.symm ne_sl_qr0) hf_qr0)
  have hf_qr1 : f11 qr1 = .inl (cy 2, 60, .inr (.inl (fun _ => 0))) := (congrFun e_f11 qr1).trans (z_up_ne (Ne.symm ne_sl_qr1) hf_qr1)
  have hf_qr2 : f11 qr2 = .inl (cy 2, 60, .inr (.inl (fun _ => 0))) := (congrFun e_f11 qr2).trans (z_up_ne (Ne.symm ne_sl_qr2) hf_qr2)
  have hf_qr3 : f11 qr3 = .inl (cy 2, 60, .inr (.inl (fun _ => 0))) := (congrFun e_f11 qr3).trans (z_up_ne (Ne.symm ne_sl_qr3) hf_qr3)
  have hf_sl : f11 sl = .inr (6, [.ref qnu, .null, .null]) := (congrFun e_f11 sl).trans z_up_self
  have hfr : ∀ b ∈ L, b ≠ sl → f11 b = f b := fun b hb h0 => (congrFun e_f11 b).trans (z_up_ne h0 (hfr b hb h0))
  refine lv_aload_n hx hb dX6_init_15 rfl (lv_at hl 0 rfl) ?_
  refine lv_iconst (v := 4) hx hb dX6_init_16 (by decide) ?_
  refine z_newa (atype := .int) (n := 4) (N' := 4) (a0 := (4, .inl (fun _ => 0))) (cells := 5) (slots := 244) hx hb (hT _ kw_203) rfl 1 rfl (fun _ h => by cases h) hK hw hA (fun _ => rfl) (by decide) (by decide) (by decide) (by decide) (by decide) dX6_init_17 (fun qwi H hq_qwi hw => ?_)
  refine W.widen (k := 6) (n := 248) (by decide) (by decide) ?_
  have ne_sl_qwi : sl ≠ qwi := z_ne hm_sl hq_qwi
  have ne_qnu_qwi : qnu ≠ qwi := z_ne hm_qnu hq_qwi
  have ne_qr0_qwi : qr0 ≠ qwi := z_ne hm_qr0 hq_qwi
  have ne_qr1_qwi : qr1 ≠ qwi := z_ne hm_qr1 hq_qwi
  have ne_qr2_qwi : qr2 ≠ qwi := z_ne hm_qr2 hq_qwi
  have ne_qr3_qwi : qr3 ≠ qwi := z_ne hm_qr3 hq_qwi
  have hn_qwi : qwi ∉ L := fun h => hq_qwi (hsub _ h)
  obtain ⟨f13, e_f13⟩ : ∃ z, z = va_up f11 qwi (.inl (cy 1, 4, .inl (fun _ => 0))) := ⟨_, rfl⟩
  obtain ⟨L12, e_L12⟩ : ∃ z, z = L10 ++ [qwi] := ⟨_, rfl⟩
  rw [← e_f13, ← e_L12] at hw
  have hm_sl : sl ∈ L12 := by rw [e_L12]; exact List.mem_append_left _ hm_sl
  have hf_sl : f13 sl = .inr (6, [.ref qnu, .null, .null]) := (congrFun e_f13 sl).trans (z_up_ne ne_sl_qwi hf_sl)
  have hm_qnu : qnu ∈ L12 := by rw [e_L12]; exact List.mem_append_left _ hm_qnu
  have hf_qnu : f13 qnu = .inl (cy 6, 4, .inr (.inr (.inr (.inr gn)))) := (congrFun e_f13 qnu).trans (z_up_ne ne_qnu_qwi hf_qnu)
  have hm_qr0 : qr0 ∈ L12 := by rw [e_L12]; exact List.mem_append_left _ hm_qr0
  have hf_qr0 : f13 qr0 = .inl (cy 2, 60, .inr (.inl (fun _ => 0))) := (congrFun e_f13 qr0).trans (z_up_ne ne_qr0_qwi hf_qr0)
  have hm_qr1 : qr1 ∈ L12 := by rw [e_L12]; exact List.mem_append_left _ hm_qr1
  have hf_qr1 : f13 qr1 = .inl (cy 2, 60, .inr (.inl (fun _ => 0))) := (congrFun e_f13 qr1).trans (z_up_ne ne_qr1_qwi hf_qr1)
  have hm_qr2 : qr2 ∈ L12 := by rw [e_L12]; exact List.mem_append_left _ hm_qr2
  have hf_qr2 : f13 qr2 = .inl (cy 2, 60, .inr (.inl (fun _ => 0))) := (congrFun e_f13 qr2).trans (z_up_ne ne_qr2_qwi hf_qr2)
  have hm_qr3 : qr3 ∈ L12 := by rw [e_L12]; exact List.mem_append_left _ hm_qr3
  have hf_qr3 : f13 qr3 = .inl (cy 2, 60, .inr (.inl (fun _ => 0))) := (congrFun e_f13 qr3).trans (z_up_ne ne_qr3_qwi hf_qr3)
  have hm_qwi : qwi ∈ L12 := by rw [e_L12]; exact List.mem_append_right _ (List.mem_singleton.mpr rfl)
  have hf_qwi : f13 qwi = .inl (cy 1, 4, .inl (fun _ => 0)) := (congrFun e_f13 qwi).trans z_up_self
  have hsub : ∀ b ∈ L, b ∈ L12 := fun b h => by rw [e_L12]; exact List.mem_append_left _ (hsub b h)
  have hfr : ∀ b ∈ L, b ≠ sl → f13 b = f b := fun b hb h0 => (congrFun e_f13 b).trans (z_up_ne (z_ne hb hn_qwi) (hfr b hb h0))
  refine z_putF (C := RX6) (T := TX6) (N := 3) (ci := 6) (v := .ref qwi) (fs' := [.ref qnu, .ref qwi, .null]) hx hb hT zin_X6 tyX6_ok nmX6 hown hK hw hm_sl hf_sl rfl 1 (by decide) (hT _ kw_322) rfl hnm rfl rfl rfl (Nat.le_of_ble_eq_true rfl) rfl dX6_init_19 (fun H locs hw => ?_)
  obtain ⟨f14, e_f14⟩ : ∃ z, z = va_up f13 sl (.inr (6, [.ref qnu, .ref qwi, .null])) := ⟨_, rfl⟩
  rw [← e_f14] at hw
  have hf_qnu : f14 qnu = .inl (cy 6, 4, .inr (.inr (.inr (.inr gn)))) := (congrFun e_f14 qnu).trans (z_up_ne (Ne.symm ne_sl_qnu) hf_qnu)
  have hf_qr0 : f14 qr0 = .inl (cy 2, 60, .inr (.inl (fun _ => 0))) := (congrFun e_f14 qr0).trans (z_up_ne (Ne.symm ne_sl_qr0) hf_qr0)
  have hf_qr1 : f14 qr1 = .inl (cy 2, 60, .inr (.inl (fun _ => 0))) := (congrFun e_f14 qr1).trans (z_up_ne (Ne.symm ne_sl_qr1) hf_qr1)
  have hf_qr2 : f14 qr2 = .inl (cy 2, 60, .inr (.inl (fun _ => 0))) := (congrFun e_f14 qr2).trans (z_up_ne (Ne.symm ne_sl_qr2) hf_qr2)
  have hf_qr3 : f14 qr3 = .inl (cy 2, 60, .inr (.inl (fun _ => 0))) := (congrFun e_f14 qr3).trans (z_up_ne (Ne.symm ne_sl_qr3) hf_qr3)
  have hf_qwi : f14 qwi = .inl (cy 1, 4, .inl (fun _ => 0)) := (congrFun e_f14 qwi).trans (z_up_ne (Ne.symm ne_sl_qwi) hf_qwi)
  have hf_sl : f14 sl = .inr (6, [.ref qnu, .ref qwi, .null]) := (congrFun e_f14 sl).trans z_up_self
  have hfr : ∀ b ∈ L, b ≠ sl → f14 b = f b := fun b hb h0 => (congrFun e_f14 b).trans (z_up_ne h0 (hfr b hb h0))
  refine lv_aload_n hx hb dX6_init_22 rfl (lv_at hl 0 rfl) ?_
  refine lv_iconst (v := 4) hx hb dX6_init_23 (by decide) ?_
  refine z_newa (atype := .int) (n := 4) (N' := 4) (a0 := (4, .inl (fun _ => 0))) (cells := 6) (slots := 248) hx hb (hT _ kw_203) rfl 1 rfl (fun _ h => by cases h) hK hw hA (fun _ => rfl) (by decide) (by decide) (by decide) (by decide) (by decide) dX6_init_24 (fun qsi H hq_qsi hw => ?_)
  refine W.widen (k := 7) (n := 252) (by decide) (by decide) ?_
  have ne_sl_qsi : sl ≠ qsi := z_ne hm_sl hq_qsi
  have ne_qnu_qsi : qnu ≠ qsi := z_ne hm_qnu hq_qsi
  have ne_qr0_qsi : qr0 ≠ qsi := z_ne hm_qr0 hq_qsi
  have ne_qr1_qsi : qr1 ≠ qsi := z_ne hm_qr1 hq_qsi
  have ne_qr2_qsi : qr2 ≠ qsi := z_ne hm_qr2 hq_qsi
  have ne_qr3_qsi : qr3 ≠ qsi := z_ne hm_qr3 hq_qsi
  have ne_qwi_qsi : qwi ≠ qsi := z_ne hm_qwi hq_qsi
  have hn_qsi : qsi ∉ L := fun h => hq_qsi (hsub _ h)
  obtain ⟨f16, e_f16⟩ : ∃ z, z = va_up f14 qsi (.inl (cy 1, 4, .inl (fun _ => 0))) := ⟨_, rfl⟩
  obtain ⟨L15, e_L15⟩ : ∃ z, z = L12 ++ [qsi] := ⟨_, rfl⟩
  rw [← e_f16, ← e_L15] at hw
  have hm_sl : sl ∈ L15 := by rw [e_L15]; exact List.mem_append_left _ hm_sl
  have hf_sl : f16 sl = .inr (6, [.ref qnu, .ref qwi, .null]) := (congrFun e_f16 sl).trans (z_up_ne ne_sl_qsi hf_sl)
  have hm_qnu : qnu ∈ L15 := by rw [e_L15]; exact List.mem_append_left _ hm_qnu
  have hf_qnu : f16 qnu = .inl (cy 6, 4, .inr (.inr (.inr (.inr gn)))) := (congrFun e_f16 qnu).trans (z_up_ne ne_qnu_qsi hf_qnu)
  have hm_qr0 : qr0 ∈ L15 := by rw [e_L15]; exact List.mem_append_left _ hm_qr0
  have hf_qr0 : f16 qr0 = .inl (cy 2, 60, .inr (.inl (fun _ => 0))) := (congrFun e_f16 qr0).trans (z_up_ne ne_qr0_qsi hf_qr0)
  have hm_qr1 : qr1 ∈ L15 := by rw [e_L15]; exact List.mem_append_left _ hm_qr1
  have hf_qr1 : f16 qr1 = .inl (cy 2, 60, .inr (.inl (fun _ => 0))) := (congrFun e_f16 qr1).trans (z_up_ne ne_qr1_qsi hf_qr1)
  have hm_qr2 : qr2 ∈ L15 := by rw [e_L15]; exact List.mem_append_left _ hm_qr2
  have hf_qr2 : f16 qr2 = .inl (cy 2, 60, .inr (.inl (fun _ => 0))) := (congrFun e_f16 qr2).trans (z_up_ne ne_qr2_qsi hf_qr2)
  have hm_qr3 : qr3 ∈ L15 := by rw [e_L15]; exact List.mem_append_left _ hm_qr3
  have hf_qr3 : f16 qr3 = .inl (cy 2, 60, .inr (.inl (fun _ => 0))) := (congrFun e_f16 qr3).trans (z_up_ne ne_qr3_qsi hf_qr3)
  have hm_qwi : qwi ∈ L15 := by rw [e_L15]; exact List.mem_append_left _ hm_qwi
  have hf_qwi : f16 qwi = .inl (cy 1, 4, .inl (fun _ => 0)) := (congrFun e_f16 qwi).trans (z_up_ne ne_qwi_qsi hf_qwi)
  have hm_qsi : qsi ∈ L15 := by rw [e_L15]; exact List.mem_append_right _ (List.mem_singleton.mpr rfl)
  have hf_qsi : f16 qsi = .inl (cy 1, 4, .inl (fun _ => 0)) := (congrFun e_f16 qsi).trans z_up_self
  have hsub : ∀ b ∈ L, b ∈ L15 := fun b h => by rw [e_L15]; exact List.mem_append_left _ (hsub b h)
  have hfr : ∀ b ∈ L, b ≠ sl → f16 b = f b := fun b hb h0 => (congrFun e_f16 b).trans (z_up_ne (z_ne hb hn_qsi) (hfr b hb h0))
  refine z_putF (C := RX6) (T := TX6) (N := 3) (ci := 6) (v := .ref qsi) (fs' := [.ref qnu, .ref qwi, .ref qsi]) hx hb hT zin_X6 tyX6_ok nmX6 hown hK hw hm_sl hf_sl rfl 2 (by decide) (hT _ kw_324) rfl hnm rfl rfl rfl (Nat.le_of_ble_eq_true rfl) rfl dX6_init_26 (fun H locs hw => ?_)
  obtain ⟨f17, e_f17⟩ : ∃ z, z = va_up f16 sl (.inr (6, [.ref qnu, .ref qwi, .ref qsi])) := ⟨_, rfl⟩
  rw [← e_f17] at hw
  have hf_qnu : f17 qnu = .inl (cy 6, 4, .inr (.inr (.inr (.inr gn)))) := (congrFun e_f17 qnu).trans (z_up_ne (Ne.symm ne_sl_qnu) hf_qnu)
  have hf_qr0 : f17 qr0 = .inl (cy 2, 60, .inr (.inl (fun _ => 0))) := (congrFun e_f17 qr0).trans (z_up_ne (Ne.symm ne_sl_qr0) hf_qr0)
  have hf_qr1 : f17 qr1 = .inl (cy 2, 60, .inr (.inl (fun _ => 0))) := (congrFun e_f17 qr1).trans (z_up_ne (Ne.symm ne_sl_qr1) hf_qr1)
  have hf_qr2 : f17 qr2 = .inl (cy 2, 60, .inr (.inl (fun _ => 0))) := (congrFun e_f17 qr2).trans (z_up_ne (Ne.symm ne_sl_qr2) hf_qr2)
  have hf_qr3 : f17 qr3 = .inl (cy 2, 60, .inr (.inl (fun _ => 0))) := (congrFun e_f17 qr3).trans (z_up_ne (Ne.symm ne_sl_qr3) hf_qr3)
  have hf_qwi : f17 qwi = .inl (cy 1, 4, .inl (fun _ => 0)) := (congrFun e_f17 qwi).trans (z_up_ne (Ne.symm ne_sl_qwi) hf_qwi)
  have hf_qsi : f17 qsi = .inl (cy 1, 4, .inl (fun _ => 0)) := (congrFun e_f17 qsi).trans (z_up_ne (Ne.symm ne_sl_qsi) hf_qsi)
  have hf_sl : f17 sl = .inr (6, [.ref qnu, .ref qwi, .ref qsi]) := (congrFun e_f17 sl).trans z_up_self
  have hfr : ∀ b ∈ L, b ≠ sl → f17 b = f b := fun b hb h0 => (congrFun e_f17 b).trans (z_up_ne h0 (hfr b hb h0))
  refine lv_aload_n hx hb dX6_init_29 rfl (lv_at hl 0 rfl) ?_
  refine z_get (C := RX6) (T := TX6) (N := 3) (ci := 6) (v := .ref qsi) hx hb hT zin_X6 hown hK hw hm_sl hf_sl rfl 2 (by decide) (hT _ kw_324) rfl dX6_init_30 ?_
  refine lv_iconst (v := (-1)) hx hb dX6_init_33 (by decide) ?_
  have hz18 := (show ((-1) : Int32).toInt = (-1) by decide)
  refine z_callvS (cells := 7) (slots := 252) (As := [.ref qsi, .int (-1)]) (rest := []) ⟨hx, hb, hml, hown, hT⟩ (c_J7_fill_53178 l hm_qsi hf_qsi (by decide)) (va_cwS 2 hT (z_goodS (fun _ h => h) kw_316 kw_317 kw_91 kw_318) rfl rfl rfl (by decide +kernel) ⟨by decide, by decide⟩) z_mv hKK hw hA rfl hl.1 rfl (Nat.le_of_ble_eq_true rfl) dX6_init_34 ⟨by decide, by decide⟩ (fun u H locs hp hw => ?_)
  obtain ⟨L19, f20⟩ := u
  obtain ⟨hsb, hfm, gs9, ha_0, hp⟩ := hp
  have hsb : L15 = L19 := hsb
  subst hsb
  have hsb : ∀ b ∈ L15, b ∈ L15 := fun _ h => h
  have hw : z_H D vwCl (z_A L sz) s.heap L15 f20 H locs := hw
  have hfr : ∀ b ∈ L, b ≠ sl → f20 b = f b := fun b hb h0 => (hfm b (hsub b hb) (z_ne hb hn_qsi)).trans (hfr b hb h0)
  have hf_sl : f20 sl = .inr (6, [.ref qnu, .ref qwi, .ref qsi]) := (hfm sl hm_sl ne_sl_qsi).trans hf_sl
  have hf_qnu : f20 qnu = .inl (cy 6, 4, .inr (.inr (.inr (.inr gn)))) := (hfm qnu hm_qnu ne_qnu_qsi).trans hf_qnu
  have hf_qr0 : f20 qr0 = .inl (cy 2, 60, .inr (.inl (fun _ => 0))) := (hfm qr0 hm_qr0 ne_qr0_qsi).trans hf_qr0
  have hf_qr1 : f20 qr1 = .inl (cy 2, 60, .inr (.inl (fun _ => 0))) := (hfm qr1 hm_qr1 ne_qr1_qsi).trans hf_qr1
  have hf_qr2 : f20 qr2 = .inl (cy 2, 60, .inr (.inl (fun _ => 0))) := (hfm qr2 hm_qr2 ne_qr2_qsi).trans hf_qr2
  have hf_qr3 : f20 qr3 = .inl (cy 2, 60, .inr (.inl (fun _ => 0))) := (hfm qr3 hm_qr3 ne_qr3_qsi).trans hf_qr3
  have hf_qwi : f20 qwi = .inl (cy 1, 4, .inl (fun _ => 0)) := (hfm qwi hm_qwi ne_qwi_qsi).trans hf_qwi
  have hf_qsi : f20 qsi = .inl (cy 1, 4, .inl gs9) := ha_0
  have hfl := hp
  exact z_vret hx hb hr hlk (by decide) (by decide) hw (⟨hsub, hfr, qnu, qr0, qr1, qr2, qr3, qwi, qsi, gn, gs9, hf_sl, ⟨hn_qnu, hm_qnu, hf_qnu⟩, ⟨hn_qr0, hm_qr0, hf_qr0⟩, ⟨hn_qr1, hm_qr1, hf_qr1⟩, ⟨hn_qr2, hm_qr2, hf_qr2⟩, ⟨hn_qr3, hm_qr3, hf_qr3⟩, ⟨hn_qwi, hm_qwi, hf_qwi⟩, ⟨hn_qsi, hm_qsi, hf_qsi⟩, by show L15 = _; rw [e_L15, e_L12, e_L10, e_L8, e_L6, e_L4, e_L2]; (try simp only [List.append_assoc, List.cons_append, List.nil_append]), hg0, hg1, hg2, hg3, hfl⟩) dX6_init_37

set_option maxHeartbeats 2000000 in
set_option maxRecDepth 100000 in
theorem c_X8_init (l : Launch) {D : va_G} {cy : Nat → ClassId} {L : List Nat} {f : Nat → va_E} {sz : Nat} {adK adV : Nat → Nat} {wk : Nat} (hm_wk : wk ∈ L) (hf_wk : f wk = .inr (8, [.null, .int 0, .null, .null, .null, .int 0, .int 0, .int 0])) : Met l yX8_init (z_ws yX8_init cX8_init 1 none) (z_R 1 4 26) (va_Pc [.ref wk] (z_Pre D vwCl (z_KK D cy adK adV) L f sz)) (z_Qv D vwCl (fun u => (∀ b ∈ L, b ∈ u.1) ∧ (∀ b ∈ L, b ≠ wk → u.2 b = f b) ∧ (∃ (ks ct se ow : Nat), (u.2 wk = .inr (8, [.ref ks, .int 0, .ref ct, .ref se, .ref ow, .int 0, .int 0, .int 0])) ∧ (ks ∉ L ∧ ks ∈ u.1 ∧ u.2 ks = .inl (cy 1, 13, .inl (fun _ => 0))) ∧ (ct ∉ L ∧ ct ∈ u.1 ∧ u.2 ct = .inl (cy 1, 4, .inl (fun _ => 0))) ∧ (se ∉ L ∧ se ∈ u.1 ∧ u.2 se = .inl (cy 1, 4, .inl (fun _ => 0))) ∧ (ow ∉ L ∧ ow ∈ u.1 ∧ u.2 ow = .inl (cy 1, 5, .inl (fun _ => 0))) ∧ ((u.1 = L ++ [ks, ct, se, ow])))) L sz) 4 26 (z_A L sz) := by
  refine z_met (cc := cX8_init) (maxL := 1) (ret := none) (lv := [(0, .ref wk)]) (by decide) rfl (Nat.le_of_ble_eq_true rfl) rfl ?_
  intro p e s m below meth c ls hx hb hr hlk hml hown hnm hts hKK hA hw hl
  have hK := hKK.1.1
  have hown : s.vm.findClass RX8 = some m.cls := hown
  have hT : ∀ w ∈ lw_all, w.before ([.ref wk] : List Value).toArray s = true := fun w h => hts w (z_cons w h)
  have hsub : ∀ b ∈ L, b ∈ L := fun _ h => h
  have hfr : ∀ b ∈ L, b ≠ wk → f b = f b := fun _ _ _ => rfl
  refine lv_aload_n hx hb dX8_init_0 rfl (lv_at hl 0 rfl) ?_
  refine W.objInit hx hb hown (hT _ ko_RX8) (hT _ ko_i) (hT _ ko_c) rfl (by rw [hml]; exact hl.1) rfl dX8_init_1 (Nat.le_of_ble_eq_true rfl) (Nat.le_of_ble_eq_true rfl) ?_
  refine W.eq (g2 := F0 m 4 ls []) rfl ?_
  refine lv_aload_n hx hb dX8_init_4 rfl (lv_at hl 0 rfl) ?_
  refine lv_bipush (v := 13) hx hb dX8_init_5 (by decide) ?_
  refine z_newa (atype := .int) (n := 13) (N' := 13) (a0 := (13, .inl (fun _ => 0))) (cells := 0) (slots := 0) hx hb (hT _ kw_203) rfl 1 rfl (fun _ h => by cases h) hK hw hA (fun _ => rfl) (by decide) (by decide) (by decide) (by decide) (by decide) dX8_init_7 (fun qks H hq_qks hw => ?_)
  refine W.widen (k := 1) (n := 13) (by decide) (by decide) ?_
  have ne_wk_qks : wk ≠ qks := z_ne hm_wk hq_qks
  have hn_qks : qks ∉ L := fun h => hq_qks (hsub _ h)
  obtain ⟨f2, e_f2⟩ : ∃ z, z = va_up f qks (.inl (cy 1, 13, .inl (fun _ => 0))) := ⟨_, rfl⟩
  obtain ⟨L1, e_L1⟩ : ∃ z, z = L ++ [qks] := ⟨_, rfl⟩
  rw [← e_f2, ← e_L1] at hw
  have hm_wk : wk ∈ L1 := by rw [e_L1]; exact List.mem_append_left _ hm_wk
  have hf_wk : f2 wk = .inr (8, [.null, .int 0, .null, .null, .null, .int 0, .int 0, .int 0]) := (congrFun e_f2 wk).trans (z_up_ne ne_wk_qks hf_wk)
  have hm_qks : qks ∈ L1 := by rw [e_L1]; exact List.mem_append_right _ (List.mem_singleton.mpr rfl)
  have hf_qks : f2 qks = .inl (cy 1, 13, .inl (fun _ => 0)) := (congrFun e_f2 qks).trans z_up_self
  have hsub : ∀ b ∈ L, b ∈ L1 := fun b h => by rw [e_L1]; exact List.mem_append_left _ (hsub b h)
  have hfr : ∀ b ∈ L, b ≠ wk → f2 b = f b := fun b hb h0 => (congrFun e_f2 b).trans (z_up_ne (z_ne hb hn_qks) (hfr b hb h0))
  refine z_putF (C := RX8) (T := TX8) (N := 8) (ci := 8) (v := .ref qks) (fs' := [.ref qks, .int 0, .null, .null, .null, .int 0, .int 0, .int 0]) hx hb hT zin_X8 tyX8_ok nmX8 hown hK hw hm_wk hf_wk rfl 0 (by decide) (hT _ kw_342) rfl hnm rfl rfl rfl (Nat.le_of_ble_eq_true rfl) rfl dX8_init_9 (fun H locs hw => ?_)
  obtain ⟨f3, e_f3⟩ : ∃ z, z = va_up f2 wk (.inr (8, [.ref qks, .int 0, .null, .null, .null, .int 0, .int 0, .int 0])) := ⟨_, rfl⟩
  rw [← e_f3] at hw
  have hf_qks : f3 qks = .inl (cy 1, 13, .inl (fun _ => 0)) := (congrFun e_f3 qks).trans (z_up_ne (Ne.symm ne_wk_qks) hf_qks)
  have hf_wk : f3 wk = .inr (8, [.ref qks, .int 0, .null, .null, .null, .int 0, .int 0, .int 0]) := (congrFun e_f3 wk).trans z_up_self
  have hfr : ∀ b ∈ L, b ≠ wk → f3 b = f b := fun b hb h0 => (congrFun e_f3 b).trans (z_up_ne h0 (hfr b hb h0))
  refine lv_aload_n hx hb dX8_init_12 rfl (lv_at hl 0 rfl) ?_
  refine lv_iconst (v := 4) hx hb dX8_init_13 (by decide) ?_
  refine z_newa (atype := .int) (n := 4) (N' := 4) (a0 := (4, .inl (fun _ => 0))) (cells := 1) (slots := 13) hx hb (hT _ kw_203) rfl 1 rfl (fun _ h => by cases h) hK hw hA (fun _ => rfl) (by decide) (by decide) (by decide) (by decide) (by decide) dX8_init_14 (fun qct H hq_qct hw => ?_)
  refine W.widen (k := 2) (n := 17) (by decide) (by decide) ?_
  have ne_wk_qct : wk ≠ qct := z_ne hm_wk hq_qct
  have ne_qks_qct : qks ≠ qct := z_ne hm_qks hq_qct
  have hn_qct : qct ∉ L := fun h => hq_qct (hsub _ h)
  obtain ⟨f5, e_f5⟩ : ∃ z, z = va_up f3 qct (.inl (cy 1, 4, .inl (fun _ => 0))) := ⟨_, rfl⟩
  obtain ⟨L4, e_L4⟩ : ∃ z, z = L1 ++ [qct] := ⟨_, rfl⟩
  rw [← e_f5, ← e_L4] at hw
  have hm_wk : wk ∈ L4 := by rw [e_L4]; exact List.mem_append_left _ hm_wk
  have hf_wk : f5 wk = .inr (8, [.ref qks, .int 0, .null, .null, .null, .int 0, .int 0, .int 0]) := (congrFun e_f5 wk).trans (z_up_ne ne_wk_qct hf_wk)
  have hm_qks : qks ∈ L4 := by rw [e_L4]; exact List.mem_append_left _ hm_qks
  have hf_qks : f5 qks = .inl (cy 1, 13, .inl (fun _ => 0)) := (congrFun e_f5 qks).trans (z_up_ne ne_qks_qct hf_qks)
  have hm_qct : qct ∈ L4 := by rw [e_L4]; exact List.mem_append_right _ (List.mem_singleton.mpr rfl)
  have hf_qct : f5 qct = .inl (cy 1, 4, .inl (fun _ => 0)) := (congrFun e_f5 qct).trans z_up_self
  have hsub : ∀ b ∈ L, b ∈ L4 := fun b h => by rw [e_L4]; exact List.mem_append_left _ (hsub b h)
  have hfr : ∀ b ∈ L, b ≠ wk → f5 b = f b := fun b hb h0 => (congrFun e_f5 b).trans (z_up_ne (z_ne hb hn_qct) (hfr b hb h0))
  refine z_putF (C := RX8) (T := TX8) (N := 8) (ci := 8) (v := .ref qct) (fs' := [.ref qks, .int 0, .ref qct, .null, .null, .int 0, .int 0, .int 0]) hx hb hT zin_X8 tyX8_ok nmX8 hown hK hw hm_wk hf_wk rfl 2 (by decide) (hT _ kw_346) rfl hnm rfl rfl rfl (Nat.le_of_ble_eq_true rfl) rfl dX8_init_16 (fun H locs hw => ?_)
  obtain ⟨f6, e_f6⟩ : ∃ z, z = va_up f5 wk (.inr (8, [.ref qks, .int 0, .ref qct, .null, .null, .int 0, .int 0, .int 0])) := ⟨_, rfl⟩
  rw [← e_f6] at hw
  have hf_qks : f6 qks = .inl (cy 1, 13, .inl (fun _ => 0)) := (congrFun e_f6 qks).trans (z_up_ne (Ne.symm ne_wk_qks) hf_qks)
  have hf_qct : f6 qct = .inl (cy 1, 4, .inl (fun _ => 0)) := (congrFun e_f6 qct).trans (z_up_ne (Ne.symm ne_wk_qct) hf_qct)
  have hf_wk : f6 wk = .inr (8, [.ref qks, .int 0, .ref qct, .null, .null, .int 0, .int 0, .int 0]) := (congrFun e_f6 wk).trans z_up_self
  have hfr : ∀ b ∈ L, b ≠ wk → f6 b = f b := fun b hb h0 => (congrFun e_f6 b).trans (z_up_ne h0 (hfr b hb h0))
  refine lv_aload_n hx hb dX8_init_19 rfl (lv_at hl 0 rfl) ?_
  refine lv_iconst (v := 4) hx hb dX8_init_20 (by decide) ?_
  refine z_newa (atype := .int) (n := 4) (N' := 4) (a0 := (4, .inl (fun _ => 0))) (cells := 2) (slots := 17) hx hb (hT _ kw_203) rfl 1 rfl (fun _ h => by cases h) hK hw hA (fun _ => rfl) (by decide) (by decide) (by decide) (by decide) (by decide) dX8_init_21 (fun qse H hq_qse hw => ?_)
  refine W.widen (k := 3) (n := 21) (by decide) (by decide) ?_
  have ne_wk_qse : wk ≠ qse := z_ne hm_wk hq_qse
  have ne_qks_qse : qks ≠ qse := z_ne hm_qks hq_qse
  have ne_qct_qse : qct ≠ qse := z_ne hm_qct hq_qse
  have hn_qse : qse ∉ L := fun h => hq_qse (hsub _ h)
  obtain ⟨f8, e_f8⟩ : ∃ z, z = va_up f6 qse (.inl (cy 1, 4, .inl (fun _ => 0))) := ⟨_, rfl⟩
  obtain ⟨L7, e_L7⟩ : ∃ z, z = L4 ++ [qse] := ⟨_, rfl⟩
  rw [← e_f8, ← e_L7] at hw
  have hm_wk : wk ∈ L7 := by rw [e_L7]; exact List.mem_append_left _ hm_wk
  have hf_wk : f8 wk = .inr (8, [.ref qks, .int 0, .ref qct, .null, .null, .int 0, .int 0, .int 0]) := (congrFun e_f8 wk).trans (z_up_ne ne_wk_qse hf_wk)
  have hm_qks : qks ∈ L7 := by rw [e_L7]; exact List.mem_append_left _ hm_qks
  have hf_qks : f8 qks = .inl (cy 1, 13, .inl (fun _ => 0)) := (congrFun e_f8 qks).trans (z_up_ne ne_qks_qse hf_qks)
  have hm_qct : qct ∈ L7 := by rw [e_L7]; exact List.mem_append_left _ hm_qct
  have hf_qct : f8 qct = .inl (cy 1, 4, .inl (fun _ => 0)) := (congrFun e_f8 qct).trans (z_up_ne ne_qct_qse hf_qct)
  have hm_qse : qse ∈ L7 := by rw [e_L7]; exact List.mem_append_right _ (List.mem_singleton.mpr rfl)
  have hf_qse : f8 qse = .inl (cy 1, 4, .inl (fun _ => 0)) := (congrFun e_f8 qse).trans z_up_self
  have hsub : ∀ b ∈ L, b ∈ L7 := fun b h => by rw [e_L7]; exact List.mem_append_left _ (hsub b h)
  have hfr : ∀ b ∈ L, b ≠ wk → f8 b = f b := fun b hb h0 => (congrFun e_f8 b).trans (z_up_ne (z_ne hb hn_qse) (hfr b hb h0))
  refine z_putF (C := RX8) (T := TX8) (N := 8) (ci := 8) (v := .ref qse) (fs' := [.ref qks, .int 0, .ref qct, .ref qse, .null, .int 0, .int 0, .int 0]) hx hb hT zin_X8 tyX8_ok nmX8 hown hK hw hm_wk hf_wk rfl 3 (by decide) (hT _ kw_349) rfl hnm rfl rfl rfl (Nat.le_of_ble_eq_true rfl) rfl dX8_init_23 (fun H locs hw => ?_)
  obtain ⟨f9, e_f9⟩ : ∃ z, z = va_up f8 wk (.inr (8, [.ref qks, .int 0, .ref qct, .ref qse, .null, .int 0, .int 0, .int 0])) := ⟨_, rfl⟩
  rw [← e_f9] at hw
  have hf_qks : f9 qks = .inl (cy 1, 13, .inl (fun _ => 0)) := (congrFun e_f9 qks).trans (z_up_ne (Ne.symm ne_wk_qks) hf_qks)
  have hf_qct : f9 qct = .inl (cy 1, 4, .inl (fun _ => 0)) := (congrFun e_f9 qct).trans (z_up_ne (Ne.symm ne_wk_qct) hf_qct)
  have hf_qse : f9 qse = .inl (cy 1, 4, .inl (fun _ => 0)) := (congrFun e_f9 qse).trans (z_up_ne (Ne.symm ne_wk_qse) hf_qse)
  have hf_wk : f9 wk = .inr (8, [.ref qks, .int 0, .ref qct, .ref qse, .null, .int 0, .int 0, .int 0]) := (congrFun e_f9 wk).trans z_up_self
  have hfr : ∀ b ∈ L, b ≠ wk → f9 b = f b := fun b hb h0 => (congrFun e_f9 b).trans (z_up_ne h0 (hfr b hb h0))
  refine lv_aload_n hx hb dX8_init_26 rfl (lv_at hl 0 rfl) ?_
  refine lv_iconst (v := 5) hx hb dX8_init_27 (by decide) ?_
  refine z_newa (atype := .int) (n := 5) (N' := 5) (a0 := (5, .inl (fun _ => 0))) (cells := 3) (slots := 21) hx hb (hT _ kw_203) rfl 1 rfl (fun _ h => by cases h) hK hw hA (fun _ => rfl) (by decide) (by decide) (by decide) (by decide) (by decide) dX8_init_28 (fun qow H hq_qow hw => ?_)
  refine W.widen (k := 4) (n := 26) (by decide) (by decide) ?_
  have ne_wk_qow : wk ≠ qow := z_ne hm_wk hq_qow
  have ne_qks_qow : qks ≠ qow := z_ne hm_qks hq_qow
  have ne_qct_qow : qct ≠ qow := z_ne hm_qct hq_qow
  have ne_qse_qow : qse ≠ qow := z_ne hm_qse hq_qow
  have hn_qow : qow ∉ L := fun h => hq_qow (hsub _ h)
  obtain ⟨f11, e_f11⟩ : ∃ z, z = va_up f9 qow (.inl (cy 1, 5, .inl (fun _ => 0))) := ⟨_, rfl⟩
  obtain ⟨L10, e_L10⟩ : ∃ z, z = L7 ++ [qow] := ⟨_, rfl⟩
  rw [← e_f11, ← e_L10] at hw
  have hm_wk : wk ∈ L10 := by rw [e_L10]; exact List.mem_append_left _ hm_wk
  have hf_wk : f11 wk = .inr (8, [.ref qks, .int 0, .ref qct, .ref qse, .null, .int 0, .int 0, .int 0]) := (congrFun e_f11 wk).trans (z_up_ne ne_wk_qow hf_wk)
  have hm_qks : qks ∈ L10 := by rw [e_L10]; exact List.mem_append_left _ hm_qks
  have hf_qks : f11 qks = .inl (cy 1, 13, .inl (fun _ => 0)) := (congrFun e_f11 qks).trans (z_up_ne ne_qks_qow hf_qks)
  have hm_qct : qct ∈ L10 := by rw [e_L10]; exact List.mem_append_left _ hm_qct
  have hf_qct : f11 qct = .inl (cy 1, 4, .inl (fun _ => 0)) := (congrFun e_f11 qct).trans (z_up_ne ne_qct_qow hf_qct)
  have hm_qse : qse ∈ L10 := by rw [e_L10]; exact List.mem_append_left _ hm_qse
  have hf_qse : f11 qse = .inl (cy 1, 4, .inl (fun _ => 0)) := (congrFun e_f11 qse).trans (z_up_ne ne_qse_qow hf_qse)
  have hm_qow : qow ∈ L10 := by rw [e_L10]; exact List.mem_append_right _ (List.mem_singleton.mpr rfl)
  have hf_qow : f11 qow = .inl (cy 1, 5, .inl (fun _ => 0)) := (congrFun e_f11 qow).trans z_up_self
  have hsub : ∀ b ∈ L, b ∈ L10 := fun b h => by rw [e_L10]; exact List.mem_append_left _ (hsub b h)
  have hfr : ∀ b ∈ L, b ≠ wk → f11 b = f b := fun b hb h0 => (congrFun e_f11 b).trans (z_up_ne (z_ne hb hn_qow) (hfr b hb h0))
  refine z_putF (C := RX8) (T := TX8) (N := 8) (ci := 8) (v := .ref qow) (fs' := [.ref qks, .int 0, .ref qct, .ref qse, .ref qow, .int 0, .int 0, .int 0]) hx hb hT zin_X8 tyX8_ok nmX8 hown hK hw hm_wk hf_wk rfl 4 (by decide) (hT _ kw_351) rfl hnm rfl rfl rfl (Nat.le_of_ble_eq_true rfl) rfl dX8_init_30 (fun H locs hw => ?_)
  obtain ⟨f12, e_f12⟩ : ∃ z, z = va_up f11 wk (.inr (8, [.ref qks, .int 0, .ref qct, .ref qse, .ref qow, .int 0, .int 0, .int 0])) := ⟨_, rfl⟩
  rw [← e_f12] at hw
  have hf_qks : f12 qks = .inl (cy 1, 13, .inl (fun _ => 0)) := (congrFun e_f12 qks).trans (z_up_ne (Ne.symm ne_wk_qks) hf_qks)
  have hf_qct : f12 qct = .inl (cy 1, 4, .inl (fun _ => 0)) := (congrFun e_f12 qct).trans (z_up_ne (Ne.symm ne_wk_qct) hf_qct)
  have hf_qse : f12 qse = .inl (cy 1, 4, .inl (fun _ => 0)) := (congrFun e_f12 qse).trans (z_up_ne (Ne.symm ne_wk_qse) hf_qse)
  have hf_qow : f12 qow = .inl (cy 1, 5, .inl (fun _ => 0)) := (congrFun e_f12 qow).trans (z_up_ne (Ne.symm ne_wk_qow) hf_qow)
  have hf_wk : f12 wk = .inr (8, [.ref qks, .int 0, .ref qct, .ref qse, .ref qow, .int 0, .int 0, .int 0]) := (congrFun e_f12 wk).trans z_up_self
  have hfr : ∀ b ∈ L, b ≠ wk → f12 b = f b := fun b hb h0 => (congrFun e_f12 b).trans (z_up_ne h0 (hfr b hb h0))
  exact z_vret hx hb hr hlk (by decide) (by decide) hw (⟨hsub, hfr, qks, qct, qse, qow, hf_wk, ⟨hn_qks, hm_qks, hf_qks⟩, ⟨hn_qct, hm_qct, hf_qct⟩, ⟨hn_qse, hm_qse, hf_qse⟩, ⟨hn_qow, hm_qow, hf_qow⟩, by show L10 = _; rw [e_L10, e_L7, e_L4, e_L1]; (try simp only [List.append_assoc, List.cons_append, List.nil_append])⟩) dX8_init_33

set_option maxHeartbeats 2000000 in
set_option maxRecDepth 100000 in
theorem c_X4_init (l : Launch) {D : va_G} {cy : Nat → ClassId} {L : List Nat} {f : Nat → va_E} {sz : Nat} {adK adV : Nat → Nat} {pl wk : Nat} (hm_pl : pl ∈ L) (hf_pl : f pl = .inr (4, [.null, .null, .null, .int 0, .int 0, .int 0, .int 0, .int 0, .int 0, .int 0, .int 0, .int 0])) : Met l yX4_init (z_ws yX4_init cX4_init 2 none) (z_R 3 19 389) (va_Pc [.ref pl, .ref wk] (z_Pre D vwCl (z_KK D cy adK adV) L f sz)) (z_Qv D vwCl (fun u => (∀ b ∈ L, b ∈ u.1) ∧ (∀ b ∈ L, b ≠ pl → u.2 b = f b) ∧ (∃ (mo la sa mi da d0 d1 d2 d3 d4 d5 d6 d7 d8 d9 d10 d11 d12 ot : Nat) (gd : Nat → Option Nat), (u.2 pl = .inr (4, [.ref mo, .ref wk, .ref ot, .int 0, .int 0, .int 0, .int 0, .int 0, .int 0, .int 0, .int 0, .int 0])) ∧ (mo ∉ L ∧ mo ∈ u.1 ∧ u.2 mo = .inr (2, [.int 0, .int 0, .int 0, .int 0, .int 0, .int 0, .int 0, .ref la, .ref sa, .ref mi, .ref da])) ∧ (la ∉ L ∧ la ∈ u.1 ∧ u.2 la = .inl (cy 1, 5, .inl (fun _ => 0))) ∧ (sa ∉ L ∧ sa ∈ u.1 ∧ u.2 sa = .inl (cy 1, 4, .inl (fun _ => 0))) ∧ (mi ∉ L ∧ mi ∈ u.1 ∧ u.2 mi = .inl (cy 1, 36, .inl (fun _ => 0))) ∧ (da ∉ L ∧ da ∈ u.1 ∧ u.2 da = .inl (cy 4, 13, .inr (.inr (.inr (.inr gd))))) ∧ (d0 ∉ L ∧ d0 ∈ u.1 ∧ u.2 d0 = .inr (0, [.int 0, .int 0, .int 0, .int 0, .int 0, .int 0, .int 0, .int 0])) ∧ (d1 ∉ L ∧ d1 ∈ u.1 ∧ u.2 d1 = .inr (0, [.int 0, .int 0, .int 0, .int 0, .int 0, .int 0, .int 0, .int 0])) ∧ (d2 ∉ L ∧ d2 ∈ u.1 ∧ u.2 d2 = .inr (0, [.int 0, .int 0, .int 0, .int 0, .int 0, .int 0, .int 0, .int 0])) ∧ (d3 ∉ L ∧ d3 ∈ u.1 ∧ u.2 d3 = .inr (0, [.int 0, .int 0, .int 0, .int 0, .int 0, .int 0, .int 0, .int 0])) ∧ (d4 ∉ L ∧ d4 ∈ u.1 ∧ u.2 d4 = .inr (0, [.int 0, .int 0, .int 0, .int 0, .int 0, .int 0, .int 0, .int 0])) ∧ (d5 ∉ L ∧ d5 ∈ u.1 ∧ u.2 d5 = .inr (0, [.int 0, .int 0, .int 0, .int 0, .int 0, .int 0, .int 0, .int 0])) ∧ (d6 ∉ L ∧ d6 ∈ u.1 ∧ u.2 d6 = .inr (0, [.int 0, .int 0, .int 0, .int 0, .int 0, .int 0, .int 0, .int 0])) ∧ (d7 ∉ L ∧ d7 ∈ u.1 ∧ u.2 d7 = .inr (0, [.int 0, .int 0, .int 0, .int 0, .int 0, .int 0, .int 0, .int 0])) ∧ (d8 ∉ L ∧ d8 ∈ u.1 ∧ u.2 d8 = .inr (0, [.int 0, .int 0, .int 0, .int 0, .int 0, .int 0, .int 0, .int 0])) ∧ (d9 ∉ L ∧ d9 ∈ u.1 ∧ u.2 d9 = .inr (0, [.int 0, .int 0, .int 0, .int 0, .int 0, .int 0, .int 0, .int 0])) ∧ (d10 ∉ L ∧ d10 ∈ u.1 ∧ u.2 d10 = .inr (0, [.int 0, .int 0, .int 0, .int 0, .int 0, .int 0, .int 0, .int 0])) ∧ (d11 ∉ L ∧ d11 ∈ u.1 ∧ u.2 d11 = .inr (0, [.int 0, .int 0, .int 0, .int 0, .int 0, .int 0, .int 0, .int 0])) ∧ (d12 ∉ L ∧ d12 ∈ u.1 ∧ u.2 d12 = .inr (0, [.int 0, .int 0, .int 0, .int 0, .int 0, .int 0, .int 0, .int 0])) ∧ (ot ∉ L ∧ ot ∈ u.1 ∧ u.2 ot = .inl (cy 1, 216, .inl (fun _ => 0))) ∧ ((u.1 = L ++ [mo, la, sa, mi, da, d0, d1, d2, d3, d4, d5, d6, d7, d8, d9, d10, d11, d12, ot]) ∧ (gd 0 = some d0) ∧ (gd 1 = some d1) ∧ (gd 2 = some d2) ∧ (gd 3 = some d3) ∧ (gd 4 = some d4) ∧ (gd 5 = some d5) ∧ (gd 6 = some d6) ∧ (gd 7 = some d7) ∧ (gd 8 = some d8) ∧ (gd 9 = some d9) ∧ (gd 10 = some d10) ∧ (gd 11 = some d11) ∧ (gd 12 = some d12)))) L sz) 19 389 (z_A L sz) := by
  refine z_met (cc := cX4_init) (maxL := 2) (ret := none) (lv := [(0, .ref pl), (1, .ref wk)]) (by decide) rfl (Nat.le_of_ble_eq_true rfl) rfl ?_
  intro p e s m below meth c ls hx hb hr hlk hml hown hnm hts hKK hA hw hl
  have hK := hKK.1.1
  have hown : s.vm.findClass RX4 = some m.cls := hown
  have hT : ∀ w ∈ lw_all, w.before ([.ref pl, .ref wk] : List Value).toArray s = true := fun w h => hts w (z_cons w h)
  have hsub : ∀ b ∈ L, b ∈ L := fun _ h => h
  have hfr : ∀ b ∈ L, b ≠ pl → f b = f b := fun _ _ _ => rfl
  refine lv_aload_n hx hb dX4_init_0 rfl (lv_at hl 0 rfl) ?_
  refine W.objInit hx hb hown (hT _ ko_RX4) (hT _ ko_i) (hT _ ko_c) rfl (by rw [hml]; exact hl.1) rfl dX4_init_1 (Nat.le_of_ble_eq_true rfl) (Nat.le_of_ble_eq_true rfl) ?_
  refine W.eq (g2 := F0 m 4 ls []) rfl ?_
  refine lv_aload_n hx hb dX4_init_4 rfl (lv_at hl 0 rfl) ?_
  refine z_new (C := RX2) (T := TX2) (N := 11) (ci := 2) (fs := [.int 0, .int 0, .int 0, .int 0, .int 0, .int 0, .int 0, .null, .null, .null, .null]) (cells := 0) (slots := 0) hx hb hT zin_X2 tyX2_ok hown (hT _ kw_382) (hT _ kw_129) (hT _ kw_87) hK hw hA rfl (fun j hj => by rcases (show j = 0 ∨ j = 1 ∨ j = 2 ∨ j = 3 ∨ j = 4 ∨ j = 5 ∨ j = 6 ∨ j = 7 ∨ j = 8 ∨ j = 9 ∨ j = 10 by omega) with rfl | rfl | rfl | rfl | rfl | rfl | rfl | rfl | rfl | rfl | rfl <;> rfl) (by decide) (by decide) dX4_init_5 (fun qmo H hq_qmo hw => ?_)
  refine W.widen (k := 1) (n := 11) (by decide) (by decide) ?_
  have ne_pl_qmo : pl ≠ qmo := z_ne hm_pl hq_qmo
  have hn_qmo : qmo ∉ L := fun h => hq_qmo (hsub _ h)
  obtain ⟨f2, e_f2⟩ : ∃ z, z = va_up f qmo (.inr (2, [.int 0, .int 0, .int 0, .int 0, .int 0, .int 0, .int 0, .null, .null, .null, .null])) := ⟨_, rfl⟩
  obtain ⟨L1, e_L1⟩ : ∃ z, z = L ++ [qmo] := ⟨_, rfl⟩
  rw [← e_f2, ← e_L1] at hw
  have hm_pl : pl ∈ L1 := by rw [e_L1]; exact List.mem_append_left _ hm_pl
  have hf_pl : f2 pl = .inr (4, [.null, .null, .null, .int 0, .int 0, .int 0, .int 0, .int 0, .int 0, .int 0, .int 0, .int 0]) := (congrFun e_f2 pl).trans (z_up_ne ne_pl_qmo hf_pl)
  have hm_qmo : qmo ∈ L1 := by rw [e_L1]; exact List.mem_append_right _ (List.mem_singleton.mpr rfl)
  have hf_qmo : f2 qmo = .inr (2, [.int 0, .int 0, .int 0, .int 0, .int 0, .int 0, .int 0, .null, .null, .null, .null]) := (congrFun e_f2 qmo).trans z_up_self
  have hsub : ∀ b ∈ L, b ∈ L1 := fun b h => by rw [e_L1]; exact List.mem_append_left _ (hsub b h)
  have hfr : ∀ b ∈ L, b ≠ pl → f2 b = f b := fun b hb h0 => (congrFun e_f2 b).trans (z_up_ne (z_ne hb hn_qmo) (hfr b hb h0))
  refine lv_dup hx hb dX4_init_8 rfl ?_
  refine z_callvI (cells := 1) (slots := 11) (b := qmo) (As := []) (rest := [.ref qmo, .ref pl]) ⟨hx, hb, hml, hown, hT⟩ (c_X2_init l hm_qmo hf_qmo) (cwI 0 hT (z_goodI (fun _ h => h) kw_132) rfl rfl rfl (hT _ kw_87) (hT _ kw_383) (hT _ kw_131) rfl (by decide +kernel) ⟨by decide, by decide⟩) z_mv hKK hw hA rfl hl.1 rfl (Nat.le_of_ble_eq_true rfl) dX4_init_9 ⟨by decide, by decide⟩ (fun u H locs hp hw => ?_)
  refine W.widen (k := 18) (n := 173) (by decide) (by decide) ?_
  obtain ⟨L3, f4⟩ := u
  obtain ⟨hsb, hfm, qla, qsa, qmi, qda, qd0, qd1, qd2, qd3, qd4, qd5, qd6, qd7, qd8, qd9, qd10, qd11, qd12, qgd, ha_0, ⟨hq_qla, hm_qla, hf_qla⟩, ⟨hq_qsa, hm_qsa, hf_qsa⟩, ⟨hq_qmi, hm_qmi, hf_qmi⟩, ⟨hq_qda, hm_qda, hf_qda⟩, ⟨hq_qd0, hm_qd0, hf_qd0⟩, ⟨hq_qd1, hm_qd1, hf_qd1⟩, ⟨hq_qd2, hm_qd2, hf_qd2⟩, ⟨hq_qd3, hm_qd3, hf_qd3⟩, ⟨hq_qd4, hm_qd4, hf_qd4⟩, ⟨hq_qd5, hm_qd5, hf_qd5⟩, ⟨hq_qd6, hm_qd6, hf_qd6⟩, ⟨hq_qd7, hm_qd7, hf_qd7⟩, ⟨hq_qd8, hm_qd8, hf_qd8⟩, ⟨hq_qd9, hm_qd9, hf_qd9⟩, ⟨hq_qd10, hm_qd10, hf_qd10⟩, ⟨hq_qd11, hm_qd11, hf_qd11⟩, ⟨hq_qd12, hm_qd12, hf_qd12⟩, hp⟩ := hp
  have hw : z_H D vwCl (z_A L sz) s.heap L3 f4 H locs := hw
  have ne_pl_qla : pl ≠ qla := z_ne hm_pl hq_qla
  have ne_qmo_qla : qmo ≠ qla := z_ne hm_qmo hq_qla
  have ne_pl_qsa : pl ≠ qsa := z_ne hm_pl hq_qsa
  have ne_qmo_qsa : qmo ≠ qsa := z_ne hm_qmo hq_qsa
  have ne_pl_qmi : pl ≠ qmi := z_ne hm_pl hq_qmi
  have ne_qmo_qmi : qmo ≠ qmi := z_ne hm_qmo hq_qmi
  have ne_pl_qda : pl ≠ qda := z_ne hm_pl hq_qda
  have ne_qmo_qda : qmo ≠ qda := z_ne hm_qmo hq_qda
  have ne_pl_qd0 : pl ≠ qd0 := z_ne hm_pl hq_qd0
  have ne_qmo_qd0 : qmo ≠ qd0 := z_ne hm_qmo hq_qd0
  have ne_pl_qd1 : pl ≠ qd1 := z_ne hm_pl hq_qd1
  have ne_qmo_qd1 : qmo ≠ qd1 := z_ne hm_qmo hq_qd1
  have ne_pl_qd2 : pl ≠ qd2 := z_ne hm_pl hq_qd2
  have ne_qmo_qd2 : qmo ≠ qd2 := z_ne hm_qmo hq_qd2
  have ne_pl_qd3 : pl ≠ qd3 := z_ne hm_pl hq_qd3
  have ne_qmo_qd3 : qmo ≠ qd3 := z_ne hm_qmo hq_qd3
  have ne_pl_qd4 : pl ≠ qd4 := z_ne hm_pl hq_qd4
  have ne_qmo_qd4 : qmo ≠ qd4 := z_ne hm_qmo hq_qd4
  have ne_pl_qd5 : pl ≠ qd5 := z_ne hm_pl hq_qd5
  have ne_qmo_qd5 : qmo ≠ qd5 := z_ne hm_qmo hq_qd5
  have ne_pl_qd6 : pl ≠ qd6 := z_ne hm_pl hq_qd6
  have ne_qmo_qd6 : qmo ≠ qd6 := z_ne hm_qmo hq_qd6
  have ne_pl_qd7 : pl ≠ qd7 := z_ne hm_pl hq_qd7
  have ne_qmo_qd7 : qmo ≠ qd7 := z_ne hm_qmo hq_qd7
  have ne_pl_qd8 : pl ≠ qd8 := z_ne hm_pl hq_qd8
  have ne_qmo_qd8 : qmo ≠ qd8 := z_ne hm_qmo hq_qd8
  have ne_pl_qd9 : pl ≠ qd9 := z_ne hm_pl hq_qd9
  have ne_qmo_qd9 : qmo ≠ qd9 := z_ne hm_qmo hq_qd9
  have ne_pl_qd10 : pl ≠ qd10 := z_ne hm_pl hq_qd10
  have ne_qmo_qd10 : qmo ≠ qd10 := z_ne hm_qmo hq_qd10
  have ne_pl_qd11 : pl ≠ qd11 := z_ne hm_pl hq_qd11
  have ne_qmo_qd11 : qmo ≠ qd11 := z_ne hm_qmo hq_qd11
  have ne_pl_qd12 : pl ≠ qd12 := z_ne hm_pl hq_qd12
  have ne_qmo_qd12 : qmo ≠ qd12 := z_ne hm_qmo hq_qd12
  have hfr : ∀ b ∈ L, b ≠ pl → f4 b = f b := fun b hb h0 => (hfm b (hsub b hb) (z_ne hb hn_qmo)).trans (hfr b hb h0)
  have hn_qla : qla ∉ L := fun h => hq_qla (hsub _ h)
  have hn_qsa : qsa ∉ L := fun h => hq_qsa (hsub _ h)
  have hn_qmi : qmi ∉ L := fun h => hq_qmi (hsub _ h)
  have hn_qda : qda ∉ L := fun h => hq_qda (hsub _ h)
  have hn_qd0 : qd0 ∉ L := fun h => hq_qd0 (hsub _ h)
  have hn_qd1 : qd1 ∉ L := fun h => hq_qd1 (hsub _ h)
  have hn_qd2 : qd2 ∉ L := fun h => hq_qd2 (hsub _ h)
  have hn_qd3 : qd3 ∉ L := fun h => hq_qd3 (hsub _ h)
  have hn_qd4 : qd4 ∉ L := fun h => hq_qd4 (hsub _ h)
  have hn_qd5 : qd5 ∉ L := fun h => hq_qd5 (hsub _ h)
  have hn_qd6 : qd6 ∉ L := fun h => hq_qd6 (hsub _ h)
  have hn_qd7 : qd7 ∉ L := fun h => hq_qd7 (hsub _ h)
  have hn_qd8 : qd8 ∉ L := fun h => hq_qd8 (hsub _ h)
  have hn_qd9 : qd9 ∉ L := fun h => hq_qd9 (hsub _ h)
  have hn_qd10 : qd10 ∉ L := fun h => hq_qd10 (hsub _ h)
  have hn_qd11 : qd11 ∉ L := fun h => hq_qd11 (hsub _ h)
  have hn_qd12 : qd12 ∉ L := fun h => hq_qd12 (hsub _ h)
  have hsub : ∀ b ∈ L, b ∈ L3 := fun b h => hsb b (hsub b h)
  have hf_pl : f4 pl = .inr (4, [.null, .null, .null, .int 0, .int 0, .int 0, .int 0, .int 0, .int 0, .int 0, .int 0, .int 0]) := (hfm pl hm_pl ne_pl_qmo).trans hf_pl
  have hm_pl : pl ∈ L3 := hsb _ hm_pl
  have hm_qmo : qmo ∈ L3 := hsb _ hm_qmo
  have hf_qmo : f4 qmo = .inr (2, [.int 0, .int 0, .int 0, .int 0, .int 0, .int 0, .int 0, .ref qla, .ref qsa, .ref qmi, .ref qda]) := ha_0
  have hf_qla : f4 qla = .inl (cy 1, 5, .inl (fun _ => 0)) := hf_qla
  have hm_qla : qla ∈ L3 := hm_qla
  have hf_qsa : f4 qsa = .inl (cy 1, 4, .inl (fun _ => 0)) := hf_qsa
  have hm_qsa : qsa ∈ L3 := hm_qsa
  have hf_qmi : f4 qmi = .inl (cy 1, 36, .inl (fun _ => 0)) := hf_qmi
  have hm_qmi : qmi ∈ L3 := hm_qmi
  have hf_qda : f4 qda = .inl (cy 4, 13, .inr (.inr (.inr (.inr qgd)))) := hf_qda
  have hm_qda : qda ∈ L3 := hm_qda
  have hf_qd0 : f4 qd0 = .inr (0, [.int 0, .int 0, .int 0, .int 0, .int 0, .int 0, .int 0, .int 0]) := hf_qd0
  have hm_qd0 : qd0 ∈ L3 := hm_qd0
  have hf_qd1 : f4 qd1 = .inr (0, [.int 0, .int 0, .int 0, .int 0, .int 0, .int 0, .int 0, .int 0]) := hf_qd1
  have hm_qd1 : qd1 ∈ L3 := hm_qd1
  have hf_qd2 : f4 qd2 = .inr (0, [.int 0, .int 0, .int 0, .int 0, .int 0, .int 0, .int 0, .int 0]) := hf_qd2
  have hm_qd2 : qd2 ∈ L3 := hm_qd2
  have hf_qd3 : f4 qd3 = .inr (0, [.int 0, .int 0, .int 0, .int 0, .int 0, .int 0, .int 0, .int 0]) := hf_qd3
  have hm_qd3 : qd3 ∈ L3 := hm_qd3
  have hf_qd4 : f4 qd4 = .inr (0, [.int 0, .int 0, .int 0, .int 0, .int 0, .int 0, .int 0, .int 0]) := hf_qd4
  have hm_qd4 : qd4 ∈ L3 := hm_qd4
  have hf_qd5 : f4 qd5 = .inr (0, [.int 0, .int 0, .int 0, .int 0, .int 0, .int 0, .int 0, .int 0]) := hf_qd5
  have hm_qd5 : qd5 ∈ L3 := hm_qd5
  have hf_qd6 : f4 qd6 = .inr (0, [.int 0, .int 0, .int 0, .int 0, .int 0, .int 0, .int 0, .int 0]) := hf_qd6
  have hm_qd6 : qd6 ∈ L3 := hm_qd6
  have hf_qd7 : f4 qd7 = .inr (0, [.int 0, .int 0, .int 0, .int 0, .int 0, .int 0, .int 0, .int 0]) := hf_qd7
  have hm_qd7 : qd7 ∈ L3 := hm_qd7
  have hf_qd8 : f4 qd8 = .inr (0, [.int 0, .int 0, .int 0, .int 0, .int 0, .int 0, .int 0, .int 0]) := hf_qd8
  have hm_qd8 : qd8 ∈ L3 := hm_qd8
  have hf_qd9 : f4 qd9 = .inr (0, [.int 0, .int 0, .int 0, .int 0, .int 0, .int 0, .int 0, .int 0]) := hf_qd9
  have hm_qd9 : qd9 ∈ L3 := hm_qd9
  have hf_qd10 : f4 qd10 = .inr (0, [.int 0, .int 0, .int 0, .int 0, .int 0, .int 0, .int 0, .int 0]) := hf_qd10
  have hm_qd10 : qd10 ∈ L3 := hm_qd10
  have hf_qd11 : f4 qd11 = .inr (0, [.int 0, .int 0, .int 0, .int 0, .int 0, .int 0, .int 0, .int 0]) := hf_qd11
  have hm_qd11 : qd11 ∈ L3 := hm_qd11
  have hf_qd12 : f4 qd12 = .inr (0, [.int 0, .int 0, .int 0, .int 0, .int 0, .int 0, .int 0, .int 0]) := hf_qd12
  have hm_qd12 : qd12 ∈ L3 := hm_qd12
  have hgdP := hp
  have e_L3 : L3 = L1 ++ [qla, qsa, qmi, qda, qd0, qd1, qd2, qd3, qd4, qd5, qd6, qd7, qd8, qd9, qd10, qd11, qd12] := hp.1
  refine z_putF (C := RX4) (T := TX4) (N := 12) (ci := 4) (v := .ref qmo) (fs' := [.ref qmo, .null, .null, .int 0, .int 0, .int 0, .int 0, .int 0, .int 0, .int 0, .int 0, .int 0]) hx hb hT zin_X4 tyX4_ok nmX4 hown hK hw hm_pl hf_pl rfl 0 (by decide) (hT _ kw_384) rfl hnm rfl rfl rfl (Nat.le_of_ble_eq_true rfl) rfl dX4_init_12 (fun H locs hw => ?_)
  obtain ⟨f5, e_f5⟩ : ∃ z, z = va_up f4 pl (.inr (4, [.ref qmo, .null, .null, .int 0, .int 0, .int 0, .int 0, .int 0, .int 0, .int 0, .int 0, .int 0])) := ⟨_, rfl⟩
  rw [← e_f5] at hw
  have hf_qmo : f5 qmo = .inr (2, [.int 0, .int 0, .int 0, .int 0, .int 0, .int 0, .int 0, .ref qla, .ref qsa, .ref qmi, .ref qda]) := (congrFun e_f5 qmo).trans (z_up_ne (Ne.symm ne_pl_qmo) hf_qmo)
  have hf_qla : f5 qla = .inl (cy 1, 5, .inl (fun _ => 0)) := (congrFun e_f5 qla).trans (z_up_ne (Ne.symm ne_pl_qla) hf_qla)
  have hf_qsa : f5 qsa = .inl (cy 1, 4, .inl (fun _ => 0)) := (congrFun e_f5 qsa).trans (z_up_ne (Ne.symm ne_pl_qsa) hf_qsa)
  have hf_qmi : f5 qmi = .inl (cy 1, 36, .inl (fun _ => 0)) := (congrFun e_f5 qmi).trans (z_up_ne (Ne.symm ne_pl_qmi) hf_qmi)
  have hf_qda : f5 qda = .inl (cy 4, 13, .inr (.inr (.inr (.inr qgd)))) := (congrFun e_f5 qda).trans (z_up_ne (Ne.symm ne_pl_qda) hf_qda)
  have hf_qd0 : f5 qd0 = .inr (0, [.int 0, .int 0, .int 0, .int 0, .int 0, .int 0, .int 0, .int 0]) := (congrFun e_f5 qd0).trans (z_up_ne (Ne.symm ne_pl_qd0) hf_qd0)
  have hf_qd1 : f5 qd1 = .inr (0, [.int 0, .int 0, .int 0, .int 0, .int 0, .int 0, .int 0, .int 0]) := (congrFun e_f5 qd1).trans (z_up_ne (Ne.symm ne_pl_qd1) hf_qd1)
  have hf_qd2 : f5 qd2 = .inr (0, [.int 0, .int 0, .int 0, .int 0, .int 0, .int 0, .int 0, .int 0]) := (congrFun e_f5 qd2).trans (z_up_ne (Ne.symm ne_pl_qd2) hf_qd2)
  have hf_qd3 : f5 qd3 = .inr (0, [.int 0, .int 0, .int 0, .int 0, .int 0, .int 0, .int 0, .int 0]) := (congrFun e_f5 qd3).trans (z_up_ne (Ne.symm ne_pl_qd3) hf_qd3)
  have hf_qd4 : f5 qd4 = .inr (0, [.int 0, .int 0, .int 0, .int 0, .int 0, .int 0, .int 0, .int 0]) := (congrFun e_f5 qd4).trans (z_up_ne (Ne.symm ne_pl_qd4) hf_qd4)
  have hf_qd5 : f5 qd5 = .inr (0, [.int 0, .int 0, .int 0, .int 0, .int 0, .int 0, .int 0, .int 0]) := (congrFun e_f5 qd5).trans (z_up_ne (Ne.symm ne_pl_qd5) hf_qd5)
  have hf_qd6 : f5 qd6 = .inr (0, [.int 0, .int 0, .int 0, .int 0, .int 0, .int 0, .int 0, .int 0]) := (congrFun e_f5 qd6).trans (z_up_ne (Ne.symm ne_pl_qd6) hf_qd6)
  have hf_qd7 : f5 qd7 = .inr (0, [.int 0, .int 0, .int 0, .int 0, .int 0, .int 0, .int 0, .int 0]) := (congrFun e_f5 qd7).trans (z_up_ne (Ne.symm ne_pl_qd7) hf_qd7)
  have hf_qd8 : f5 qd8 = .inr (0, [.int 0, .int 0, .int 0, .int 0, .int 0, .int 0, .int 0, .int 0]) := (congrFun e_f5 qd8).trans (z_up_ne (Ne.symm ne_pl_qd8) hf_qd8)
  have hf_qd9 : f5 qd9 = .inr (0, [.int 0, .int 0, .int 0, .int 0, .int 0, .int 0, .int 0, .int 0]) := (congrFun e_f5 qd9).trans (z_up_ne (Ne.symm ne_pl_qd9) hf_qd9)
  have hf_qd10 : f5 qd10 = .inr (0, [.int 0, .int 0, .int 0, .int 0, .int 0, .int 0, .int 0, .int 0]) := (congrFun e_f5 qd10).trans (z_up_ne (Ne.symm ne_pl_qd10) hf_qd10)
  have hf_qd11 : f5 qd11 = .inr (0, [.int 0, .int 0, .int 0, .int 0, .int 0, .int 0, .int 0, .int 0]) := (congrFun e_f5 qd11).trans (z_up_ne (Ne.symm ne_pl_qd11) hf_qd11)
  have hf_qd12 : f5 qd12 = .inr (0, [.int 0, .int 0, .int 0, .int 0, .int 0, .int 0, .int 0, .int 0]) := (congrFun e_f5 qd12).trans (z_up_ne (Ne.symm ne_pl_qd12) hf_qd12)
  have hf_pl : f5 pl = .inr (4, [.ref qmo, .null, .null, .int 0, .int 0, .int 0, .int 0, .int 0, .int 0, .int 0, .int 0, .int 0]) := (congrFun e_f5 pl).trans z_up_self
  have hfr : ∀ b ∈ L, b ≠ pl → f5 b = f b := fun b hb h0 => (congrFun e_f5 b).trans (z_up_ne h0 (hfr b hb h0))
  refine lv_aload_n hx hb dX4_init_15 rfl (lv_at hl 0 rfl) ?_
  refine lv_sipush (v := 216) hx hb dX4_init_16 (by decide) ?_
  refine z_newa (atype := .int) (n := 216) (N' := 216) (a0 := (216, .inl (fun _ => 0))) (cells := 18) (slots := 173) hx hb (hT _ kw_203) rfl 1 rfl (fun _ h => by cases h) hK hw hA (fun _ => rfl) (by decide) (by decide) (by decide) (by decide) (by decide) dX4_init_19 (fun qot H hq_qot hw => ?_)
  refine W.widen (k := 19) (n := 389) (by decide) (by decide) ?_
  have ne_pl_qot : pl ≠ qot := z_ne hm_pl hq_qot
  have ne_qmo_qot : qmo ≠ qot := z_ne hm_qmo hq_qot
  have ne_qla_qot : qla ≠ qot := z_ne hm_qla hq_qot
  have ne_qsa_qot : qsa ≠ qot := z_ne hm_qsa hq_qot
  have ne_qmi_qot : qmi ≠ qot := z_ne hm_qmi hq_qot
  have ne_qda_qot : qda ≠ qot := z_ne hm_qda hq_qot
  have ne_qd0_qot : qd0 ≠ qot := z_ne hm_qd0 hq_qot
  have ne_qd1_qot : qd1 ≠ qot := z_ne hm_qd1 hq_qot
  have ne_qd2_qot : qd2 ≠ qot := z_ne hm_qd2 hq_qot
  have ne_qd3_qot : qd3 ≠ qot := z_ne hm_qd3 hq_qot
  have ne_qd4_qot : qd4 ≠ qot := z_ne hm_qd4 hq_qot
  have ne_qd5_qot : qd5 ≠ qot := z_ne hm_qd5 hq_qot
  have ne_qd6_qot : qd6 ≠ qot := z_ne hm_qd6 hq_qot
  have ne_qd7_qot : qd7 ≠ qot := z_ne hm_qd7 hq_qot
  have ne_qd8_qot : qd8 ≠ qot := z_ne hm_qd8 hq_qot
  have ne_qd9_qot : qd9 ≠ qot := z_ne hm_qd9 hq_qot
  have ne_qd10_qot : qd10 ≠ qot := z_ne hm_qd10 hq_qot
  have ne_qd11_qot : qd11 ≠ qot := z_ne hm_qd11 hq_qot
  have ne_qd12_qot : qd12 ≠ qot := z_ne hm_qd12 hq_qot
  have hn_qot : qot ∉ L := fun h => hq_qot (hsub _ h)
  obtain ⟨f7, e_f7⟩ : ∃ z, z = va_up f5 qot (.inl (cy 1, 216, .inl (fun _ => 0))) := ⟨_, rfl⟩
  obtain ⟨L6, e_L6⟩ : ∃ z, z = L3 ++ [qot] := ⟨_, rfl⟩
  rw [← e_f7, ← e_L6] at hw
  have hm_pl : pl ∈ L6 := by rw [e_L6]; exact List.mem_append_left _ hm_pl
  have hf_pl : f7 pl = .inr (4, [.ref qmo, .null, .null, .int 0, .int 0, .int 0, .int 0, .int 0, .int 0, .int 0, .int 0, .int 0]) := (congrFun e_f7 pl).trans (z_up_ne ne_pl_qot hf_pl)
  have hm_qmo : qmo ∈ L6 := by rw [e_L6]; exact List.mem_append_left _ hm_qmo
  have hf_qmo : f7 qmo = .inr (2, [.int 0, .int 0, .int 0, .int 0, .int 0, .int 0, .int 0, .ref qla, .ref qsa, .ref qmi, .ref qda]) := (congrFun e_f7 qmo).trans (z_up_ne ne_qmo_qot hf_qmo)
  have hm_qla : qla ∈ L6 := by rw [e_L6]; exact List.mem_append_left _ hm_qla
  have hf_qla : f7 qla = .inl (cy 1, 5, .inl (fun _ => 0)) := (congrFun e_f7 qla).trans (z_up_ne ne_qla_qot hf_qla)
  have hm_qsa : qsa ∈ L6 := by rw [e_L6]; exact List.mem_append_left _ hm_qsa
  have hf_qsa : f7 qsa = .inl (cy 1, 4, .inl (fun _ => 0)) := (congrFun e_f7 qsa).trans (z_up_ne ne_qsa_qot hf_qsa)
  have hm_qmi : qmi ∈ L6 := by rw [e_L6]; exact List.mem_append_left _ hm_qmi
  have hf_qmi : f7 qmi = .inl (cy 1, 36, .inl (fun _ => 0)) := (congrFun e_f7 qmi).trans (z_up_ne ne_qmi_qot hf_qmi)
  have hm_qda : qda ∈ L6 := by rw [e_L6]; exact List.mem_append_left _ hm_qda
  have hf_qda : f7 qda = .inl (cy 4, 13, .inr (.inr (.inr (.inr qgd)))) := (congrFun e_f7 qda).trans (z_up_ne ne_qda_qot hf_qda)
  have hm_qd0 : qd0 ∈ L6 := by rw [e_L6]; exact List.mem_append_left _ hm_qd0
  have hf_qd0 : f7 qd0 = .inr (0, [.int 0, .int 0, .int 0, .int 0, .int 0, .int 0, .int 0, .int 0]) := (congrFun e_f7 qd0).trans (z_up_ne ne_qd0_qot hf_qd0)
  have hm_qd1 : qd1 ∈ L6 := by rw [e_L6]; exact List.mem_append_left _ hm_qd1
  have hf_qd1 : f7 qd1 = .inr (0, [.int 0, .int 0, .int 0, .int 0, .int 0, .int 0, .int 0, .int 0]) := (congrFun e_f7 qd1).trans (z_up_ne ne_qd1_qot hf_qd1)
  have hm_qd2 : qd2 ∈ L6 := by rw [e_L6]; exact List.mem_append_left _ hm_qd2
  have hf_qd2 : f7 qd2 = .inr (0, [.int 0, .int 0, .int 0, .int 0, .int 0, .int 0, .int 0, .int 0]) := (congrFun e_f7 qd2).trans (z_up_ne ne_qd2_qot hf_qd2)
  have hm_qd3 : qd3 ∈ L6 := by rw [e_L6]; exact List.mem_append_left _ hm_qd3
  have hf_qd3 : f7 qd3 = .inr (0, [.int 0, .int 0, .int 0, .int 0, .int 0, .int 0, .int 0, .int 0]) := (congrFun e_f7 qd3).trans (z_up_ne ne_qd3_qot hf_qd3)
  have hm_qd4 : qd4 ∈ L6 := by rw [e_L6]; exact List.mem_append_left _ hm_qd4
  have hf_qd4 : f7 qd4 = .inr (0, [.int 0, .int 0, .int 0, .int 0, .int 0, .int 0, .int 0, .int 0]) := (congrFun e_f7 qd4).trans (z_up_ne ne_qd4_qot hf_qd4)
  have hm_qd5 : qd5 ∈ L6 := by rw [e_L6]; exact List.mem_append_left _ hm_qd5
  have hf_qd5 : f7 qd5 = .inr (0, [.int 0, .int 0, .int 0, .int 0, .int 0, .int 0, .int 0, .int 0]) := (congrFun e_f7 qd5).trans (z_up_ne ne_qd5_qot hf_qd5)
  have hm_qd6 : qd6 ∈ L6 := by rw [e_L6]; exact List.mem_append_left _ hm_qd6
  have hf_qd6 : f7 qd6 = .inr (0, [.int 0, .int 0, .int 0, .int 0, .int 0, .int 0, .int 0, .int 0]) := (congrFun e_f7 qd6).trans (z_up_ne ne_qd6_qot hf_qd6)
  have hm_qd7 : qd7 ∈ L6 := by rw [e_L6]; exact List.mem_append_left _ hm_qd7
  have hf_qd7 : f7 qd7 = .inr (0, [.int 0, .int 0, .int 0, .int 0, .int 0, .int 0, .int 0, .int 0]) := (congrFun e_f7 qd7).trans (z_up_ne ne_qd7_qot hf_qd7)
  have hm_qd8 : qd8 ∈ L6 := by rw [e_L6]; exact List.mem_append_left _ hm_qd8
  have hf_qd8 : f7 qd8 = .inr (0, [.int 0, .int 0, .int 0, .int 0, .int 0, .int 0, .int 0, .int 0]) := (congrFun e_f7 qd8).trans (z_up_ne ne_qd8_qot hf_qd8)
  have hm_qd9 : qd9 ∈ L6 := by rw [e_L6]; exact List.mem_append_left _ hm_qd9
  have hf_qd9 : f7 qd9 = .inr (0, [.int 0, .int 0, .int 0, .int 0, .int 0, .int 0, .int 0, .int 0]) := (congrFun e_f7 qd9).trans (z_up_ne ne_qd9_qot hf_qd9)
  have hm_qd10 : qd10 ∈ L6 := by rw [e_L6]; exact List.mem_append_left _ hm_qd10
  have hf_qd10 : f7 qd10 = .inr (0, [.int 0, .int 0, .int 0, .int 0, .int 0, .int 0, .int 0, .int 0]) := (congrFun e_f7 qd10).trans (z_up_ne ne_qd10_qot hf_qd10)
  have hm_qd11 : qd11 ∈ L6 := by rw [e_L6]; exact List.mem_append_left _ hm_qd11
  have hf_qd11 : f7 qd11 = .inr (0, [.int 0, .int 0, .int 0, .int 0, .int 0, .int 0, .int 0, .int 0]) := (congrFun e_f7 qd11).trans (z_up_ne ne_qd11_qot hf_qd11)
  have hm_qd12 : qd12 ∈ L6 := by rw [e_L6]; exact List.mem_append_left _ hm_qd12
  have hf_qd12 : f7 qd12 = .inr (0, [.int 0, .int 0, .int 0, .int 0, .int 0, .int 0, .int 0, .int 0]) := (congrFun e_f7 qd12).trans (z_up_ne ne_qd12_qot hf_qd12)
  have hm_qot : qot ∈ L6 := by rw [e_L6]; exact List.mem_append_right _ (List.mem_singleton.mpr rfl)
  have hf_qot : f7 qot = .inl (cy 1, 216, .inl (fun _ => 0)) := (congrFun e_f7 qot).trans z_up_self
  have hsub : ∀ b ∈ L, b ∈ L6 := fun b h => by rw [e_L6]; exact List.mem_append_left _ (hsub b h)
  have hfr : ∀ b ∈ L, b ≠ pl → f7 b = f b := fun b hb h0 => (congrFun e_f7 b).trans (z_up_ne (z_ne hb hn_qot) (hfr b hb h0))
  refine z_putF (C := RX4) (T := TX4) (N := 12) (ci := 4) (v := .ref qot) (fs' := [.ref qmo, .null, .ref qot, .int 0, .int 0, .int 0, .int 0, .int 0, .int 0, .int 0, .int 0, .int 0]) hx hb hT zin_X4 tyX4_ok nmX4 hown hK hw hm_pl hf_pl rfl 2 (by decide) (hT _ kw_387) rfl hnm rfl rfl rfl (Nat.le_of_ble_eq_true rfl) rfl dX4_init_21 (fun H locs hw => ?_)
  obtain ⟨f8, e_f8⟩ : ∃ z, z = va_up f7 pl (.inr (4, [.ref qmo, .null, .ref qot, .int 0, .int 0, .int 0, .int 0, .int 0, .int 0, .int 0, .int 0, .int 0])) := ⟨_, rfl⟩
  rw [← e_f8] at hw
  have hf_qmo : f8 qmo = .inr (2, [.int 0, .int 0, .int 0, .int 0, .int 0, .int 0, .int 0, .ref qla, .ref qsa, .ref qmi, .ref qda]) := (congrFun e_f8 qmo).trans (z_up_ne (Ne.symm ne_pl_qmo) hf_qmo)
  have hf_qla : f8 qla = .inl (cy 1, 5, .inl (fun _ => 0)) := (congrFun e_f8 qla).trans (z_up_ne (Ne.symm ne_pl_qla) hf_qla)
  have hf_qsa : f8 qsa = .inl (cy 1, 4, .inl (fun _ => 0)) := (congrFun e_f8 qsa).trans (z_up_ne (Ne.symm ne_pl_qsa) hf_qsa)
  have hf_qmi : f8 qmi = .inl (cy 1, 36, .inl (fun _ => 0)) := (congrFun e_f8 qmi).trans (z_up_ne (Ne.symm ne_pl_qmi) hf_qmi)
  have hf_qda : f8 qda = .inl (cy 4, 13, .inr (.inr (.inr (.inr qgd)))) := (congrFun e_f8 qda).trans (z_up_ne (Ne.symm ne_pl_qda) hf_qda)
  have hf_qd0 : f8 qd0 = .inr (0, [.int 0, .int 0, .int 0, .int 0, .int 0, .int 0, .int 0, .int 0]) := (congrFun e_f8 qd0).trans (z_up_ne (Ne.symm ne_pl_qd0) hf_qd0)
  have hf_qd1 : f8 qd1 = .inr (0, [.int 0, .int 0, .int 0, .int 0, .int 0, .int 0, .int 0, .int 0]) := (congrFun e_f8 qd1).trans (z_up_ne (Ne.symm ne_pl_qd1) hf_qd1)
  have hf_qd2 : f8 qd2 = .inr (0, [.int 0, .int 0, .int 0, .int 0, .int 0, .int 0, .int 0, .int 0]) := (congrFun e_f8 qd2).trans (z_up_ne (Ne.symm ne_pl_qd2) hf_qd2)
  have hf_qd3 : f8 qd3 = .inr (0, [.int 0, .int 0, .int 0, .int 0, .int 0, .int 0, .int 0, .int 0]) := (congrFun e_f8 qd3).trans (z_up_ne (Ne.symm ne_pl_qd3) hf_qd3)
  have hf_qd4 : f8 qd4 = .inr (0, [.int 0, .int 0, .int 0, .int 0, .int 0, .int 0, .int 0, .int 0]) := (congrFun e_f8 qd4).trans (z_up_ne (Ne.symm ne_pl_qd4) hf_qd4)
  have hf_qd5 : f8 qd5 = .inr (0, [.int 0, .int 0, .int 0, .int 0, .int 0, .int 0, .int 0, .int 0]) := (congrFun e_f8 qd5).trans (z_up_ne (Ne.symm ne_pl_qd5) hf_qd5)
  have hf_qd6 : f8 qd6 = .inr (0, [.int 0, .int 0, .int 0, .int 0, .int 0, .int 0, .int 0, .int 0]) := (congrFun e_f8 qd6).trans (z_up_ne (Ne.symm ne_pl_qd6) hf_qd6)
  have hf_qd7 : f8 qd7 = .inr (0, [.int 0, .int 0, .int 0, .int 0, .int 0, .int 0, .int 0, .int 0]) := (congrFun e_f8 qd7).trans (z_up_ne (Ne.symm ne_pl_qd7) hf_qd7)
  have hf_qd8 : f8 qd8 = .inr (0, [.int 0, .int 0, .int 0, .int 0, .int 0, .int 0, .int 0, .int 0]) := (congrFun e_f8 qd8).trans (z_up_ne (Ne.symm ne_pl_qd8) hf_qd8)
  have hf_qd9 : f8 qd9 = .inr (0, [.int 0, .int 0, .int 0, .int 0, .int 0, .int 0, .int 0, .int 0]) := (congrFun e_f8 qd9).trans (z_up_ne (Ne.symm ne_pl_qd9) hf_qd9)
  have hf_qd10 : f8 qd10 = .inr (0, [.int 0, .int 0, .int 0, .int 0, .int 0, .int 0, .int 0, .int 0]) := (congrFun e_f8 qd10).trans (z_up_ne (Ne.symm ne_pl_qd10) hf_qd10)
  have hf_qd11 : f8 qd11 = .inr (0, [.int 0, .int 0, .int 0, .int 0, .int 0, .int 0, .int 0, .int 0]) := (congrFun e_f8 qd11).trans (z_up_ne (Ne.symm ne_pl_qd11) hf_qd11)
  have hf_qd12 : f8 qd12 = .inr (0, [.int 0, .int 0, .int 0, .int 0, .int 0, .int 0, .int 0, .int 0]) := (congrFun e_f8 qd12).trans (z_up_ne (Ne.symm ne_pl_qd12) hf_qd12)
  have hf_qot : f8 qot = .inl (cy 1, 216, .inl (fun _ => 0)) := (congrFun e_f8 qot).trans (z_up_ne (Ne.symm ne_pl_qot) hf_qot)
  have hf_pl : f8 pl = .inr (4, [.ref qmo, .null, .ref qot, .int 0, .int 0, .int 0, .int 0, .int 0, .int 0, .int 0, .int 0, .int 0]) := (congrFun e_f8 pl).trans z_up_self
  have hfr : ∀ b ∈ L, b ≠ pl → f8 b = f b := fun b hb h0 => (congrFun e_f8 b).trans (z_up_ne h0 (hfr b hb h0))
  refine lv_aload_n hx hb dX4_init_24 rfl (lv_at hl 0 rfl) ?_
  refine lv_aload_n hx hb dX4_init_25 rfl (lv_at hl 1 rfl) ?_
  refine z_putF (C := RX4) (T := TX4) (N := 12) (ci := 4) (v := .ref wk) (fs' := [.ref qmo, .ref wk, .ref qot, .int 0, .int 0, .int 0, .int 0, .int 0, .int 0, .int 0, .int 0, .int 0]) hx hb hT zin_X4 tyX4_ok nmX4 hown hK hw hm_pl hf_pl rfl 1 (by decide) (hT _ kw_386) rfl hnm rfl rfl rfl (Nat.le_of_ble_eq_true rfl) rfl dX4_init_26 (fun H locs hw => ?_)
  obtain ⟨f9, e_f9⟩ : ∃ z, z = va_up f8 pl (.inr (4, [.ref qmo, .ref wk, .ref qot, .int 0, .int 0, .int 0, .int 0, .int 0, .int 0, .int 0, .int 0, .int 0])) := ⟨_, rfl⟩
  rw [← e_f9] at hw
  have hf_qmo : f9 qmo = .inr (2, [.int 0, .int 0, .int 0, .int 0, .int 0, .int 0, .int 0, .ref qla, .ref qsa, .ref qmi, .ref qda]) := (congrFun e_f9 qmo).trans (z_up_ne (Ne.symm ne_pl_qmo) hf_qmo)
  have hf_qla : f9 qla = .inl (cy 1, 5, .inl (fun _ => 0)) := (congrFun e_f9 qla).trans (z_up_ne (Ne.symm ne_pl_qla) hf_qla)
  have hf_qsa : f9 qsa = .inl (cy 1, 4, .inl (fun _ => 0)) := (congrFun e_f9 qsa).trans (z_up_ne (Ne.symm ne_pl_qsa) hf_qsa)
  have hf_qmi : f9 qmi = .inl (cy 1, 36, .inl (fun _ => 0)) := (congrFun e_f9 qmi).trans (z_up_ne (Ne.symm ne_pl_qmi) hf_qmi)
  have hf_qda : f9 qda = .inl (cy 4, 13, .inr (.inr (.inr (.inr qgd)))) := (congrFun e_f9 qda).trans (z_up_ne (Ne.symm ne_pl_qda) hf_qda)
  have hf_qd0 : f9 qd0 = .inr (0, [.int 0, .int 0, .int 0, .int 0, .int 0, .int 0, .int 0, .int 0]) := (congrFun e_f9 qd0).trans (z_up_ne (Ne.symm ne_pl_qd0) hf_qd0)
  have hf_qd1 : f9 qd1 = .inr (0, [.int 0, .int 0, .int 0, .int 0, .int 0, .int 0, .int 0, .int 0]) := (congrFun e_f9 qd1).trans (z_up_ne (Ne.symm ne_pl_qd1) hf_qd1)
  have hf_qd2 : f9 qd2 = .inr (0, [.int 0, .int 0, .int 0, .int 0, .int 0, .int 0, .int 0, .int 0]) := (congrFun e_f9 qd2).trans (z_up_ne (Ne.symm ne_pl_qd2) hf_qd2)
  have hf_qd3 : f9 qd3 = .inr (0, [.int 0, .int 0, .int 0, .int 0, .int 0, .int 0, .int 0, .int 0]) := (congrFun e_f9 qd3).trans (z_up_ne (Ne.symm ne_pl_qd3) hf_qd3)
  have hf_qd4 : f9 qd4 = .inr (0, [.int 0, .int 0, .int 0, .int 0, .int 0, .int 0, .int 0, .int 0]) := (congrFun e_f9 qd4).trans (z_up_ne (Ne.symm ne_pl_qd4) hf_qd4)
  have hf_qd5 : f9 qd5 = .inr (0, [.int 0, .int 0, .int 0, .int 0, .int 0, .int 0, .int 0, .int 0]) := (congrFun e_f9 qd5).trans (z_up_ne (Ne.symm ne_pl_qd5) hf_qd5)
  have hf_qd6 : f9 qd6 = .inr (0, [.int 0, .int 0, .int 0, .int 0, .int 0, .int 0, .int 0, .int 0]) := (congrFun e_f9 qd6).trans (z_up_ne (Ne.symm ne_pl_qd6) hf_qd6)
  have hf_qd7 : f9 qd7 = .inr (0, [.int 0, .int 0, .int 0, .int 0, .int 0, .int 0, .int 0, .int 0]) := (congrFun e_f9 qd7).trans (z_up_ne (Ne.symm ne_pl_qd7) hf_qd7)
  have hf_qd8 : f9 qd8 = .inr (0, [.int 0, .int 0, .int 0, .int 0, .int 0, .int 0, .int 0, .int 0]) := (congrFun e_f9 qd8).trans (z_up_ne (Ne.symm ne_pl_qd8) hf_qd8)
  have hf_qd9 : f9 qd9 = .inr (0, [.int 0, .int 0, .int 0, .int 0, .int 0, .int 0, .int 0, .int 0]) := (congrFun e_f9 qd9).trans (z_up_ne (Ne.symm ne_pl_qd9) hf_qd9)
  have hf_qd10 : f9 qd10 = .inr (0, [.int 0, .int 0, .int 0, .int 0, .int 0, .int 0, .int 0, .int 0]) := (congrFun e_f9 qd10).trans (z_up_ne (Ne.symm ne_pl_qd10) hf_qd10)
  have hf_qd11 : f9 qd11 = .inr (0, [.int 0, .int 0, .int 0, .int 0, .int 0, .int 0, .int 0, .int 0]) := (congrFun e_f9 qd11).trans (z_up_ne (Ne.symm ne_pl_qd11) hf_qd11)
  have hf_qd12 : f9 qd12 = .inr (0, [.int 0, .int 0, .int 0, .int 0, .int 0, .int 0, .int 0, .int 0]) := (congrFun e_f9 qd12).trans (z_up_ne (Ne.symm ne_pl_qd12) hf_qd12)
  have hf_qot : f9 qot = .inl (cy 1, 216, .inl (fun _ => 0)) := (congrFun e_f9 qot).trans (z_up_ne (Ne.symm ne_pl_qot) hf_qot)
  have hf_pl : f9 pl = .inr (4, [.ref qmo, .ref wk, .ref qot, .int 0, .int 0, .int 0, .int 0, .int 0, .int 0, .int 0, .int 0, .int 0]) := (congrFun e_f9 pl).trans z_up_self
  have hfr : ∀ b ∈ L, b ≠ pl → f9 b = f b := fun b hb h0 => (congrFun e_f9 b).trans (z_up_ne h0 (hfr b hb h0))
  exact z_vret hx hb hr hlk (by decide) (by decide) hw (⟨hsub, hfr, qmo, qla, qsa, qmi, qda, qd0, qd1, qd2, qd3, qd4, qd5, qd6, qd7, qd8, qd9, qd10, qd11, qd12, qot, qgd, hf_pl, ⟨hn_qmo, hm_qmo, hf_qmo⟩, ⟨hn_qla, hm_qla, hf_qla⟩, ⟨hn_qsa, hm_qsa, hf_qsa⟩, ⟨hn_qmi, hm_qmi, hf_qmi⟩, ⟨hn_qda, hm_qda, hf_qda⟩, ⟨hn_qd0, hm_qd0, hf_qd0⟩, ⟨hn_qd1, hm_qd1, hf_qd1⟩, ⟨hn_qd2, hm_qd2, hf_qd2⟩, ⟨hn_qd3, hm_qd3, hf_qd3⟩, ⟨hn_qd4, hm_qd4, hf_qd4⟩, ⟨hn_qd5, hm_qd5, hf_qd5⟩, ⟨hn_qd6, hm_qd6, hf_qd6⟩, ⟨hn_qd7, hm_qd7, hf_qd7⟩, ⟨hn_qd8, hm_qd8, hf_qd8⟩, ⟨hn_qd9, hm_qd9, hf_qd9⟩, ⟨hn_qd10, hm_qd10, hf_qd10⟩, ⟨hn_qd11, hm_qd11, hf_qd11⟩, ⟨hn_qd12, hm_qd12, hf_qd12⟩, ⟨hn_qot, hm_qot, hf_qot⟩, by show L6 = _; rw [e_L6, e_L3, e_L1]; (try simp only [List.append_assoc, List.cons_append, List.nil_append]), hgdP.2.1, hgdP.2.2.1, hgdP.2.2.2.1, hgdP.2.2.2.2.1, hgdP.2.2.2.2.2.1, hgdP.2.2.2.2.2.2.1, hgdP.2.2.2.2.2.2.2.1, hgdP.2.2.2.2.2.2.2.2.1, hgdP.2.2.2.2.2.2.2.2.2.1, hgdP.2.2.2.2.2.2.2.2.2.2.1, hgdP.2.2.2.2.2.2.2.2.2.2.2.1, hgdP.2.2.2.2.2.2.2.2.2.2.2.2.1, hgdP.2.2.2.2.2.2.2.2.2.2.2.2.2⟩) dX4_init_29

set_option maxHeartbeats 2000000 in
set_option maxRecDepth 100000 in
theorem c_X3_init (l : Launch) {D : va_G} {cy : Nat → ClassId} {L : List Nat} {f : Nat → va_E} {sz : Nat} {adK adV : Nat → Nat} {oo wk : Nat} (hm_oo : oo ∈ L) (hf_oo : f oo = .inr (3, [.null, .null, .null, .null, .int 0, .int 0])) : Met l yX3_init (z_ws yX3_init cX3_init 2 none) (z_R 1 3 24) (va_Pc [.ref oo, .ref wk] (z_Pre D vwCl (z_KK D cy adK adV) L f sz)) (z_Qv D vwCl (fun u => (∀ b ∈ L, b ∈ u.1) ∧ (∀ b ∈ L, b ≠ oo → u.2 b = f b) ∧ (∃ (ln fi sp : Nat), (u.2 oo = .inr (3, [.ref wk, .ref ln, .ref fi, .ref sp, .int 0, .int 0])) ∧ (ln ∉ L ∧ ln ∈ u.1 ∧ u.2 ln = .inl (cy 1, 6, .inl (fun _ => 0))) ∧ (fi ∉ L ∧ fi ∈ u.1 ∧ u.2 fi = .inl (cy 1, 6, .inl (fun _ => 0))) ∧ (sp ∉ L ∧ sp ∈ u.1 ∧ u.2 sp = .inl (cy 1, 12, .inl (fun _ => 0))) ∧ ((u.1 = L ++ [ln, fi, sp])))) L sz) 3 24 (z_A L sz) := by
  refine z_met (cc := cX3_init) (maxL := 2) (ret := none) (lv := [(0, .ref oo), (1, .ref wk)]) (by decide) rfl (Nat.le_of_ble_eq_true rfl) rfl ?_
  intro p e s m below meth c ls hx hb hr hlk hml hown hnm hts hKK hA hw hl
  have hK := hKK.1.1
  have hown : s.vm.findClass RX3 = some m.cls := hown
  have hT : ∀ w ∈ lw_all, w.before ([.ref oo, .ref wk] : List Value).toArray s = true := fun w h => hts w (z_cons w h)
  have hsub : ∀ b ∈ L, b ∈ L := fun _ h => h
  have hfr : ∀ b ∈ L, b ≠ oo → f b = f b := fun _ _ _ => rfl
  refine lv_aload_n hx hb dX3_init_0 rfl (lv_at hl 0 rfl) ?_
  refine W.objInit hx hb hown (hT _ ko_RX3) (hT _ ko_i) (hT _ ko_c) rfl (by rw [hml]; exact hl.1) rfl dX3_init_1 (Nat.le_of_ble_eq_true rfl) (Nat.le_of_ble_eq_true rfl) ?_
  refine W.eq (g2 := F0 m 4 ls []) rfl ?_
  refine lv_aload_n hx hb dX3_init_4 rfl (lv_at hl 0 rfl) ?_
  refine lv_bipush (v := 6) hx hb dX3_init_5 (by decide) ?_
  refine z_newa (atype := .int) (n := 6) (N' := 6) (a0 := (6, .inl (fun _ => 0))) (cells := 0) (slots := 0) hx hb (hT _ kw_203) rfl 1 rfl (fun _ h => by cases h) hK hw hA (fun _ => rfl) (by decide) (by decide) (by decide) (by decide) (by decide) dX3_init_7 (fun qln H hq_qln hw => ?_)
  refine W.widen (k := 1) (n := 6) (by decide) (by decide) ?_
  have ne_oo_qln : oo ≠ qln := z_ne hm_oo hq_qln
  have hn_qln : qln ∉ L := fun h => hq_qln (hsub _ h)
  obtain ⟨f2, e_f2⟩ : ∃ z, z = va_up f qln (.inl (cy 1, 6, .inl (fun _ => 0))) := ⟨_, rfl⟩
  obtain ⟨L1, e_L1⟩ : ∃ z, z = L ++ [qln] := ⟨_, rfl⟩
  rw [← e_f2, ← e_L1] at hw
  have hm_oo : oo ∈ L1 := by rw [e_L1]; exact List.mem_append_left _ hm_oo
  have hf_oo : f2 oo = .inr (3, [.null, .null, .null, .null, .int 0, .int 0]) := (congrFun e_f2 oo).trans (z_up_ne ne_oo_qln hf_oo)
  have hm_qln : qln ∈ L1 := by rw [e_L1]; exact List.mem_append_right _ (List.mem_singleton.mpr rfl)
  have hf_qln : f2 qln = .inl (cy 1, 6, .inl (fun _ => 0)) := (congrFun e_f2 qln).trans z_up_self
  have hsub : ∀ b ∈ L, b ∈ L1 := fun b h => by rw [e_L1]; exact List.mem_append_left _ (hsub b h)
  have hfr : ∀ b ∈ L, b ≠ oo → f2 b = f b := fun b hb h0 => (congrFun e_f2 b).trans (z_up_ne (z_ne hb hn_qln) (hfr b hb h0))
  refine z_putF (C := RX3) (T := TX3) (N := 6) (ci := 3) (v := .ref qln) (fs' := [.null, .ref qln, .null, .null, .int 0, .int 0]) hx hb hT zin_X3 tyX3_ok nmX3 hown hK hw hm_oo hf_oo rfl 1 (by decide) (hT _ kw_436) rfl hnm rfl rfl rfl (Nat.le_of_ble_eq_true rfl) rfl dX3_init_9 (fun H locs hw => ?_)
  obtain ⟨f3, e_f3⟩ : ∃ z, z = va_up f2 oo (.inr (3, [.null, .ref qln, .null, .null, .int 0, .int 0])) := ⟨_, rfl⟩
  rw [← e_f3] at hw
  have hf_qln : f3 qln = .inl (cy 1, 6, .inl (fun _ => 0)) := (congrFun e_f3 qln).trans (z_up_ne (Ne.symm ne_oo_qln) hf_qln)
  have hf_oo : f3 oo = .inr (3, [.null, .ref qln, .null, .null, .int 0, .int 0]) := (congrFun e_f3 oo).trans z_up_self
  have hfr : ∀ b ∈ L, b ≠ oo → f3 b = f b := fun b hb h0 => (congrFun e_f3 b).trans (z_up_ne h0 (hfr b hb h0))
  refine lv_aload_n hx hb dX3_init_12 rfl (lv_at hl 0 rfl) ?_
  refine lv_bipush (v := 6) hx hb dX3_init_13 (by decide) ?_
  refine z_newa (atype := .int) (n := 6) (N' := 6) (a0 := (6, .inl (fun _ => 0))) (cells := 1) (slots := 6) hx hb (hT _ kw_203) rfl 1 rfl (fun _ h => by cases h) hK hw hA (fun _ => rfl) (by decide) (by decide) (by decide) (by decide) (by decide) dX3_init_15 (fun qfi H hq_qfi hw => ?_)
  refine W.widen (k := 2) (n := 12) (by decide) (by decide) ?_
  have ne_oo_qfi : oo ≠ qfi := z_ne hm_oo hq_qfi
  have ne_qln_qfi : qln ≠ qfi := z_ne hm_qln hq_qfi
  have hn_qfi : qfi ∉ L := fun h => hq_qfi (hsub _ h)
  obtain ⟨f5, e_f5⟩ : ∃ z, z = va_up f3 qfi (.inl (cy 1, 6, .inl (fun _ => 0))) := ⟨_, rfl⟩
  obtain ⟨L4, e_L4⟩ : ∃ z, z = L1 ++ [qfi] := ⟨_, rfl⟩
  rw [← e_f5, ← e_L4] at hw
  have hm_oo : oo ∈ L4 := by rw [e_L4]; exact List.mem_append_left _ hm_oo
  have hf_oo : f5 oo = .inr (3, [.null, .ref qln, .null, .null, .int 0, .int 0]) := (congrFun e_f5 oo).trans (z_up_ne ne_oo_qfi hf_oo)
  have hm_qln : qln ∈ L4 := by rw [e_L4]; exact List.mem_append_left _ hm_qln
  have hf_qln : f5 qln = .inl (cy 1, 6, .inl (fun _ => 0)) := (congrFun e_f5 qln).trans (z_up_ne ne_qln_qfi hf_qln)
  have hm_qfi : qfi ∈ L4 := by rw [e_L4]; exact List.mem_append_right _ (List.mem_singleton.mpr rfl)
  have hf_qfi : f5 qfi = .inl (cy 1, 6, .inl (fun _ => 0)) := (congrFun e_f5 qfi).trans z_up_self
  have hsub : ∀ b ∈ L, b ∈ L4 := fun b h => by rw [e_L4]; exact List.mem_append_left _ (hsub b h)
  have hfr : ∀ b ∈ L, b ≠ oo → f5 b = f b := fun b hb h0 => (congrFun e_f5 b).trans (z_up_ne (z_ne hb hn_qfi) (hfr b hb h0))
  refine z_putF (C := RX3) (T := TX3) (N := 6) (ci := 3) (v := .ref qfi) (fs' := [.null, .ref qln, .ref qfi, .null, .int 0, .int 0]) hx hb hT zin_X3 tyX3_ok nmX3 hown hK hw hm_oo hf_oo rfl 2 (by decide) (hT _ kw_437) rfl hnm rfl rfl rfl (Nat.le_of_ble_eq_true rfl) rfl dX3_init_17 (fun H locs hw => ?_)
  obtain ⟨f6, e_f6⟩ : ∃ z, z = va_up f5 oo (.inr (3, [.null, .ref qln, .ref qfi, .null, .int 0, .int 0])) := ⟨_, rfl⟩
  rw [← e_f6] at hw
  have hf_qln : f6 qln = .inl (cy 1, 6, .inl (fun _ => 0)) := (congrFun e_f6 qln).trans (z_up_ne (Ne.symm ne_oo_qln) hf_qln)
  have hf_qfi : f6 qfi = .inl (cy 1, 6, .inl (fun _ => 0)) := (congrFun e_f6 qfi).trans (z_up_ne (Ne.symm ne_oo_qfi) hf_qfi)
  have hf_oo : f6 oo = .inr (3, [.null, .ref qln, .ref qfi, .null, .int 0, .int 0]) := (congrFun e_f6 oo).trans z_up_self
  have hfr : ∀ b ∈ L, b ≠ oo → f6 b = f b := fun b hb h0 => (congrFun e_f6 b).trans (z_up_ne h0 (hfr b hb h0))
  refine lv_aload_n hx hb dX3_init_20 rfl (lv_at hl 0 rfl) ?_
  refine lv_bipush (v := 12) hx hb dX3_init_21 (by decide) ?_
  refine z_newa (atype := .int) (n := 12) (N' := 12) (a0 := (12, .inl (fun _ => 0))) (cells := 2) (slots := 12) hx hb (hT _ kw_203) rfl 1 rfl (fun _ h => by cases h) hK hw hA (fun _ => rfl) (by decide) (by decide) (by decide) (by decide) (by decide) dX3_init_23 (fun qsp H hq_qsp hw => ?_)
  refine W.widen (k := 3) (n := 24) (by decide) (by decide) ?_
  have ne_oo_qsp : oo ≠ qsp := z_ne hm_oo hq_qsp
  have ne_qln_qsp : qln ≠ qsp := z_ne hm_qln hq_qsp
  have ne_qfi_qsp : qfi ≠ qsp := z_ne hm_qfi hq_qsp
  have hn_qsp : qsp ∉ L := fun h => hq_qsp (hsub _ h)
  obtain ⟨f8, e_f8⟩ : ∃ z, z = va_up f6 qsp (.inl (cy 1, 12, .inl (fun _ => 0))) := ⟨_, rfl⟩
  obtain ⟨L7, e_L7⟩ : ∃ z, z = L4 ++ [qsp] := ⟨_, rfl⟩
  rw [← e_f8, ← e_L7] at hw
  have hm_oo : oo ∈ L7 := by rw [e_L7]; exact List.mem_append_left _ hm_oo
  have hf_oo : f8 oo = .inr (3, [.null, .ref qln, .ref qfi, .null, .int 0, .int 0]) := (congrFun e_f8 oo).trans (z_up_ne ne_oo_qsp hf_oo)
  have hm_qln : qln ∈ L7 := by rw [e_L7]; exact List.mem_append_left _ hm_qln
  have hf_qln : f8 qln = .inl (cy 1, 6, .inl (fun _ => 0)) := (congrFun e_f8 qln).trans (z_up_ne ne_qln_qsp hf_qln)
  have hm_qfi : qfi ∈ L7 := by rw [e_L7]; exact List.mem_append_left _ hm_qfi
  have hf_qfi : f8 qfi = .inl (cy 1, 6, .inl (fun _ => 0)) := (congrFun e_f8 qfi).trans (z_up_ne ne_qfi_qsp hf_qfi)
  have hm_qsp : qsp ∈ L7 := by rw [e_L7]; exact List.mem_append_right _ (List.mem_singleton.mpr rfl)
  have hf_qsp : f8 qsp = .inl (cy 1, 12, .inl (fun _ => 0)) := (congrFun e_f8 qsp).trans z_up_self
  have hsub : ∀ b ∈ L, b ∈ L7 := fun b h => by rw [e_L7]; exact List.mem_append_left _ (hsub b h)
  have hfr : ∀ b ∈ L, b ≠ oo → f8 b = f b := fun b hb h0 => (congrFun e_f8 b).trans (z_up_ne (z_ne hb hn_qsp) (hfr b hb h0))
  refine z_putF (C := RX3) (T := TX3) (N := 6) (ci := 3) (v := .ref qsp) (fs' := [.null, .ref qln, .ref qfi, .ref qsp, .int 0, .int 0]) hx hb hT zin_X3 tyX3_ok nmX3 hown hK hw hm_oo hf_oo rfl 3 (by decide) (hT _ kw_439) rfl hnm rfl rfl rfl (Nat.le_of_ble_eq_true rfl) rfl dX3_init_25 (fun H locs hw => ?_)
  obtain ⟨f9, e_f9⟩ : ∃ z, z = va_up f8 oo (.inr (3, [.null, .ref qln, .ref qfi, .ref qsp, .int 0, .int 0])) := ⟨_, rfl⟩
  rw [← e_f9] at hw
  have hf_qln : f9 qln = .inl (cy 1, 6, .inl (fun _ => 0)) := (congrFun e_f9 qln).trans (z_up_ne (Ne.symm ne_oo_qln) hf_qln)
  have hf_qfi : f9 qfi = .inl (cy 1, 6, .inl (fun _ => 0)) := (congrFun e_f9 qfi).trans (z_up_ne (Ne.symm ne_oo_qfi) hf_qfi)
  have hf_qsp : f9 qsp = .inl (cy 1, 12, .inl (fun _ => 0)) := (congrFun e_f9 qsp).trans (z_up_ne (Ne.symm ne_oo_qsp) hf_qsp)
  have hf_oo : f9 oo = .inr (3, [.null, .ref qln, .ref qfi, .ref qsp, .int 0, .int 0]) := (congrFun e_f9 oo).trans z_up_self
  have hfr : ∀ b ∈ L, b ≠ oo → f9 b = f b := fun b hb h0 => (congrFun e_f9 b).trans (z_up_ne h0 (hfr b hb h0))
  refine lv_aload_n hx hb dX3_init_28 rfl (lv_at hl 0 rfl) ?_
  refine lv_aload_n hx hb dX3_init_29 rfl (lv_at hl 1 rfl) ?_
  refine z_putF (C := RX3) (T := TX3) (N := 6) (ci := 3) (v := .ref wk) (fs' := [.ref wk, .ref qln, .ref qfi, .ref qsp, .int 0, .int 0]) hx hb hT zin_X3 tyX3_ok nmX3 hown hK hw hm_oo hf_oo rfl 0 (by decide) (hT _ kw_435) rfl hnm rfl rfl rfl (Nat.le_of_ble_eq_true rfl) rfl dX3_init_30 (fun H locs hw => ?_)
  obtain ⟨f10, e_f10⟩ : ∃ z, z = va_up f9 oo (.inr (3, [.ref wk, .ref qln, .ref qfi, .ref qsp, .int 0, .int 0])) := ⟨_, rfl⟩
  rw [← e_f10] at hw
  have hf_qln : f10 qln = .inl (cy 1, 6, .inl (fun _ => 0)) := (congrFun e_f10 qln).trans (z_up_ne (Ne.symm ne_oo_qln) hf_qln)
  have hf_qfi : f10 qfi = .inl (cy 1, 6, .inl (fun _ => 0)) := (congrFun e_f10 qfi).trans (z_up_ne (Ne.symm ne_oo_qfi) hf_qfi)
  have hf_qsp : f10 qsp = .inl (cy 1, 12, .inl (fun _ => 0)) := (congrFun e_f10 qsp).trans (z_up_ne (Ne.symm ne_oo_qsp) hf_qsp)
  have hf_oo : f10 oo = .inr (3, [.ref wk, .ref qln, .ref qfi, .ref qsp, .int 0, .int 0]) := (congrFun e_f10 oo).trans z_up_self
  have hfr : ∀ b ∈ L, b ≠ oo → f10 b = f b := fun b hb h0 => (congrFun e_f10 b).trans (z_up_ne h0 (hfr b hb h0))
  exact z_vret hx hb hr hlk (by decide) (by decide) hw (⟨hsub, hfr, qln, qfi, qsp, hf_oo, ⟨hn_qln, hm_qln, hf_qln⟩, ⟨hn_qfi, hm_qfi, hf_qfi⟩, ⟨hn_qsp, hm_qsp, hf_qsp⟩, by show L7 = _; rw [e_L7, e_L4, e_L1]; (try simp only [List.append_assoc, List.cons_append, List.nil_append])⟩) dX3_init_33

set_option maxHeartbeats 2000000 in
set_option maxRecDepth 100000 in
theorem c_X1_init (l : Launch) {D : va_G} {cy : Nat → ClassId} {L : List Nat} {f : Nat → va_E} {sz : Nat} {adK adV : Nat → Nat} {mx wk : Nat} (hm_mx : mx ∈ L) (hf_mx : f mx = .inr (1, [.null, .null, .int 0, .long 0])) : Met l yX1_init (z_ws yX1_init cX1_init 2 none) (z_R 1 1 2376) (va_Pc [.ref mx, .ref wk] (z_Pre D vwCl (z_KK D cy adK adV) L f sz)) (z_Qv D vwCl (fun u => (∀ b ∈ L, b ∈ u.1) ∧ (∀ b ∈ L, b ≠ mx → u.2 b = f b) ∧ (∃ (bs : Nat), (u.2 mx = .inr (1, [.ref wk, .ref bs, .int 0, .long 0])) ∧ (bs ∉ L ∧ bs ∈ u.1 ∧ u.2 bs = .inl (cy 0, 2376, .inl (fun _ => 0))) ∧ ((u.1 = L ++ [bs])))) L sz) 1 2376 (z_A L sz) := by
  refine z_met (cc := cX1_init) (maxL := 2) (ret := none) (lv := [(0, .ref mx), (1, .ref wk)]) (by decide) rfl (Nat.le_of_ble_eq_true rfl) rfl ?_
  intro p e s m below meth c ls hx hb hr hlk hml hown hnm hts hKK hA hw hl
  have hK := hKK.1.1
  have hown : s.vm.findClass RX1 = some m.cls := hown
  have hT : ∀ w ∈ lw_all, w.before ([.ref mx, .ref wk] : List Value).toArray s = true := fun w h => hts w (z_cons w h)
  have hsub : ∀ b ∈ L, b ∈ L := fun _ h => h
  have hfr : ∀ b ∈ L, b ≠ mx → f b = f b := fun _ _ _ => rfl
  refine lv_aload_n hx hb dX1_init_0 rfl (lv_at hl 0 rfl) ?_
  refine W.objInit hx hb hown (hT _ ko_RX1) (hT _ ko_i) (hT _ ko_c) rfl (by rw [hml]; exact hl.1) rfl dX1_init_1 (Nat.le_of_ble_eq_true rfl) (Nat.le_of_ble_eq_true rfl) ?_
  refine W.eq (g2 := F0 m 4 ls []) rfl ?_
  refine lv_aload_n hx hb dX1_init_4 rfl (lv_at hl 0 rfl) ?_
  refine lv_sipush (v := 2376) hx hb dX1_init_5 (by decide) ?_
  refine z_newa (atype := .byte) (n := 2376) (N' := 2376) (a0 := (2376, .inl (fun _ => 0))) (cells := 0) (slots := 0) hx hb (hT _ kw_127) rfl 0 rfl (fun _ h => by cases h) hK hw hA (fun _ => rfl) (by decide) (by decide) (by decide) (by decide) (by decide) dX1_init_8 (fun qbs H hq_qbs hw => ?_)
  refine W.widen (k := 1) (n := 2376) (by decide) (by decide) ?_
  have ne_mx_qbs : mx ≠ qbs := z_ne hm_mx hq_qbs
  have hn_qbs : qbs ∉ L := fun h => hq_qbs (hsub _ h)
  obtain ⟨f2, e_f2⟩ : ∃ z, z = va_up f qbs (.inl (cy 0, 2376, .inl (fun _ => 0))) := ⟨_, rfl⟩
  obtain ⟨L1, e_L1⟩ : ∃ z, z = L ++ [qbs] := ⟨_, rfl⟩
  rw [← e_f2, ← e_L1] at hw
  have hm_mx : mx ∈ L1 := by rw [e_L1]; exact List.mem_append_left _ hm_mx
  have hf_mx : f2 mx = .inr (1, [.null, .null, .int 0, .long 0]) := (congrFun e_f2 mx).trans (z_up_ne ne_mx_qbs hf_mx)
  have hm_qbs : qbs ∈ L1 := by rw [e_L1]; exact List.mem_append_right _ (List.mem_singleton.mpr rfl)
  have hf_qbs : f2 qbs = .inl (cy 0, 2376, .inl (fun _ => 0)) := (congrFun e_f2 qbs).trans z_up_self
  have hsub : ∀ b ∈ L, b ∈ L1 := fun b h => by rw [e_L1]; exact List.mem_append_left _ (hsub b h)
  have hfr : ∀ b ∈ L, b ≠ mx → f2 b = f b := fun b hb h0 => (congrFun e_f2 b).trans (z_up_ne (z_ne hb hn_qbs) (hfr b hb h0))
  refine z_putF (C := RX1) (T := TX1) (N := 4) (ci := 1) (v := .ref qbs) (fs' := [.null, .ref qbs, .int 0, .long 0]) hx hb hT zin_X1 tyX1_ok nmX1 hown hK hw hm_mx hf_mx rfl 1 (by decide) (hT _ kw_465) rfl hnm rfl rfl rfl (Nat.le_of_ble_eq_true rfl) rfl dX1_init_10 (fun H locs hw => ?_)
  obtain ⟨f3, e_f3⟩ : ∃ z, z = va_up f2 mx (.inr (1, [.null, .ref qbs, .int 0, .long 0])) := ⟨_, rfl⟩
  rw [← e_f3] at hw
  have hf_qbs : f3 qbs = .inl (cy 0, 2376, .inl (fun _ => 0)) := (congrFun e_f3 qbs).trans (z_up_ne (Ne.symm ne_mx_qbs) hf_qbs)
  have hf_mx : f3 mx = .inr (1, [.null, .ref qbs, .int 0, .long 0]) := (congrFun e_f3 mx).trans z_up_self
  have hfr : ∀ b ∈ L, b ≠ mx → f3 b = f b := fun b hb h0 => (congrFun e_f3 b).trans (z_up_ne h0 (hfr b hb h0))
  refine lv_aload_n hx hb dX1_init_13 rfl (lv_at hl 0 rfl) ?_
  refine lv_aload_n hx hb dX1_init_14 rfl (lv_at hl 1 rfl) ?_
  refine z_putF (C := RX1) (T := TX1) (N := 4) (ci := 1) (v := .ref wk) (fs' := [.ref wk, .ref qbs, .int 0, .long 0]) hx hb hT zin_X1 tyX1_ok nmX1 hown hK hw hm_mx hf_mx rfl 0 (by decide) (hT _ kw_464) rfl hnm rfl rfl rfl (Nat.le_of_ble_eq_true rfl) rfl dX1_init_15 (fun H locs hw => ?_)
  obtain ⟨f4, e_f4⟩ : ∃ z, z = va_up f3 mx (.inr (1, [.ref wk, .ref qbs, .int 0, .long 0])) := ⟨_, rfl⟩
  rw [← e_f4] at hw
  have hf_qbs : f4 qbs = .inl (cy 0, 2376, .inl (fun _ => 0)) := (congrFun e_f4 qbs).trans (z_up_ne (Ne.symm ne_mx_qbs) hf_qbs)
  have hf_mx : f4 mx = .inr (1, [.ref wk, .ref qbs, .int 0, .long 0]) := (congrFun e_f4 mx).trans z_up_self
  have hfr : ∀ b ∈ L, b ≠ mx → f4 b = f b := fun b hb h0 => (congrFun e_f4 b).trans (z_up_ne h0 (hfr b hb h0))
  exact z_vret hx hb hr hlk (by decide) (by decide) hw (⟨hsub, hfr, qbs, hf_mx, ⟨hn_qbs, hm_qbs, hf_qbs⟩, by show L1 = _; rw [e_L1]; (try simp only [List.append_assoc, List.cons_append, List.nil_append])⟩) dX1_init_18
