set_option maxHeartbeats 4000000 in
set_option maxRecDepth 100000 in
theorem c_X10_init (l : Launch) {D : va_G} {cy : Nat → ClassId} {L : List Nat} {f : Nat → va_E} {sz : Nat} {adK adV : Nat → Nat} {me : Nat} (hm_me : me ∈ L) (hf_me : f me = .inr (10, [.int 0, .null, .null, .null, .null, .null, .int 0, .int 0, .int 0, .int 0, .int 0, .long 0, .int 0, .int 0, .int 0, .int 0, .null, .null, .null, .null, .null, .null, .int 0, .null, .int 0, .int 0, .long 0, .int 0, .int 0, .null, .int 0, .null, .null, .null, .null, .null, .int 0, .null, .int 0, .null, .int 0, .int 0, .int 0, .null, .null, .null, .null, .null, .int 0, .null, .null, .null, .int 0, .int 0])) : Met l yX10_init (z_ws yX10_init cX10_init 2 none) (z_R 2 28 10674) (va_Pc [.ref me] (z_Pre D vwCl (z_KK D cy adK adV) L f sz)) (z_Qv D vwCl (fun u => (∀ b ∈ L, b ∈ u.1) ∧ (∀ b ∈ L, b ≠ me → u.2 b = f b) ∧ (∃ (bd : Nat → Nat) (gik gwd gmy : Nat → Int32), (bd 0 = me ∧ (∀ i : Nat, i < 29 → i ≠ 0 → bd i ∉ L) ∧ z_SM u.1 u.2 cy bd gik gwd gmy ∧ (∀ k : Nat, k < 3 → (gik k).toInt = 0) ∧ ∀ k : Nat, k < 4 → (gwd k).toInt = -1))) L sz) 28 10674 (z_A L sz) := by
  refine z_met (cc := cX10_init) (maxL := 2) (ret := none) (lv := [(0, .ref me)]) (by decide) rfl (Nat.le_of_ble_eq_true rfl) rfl ?_
  intro p e s m below meth c ls hx hb hr hlk hml hown hnm hts hKK hA hw hl
  have hK := hKK.1.1
  have hown : s.vm.findClass RX10 = some m.cls := hown
  have hT : ∀ w ∈ lw_all, w.before ([.ref me] : List Value).toArray s = true := fun w h => hts w (z_cons w h)
  have hsub : ∀ b ∈ L, b ∈ L := fun _ h => h
  have hfr : ∀ b ∈ L, b ≠ me → f b = f b := fun _ _ _ => rfl
  have hm0_me := hm_me
  refine lv_aload_n hx hb dX10_init_0 rfl (lv_at hl 0 rfl) ?_
  refine W.objInit hx hb hown (hT _ ko_RX10) (hT _ ko_i) (hT _ ko_c) rfl (by rw [hml]; exact hl.1) rfl dX10_init_1 (Nat.le_of_ble_eq_true rfl) (Nat.le_of_ble_eq_true rfl) ?_
  refine W.eq (g2 := F0 m 4 ls []) rfl ?_
  refine lv_aload_n hx hb dX10_init_4 rfl (lv_at hl 0 rfl) ?_
  refine lv_iconst (v := 4) hx hb dX10_init_5 (by decide) ?_
  refine z_newa (atype := .int) (n := 4) (N' := 4) (a0 := (4, .inl (fun _ => 0))) (cells := 0) (slots := 0) hx hb (hT _ kw_203) rfl 1 rfl (fun _ h => by cases h) hK hw hA (fun _ => rfl) (by decide) (by decide) (by decide) (by decide) (by decide) dX10_init_6 (fun qwd H hq_qwd hw => ?_)
  refine W.widen (k := 1) (n := 4) (by decide) (by decide) ?_
  have ne_me_qwd : me ≠ qwd := z_ne hm_me hq_qwd
  have hn_qwd : qwd ∉ L := fun h => hq_qwd (hsub _ h)
  obtain ⟨f2, e_f2⟩ : ∃ z, z = va_up f qwd (.inl (cy 1, 4, .inl (fun _ => 0))) := ⟨_, rfl⟩
  obtain ⟨L1, e_L1⟩ : ∃ z, z = L ++ [qwd] := ⟨_, rfl⟩
  rw [← e_f2, ← e_L1] at hw
  have hm_me : me ∈ L1 := by rw [e_L1]; exact List.mem_append_left _ hm_me
  have hf_me : f2 me = .inr (10, [.int 0, .null, .null, .null, .null, .null, .int 0, .int 0, .int 0, .int 0, .int 0, .long 0, .int 0, .int 0, .int 0, .int 0, .null, .null, .null, .null, .null, .null, .int 0, .null, .int 0, .int 0, .long 0, .int 0, .int 0, .null, .int 0, .null, .null, .null, .null, .null, .int 0, .null, .int 0, .null, .int 0, .int 0, .int 0, .null, .null, .null, .null, .null, .int 0, .null, .null, .null, .int 0, .int 0]) := (congrFun e_f2 me).trans (z_up_ne ne_me_qwd hf_me)
  have hm_qwd : qwd ∈ L1 := by rw [e_L1]; exact List.mem_append_right _ (List.mem_singleton.mpr rfl)
  have hf_qwd : f2 qwd = .inl (cy 1, 4, .inl (fun _ => 0)) := (congrFun e_f2 qwd).trans z_up_self
  have hsub : ∀ b ∈ L, b ∈ L1 := fun b h => by rw [e_L1]; exact List.mem_append_left _ (hsub b h)
  have hfr : ∀ b ∈ L, b ≠ me → f2 b = f b := fun b hb h0 => (congrFun e_f2 b).trans (z_up_ne (z_ne hb hn_qwd) (hfr b hb h0))
  refine z_putF (C := RX10) (T := TX10) (N := 54) (ci := 10) (v := .ref qwd) (fs' := [.int 0, .ref qwd, .null, .null, .null, .null, .int 0, .int 0, .int 0, .int 0, .int 0, .long 0, .int 0, .int 0, .int 0, .int 0, .null, .null, .null, .null, .null, .null, .int 0, .null, .int 0, .int 0, .long 0, .int 0, .int 0, .null, .int 0, .null, .null, .null, .null, .null, .int 0, .null, .int 0, .null, .int 0, .int 0, .int 0, .null, .null, .null, .null, .null, .int 0, .null, .null, .null, .int 0, .int 0]) hx hb hT zin_X10 tyX10_ok nmX10 hown hK hw hm_me hf_me rfl 1 (by decide) (hT _ kw_1169) rfl hnm rfl rfl rfl (Nat.le_of_ble_eq_true rfl) rfl dX10_init_8 (fun H locs hw => ?_)
  obtain ⟨f3, e_f3⟩ : ∃ z, z = va_up f2 me (.inr (10, [.int 0, .ref qwd, .null, .null, .null, .null, .int 0, .int 0, .int 0, .int 0, .int 0, .long 0, .int 0, .int 0, .int 0, .int 0, .null, .null, .null, .null, .null, .null, .int 0, .null, .int 0, .int 0, .long 0, .int 0, .int 0, .null, .int 0, .null, .null, .null, .null, .null, .int 0, .null, .int 0, .null, .int 0, .int 0, .int 0, .null, .null, .null, .null, .null, .int 0, .null, .null, .null, .int 0, .int 0])) := ⟨_, rfl⟩
  rw [← e_f3] at hw
  have hf_qwd : f3 qwd = .inl (cy 1, 4, .inl (fun _ => 0)) := (congrFun e_f3 qwd).trans (z_up_ne (Ne.symm ne_me_qwd) hf_qwd)
  have hf_me : f3 me = .inr (10, [.int 0, .ref qwd, .null, .null, .null, .null, .int 0, .int 0, .int 0, .int 0, .int 0, .long 0, .int 0, .int 0, .int 0, .int 0, .null, .null, .null, .null, .null, .null, .int 0, .null, .int 0, .int 0, .long 0, .int 0, .int 0, .null, .int 0, .null, .null, .null, .null, .null, .int 0, .null, .int 0, .null, .int 0, .int 0, .int 0, .null, .null, .null, .null, .null, .int 0, .null, .null, .null, .int 0, .int 0]) := (congrFun e_f3 me).trans z_up_self
  have hfr : ∀ b ∈ L, b ≠ me → f3 b = f b := fun b hb h0 => (congrFun e_f3 b).trans (z_up_ne h0 (hfr b hb h0))
  refine lv_aload_n hx hb dX10_init_11 rfl (lv_at hl 0 rfl) ?_
  refine lv_iconst (v := 4) hx hb dX10_init_12 (by decide) ?_
  refine z_newa (atype := .int) (n := 4) (N' := 4) (a0 := (4, .inl (fun _ => 0))) (cells := 1) (slots := 4) hx hb (hT _ kw_203) rfl 1 rfl (fun _ h => by cases h) hK hw hA (fun _ => rfl) (by decide) (by decide) (by decide) (by decide) (by decide) dX10_init_13 (fun qmy H hq_qmy hw => ?_)
  refine W.widen (k := 2) (n := 8) (by decide) (by decide) ?_
  have ne_me_qmy : me ≠ qmy := z_ne hm_me hq_qmy
  have ne_qwd_qmy : qwd ≠ qmy := z_ne hm_qwd hq_qmy
  have hn_qmy : qmy ∉ L := fun h => hq_qmy (hsub _ h)
  obtain ⟨f5, e_f5⟩ : ∃ z, z = va_up f3 qmy (.inl (cy 1, 4, .inl (fun _ => 0))) := ⟨_, rfl⟩
  obtain ⟨L4, e_L4⟩ : ∃ z, z = L1 ++ [qmy] := ⟨_, rfl⟩
  rw [← e_f5, ← e_L4] at hw
  have hm_me : me ∈ L4 := by rw [e_L4]; exact List.mem_append_left _ hm_me
  have hf_me : f5 me = .inr (10, [.int 0, .ref qwd, .null, .null, .null, .null, .int 0, .int 0, .int 0, .int 0, .int 0, .long 0, .int 0, .int 0, .int 0, .int 0, .null, .null, .null, .null, .null, .null, .int 0, .null, .int 0, .int 0, .long 0, .int 0, .int 0, .null, .int 0, .null, .null, .null, .null, .null, .int 0, .null, .int 0, .null, .int 0, .int 0, .int 0, .null, .null, .null, .null, .null, .int 0, .null, .null, .null, .int 0, .int 0]) := (congrFun e_f5 me).trans (z_up_ne ne_me_qmy hf_me)
  have hm_qwd : qwd ∈ L4 := by rw [e_L4]; exact List.mem_append_left _ hm_qwd
  have hf_qwd : f5 qwd = .inl (cy 1, 4, .inl (fun _ => 0)) := (congrFun e_f5 qwd).trans (z_up_ne ne_qwd_qmy hf_qwd)
  have hm_qmy : qmy ∈ L4 := by rw [e_L4]; exact List.mem_append_right _ (List.mem_singleton.mpr rfl)
  have hf_qmy : f5 qmy = .inl (cy 1, 4, .inl (fun _ => 0)) := (congrFun e_f5 qmy).trans z_up_self
  have hsub : ∀ b ∈ L, b ∈ L4 := fun b h => by rw [e_L4]; exact List.mem_append_left _ (hsub b h)
  have hfr : ∀ b ∈ L, b ≠ me → f5 b = f b := fun b hb h0 => (congrFun e_f5 b).trans (z_up_ne (z_ne hb hn_qmy) (hfr b hb h0))
  refine z_putF (C := RX10) (T := TX10) (N := 54) (ci := 10) (v := .ref qmy) (fs' := [.int 0, .ref qwd, .ref qmy, .null, .null, .null, .int 0, .int 0, .int 0, .int 0, .int 0, .long 0, .int 0, .int 0, .int 0, .int 0, .null, .null, .null, .null, .null, .null, .int 0, .null, .int 0, .int 0, .long 0, .int 0, .int 0, .null, .int 0, .null, .null, .null, .null, .null, .int 0, .null, .int 0, .null, .int 0, .int 0, .int 0, .null, .null, .null, .null, .null, .int 0, .null, .null, .null, .int 0, .int 0]) hx hb hT zin_X10 tyX10_ok nmX10 hown hK hw hm_me hf_me rfl 2 (by decide) (hT _ kw_1170) rfl hnm rfl rfl rfl (Nat.le_of_ble_eq_true rfl) rfl dX10_init_15 (fun H locs hw => ?_)
  obtain ⟨f6, e_f6⟩ : ∃ z, z = va_up f5 me (.inr (10, [.int 0, .ref qwd, .ref qmy, .null, .null, .null, .int 0, .int 0, .int 0, .int 0, .int 0, .long 0, .int 0, .int 0, .int 0, .int 0, .null, .null, .null, .null, .null, .null, .int 0, .null, .int 0, .int 0, .long 0, .int 0, .int 0, .null, .int 0, .null, .null, .null, .null, .null, .int 0, .null, .int 0, .null, .int 0, .int 0, .int 0, .null, .null, .null, .null, .null, .int 0, .null, .null, .null, .int 0, .int 0])) := ⟨_, rfl⟩
  rw [← e_f6] at hw
  have hf_qwd : f6 qwd = .inl (cy 1, 4, .inl (fun _ => 0)) := (congrFun e_f6 qwd).trans (z_up_ne (Ne.symm ne_me_qwd) hf_qwd)
  have hf_qmy : f6 qmy = .inl (cy 1, 4, .inl (fun _ => 0)) := (congrFun e_f6 qmy).trans (z_up_ne (Ne.symm ne_me_qmy) hf_qmy)
  have hf_me : f6 me = .inr (10, [.int 0, .ref qwd, .ref qmy, .null, .null, .null, .int 0, .int 0, .int 0, .int 0, .int 0, .long 0, .int 0, .int 0, .int 0, .int 0, .null, .null, .null, .null, .null, .null, .int 0, .null, .int 0, .int 0, .long 0, .int 0, .int 0, .null, .int 0, .null, .null, .null, .null, .null, .int 0, .null, .int 0, .null, .int 0, .int 0, .int 0, .null, .null, .null, .null, .null, .int 0, .null, .null, .null, .int 0, .int 0]) := (congrFun e_f6 me).trans z_up_self
  have hfr : ∀ b ∈ L, b ≠ me → f6 b = f b := fun b hb h0 => (congrFun e_f6 b).trans (z_up_ne h0 (hfr b hb h0))
  refine lv_aload_n hx hb dX10_init_18 rfl (lv_at hl 0 rfl) ?_
  refine lv_sipush (v := 240) hx hb dX10_init_19 (by decide) ?_
  refine z_newa (atype := .long) (n := 240) (N' := 240) (a0 := (240, .inr (.inl (fun _ => 0)))) (cells := 2) (slots := 8) hx hb (hT _ kw_335) rfl 2 rfl (fun _ h => by cases h) hK hw hA (fun _ => rfl) (by decide) (by decide) (by decide) (by decide) (by decide) dX10_init_22 (fun qce H hq_qce hw => ?_)
  refine W.widen (k := 3) (n := 248) (by decide) (by decide) ?_
  have ne_me_qce : me ≠ qce := z_ne hm_me hq_qce
  have ne_qwd_qce : qwd ≠ qce := z_ne hm_qwd hq_qce
  have ne_qmy_qce : qmy ≠ qce := z_ne hm_qmy hq_qce
  have hn_qce : qce ∉ L := fun h => hq_qce (hsub _ h)
  obtain ⟨f8, e_f8⟩ : ∃ z, z = va_up f6 qce (.inl (cy 2, 240, .inr (.inl (fun _ => 0)))) := ⟨_, rfl⟩
  obtain ⟨L7, e_L7⟩ : ∃ z, z = L4 ++ [qce] := ⟨_, rfl⟩
  rw [← e_f8, ← e_L7] at hw
  have hm_me : me ∈ L7 := by rw [e_L7]; exact List.mem_append_left _ hm_me
  have hf_me : f8 me = .inr (10, [.int 0, .ref qwd, .ref qmy, .null, .null, .null, .int 0, .int 0, .int 0, .int 0, .int 0, .long 0, .int 0, .int 0, .int 0, .int 0, .null, .null, .null, .null, .null, .null, .int 0, .null, .int 0, .int 0, .long 0, .int 0, .int 0, .null, .int 0, .null, .null, .null, .null, .null, .int 0, .null, .int 0, .null, .int 0, .int 0, .int 0, .null, .null, .null, .null, .null, .int 0, .null, .null, .null, .int 0, .int 0]) := (congrFun e_f8 me).trans (z_up_ne ne_me_qce hf_me)
  have hm_qwd : qwd ∈ L7 := by rw [e_L7]; exact List.mem_append_left _ hm_qwd
  have hf_qwd : f8 qwd = .inl (cy 1, 4, .inl (fun _ => 0)) := (congrFun e_f8 qwd).trans (z_up_ne ne_qwd_qce hf_qwd)
  have hm_qmy : qmy ∈ L7 := by rw [e_L7]; exact List.mem_append_left _ hm_qmy
  have hf_qmy : f8 qmy = .inl (cy 1, 4, .inl (fun _ => 0)) := (congrFun e_f8 qmy).trans (z_up_ne ne_qmy_qce hf_qmy)
  have hm_qce : qce ∈ L7 := by rw [e_L7]; exact List.mem_append_right _ (List.mem_singleton.mpr rfl)
  have hf_qce : f8 qce = .inl (cy 2, 240, .inr (.inl (fun _ => 0))) := (congrFun e_f8 qce).trans z_up_self
  have hsub : ∀ b ∈ L, b ∈ L7 := fun b h => by rw [e_L7]; exact List.mem_append_left _ (hsub b h)
  have hfr : ∀ b ∈ L, b ≠ me → f8 b = f b := fun b hb h0 => (congrFun e_f8 b).trans (z_up_ne (z_ne hb hn_qce) (hfr b hb h0))
  refine z_putF (C := RX10) (T := TX10) (N := 54) (ci := 10) (v := .ref qce) (fs' := [.int 0, .ref qwd, .ref qmy, .ref qce, .null, .null, .int 0, .int 0, .int 0, .int 0, .int 0, .long 0, .int 0, .int 0, .int 0, .int 0, .null, .null, .null, .null, .null, .null, .int 0, .null, .int 0, .int 0, .long 0, .int 0, .int 0, .null, .int 0, .null, .null, .null, .null, .null, .int 0, .null, .int 0, .null, .int 0, .int 0, .int 0, .null, .null, .null, .null, .null, .int 0, .null, .null, .null, .int 0, .int 0]) hx hb hT zin_X10 tyX10_ok nmX10 hown hK hw hm_me hf_me rfl 3 (by decide) (hT _ kw_1171) rfl hnm rfl rfl rfl (Nat.le_of_ble_eq_true rfl) rfl dX10_init_24 (fun H locs hw => ?_)
  obtain ⟨f9, e_f9⟩ : ∃ z, z = va_up f8 me (.inr (10, [.int 0, .ref qwd, .ref qmy, .ref qce, .null, .null, .int 0, .int 0, .int 0, .int 0, .int 0, .long 0, .int 0, .int 0, .int 0, .int 0, .null, .null, .null, .null, .null, .null, .int 0, .null, .int 0, .int 0, .long 0, .int 0, .int 0, .null, .int 0, .null, .null, .null, .null, .null, .int 0, .null, .int 0, .null, .int 0, .int 0, .int 0, .null, .null, .null, .null, .null, .int 0, .null, .null, .null, .int 0, .int 0])) := ⟨_, rfl⟩
  rw [← e_f9] at hw
  have hf_qwd : f9 qwd = .inl (cy 1, 4, .inl (fun _ => 0)) := (congrFun e_f9 qwd).trans (z_up_ne (Ne.symm ne_me_qwd) hf_qwd)
  have hf_qmy : f9 qmy = .inl (cy 1, 4, .inl (fun _ => 0)) := (congrFun e_f9 qmy).trans (z_up_ne (Ne.symm ne_me_qmy) hf_qmy)
  have hf_qce : f9 qce = .inl (cy 2, 240, .inr (.inl (fun _ => 0))) := (congrFun e_f9 qce).trans (z_up_ne (Ne.symm ne_me_qce) hf_qce)
  have hf_me : f9 me = .inr (10, [.int 0, .ref qwd, .ref qmy, .ref qce, .null, .null, .int 0, .int 0, .int 0, .int 0, .int 0, .long 0, .int 0, .int 0, .int 0, .int 0, .null, .null, .null, .null, .null, .null, .int 0, .null, .int 0, .int 0, .long 0, .int 0, .int 0, .null, .int 0, .null, .null, .null, .null, .null, .int 0, .null, .int 0, .null, .int 0, .int 0, .int 0, .null, .null, .null, .null, .null, .int 0, .null, .null, .null, .int 0, .int 0]) := (congrFun e_f9 me).trans z_up_self
  have hfr : ∀ b ∈ L, b ≠ me → f9 b = f b := fun b hb h0 => (congrFun e_f9 b).trans (z_up_ne h0 (hfr b hb h0))
  refine lv_aload_n hx hb dX10_init_27 rfl (lv_at hl 0 rfl) ?_
  refine lv_bipush (v := 60) hx hb dX10_init_28 (by decide) ?_
  refine z_newa (atype := .long) (n := 60) (N' := 60) (a0 := (60, .inr (.inl (fun _ => 0)))) (cells := 3) (slots := 248) hx hb (hT _ kw_335) rfl 2 rfl (fun _ h => by cases h) hK hw hA (fun _ => rfl) (by decide) (by decide) (by decide) (by decide) (by decide) dX10_init_30 (fun qmv H hq_qmv hw => ?_)
  refine W.widen (k := 4) (n := 308) (by decide) (by decide) ?_
  have ne_me_qmv : me ≠ qmv := z_ne hm_me hq_qmv
  have ne_qwd_qmv : qwd ≠ qmv := z_ne hm_qwd hq_qmv
  have ne_qmy_qmv : qmy ≠ qmv := z_ne hm_qmy hq_qmv
  have ne_qce_qmv : qce ≠ qmv := z_ne hm_qce hq_qmv
  have hn_qmv : qmv ∉ L := fun h => hq_qmv (hsub _ h)
  obtain ⟨f11, e_f11⟩ : ∃ z, z = va_up f9 qmv (.inl (cy 2, 60, .inr (.inl (fun _ => 0)))) := ⟨_, rfl⟩
  obtain ⟨L10, e_L10⟩ : ∃ z, z = L7 ++ [qmv] := ⟨_, rfl⟩
  rw [← e_f11, ← e_L10] at hw
  have hm_me : me ∈ L10 := by rw [e_L10]; exact List.mem_append_left _ hm_me
  have hf_me : f11 me = .inr (10, [.int 0, .ref qwd, .ref qmy, .ref qce, .null, .null, .int 0, .int 0, .int 0, .int 0, .int 0, .long 0, .int 0, .int 0, .int 0, .int 0, .null, .null, .null, .null, .null, .null, .int 0, .null, .int 0, .int 0, .long 0, .int 0, .int 0, .null, .int 0, .null, .null, .null, .null, .null, .int 0, .null, .int 0, .null, .int 0, .int 0, .int 0, .null, .null, .null, .null, .null, .int 0, .null, .null, .null, .int 0, .int 0]) := (congrFun e_f11 me).trans (z_up_ne ne_me_qmv hf_me)
  have hm_qwd : qwd ∈ L10 := by rw [e_L10]; exact List.mem_append_left _ hm_qwd
  have hf_qwd : f11 qwd = .inl (cy 1, 4, .inl (fun _ => 0)) := (congrFun e_f11 qwd).trans (z_up_ne ne_qwd_qmv hf_qwd)
  have hm_qmy : qmy ∈ L10 := by rw [e_L10]; exact List.mem_append_left _ hm_qmy
  have hf_qmy : f11 qmy = .inl (cy 1, 4, .inl (fun _ => 0)) := (congrFun e_f11 qmy).trans (z_up_ne ne_qmy_qmv hf_qmy)
  have hm_qce : qce ∈ L10 := by rw [e_L10]; exact List.mem_append_left _ hm_qce
  have hf_qce : f11 qce = .inl (cy 2, 240, .inr (.inl (fun _ => 0))) := (congrFun e_f11 qce).trans (z_up_ne ne_qce_qmv hf_qce)
  have hm_qmv : qmv ∈ L10 := by rw [e_L10]; exact List.mem_append_right _ (List.mem_singleton.mpr rfl)
  have hf_qmv : f11 qmv = .inl (cy 2, 60, .inr (.inl (fun _ => 0))) := (congrFun e_f11 qmv).trans z_up_self
  have hsub : ∀ b ∈ L, b ∈ L10 := fun b h => by rw [e_L10]; exact List.mem_append_left _ (hsub b h)
  have hfr : ∀ b ∈ L, b ≠ me → f11 b = f b := fun b hb h0 => (congrFun e_f11 b).trans (z_up_ne (z_ne hb hn_qmv) (hfr b hb h0))
  refine z_putF (C := RX10) (T := TX10) (N := 54) (ci := 10) (v := .ref qmv) (fs' := [.int 0, .ref qwd, .ref qmy, .ref qce, .ref qmv, .null, .int 0, .int 0, .int 0, .int 0, .int 0, .long 0, .int 0, .int 0, .int 0, .int 0, .null, .null, .null, .null, .null, .null, .int 0, .null, .int 0, .int 0, .long 0, .int 0, .int 0, .null, .int 0, .null, .null, .null, .null, .null, .int 0, .null, .int 0, .null, .int 0, .int 0, .int 0, .null, .null, .null, .null, .null, .int 0, .null, .null, .null, .int 0, .int 0]) hx hb hT zin_X10 tyX10_ok nmX10 hown hK hw hm_me hf_me rfl 4 (by decide) (hT _ kw_1172) rfl hnm rfl rfl rfl (Nat.le_of_ble_eq_true rfl) rfl dX10_init_32 (fun H locs hw => ?_)
  obtain ⟨f12, e_f12⟩ : ∃ z, z = va_up f11 me (.inr (10, [.int 0, .ref qwd, .ref qmy, .ref qce, .ref qmv, .null, .int 0, .int 0, .int 0, .int 0, .int 0, .long 0, .int 0, .int 0, .int 0, .int 0, .null, .null, .null, .null, .null, .null, .int 0, .null, .int 0, .int 0, .long 0, .int 0, .int 0, .null, .int 0, .null, .null, .null, .null, .null, .int 0, .null, .int 0, .null, .int 0, .int 0, .int 0, .null, .null, .null, .null, .null, .int 0, .null, .null, .null, .int 0, .int 0])) := ⟨_, rfl⟩
  rw [← e_f12] at hw
  have hf_qwd : f12 qwd = .inl (cy 1, 4, .inl (fun _ => 0)) := (congrFun e_f12 qwd).trans (z_up_ne (Ne.symm ne_me_qwd) hf_qwd)
  have hf_qmy : f12 qmy = .inl (cy 1, 4, .inl (fun _ => 0)) := (congrFun e_f12 qmy).trans (z_up_ne (Ne.symm ne_me_qmy) hf_qmy)
  have hf_qce : f12 qce = .inl (cy 2, 240, .inr (.inl (fun _ => 0))) := (congrFun e_f12 qce).trans (z_up_ne (Ne.symm ne_me_qce) hf_qce)
  have hf_qmv : f12 qmv = .inl (cy 2, 60, .inr (.inl (fun _ => 0))) := (congrFun e_f12 qmv).trans (z_up_ne (Ne.symm ne_me_qmv) hf_qmv)
  have hf_me : f12 me = .inr (10, [.int 0, .ref qwd, .ref qmy, .ref qce, .ref qmv, .null, .int 0, .int 0, .int 0, .int 0, .int 0, .long 0, .int 0, .int 0, .int 0, .int 0, .null, .null, .null, .null, .null, .null, .int 0, .null, .int 0, .int 0, .long 0, .int 0, .int 0, .null, .int 0, .null, .null, .null, .null, .null, .int 0, .null, .int 0, .null, .int 0, .int 0, .int 0, .null, .null, .null, .null, .null, .int 0, .null, .null, .null, .int 0, .int 0]) := (congrFun e_f12 me).trans z_up_self
  have hfr : ∀ b ∈ L, b ≠ me → f12 b = f b := fun b hb h0 => (congrFun e_f12 b).trans (z_up_ne h0 (hfr b hb h0))
  refine lv_aload_n hx hb dX10_init_35 rfl (lv_at hl 0 rfl) ?_
  refine lv_sipush (v := 1600) hx hb dX10_init_36 (by decide) ?_
  refine z_newa (atype := .byte) (n := 1600) (N' := 1600) (a0 := (1600, .inl (fun _ => 0))) (cells := 4) (slots := 308) hx hb (hT _ kw_127) rfl 0 rfl (fun _ h => by cases h) hK hw hA (fun _ => rfl) (by decide) (by decide) (by decide) (by decide) (by decide) dX10_init_39 (fun qta H hq_qta hw => ?_)
  refine W.widen (k := 5) (n := 1908) (by decide) (by decide) ?_
  have ne_me_qta : me ≠ qta := z_ne hm_me hq_qta
  have ne_qwd_qta : qwd ≠ qta := z_ne hm_qwd hq_qta
  have ne_qmy_qta : qmy ≠ qta := z_ne hm_qmy hq_qta
  have ne_qce_qta : qce ≠ qta := z_ne hm_qce hq_qta
  have ne_qmv_qta : qmv ≠ qta := z_ne hm_qmv hq_qta
  have hn_qta : qta ∉ L := fun h => hq_qta (hsub _ h)
  obtain ⟨f14, e_f14⟩ : ∃ z, z = va_up f12 qta (.inl (cy 0, 1600, .inl (fun _ => 0))) := ⟨_, rfl⟩
  obtain ⟨L13, e_L13⟩ : ∃ z, z = L10 ++ [qta] := ⟨_, rfl⟩
  rw [← e_f14, ← e_L13] at hw
  have hm_me : me ∈ L13 := by rw [e_L13]; exact List.mem_append_left _ hm_me
  have hf_me : f14 me = .inr (10, [.int 0, .ref qwd, .ref qmy, .ref qce, .ref qmv, .null, .int 0, .int 0, .int 0, .int 0, .int 0, .long 0, .int 0, .int 0, .int 0, .int 0, .null, .null, .null, .null, .null, .null, .int 0, .null, .int 0, .int 0, .long 0, .int 0, .int 0, .null, .int 0, .null, .null, .null, .null, .null, .int 0, .null, .int 0, .null, .int 0, .int 0, .int 0, .null, .null, .null, .null, .null, .int 0, .null, .null, .null, .int 0, .int 0]) := (congrFun e_f14 me).trans (z_up_ne ne_me_qta hf_me)
  have hm_qwd : qwd ∈ L13 := by rw [e_L13]; exact List.mem_append_left _ hm_qwd
  have hf_qwd : f14 qwd = .inl (cy 1, 4, .inl (fun _ => 0)) := (congrFun e_f14 qwd).trans (z_up_ne ne_qwd_qta hf_qwd)
  have hm_qmy : qmy ∈ L13 := by rw [e_L13]; exact List.mem_append_left _ hm_qmy
  have hf_qmy : f14 qmy = .inl (cy 1, 4, .inl (fun _ => 0)) := (congrFun e_f14 qmy).trans (z_up_ne ne_qmy_qta hf_qmy)
  have hm_qce : qce ∈ L13 := by rw [e_L13]; exact List.mem_append_left _ hm_qce
  have hf_qce : f14 qce = .inl (cy 2, 240, .inr (.inl (fun _ => 0))) := (congrFun e_f14 qce).trans (z_up_ne ne_qce_qta hf_qce)
  have hm_qmv : qmv ∈ L13 := by rw [e_L13]; exact List.mem_append_left _ hm_qmv
  have hf_qmv : f14 qmv = .inl (cy 2, 60, .inr (.inl (fun _ => 0))) := (congrFun e_f14 qmv).trans (z_up_ne ne_qmv_qta hf_qmv)
  have hm_qta : qta ∈ L13 := by rw [e_L13]; exact List.mem_append_right _ (List.mem_singleton.mpr rfl)
  have hf_qta : f14 qta = .inl (cy 0, 1600, .inl (fun _ => 0)) := (congrFun e_f14 qta).trans z_up_self
  have hsub : ∀ b ∈ L, b ∈ L13 := fun b h => by rw [e_L13]; exact List.mem_append_left _ (hsub b h)
  have hfr : ∀ b ∈ L, b ≠ me → f14 b = f b := fun b hb h0 => (congrFun e_f14 b).trans (z_up_ne (z_ne hb hn_qta) (hfr b hb h0))
  refine z_putF (C := RX10) (T := TX10) (N := 54) (ci := 10) (v := .ref qta) (fs' := [.int 0, .ref qwd, .ref qmy, .ref qce, .ref qmv, .ref qta, .int 0, .int 0, .int 0, .int 0, .int 0, .long 0, .int 0, .int 0, .int 0, .int 0, .null, .null, .null, .null, .null, .null, .int 0, .null, .int 0, .int 0, .long 0, .int 0, .int 0, .null, .int 0, .null, .null, .null, .null, .null, .int 0, .null, .int 0, .null, .int 0, .int 0, .int 0, .null, .null, .null, .null, .null, .int 0, .null, .null, .null, .int 0, .int 0]) hx hb hT zin_X10 tyX10_ok nmX10 hown hK hw hm_me hf_me rfl 5 (by decide) (hT _ kw_1173) rfl hnm rfl rfl rfl (Nat.le_of_ble_eq_true rfl) rfl dX10_init_41 (fun H locs hw => ?_)
  obtain ⟨f15, e_f15⟩ : ∃ z, z = va_up f14 me (.inr (10, [.int 0, .ref qwd, .ref qmy, .ref qce, .ref qmv, .ref qta, .int 0, .int 0, .int 0, .int 0, .int 0, .long 0, .int 0, .int 0, .int 0, .int 0, .null, .null, .null, .null, .null, .null, .int 0, .null, .int 0, .int 0, .long 0, .int 0, .int 0, .null, .int 0, .null, .null, .null, .null, .null, .int 0, .null, .int 0, .null, .int 0, .int 0, .int 0, .null, .null, .null, .null, .null, .int 0, .null, .null, .null, .int 0, .int 0])) := ⟨_, rfl⟩
  rw [← e_f15] at hw
  have hf_qwd : f15 qwd = .inl (cy 1, 4, .inl (fun _ => 0)) := (congrFun e_f15 qwd).trans (z_up_ne (Ne.symm ne_me_qwd) hf_qwd)
  have hf_qmy : f15 qmy = .inl (cy 1, 4, .inl (fun _ => 0)) := (congrFun e_f15 qmy).trans (z_up_ne (Ne.symm ne_me_qmy) hf_qmy)
  have hf_qce : f15 qce = .inl (cy 2, 240, .inr (.inl (fun _ => 0))) := (congrFun e_f15 qce).trans (z_up_ne (Ne.symm ne_me_qce) hf_qce)
  have hf_qmv : f15 qmv = .inl (cy 2, 60, .inr (.inl (fun _ => 0))) := (congrFun e_f15 qmv).trans (z_up_ne (Ne.symm ne_me_qmv) hf_qmv)
  have hf_qta : f15 qta = .inl (cy 0, 1600, .inl (fun _ => 0)) := (congrFun e_f15 qta).trans (z_up_ne (Ne.symm ne_me_qta) hf_qta)
  have hf_me : f15 me = .inr (10, [.int 0, .ref qwd, .ref qmy, .ref qce, .ref qmv, .ref qta, .int 0, .int 0, .int 0, .int 0, .int 0, .long 0, .int 0, .int 0, .int 0, .int 0, .null, .null, .null, .null, .null, .null, .int 0, .null, .int 0, .int 0, .long 0, .int 0, .int 0, .null, .int 0, .null, .null, .null, .null, .null, .int 0, .null, .int 0, .null, .int 0, .int 0, .int 0, .null, .null, .null, .null, .null, .int 0, .null, .null, .null, .int 0, .int 0]) := (congrFun e_f15 me).trans z_up_self
  have hfr : ∀ b ∈ L, b ≠ me → f15 b = f b := fun b hb h0 => (congrFun e_f15 b).trans (z_up_ne h0 (hfr b hb h0))
  refine lv_aload_n hx hb dX10_init_44 rfl (lv_at hl 0 rfl) ?_
  refine lv_iconst (v := (-1)) hx hb dX10_init_45 (by decide) ?_
  refine z_put (C := RX10) (T := TX10) (N := 54) (ci := 10) (v := .int (-1)) (fs' := [.int 0, .ref qwd, .ref qmy, .ref qce, .ref qmv, .ref qta, .int 0, .int 0, .int 0, .int 0, .int 0, .long 0, .int 0, .int 0, .int 0, .int (-1), .null, .null, .null, .null, .null, .null, .int 0, .null, .int 0, .int 0, .long 0, .int 0, .int 0, .null, .int 0, .null, .null, .null, .null, .null, .int 0, .null, .int 0, .null, .int 0, .int 0, .int 0, .null, .null, .null, .null, .null, .int 0, .null, .null, .null, .int 0, .int 0]) hx hb hT zin_X10 tyX10_ok nmX10 hown hK hw hm_me hf_me rfl 15 (by decide) (hT _ kw_1183) rfl rfl rfl (Nat.le_of_ble_eq_true rfl) rfl dX10_init_46 (fun H locs hw => ?_)
  obtain ⟨f16, e_f16⟩ : ∃ z, z = va_up f15 me (.inr (10, [.int 0, .ref qwd, .ref qmy, .ref qce, .ref qmv, .ref qta, .int 0, .int 0, .int 0, .int 0, .int 0, .long 0, .int 0, .int 0, .int 0, .int (-1), .null, .null, .null, .null, .null, .null, .int 0, .null, .int 0, .int 0, .long 0, .int 0, .int 0, .null, .int 0, .null, .null, .null, .null, .null, .int 0, .null, .int 0, .null, .int 0, .int 0, .int 0, .null, .null, .null, .null, .null, .int 0, .null, .null, .null, .int 0, .int 0])) := ⟨_, rfl⟩
  rw [← e_f16] at hw
  have hf_qwd : f16 qwd = .inl (cy 1, 4, .inl (fun _ => 0)) := (congrFun e_f16 qwd).trans (z_up_ne (Ne.symm ne_me_qwd) hf_qwd)
  have hf_qmy : f16 qmy = .inl (cy 1, 4, .inl (fun _ => 0)) := (congrFun e_f16 qmy).trans (z_up_ne (Ne.symm ne_me_qmy) hf_qmy)
  have hf_qce : f16 qce = .inl (cy 2, 240, .inr (.inl (fun _ => 0))) := (congrFun e_f16 qce).trans (z_up_ne (Ne.symm ne_me_qce) hf_qce)
  have hf_qmv : f16 qmv = .inl (cy 2, 60, .inr (.inl (fun _ => 0))) := (congrFun e_f16 qmv).trans (z_up_ne (Ne.symm ne_me_qmv) hf_qmv)
  have hf_qta : f16 qta = .inl (cy 0, 1600, .inl (fun _ => 0)) := (congrFun e_f16 qta).trans (z_up_ne (Ne.symm ne_me_qta) hf_qta)
  have hf_me : f16 me = .inr (10, [.int 0, .ref qwd, .ref qmy, .ref qce, .ref qmv, .ref qta, .int 0, .int 0, .int 0, .int 0, .int 0, .long 0, .int 0, .int 0, .int 0, .int (-1), .null, .null, .null, .null, .null, .null, .int 0, .null, .int 0, .int 0, .long 0, .int 0, .int 0, .null, .int 0, .null, .null, .null, .null, .null, .int 0, .null, .int 0, .null, .int 0, .int 0, .int 0, .null, .null, .null, .null, .null, .int 0, .null, .null, .null, .int 0, .int 0]) := (congrFun e_f16 me).trans z_up_self
  have hfr : ∀ b ∈ L, b ≠ me → f16 b = f b := fun b hb h0 => (congrFun e_f16 b).trans (z_up_ne h0 (hfr b hb h0))
  refine lv_aload_n hx hb dX10_init_49 rfl (lv_at hl 0 rfl) ?_
  refine lv_iconst (v := 5) hx hb dX10_init_50 (by decide) ?_
  refine z_newa (atype := .int) (n := 5) (N' := 5) (a0 := (5, .inl (fun _ => 0))) (cells := 5) (slots := 1908) hx hb (hT _ kw_203) rfl 1 rfl (fun _ h => by cases h) hK hw hA (fun _ => rfl) (by decide) (by decide) (by decide) (by decide) (by decide) dX10_init_51 (fun qli H hq_qli hw => ?_)
  refine W.widen (k := 6) (n := 1913) (by decide) (by decide) ?_
  have ne_me_qli : me ≠ qli := z_ne hm_me hq_qli
  have ne_qwd_qli : qwd ≠ qli := z_ne hm_qwd hq_qli
  have ne_qmy_qli : qmy ≠ qli := z_ne hm_qmy hq_qli
  have ne_qce_qli : qce ≠ qli := z_ne hm_qce hq_qli
  have ne_qmv_qli : qmv ≠ qli := z_ne hm_qmv hq_qli
  have ne_qta_qli : qta ≠ qli := z_ne hm_qta hq_qli
  have hn_qli : qli ∉ L := fun h => hq_qli (hsub _ h)
  obtain ⟨f18, e_f18⟩ : ∃ z, z = va_up f16 qli (.inl (cy 1, 5, .inl (fun _ => 0))) := ⟨_, rfl⟩
  obtain ⟨L17, e_L17⟩ : ∃ z, z = L13 ++ [qli] := ⟨_, rfl⟩
  rw [← e_f18, ← e_L17] at hw
  have hm_me : me ∈ L17 := by rw [e_L17]; exact List.mem_append_left _ hm_me
  have hf_me : f18 me = .inr (10, [.int 0, .ref qwd, .ref qmy, .ref qce, .ref qmv, .ref qta, .int 0, .int 0, .int 0, .int 0, .int 0, .long 0, .int 0, .int 0, .int 0, .int (-1), .null, .null, .null, .null, .null, .null, .int 0, .null, .int 0, .int 0, .long 0, .int 0, .int 0, .null, .int 0, .null, .null, .null, .null, .null, .int 0, .null, .int 0, .null, .int 0, .int 0, .int 0, .null, .null, .null, .null, .null, .int 0, .null, .null, .null, .int 0, .int 0]) := (congrFun e_f18 me).trans (z_up_ne ne_me_qli hf_me)
  have hm_qwd : qwd ∈ L17 := by rw [e_L17]; exact List.mem_append_left _ hm_qwd
  have hf_qwd : f18 qwd = .inl (cy 1, 4, .inl (fun _ => 0)) := (congrFun e_f18 qwd).trans (z_up_ne ne_qwd_qli hf_qwd)
  have hm_qmy : qmy ∈ L17 := by rw [e_L17]; exact List.mem_append_left _ hm_qmy
  have hf_qmy : f18 qmy = .inl (cy 1, 4, .inl (fun _ => 0)) := (congrFun e_f18 qmy).trans (z_up_ne ne_qmy_qli hf_qmy)
  have hm_qce : qce ∈ L17 := by rw [e_L17]; exact List.mem_append_left _ hm_qce
  have hf_qce : f18 qce = .inl (cy 2, 240, .inr (.inl (fun _ => 0))) := (congrFun e_f18 qce).trans (z_up_ne ne_qce_qli hf_qce)
  have hm_qmv : qmv ∈ L17 := by rw [e_L17]; exact List.mem_append_left _ hm_qmv
  have hf_qmv : f18 qmv = .inl (cy 2, 60, .inr (.inl (fun _ => 0))) := (congrFun e_f18 qmv).trans (z_up_ne ne_qmv_qli hf_qmv)
  have hm_qta : qta ∈ L17 := by rw [e_L17]; exact List.mem_append_left _ hm_qta
  have hf_qta : f18 qta = .inl (cy 0, 1600, .inl (fun _ => 0)) := (congrFun e_f18 qta).trans (z_up_ne ne_qta_qli hf_qta)
  have hm_qli : qli ∈ L17 := by rw [e_L17]; exact List.mem_append_right _ (List.mem_singleton.mpr rfl)
  have hf_qli : f18 qli = .inl (cy 1, 5, .inl (fun _ => 0)) := (congrFun e_f18 qli).trans z_up_self
  have hsub : ∀ b ∈ L, b ∈ L17 := fun b h => by rw [e_L17]; exact List.mem_append_left _ (hsub b h)
  have hfr : ∀ b ∈ L, b ≠ me → f18 b = f b := fun b hb h0 => (congrFun e_f18 b).trans (z_up_ne (z_ne hb hn_qli) (hfr b hb h0))
  refine z_putF (C := RX10) (T := TX10) (N := 54) (ci := 10) (v := .ref qli) (fs' := [.int 0, .ref qwd, .ref qmy, .ref qce, .ref qmv, .ref qta, .int 0, .int 0, .int 0, .int 0, .int 0, .long 0, .int 0, .int 0, .int 0, .int (-1), .ref qli, .null, .null, .null, .null, .null, .int 0, .null, .int 0, .int 0, .long 0, .int 0, .int 0, .null, .int 0, .null, .null, .null, .null, .null, .int 0, .null, .int 0, .null, .int 0, .int 0, .int 0, .null, .null, .null, .null, .null, .int 0, .null, .null, .null, .int 0, .int 0]) hx hb hT zin_X10 tyX10_ok nmX10 hown hK hw hm_me hf_me rfl 16 (by decide) (hT _ kw_1184) rfl hnm rfl rfl rfl (Nat.le_of_ble_eq_true rfl) rfl dX10_init_53 (fun H locs hw => ?_)
  obtain ⟨f19, e_f19⟩ : ∃ z, z = va_up f18 me (.inr (10, [.int 0, .ref qwd, .ref qmy, .ref qce, .ref qmv, .ref qta, .int 0, .int 0, .int 0, .int 0, .int 0, .long 0, .int 0, .int 0, .int 0, .int (-1), .ref qli, .null, .null, .null, .null, .null, .int 0, .null, .int 0, .int 0, .long 0, .int 0, .int 0, .null, .int 0, .null, .null, .null, .null, .null, .int 0, .null, .int 0, .null, .int 0, .int 0, .int 0, .null, .null, .null, .null, .null, .int 0, .null, .null, .null, .int 0, .int 0])) := ⟨_, rfl⟩
  rw [← e_f19] at hw
  have hf_qwd : f19 qwd = .inl (cy 1, 4, .inl (fun _ => 0)) := (congrFun e_f19 qwd).trans (z_up_ne (Ne.symm ne_me_qwd) hf_qwd)
  have hf_qmy : f19 qmy = .inl (cy 1, 4, .inl (fun _ => 0)) := (congrFun e_f19 qmy).trans (z_up_ne (Ne.symm ne_me_qmy) hf_qmy)
  have hf_qce : f19 qce = .inl (cy 2, 240, .inr (.inl (fun _ => 0))) := (congrFun e_f19 qce).trans (z_up_ne (Ne.symm ne_me_qce) hf_qce)
  have hf_qmv : f19 qmv = .inl (cy 2, 60, .inr (.inl (fun _ => 0))) := (congrFun e_f19 qmv).trans (z_up_ne (Ne.symm ne_me_qmv) hf_qmv)
  have hf_qta : f19 qta = .inl (cy 0, 1600, .inl (fun _ => 0)) := (congrFun e_f19 qta).trans (z_up_ne (Ne.symm ne_me_qta) hf_qta)
  have hf_qli : f19 qli = .inl (cy 1, 5, .inl (fun _ => 0)) := (congrFun e_f19 qli).trans (z_up_ne (Ne.symm ne_me_qli) hf_qli)
  have hf_me : f19 me = .inr (10, [.int 0, .ref qwd, .ref qmy, .ref qce, .ref qmv, .ref qta, .int 0, .int 0, .int 0, .int 0, .int 0, .long 0, .int 0, .int 0, .int 0, .int (-1), .ref qli, .null, .null, .null, .null, .null, .int 0, .null, .int 0, .int 0, .long 0, .int 0, .int 0, .null, .int 0, .null, .null, .null, .null, .null, .int 0, .null, .int 0, .null, .int 0, .int 0, .int 0, .null, .null, .null, .null, .null, .int 0, .null, .null, .null, .int 0, .int 0]) := (congrFun e_f19 me).trans z_up_self
  have hfr : ∀ b ∈ L, b ≠ me → f19 b = f b := fun b hb h0 => (congrFun e_f19 b).trans (z_up_ne h0 (hfr b hb h0))
  refine lv_aload_n hx hb dX10_init_56 rfl (lv_at hl 0 rfl) ?_
  refine lv_bipush (v := 30) hx hb dX10_init_57 (by decide) ?_
  refine z_newa (atype := .int) (n := 30) (N' := 30) (a0 := (30, .inl (fun _ => 0))) (cells := 6) (slots := 1913) hx hb (hT _ kw_203) rfl 1 rfl (fun _ h => by cases h) hK hw hA (fun _ => rfl) (by decide) (by decide) (by decide) (by decide) (by decide) dX10_init_59 (fun qha H hq_qha hw => ?_)
  refine W.widen (k := 7) (n := 1943) (by decide) (by decide) ?_
  have ne_me_qha : me ≠ qha := z_ne hm_me hq_qha
  have ne_qwd_qha : qwd ≠ qha := z_ne hm_qwd hq_qha
  have ne_qmy_qha : qmy ≠ qha := z_ne hm_qmy hq_qha
  have ne_qce_qha : qce ≠ qha := z_ne hm_qce hq_qha
  have ne_qmv_qha : qmv ≠ qha := z_ne hm_qmv hq_qha
  have ne_qta_qha : qta ≠ qha := z_ne hm_qta hq_qha
  have ne_qli_qha : qli ≠ qha := z_ne hm_qli hq_qha
  have hn_qha : qha ∉ L := fun h => hq_qha (hsub _ h)
  obtain ⟨f21, e_f21⟩ : ∃ z, z = va_up f19 qha (.inl (cy 1, 30, .inl (fun _ => 0))) := ⟨_, rfl⟩
  obtain ⟨L20, e_L20⟩ : ∃ z, z = L17 ++ [qha] := ⟨_, rfl⟩
  rw [← e_f21, ← e_L20] at hw
  have hm_me : me ∈ L20 := by rw [e_L20]; exact List.mem_append_left _ hm_me
  have hf_me : f21 me = .inr (10, [.int 0, .ref qwd, .ref qmy, .ref qce, .ref qmv, .ref qta, .int 0, .int 0, .int 0, .int 0, .int 0, .long 0, .int 0, .int 0, .int 0, .int (-1), .ref qli, .null, .null, .null, .null, .null, .int 0, .null, .int 0, .int 0, .long 0, .int 0, .int 0, .null, .int 0, .null, .null, .null, .null, .null, .int 0, .null, .int 0, .null, .int 0, .int 0, .int 0, .null, .null, .null, .null, .null, .int 0, .null, .null, .null, .int 0, .int 0]) := (congrFun e_f21 me).trans (z_up_ne ne_me_qha hf_me)
  have hm_qwd : qwd ∈ L20 := by rw [e_L20]; exact List.mem_append_left _ hm_qwd
  have hf_qwd : f21 qwd = .inl (cy 1, 4, .inl (fun _ => 0)) := (congrFun e_f21 qwd).trans (z_up_ne ne_qwd_qha hf_qwd)
  have hm_qmy : qmy ∈ L20 := by rw [e_L20]; exact List.mem_append_left _ hm_qmy
  have hf_qmy : f21 qmy = .inl (cy 1, 4, .inl (fun _ => 0)) := (congrFun e_f21 qmy).trans (z_up_ne ne_qmy_qha hf_qmy)
  have hm_qce : qce ∈ L20 := by rw [e_L20]; exact List.mem_append_left _ hm_qce
  have hf_qce : f21 qce = .inl (cy 2, 240, .inr (.inl (fun _ => 0))) := (congrFun e_f21 qce).trans (z_up_ne ne_qce_qha hf_qce)
  have hm_qmv : qmv ∈ L20 := by rw [e_L20]; exact List.mem_append_left _ hm_qmv
  have hf_qmv : f21 qmv = .inl (cy 2, 60, .inr (.inl (fun _ => 0))) := (congrFun e_f21 qmv).trans (z_up_ne ne_qmv_qha hf_qmv)
  have hm_qta : qta ∈ L20 := by rw [e_L20]; exact List.mem_append_left _ hm_qta
  have hf_qta : f21 qta = .inl (cy 0, 1600, .inl (fun _ => 0)) := (congrFun e_f21 qta).trans (z_up_ne ne_qta_qha hf_qta)
  have hm_qli : qli ∈ L20 := by rw [e_L20]; exact List.mem_append_left _ hm_qli
  have hf_qli : f21 qli = .inl (cy 1, 5, .inl (fun _ => 0)) := (congrFun e_f21 qli).trans (z_up_ne ne_qli_qha hf_qli)
  have hm_qha : qha ∈ L20 := by rw [e_L20]; exact List.mem_append_right _ (List.mem_singleton.mpr rfl)
  have hf_qha : f21 qha = .inl (cy 1, 30, .inl (fun _ => 0)) := (congrFun e_f21 qha).trans z_up_self
  have hsub : ∀ b ∈ L, b ∈ L20 := fun b h => by rw [e_L20]; exact List.mem_append_left _ (hsub b h)
  have hfr : ∀ b ∈ L, b ≠ me → f21 b = f b := fun b hb h0 => (congrFun e_f21 b).trans (z_up_ne (z_ne hb hn_qha) (hfr b hb h0))
  refine z_putF (C := RX10) (T := TX10) (N := 54) (ci := 10) (v := .ref qha) (fs' := [.int 0, .ref qwd, .ref qmy, .ref qce, .ref qmv, .ref qta, .int 0, .int 0, .int 0, .int 0, .int 0, .long 0, .int 0, .int 0, .int 0, .int (-1), .ref qli, .ref qha, .null, .null, .null, .null, .int 0, .null, .int 0, .int 0, .long 0, .int 0, .int 0, .null, .int 0, .null, .null, .null, .null, .null, .int 0, .null, .int 0, .null, .int 0, .int 0, .int 0, .null, .null, .null, .null, .null, .int 0, .null, .null, .null, .int 0, .int 0]) hx hb hT zin_X10 tyX10_ok nmX10 hown hK hw hm_me hf_me rfl 17 (by decide) (hT _ kw_1185) rfl hnm rfl rfl rfl (Nat.le_of_ble_eq_true rfl) rfl dX10_init_61 (fun H locs hw => ?_)
  obtain ⟨f22, e_f22⟩ : ∃ z, z = va_up f21 me (.inr (10, [.int 0, .ref qwd, .ref qmy, .ref qce, .ref qmv, .ref qta, .int 0, .int 0, .int 0, .int 0, .int 0, .long 0, .int 0, .int 0, .int 0, .int (-1), .ref qli, .ref qha, .null, .null, .null, .null, .int 0, .null, .int 0, .int 0, .long 0, .int 0, .int 0, .null, .int 0, .null, .null, .null, .null, .null, .int 0, .null, .int 0, .null, .int 0, .int 0, .int 0, .null, .null, .null, .null, .null, .int 0, .null, .null, .null, .int 0, .int 0])) := ⟨_, rfl⟩
  rw [← e_f22] at hw
  have hf_qwd : f22 qwd = .inl (cy 1, 4, .inl (fun _ => 0)) := (congrFun e_f22 qwd).trans (z_up_ne (Ne.symm ne_me_qwd) hf_qwd)
  have hf_qmy : f22 qmy = .inl (cy 1, 4, .inl (fun _ => 0)) := (congrFun e_f22 qmy).trans (z_up_ne (Ne.symm ne_me_qmy) hf_qmy)
  have hf_qce : f22 qce = .inl (cy 2, 240, .inr (.inl (fun _ => 0))) := (congrFun e_f22 qce).trans (z_up_ne (Ne.symm ne_me_qce) hf_qce)
  have hf_qmv : f22 qmv = .inl (cy 2, 60, .inr (.inl (fun _ => 0))) := (congrFun e_f22 qmv).trans (z_up_ne (Ne.symm ne_me_qmv) hf_qmv)
  have hf_qta : f22 qta = .inl (cy 0, 1600, .inl (fun _ => 0)) := (congrFun e_f22 qta).trans (z_up_ne (Ne.symm ne_me_qta) hf_qta)
  have hf_qli : f22 qli = .inl (cy 1, 5, .inl (fun _ => 0)) := (congrFun e_f22 qli).trans (z_up_ne (Ne.symm ne_me_qli) hf_qli)
  have hf_qha : f22 qha = .inl (cy 1, 30, .inl (fun _ => 0)) := (congrFun e_f22 qha).trans (z_up_ne (Ne.symm ne_me_qha) hf_qha)
  have hf_me : f22 me = .inr (10, [.int 0, .ref qwd, .ref qmy, .ref qce, .ref qmv, .ref qta, .int 0, .int 0, .int 0, .int 0, .int 0, .long 0, .int 0, .int 0, .int 0, .int (-1), .ref qli, .ref qha, .null, .null, .null, .null, .int 0, .null, .int 0, .int 0, .long 0, .int 0, .int 0, .null, .int 0, .null, .null, .null, .null, .null, .int 0, .null, .int 0, .null, .int 0, .int 0, .int 0, .null, .null, .null, .null, .null, .int 0, .null, .null, .null, .int 0, .int 0]) := (congrFun e_f22 me).trans z_up_self
  have hfr : ∀ b ∈ L, b ≠ me → f22 b = f b := fun b hb h0 => (congrFun e_f22 b).trans (z_up_ne h0 (hfr b hb h0))
  refine lv_aload_n hx hb dX10_init_64 rfl (lv_at hl 0 rfl) ?_
  refine lv_bipush (v := 25) hx hb dX10_init_65 (by decide) ?_
  refine z_newa (atype := .int) (n := 25) (N' := 25) (a0 := (25, .inl (fun _ => 0))) (cells := 7) (slots := 1943) hx hb (hT _ kw_203) rfl 1 rfl (fun _ h => by cases h) hK hw hA (fun _ => rfl) (by decide) (by decide) (by decide) (by decide) (by decide) dX10_init_67 (fun qlw H hq_qlw hw => ?_)
  refine W.widen (k := 8) (n := 1968) (by decide) (by decide) ?_
  have ne_me_qlw : me ≠ qlw := z_ne hm_me hq_qlw
  have ne_qwd_qlw : qwd ≠ qlw := z_ne hm_qwd hq_qlw
  have ne_qmy_qlw : qmy ≠ qlw := z_ne hm_qmy hq_qlw
  have ne_qce_qlw : qce ≠ qlw := z_ne hm_qce hq_qlw
  have ne_qmv_qlw : qmv ≠ qlw := z_ne hm_qmv hq_qlw
  have ne_qta_qlw : qta ≠ qlw := z_ne hm_qta hq_qlw
  have ne_qli_qlw : qli ≠ qlw := z_ne hm_qli hq_qlw
  have ne_qha_qlw : qha ≠ qlw := z_ne hm_qha hq_qlw
  have hn_qlw : qlw ∉ L := fun h => hq_qlw (hsub _ h)
  obtain ⟨f24, e_f24⟩ : ∃ z, z = va_up f22 qlw (.inl (cy 1, 25, .inl (fun _ => 0))) := ⟨_, rfl⟩
  obtain ⟨L23, e_L23⟩ : ∃ z, z = L20 ++ [qlw] := ⟨_, rfl⟩
  rw [← e_f24, ← e_L23] at hw
  have hm_me : me ∈ L23 := by rw [e_L23]; exact List.mem_append_left _ hm_me
  have hf_me : f24 me = .inr (10, [.int 0, .ref qwd, .ref qmy, .ref qce, .ref qmv, .ref qta, .int 0, .int 0, .int 0, .int 0, .int 0, .long 0, .int 0, .int 0, .int 0, .int (-1), .ref qli, .ref qha, .null, .null, .null, .null, .int 0, .null, .int 0, .int 0, .long 0, .int 0, .int 0, .null, .int 0, .null, .null, .null, .null, .null, .int 0, .null, .int 0, .null, .int 0, .int 0, .int 0, .null, .null, .null, .null, .null, .int 0, .null, .null, .null, .int 0, .int 0]) := (congrFun e_f24 me).trans (z_up_ne ne_me_qlw hf_me)
  have hm_qwd : qwd ∈ L23 := by rw [e_L23]; exact List.mem_append_left _ hm_qwd
  have hf_qwd : f24 qwd = .inl (cy 1, 4, .inl (fun _ => 0)) := (congrFun e_f24 qwd).trans (z_up_ne ne_qwd_qlw hf_qwd)
  have hm_qmy : qmy ∈ L23 := by rw [e_L23]; exact List.mem_append_left _ hm_qmy
  have hf_qmy : f24 qmy = .inl (cy 1, 4, .inl (fun _ => 0)) := (congrFun e_f24 qmy).trans (z_up_ne ne_qmy_qlw hf_qmy)
  have hm_qce : qce ∈ L23 := by rw [e_L23]; exact List.mem_append_left _ hm_qce
  have hf_qce : f24 qce = .inl (cy 2, 240, .inr (.inl (fun _ => 0))) := (congrFun e_f24 qce).trans (z_up_ne ne_qce_qlw hf_qce)
  have hm_qmv : qmv ∈ L23 := by rw [e_L23]; exact List.mem_append_left _ hm_qmv
  have hf_qmv : f24 qmv = .inl (cy 2, 60, .inr (.inl (fun _ => 0))) := (congrFun e_f24 qmv).trans (z_up_ne ne_qmv_qlw hf_qmv)
  have hm_qta : qta ∈ L23 := by rw [e_L23]; exact List.mem_append_left _ hm_qta
  have hf_qta : f24 qta = .inl (cy 0, 1600, .inl (fun _ => 0)) := (congrFun e_f24 qta).trans (z_up_ne ne_qta_qlw hf_qta)
  have hm_qli : qli ∈ L23 := by rw [e_L23]; exact List.mem_append_left _ hm_qli
  have hf_qli : f24 qli = .inl (cy 1, 5, .inl (fun _ => 0)) := (congrFun e_f24 qli).trans (z_up_ne ne_qli_qlw hf_qli)
  have hm_qha : qha ∈ L23 := by rw [e_L23]; exact List.mem_append_left _ hm_qha
  have hf_qha : f24 qha = .inl (cy 1, 30, .inl (fun _ => 0)) := (congrFun e_f24 qha).trans (z_up_ne ne_qha_qlw hf_qha)
  have hm_qlw : qlw ∈ L23 := by rw [e_L23]; exact List.mem_append_right _ (List.mem_singleton.mpr rfl)
  have hf_qlw : f24 qlw = .inl (cy 1, 25, .inl (fun _ => 0)) := (congrFun e_f24 qlw).trans z_up_self
  have hsub : ∀ b ∈ L, b ∈ L23 := fun b h => by rw [e_L23]; exact List.mem_append_left _ (hsub b h)
  have hfr : ∀ b ∈ L, b ≠ me → f24 b = f b := fun b hb h0 => (congrFun e_f24 b).trans (z_up_ne (z_ne hb hn_qlw) (hfr b hb h0))
  refine z_putF (C := RX10) (T := TX10) (N := 54) (ci := 10) (v := .ref qlw) (fs' := [.int 0, .ref qwd, .ref qmy, .ref qce, .ref qmv, .ref qta, .int 0, .int 0, .int 0, .int 0, .int 0, .long 0, .int 0, .int 0, .int 0, .int (-1), .ref qli, .ref qha, .ref qlw, .null, .null, .null, .int 0, .null, .int 0, .int 0, .long 0, .int 0, .int 0, .null, .int 0, .null, .null, .null, .null, .null, .int 0, .null, .int 0, .null, .int 0, .int 0, .int 0, .null, .null, .null, .null, .null, .int 0, .null, .null, .null, .int 0, .int 0]) hx hb hT zin_X10 tyX10_ok nmX10 hown hK hw hm_me hf_me rfl 18 (by decide) (hT _ kw_1186) rfl hnm rfl rfl rfl (Nat.le_of_ble_eq_true rfl) rfl dX10_init_69 (fun H locs hw => ?_)
  obtain ⟨f25, e_f25⟩ : ∃ z, z = va_up f24 me (.inr (10, [.int 0, .ref qwd, .ref qmy, .ref qce, .ref qmv, .ref qta, .int 0, .int 0, .int 0, .int 0, .int 0, .long 0, .int 0, .int 0, .int 0, .int (-1), .ref qli, .ref qha, .ref qlw, .null, .null, .null, .int 0, .null, .int 0, .int 0, .long 0, .int 0, .int 0, .null, .int 0, .null, .null, .null, .null, .null, .int 0, .null, .int 0, .null, .int 0, .int 0, .int 0, .null, .null, .null, .null, .null, .int 0, .null, .null, .null, .int 0, .int 0])) := ⟨_, rfl⟩
  rw [← e_f25] at hw
  have hf_qwd : f25 qwd = .inl (cy 1, 4, .inl (fun _ => 0)) := (congrFun e_f25 qwd).trans (z_up_ne (Ne.symm ne_me_qwd) hf_qwd)
  have hf_qmy : f25 qmy = .inl (cy 1, 4, .inl (fun _ => 0)) := (congrFun e_f25 qmy).trans (z_up_ne (Ne.symm ne_me_qmy) hf_qmy)
  have hf_qce : f25 qce = .inl (cy 2, 240, .inr (.inl (fun _ => 0))) := (congrFun e_f25 qce).trans (z_up_ne (Ne.symm ne_me_qce) hf_qce)
  have hf_qmv : f25 qmv = .inl (cy 2, 60, .inr (.inl (fun _ => 0))) := (congrFun e_f25 qmv).trans (z_up_ne (Ne.symm ne_me_qmv) hf_qmv)
  have hf_qta : f25 qta = .inl (cy 0, 1600, .inl (fun _ => 0)) := (congrFun e_f25 qta).trans (z_up_ne (Ne.symm ne_me_qta) hf_qta)
  have hf_qli : f25 qli = .inl (cy 1, 5, .inl (fun _ => 0)) := (congrFun e_f25 qli).trans (z_up_ne (Ne.symm ne_me_qli) hf_qli)
  have hf_qha : f25 qha = .inl (cy 1, 30, .inl (fun _ => 0)) := (congrFun e_f25 qha).trans (z_up_ne (Ne.symm ne_me_qha) hf_qha)
  have hf_qlw : f25 qlw = .inl (cy 1, 25, .inl (fun _ => 0)) := (congrFun e_f25 qlw).trans (z_up_ne (Ne.symm ne_me_qlw) hf_qlw)
  have hf_me : f25 me = .inr (10, [.int 0, .ref qwd, .ref qmy, .ref qce, .ref qmv, .ref qta, .int 0, .int 0, .int 0, .int 0, .int 0, .long 0, .int 0, .int 0, .int 0, .int (-1), .ref qli, .ref qha, .ref qlw, .null, .null, .null, .int 0, .null, .int 0, .int 0, .long 0, .int 0, .int 0, .null, .int 0, .null, .null, .null, .null, .null, .int 0, .null, .int 0, .null, .int 0, .int 0, .int 0, .null, .null, .null, .null, .null, .int 0, .null, .null, .null, .int 0, .int 0]) := (congrFun e_f25 me).trans z_up_self
  have hfr : ∀ b ∈ L, b ≠ me → f25 b = f b := fun b hb h0 => (congrFun e_f25 b).trans (z_up_ne h0 (hfr b hb h0))
  refine lv_aload_n hx hb dX10_init_72 rfl (lv_at hl 0 rfl) ?_
  refine lv_bipush (v := 20) hx hb dX10_init_73 (by decide) ?_
  refine z_newa (atype := .int) (n := 20) (N' := 20) (a0 := (20, .inl (fun _ => 0))) (cells := 8) (slots := 1968) hx hb (hT _ kw_203) rfl 1 rfl (fun _ h => by cases h) hK hw hA (fun _ => rfl) (by decide) (by decide) (by decide) (by decide) (by decide) dX10_init_75 (fun qst H hq_qst hw => ?_)
  refine W.widen (k := 9) (n := 1988) (by decide) (by decide) ?_
  have ne_me_qst : me ≠ qst := z_ne hm_me hq_qst
  have ne_qwd_qst : qwd ≠ qst := z_ne hm_qwd hq_qst
  have ne_qmy_qst : qmy ≠ qst := z_ne hm_qmy hq_qst
  have ne_qce_qst : qce ≠ qst := z_ne hm_qce hq_qst
  have ne_qmv_qst : qmv ≠ qst := z_ne hm_qmv hq_qst
  have ne_qta_qst : qta ≠ qst := z_ne hm_qta hq_qst
  have ne_qli_qst : qli ≠ qst := z_ne hm_qli hq_qst
  have ne_qha_qst : qha ≠ qst := z_ne hm_qha hq_qst
  have ne_qlw_qst : qlw ≠ qst := z_ne hm_qlw hq_qst
  have hn_qst : qst ∉ L := fun h => hq_qst (hsub _ h)
  obtain ⟨f27, e_f27⟩ : ∃ z, z = va_up f25 qst (.inl (cy 1, 20, .inl (fun _ => 0))) := ⟨_, rfl⟩
  obtain ⟨L26, e_L26⟩ : ∃ z, z = L23 ++ [qst] := ⟨_, rfl⟩
  rw [← e_f27, ← e_L26] at hw
  have hm_me : me ∈ L26 := by rw [e_L26]; exact List.mem_append_left _ hm_me
  have hf_me : f27 me = .inr (10, [.int 0, .ref qwd, .ref qmy, .ref qce, .ref qmv, .ref qta, .int 0, .int 0, .int 0, .int 0, .int 0, .long 0, .int 0, .int 0, .int 0, .int (-1), .ref qli, .ref qha, .ref qlw, .null, .null, .null, .int 0, .null, .int 0, .int 0, .long 0, .int 0, .int 0, .null, .int 0, .null, .null, .null, .null, .null, .int 0, .null, .int 0, .null, .int 0, .int 0, .int 0, .null, .null, .null, .null, .null, .int 0, .null, .null, .null, .int 0, .int 0]) := (congrFun e_f27 me).trans (z_up_ne ne_me_qst hf_me)
  have hm_qwd : qwd ∈ L26 := by rw [e_L26]; exact List.mem_append_left _ hm_qwd
  have hf_qwd : f27 qwd = .inl (cy 1, 4, .inl (fun _ => 0)) := (congrFun e_f27 qwd).trans (z_up_ne ne_qwd_qst hf_qwd)
  have hm_qmy : qmy ∈ L26 := by rw [e_L26]; exact List.mem_append_left _ hm_qmy
  have hf_qmy : f27 qmy = .inl (cy 1, 4, .inl (fun _ => 0)) := (congrFun e_f27 qmy).trans (z_up_ne ne_qmy_qst hf_qmy)
  have hm_qce : qce ∈ L26 := by rw [e_L26]; exact List.mem_append_left _ hm_qce
  have hf_qce : f27 qce = .inl (cy 2, 240, .inr (.inl (fun _ => 0))) := (congrFun e_f27 qce).trans (z_up_ne ne_qce_qst hf_qce)
  have hm_qmv : qmv ∈ L26 := by rw [e_L26]; exact List.mem_append_left _ hm_qmv
  have hf_qmv : f27 qmv = .inl (cy 2, 60, .inr (.inl (fun _ => 0))) := (congrFun e_f27 qmv).trans (z_up_ne ne_qmv_qst hf_qmv)
  have hm_qta : qta ∈ L26 := by rw [e_L26]; exact List.mem_append_left _ hm_qta
  have hf_qta : f27 qta = .inl (cy 0, 1600, .inl (fun _ => 0)) := (congrFun e_f27 qta).trans (z_up_ne ne_qta_qst hf_qta)
  have hm_qli : qli ∈ L26 := by rw [e_L26]; exact List.mem_append_left _ hm_qli
  have hf_qli : f27 qli = .inl (cy 1, 5, .inl (fun _ => 0)) := (congrFun e_f27 qli).trans (z_up_ne ne_qli_qst hf_qli)
  have hm_qha : qha ∈ L26 := by rw [e_L26]; exact List.mem_append_left _ hm_qha
  have hf_qha : f27 qha = .inl (cy 1, 30, .inl (fun _ => 0)) := (congrFun e_f27 qha).trans (z_up_ne ne_qha_qst hf_qha)
  have hm_qlw : qlw ∈ L26 := by rw [e_L26]; exact List.mem_append_left _ hm_qlw
  have hf_qlw : f27 qlw = .inl (cy 1, 25, .inl (fun _ => 0)) := (congrFun e_f27 qlw).trans (z_up_ne ne_qlw_qst hf_qlw)
  have hm_qst : qst ∈ L26 := by rw [e_L26]; exact List.mem_append_right _ (List.mem_singleton.mpr rfl)
  have hf_qst : f27 qst = .inl (cy 1, 20, .inl (fun _ => 0)) := (congrFun e_f27 qst).trans z_up_self
  have hsub : ∀ b ∈ L, b ∈ L26 := fun b h => by rw [e_L26]; exact List.mem_append_left _ (hsub b h)
  have hfr : ∀ b ∈ L, b ≠ me → f27 b = f b := fun b hb h0 => (congrFun e_f27 b).trans (z_up_ne (z_ne hb hn_qst) (hfr b hb h0))
  refine z_putF (C := RX10) (T := TX10) (N := 54) (ci := 10) (v := .ref qst) (fs' := [.int 0, .ref qwd, .ref qmy, .ref qce, .ref qmv, .ref qta, .int 0, .int 0, .int 0, .int 0, .int 0, .long 0, .int 0, .int 0, .int 0, .int (-1), .ref qli, .ref qha, .ref qlw, .ref qst, .null, .null, .int 0, .null, .int 0, .int 0, .long 0, .int 0, .int 0, .null, .int 0, .null, .null, .null, .null, .null, .int 0, .null, .int 0, .null, .int 0, .int 0, .int 0, .null, .null, .null, .null, .null, .int 0, .null, .null, .null, .int 0, .int 0]) hx hb hT zin_X10 tyX10_ok nmX10 hown hK hw hm_me hf_me rfl 19 (by decide) (hT _ kw_1187) rfl hnm rfl rfl rfl (Nat.le_of_ble_eq_true rfl) rfl dX10_init_77 (fun H locs hw => ?_)
  obtain ⟨f28, e_f28⟩ : ∃ z, z = va_up f27 me (.inr (10, [.int 0, .ref qwd, .ref qmy, .ref qce, .ref qmv, .ref qta, .int 0, .int 0, .int 0, .int 0, .int 0, .long 0, .int 0, .int 0, .int 0, .int (-1), .ref qli, .ref qha, .ref qlw, .ref qst, .null, .null, .int 0, .null, .int 0, .int 0, .long 0, .int 0, .int 0, .null, .int 0, .null, .null, .null, .null, .null, .int 0, .null, .int 0, .null, .int 0, .int 0, .int 0, .null, .null, .null, .null, .null, .int 0, .null, .null, .null, .int 0, .int 0])) := ⟨_, rfl⟩
  rw [← e_f28] at hw
  have hf_qwd : f28 qwd = .inl (cy 1, 4, .inl (fun _ => 0)) := (congrFun e_f28 qwd).trans (z_up_ne (Ne.symm ne_me_qwd) hf_qwd)
  have hf_qmy : f28 qmy = .inl (cy 1, 4, .inl (fun _ => 0)) := (congrFun e_f28 qmy).trans (z_up_ne (Ne.symm ne_me_qmy) hf_qmy)
  have hf_qce : f28 qce = .inl (cy 2, 240, .inr (.inl (fun _ => 0))) := (congrFun e_f28 qce).trans (z_up_ne (Ne.symm ne_me_qce) hf_qce)
  have hf_qmv : f28 qmv = .inl (cy 2, 60, .inr (.inl (fun _ => 0))) := (congrFun e_f28 qmv).trans (z_up_ne (Ne.symm ne_me_qmv) hf_qmv)
  have hf_qta : f28 qta = .inl (cy 0, 1600, .inl (fun _ => 0)) := (congrFun e_f28 qta).trans (z_up_ne (Ne.symm ne_me_qta) hf_qta)
  have hf_qli : f28 qli = .inl (cy 1, 5, .inl (fun _ => 0)) := (congrFun e_f28 qli).trans (z_up_ne (Ne.symm ne_me_qli) hf_qli)
  have hf_qha : f28 qha = .inl (cy 1, 30, .inl (fun _ => 0)) := (congrFun e_f28 qha).trans (z_up_ne (Ne.symm ne_me_qha) hf_qha)
  have hf_qlw : f28 qlw = .inl (cy 1, 25, .inl (fun _ => 0)) := (congrFun e_f28 qlw).trans (z_up_ne (Ne.symm ne_me_qlw) hf_qlw)
  have hf_qst : f28 qst = .inl (cy 1, 20, .inl (fun _ => 0)) := (congrFun e_f28 qst).trans (z_up_ne (Ne.symm ne_me_qst) hf_qst)
  have hf_me : f28 me = .inr (10, [.int 0, .ref qwd, .ref qmy, .ref qce, .ref qmv, .ref qta, .int 0, .int 0, .int 0, .int 0, .int 0, .long 0, .int 0, .int 0, .int 0, .int (-1), .ref qli, .ref qha, .ref qlw, .ref qst, .null, .null, .int 0, .null, .int 0, .int 0, .long 0, .int 0, .int 0, .null, .int 0, .null, .null, .null, .null, .null, .int 0, .null, .int 0, .null, .int 0, .int 0, .int 0, .null, .null, .null, .null, .null, .int 0, .null, .null, .null, .int 0, .int 0]) := (congrFun e_f28 me).trans z_up_self
  have hfr : ∀ b ∈ L, b ≠ me → f28 b = f b := fun b hb h0 => (congrFun e_f28 b).trans (z_up_ne h0 (hfr b hb h0))
  refine lv_aload_n hx hb dX10_init_80 rfl (lv_at hl 0 rfl) ?_
  refine lv_sipush (v := 180) hx hb dX10_init_81 (by decide) ?_
  refine z_newa (atype := .int) (n := 180) (N' := 180) (a0 := (180, .inl (fun _ => 0))) (cells := 9) (slots := 1988) hx hb (hT _ kw_203) rfl 1 rfl (fun _ h => by cases h) hK hw hA (fun _ => rfl) (by decide) (by decide) (by decide) (by decide) (by decide) dX10_init_84 (fun qfo H hq_qfo hw => ?_)
  refine W.widen (k := 10) (n := 2168) (by decide) (by decide) ?_
  have ne_me_qfo : me ≠ qfo := z_ne hm_me hq_qfo
  have ne_qwd_qfo : qwd ≠ qfo := z_ne hm_qwd hq_qfo
  have ne_qmy_qfo : qmy ≠ qfo := z_ne hm_qmy hq_qfo
  have ne_qce_qfo : qce ≠ qfo := z_ne hm_qce hq_qfo
  have ne_qmv_qfo : qmv ≠ qfo := z_ne hm_qmv hq_qfo
  have ne_qta_qfo : qta ≠ qfo := z_ne hm_qta hq_qfo
  have ne_qli_qfo : qli ≠ qfo := z_ne hm_qli hq_qfo
  have ne_qha_qfo : qha ≠ qfo := z_ne hm_qha hq_qfo
  have ne_qlw_qfo : qlw ≠ qfo := z_ne hm_qlw hq_qfo
  have ne_qst_qfo : qst ≠ qfo := z_ne hm_qst hq_qfo
  have hn_qfo : qfo ∉ L := fun h => hq_qfo (hsub _ h)
  obtain ⟨f30, e_f30⟩ : ∃ z, z = va_up f28 qfo (.inl (cy 1, 180, .inl (fun _ => 0))) := ⟨_, rfl⟩
  obtain ⟨L29, e_L29⟩ : ∃ z, z = L26 ++ [qfo] := ⟨_, rfl⟩
  rw [← e_f30, ← e_L29] at hw
  have hm_me : me ∈ L29 := by rw [e_L29]; exact List.mem_append_left _ hm_me
  have hf_me : f30 me = .inr (10, [.int 0, .ref qwd, .ref qmy, .ref qce, .ref qmv, .ref qta, .int 0, .int 0, .int 0, .int 0, .int 0, .long 0, .int 0, .int 0, .int 0, .int (-1), .ref qli, .ref qha, .ref qlw, .ref qst, .null, .null, .int 0, .null, .int 0, .int 0, .long 0, .int 0, .int 0, .null, .int 0, .null, .null, .null, .null, .null, .int 0, .null, .int 0, .null, .int 0, .int 0, .int 0, .null, .null, .null, .null, .null, .int 0, .null, .null, .null, .int 0, .int 0]) := (congrFun e_f30 me).trans (z_up_ne ne_me_qfo hf_me)
  have hm_qwd : qwd ∈ L29 := by rw [e_L29]; exact List.mem_append_left _ hm_qwd
  have hf_qwd : f30 qwd = .inl (cy 1, 4, .inl (fun _ => 0)) := (congrFun e_f30 qwd).trans (z_up_ne ne_qwd_qfo hf_qwd)
  have hm_qmy : qmy ∈ L29 := by rw [e_L29]; exact List.mem_append_left _ hm_qmy
  have hf_qmy : f30 qmy = .inl (cy 1, 4, .inl (fun _ => 0)) := (congrFun e_f30 qmy).trans (z_up_ne ne_qmy_qfo hf_qmy)
  have hm_qce : qce ∈ L29 := by rw [e_L29]; exact List.mem_append_left _ hm_qce
  have hf_qce : f30 qce = .inl (cy 2, 240, .inr (.inl (fun _ => 0))) := (congrFun e_f30 qce).trans (z_up_ne ne_qce_qfo hf_qce)
  have hm_qmv : qmv ∈ L29 := by rw [e_L29]; exact List.mem_append_left _ hm_qmv
  have hf_qmv : f30 qmv = .inl (cy 2, 60, .inr (.inl (fun _ => 0))) := (congrFun e_f30 qmv).trans (z_up_ne ne_qmv_qfo hf_qmv)
  have hm_qta : qta ∈ L29 := by rw [e_L29]; exact List.mem_append_left _ hm_qta
  have hf_qta : f30 qta = .inl (cy 0, 1600, .inl (fun _ => 0)) := (congrFun e_f30 qta).trans (z_up_ne ne_qta_qfo hf_qta)
  have hm_qli : qli ∈ L29 := by rw [e_L29]; exact List.mem_append_left _ hm_qli
  have hf_qli : f30 qli = .inl (cy 1, 5, .inl (fun _ => 0)) := (congrFun e_f30 qli).trans (z_up_ne ne_qli_qfo hf_qli)
  have hm_qha : qha ∈ L29 := by rw [e_L29]; exact List.mem_append_left _ hm_qha
  have hf_qha : f30 qha = .inl (cy 1, 30, .inl (fun _ => 0)) := (congrFun e_f30 qha).trans (z_up_ne ne_qha_qfo hf_qha)
  have hm_qlw : qlw ∈ L29 := by rw [e_L29]; exact List.mem_append_left _ hm_qlw
  have hf_qlw : f30 qlw = .inl (cy 1, 25, .inl (fun _ => 0)) := (congrFun e_f30 qlw).trans (z_up_ne ne_qlw_qfo hf_qlw)
  have hm_qst : qst ∈ L29 := by rw [e_L29]; exact List.mem_append_left _ hm_qst
  have hf_qst : f30 qst = .inl (cy 1, 20, .inl (fun _ => 0)) := (congrFun e_f30 qst).trans (z_up_ne ne_qst_qfo hf_qst)
  have hm_qfo : qfo ∈ L29 := by rw [e_L29]; exact List.mem_append_right _ (List.mem_singleton.mpr rfl)
  have hf_qfo : f30 qfo = .inl (cy 1, 180, .inl (fun _ => 0)) := (congrFun e_f30 qfo).trans z_up_self
  have hsub : ∀ b ∈ L, b ∈ L29 := fun b h => by rw [e_L29]; exact List.mem_append_left _ (hsub b h)
  have hfr : ∀ b ∈ L, b ≠ me → f30 b = f b := fun b hb h0 => (congrFun e_f30 b).trans (z_up_ne (z_ne hb hn_qfo) (hfr b hb h0))
  refine z_putF (C := RX10) (T := TX10) (N := 54) (ci := 10) (v := .ref qfo) (fs' := [.int 0, .ref qwd, .ref qmy, .ref qce, .ref qmv, .ref qta, .int 0, .int 0, .int 0, .int 0, .int 0, .long 0, .int 0, .int 0, .int 0, .int (-1), .ref qli, .ref qha, .ref qlw, .ref qst, .ref qfo, .null, .int 0, .null, .int 0, .int 0, .long 0, .int 0, .int 0, .null, .int 0, .null, .null, .null, .null, .null, .int 0, .null, .int 0, .null, .int 0, .int 0, .int 0, .null, .null, .null, .null, .null, .int 0, .null, .null, .null, .int 0, .int 0]) hx hb hT zin_X10 tyX10_ok nmX10 hown hK hw hm_me hf_me rfl 20 (by decide) (hT _ kw_1188) rfl hnm rfl rfl rfl (Nat.le_of_ble_eq_true rfl) rfl dX10_init_86 (fun H locs hw => ?_)
  obtain ⟨f31, e_f31⟩ : ∃ z, z = va_up f30 me (.inr (10, [.int 0, .ref qwd, .ref qmy, .ref qce, .ref qmv, .ref qta, .int 0, .int 0, .int 0, .int 0, .int 0, .long 0, .int 0, .int 0, .int 0, .int (-1), .ref qli, .ref qha, .ref qlw, .ref qst, .ref qfo, .null, .int 0, .null, .int 0, .int 0, .long 0, .int 0, .int 0, .null, .int 0, .null, .null, .null, .null, .null, .int 0, .null, .int 0, .null, .int 0, .int 0, .int 0, .null, .null, .null, .null, .null, .int 0, .null, .null, .null, .int 0, .int 0])) := ⟨_, rfl⟩
  rw [← e_f31] at hw
  have hf_qwd : f31 qwd = .inl (cy 1, 4, .inl (fun _ => 0)) := (congrFun e_f31 qwd).trans (z_up_ne (Ne.symm ne_me_qwd) hf_qwd)
  have hf_qmy : f31 qmy = .inl (cy 1, 4, .inl (fun _ => 0)) := (congrFun e_f31 qmy).trans (z_up_ne (Ne.symm ne_me_qmy) hf_qmy)
  have hf_qce : f31 qce = .inl (cy 2, 240, .inr (.inl (fun _ => 0))) := (congrFun e_f31 qce).trans (z_up_ne (Ne.symm ne_me_qce) hf_qce)
  have hf_qmv : f31 qmv = .inl (cy 2, 60, .inr (.inl (fun _ => 0))) := (congrFun e_f31 qmv).trans (z_up_ne (Ne.symm ne_me_qmv) hf_qmv)
  have hf_qta : f31 qta = .inl (cy 0, 1600, .inl (fun _ => 0)) := (congrFun e_f31 qta).trans (z_up_ne (Ne.symm ne_me_qta) hf_qta)
  have hf_qli : f31 qli = .inl (cy 1, 5, .inl (fun _ => 0)) := (congrFun e_f31 qli).trans (z_up_ne (Ne.symm ne_me_qli) hf_qli)
  have hf_qha : f31 qha = .inl (cy 1, 30, .inl (fun _ => 0)) := (congrFun e_f31 qha).trans (z_up_ne (Ne.symm ne_me_qha) hf_qha)
  have hf_qlw : f31 qlw = .inl (cy 1, 25, .inl (fun _ => 0)) := (congrFun e_f31 qlw).trans (z_up_ne (Ne.symm ne_me_qlw) hf_qlw)
  have hf_qst : f31 qst = .inl (cy 1, 20, .inl (fun _ => 0)) := (congrFun e_f31 qst).trans (z_up_ne (Ne.symm ne_me_qst) hf_qst)
  have hf_qfo : f31 qfo = .inl (cy 1, 180, .inl (fun _ => 0)) := (congrFun e_f31 qfo).trans (z_up_ne (Ne.symm ne_me_qfo) hf_qfo)
  have hf_me : f31 me = .inr (10, [.int 0, .ref qwd, .ref qmy, .ref qce, .ref qmv, .ref qta, .int 0, .int 0, .int 0, .int 0, .int 0, .long 0, .int 0, .int 0, .int 0, .int (-1), .ref qli, .ref qha, .ref qlw, .ref qst, .ref qfo, .null, .int 0, .null, .int 0, .int 0, .long 0, .int 0, .int 0, .null, .int 0, .null, .null, .null, .null, .null, .int 0, .null, .int 0, .null, .int 0, .int 0, .int 0, .null, .null, .null, .null, .null, .int 0, .null, .null, .null, .int 0, .int 0]) := (congrFun e_f31 me).trans z_up_self
  have hfr : ∀ b ∈ L, b ≠ me → f31 b = f b := fun b hb h0 => (congrFun e_f31 b).trans (z_up_ne h0 (hfr b hb h0))
  refine lv_aload_n hx hb dX10_init_89 rfl (lv_at hl 0 rfl) ?_
  refine lv_sipush (v := 520) hx hb dX10_init_90 (by decide) ?_
  refine z_newa (atype := .int) (n := 520) (N' := 520) (a0 := (520, .inl (fun _ => 0))) (cells := 10) (slots := 2168) hx hb (hT _ kw_203) rfl 1 rfl (fun _ h => by cases h) hK hw hA (fun _ => rfl) (by decide) (by decide) (by decide) (by decide) (by decide) dX10_init_93 (fun qdr H hq_qdr hw => ?_)
  refine W.widen (k := 11) (n := 2688) (by decide) (by decide) ?_
  have ne_me_qdr : me ≠ qdr := z_ne hm_me hq_qdr
  have ne_qwd_qdr : qwd ≠ qdr := z_ne hm_qwd hq_qdr
  have ne_qmy_qdr : qmy ≠ qdr := z_ne hm_qmy hq_qdr
  have ne_qce_qdr : qce ≠ qdr := z_ne hm_qce hq_qdr
  have ne_qmv_qdr : qmv ≠ qdr := z_ne hm_qmv hq_qdr
  have ne_qta_qdr : qta ≠ qdr := z_ne hm_qta hq_qdr
  have ne_qli_qdr : qli ≠ qdr := z_ne hm_qli hq_qdr
  have ne_qha_qdr : qha ≠ qdr := z_ne hm_qha hq_qdr
  have ne_qlw_qdr : qlw ≠ qdr := z_ne hm_qlw hq_qdr
  have ne_qst_qdr : qst ≠ qdr := z_ne hm_qst hq_qdr
  have ne_qfo_qdr : qfo ≠ qdr := z_ne hm_qfo hq_qdr
  have hn_qdr : qdr ∉ L := fun h => hq_qdr (hsub _ h)
  obtain ⟨f33, e_f33⟩ : ∃ z, z = va_up f31 qdr (.inl (cy 1, 520, .inl (fun _ => 0))) := ⟨_, rfl⟩
  obtain ⟨L32, e_L32⟩ : ∃ z, z = L29 ++ [qdr] := ⟨_, rfl⟩
  rw [← e_f33, ← e_L32] at hw
  have hm_me : me ∈ L32 := by rw [e_L32]; exact List.mem_append_left _ hm_me
  have hf_me : f33 me = .inr (10, [.int 0, .ref qwd, .ref qmy, .ref qce, .ref qmv, .ref qta, .int 0, .int 0, .int 0, .int 0, .int 0, .long 0, .int 0, .int 0, .int 0, .int (-1), .ref qli, .ref qha, .ref qlw, .ref qst, .ref qfo, .null, .int 0, .null, .int 0, .int 0, .long 0, .int 0, .int 0, .null, .int 0, .null, .null, .null, .null, .null, .int 0, .null, .int 0, .null, .int 0, .int 0, .int 0, .null, .null, .null, .null, .null, .int 0, .null, .null, .null, .int 0, .int 0]) := (congrFun e_f33 me).trans (z_up_ne ne_me_qdr hf_me)
  have hm_qwd : qwd ∈ L32 := by rw [e_L32]; exact List.mem_append_left _ hm_qwd
  have hf_qwd : f33 qwd = .inl (cy 1, 4, .inl (fun _ => 0)) := (congrFun e_f33 qwd).trans (z_up_ne ne_qwd_qdr hf_qwd)
  have hm_qmy : qmy ∈ L32 := by rw [e_L32]; exact List.mem_append_left _ hm_qmy
  have hf_qmy : f33 qmy = .inl (cy 1, 4, .inl (fun _ => 0)) := (congrFun e_f33 qmy).trans (z_up_ne ne_qmy_qdr hf_qmy)
  have hm_qce : qce ∈ L32 := by rw [e_L32]; exact List.mem_append_left _ hm_qce
  have hf_qce : f33 qce = .inl (cy 2, 240, .inr (.inl (fun _ => 0))) := (congrFun e_f33 qce).trans (z_up_ne ne_qce_qdr hf_qce)
  have hm_qmv : qmv ∈ L32 := by rw [e_L32]; exact List.mem_append_left _ hm_qmv
  have hf_qmv : f33 qmv = .inl (cy 2, 60, .inr (.inl (fun _ => 0))) := (congrFun e_f33 qmv).trans (z_up_ne ne_qmv_qdr hf_qmv)
  have hm_qta : qta ∈ L32 := by rw [e_L32]; exact List.mem_append_left _ hm_qta
  have hf_qta : f33 qta = .inl (cy 0, 1600, .inl (fun _ => 0)) := (congrFun e_f33 qta).trans (z_up_ne ne_qta_qdr hf_qta)
  have hm_qli : qli ∈ L32 := by rw [e_L32]; exact List.mem_append_left _ hm_qli
  have hf_qli : f33 qli = .inl (cy 1, 5, .inl (fun _ => 0)) := (congrFun e_f33 qli).trans (z_up_ne ne_qli_qdr hf_qli)
  have hm_qha : qha ∈ L32 := by rw [e_L32]; exact List.mem_append_left _ hm_qha
  have hf_qha : f33 qha = .inl (cy 1, 30, .inl (fun _ => 0)) := (congrFun e_f33 qha).trans (z_up_ne ne_qha_qdr hf_qha)
  have hm_qlw : qlw ∈ L32 := by rw [e_L32]; exact List.mem_append_left _ hm_qlw
  have hf_qlw : f33 qlw = .inl (cy 1, 25, .inl (fun _ => 0)) := (congrFun e_f33 qlw).trans (z_up_ne ne_qlw_qdr hf_qlw)
  have hm_qst : qst ∈ L32 := by rw [e_L32]; exact List.mem_append_left _ hm_qst
  have hf_qst : f33 qst = .inl (cy 1, 20, .inl (fun _ => 0)) := (congrFun e_f33 qst).trans (z_up_ne ne_qst_qdr hf_qst)
  have hm_qfo : qfo ∈ L32 := by rw [e_L32]; exact List.mem_append_left _ hm_qfo
  have hf_qfo : f33 qfo = .inl (cy 1, 180, .inl (fun _ => 0)) := (congrFun e_f33 qfo).trans (z_up_ne ne_qfo_qdr hf_qfo)
  have hm_qdr : qdr ∈ L32 := by rw [e_L32]; exact List.mem_append_right _ (List.mem_singleton.mpr rfl)
  have hf_qdr : f33 qdr = .inl (cy 1, 520, .inl (fun _ => 0)) := (congrFun e_f33 qdr).trans z_up_self
  have hsub : ∀ b ∈ L, b ∈ L32 := fun b h => by rw [e_L32]; exact List.mem_append_left _ (hsub b h)
  have hfr : ∀ b ∈ L, b ≠ me → f33 b = f b := fun b hb h0 => (congrFun e_f33 b).trans (z_up_ne (z_ne hb hn_qdr) (hfr b hb h0))
  refine z_putF (C := RX10) (T := TX10) (N := 54) (ci := 10) (v := .ref qdr) (fs' := [.int 0, .ref qwd, .ref qmy, .ref qce, .ref qmv, .ref qta, .int 0, .int 0, .int 0, .int 0, .int 0, .long 0, .int 0, .int 0, .int 0, .int (-1), .ref qli, .ref qha, .ref qlw, .ref qst, .ref qfo, .ref qdr, .int 0, .null, .int 0, .int 0, .long 0, .int 0, .int 0, .null, .int 0, .null, .null, .null, .null, .null, .int 0, .null, .int 0, .null, .int 0, .int 0, .int 0, .null, .null, .null, .null, .null, .int 0, .null, .null, .null, .int 0, .int 0]) hx hb hT zin_X10 tyX10_ok nmX10 hown hK hw hm_me hf_me rfl 21 (by decide) (hT _ kw_1189) rfl hnm rfl rfl rfl (Nat.le_of_ble_eq_true rfl) rfl dX10_init_95 (fun H locs hw => ?_)
  obtain ⟨f34, e_f34⟩ : ∃ z, z = va_up f33 me (.inr (10, [.int 0, .ref qwd, .ref qmy, .ref qce, .ref qmv, .ref qta, .int 0, .int 0, .int 0, .int 0, .int 0, .long 0, .int 0, .int 0, .int 0, .int (-1), .ref qli, .ref qha, .ref qlw, .ref qst, .ref qfo, .ref qdr, .int 0, .null, .int 0, .int 0, .long 0, .int 0, .int 0, .null, .int 0, .null, .null, .null, .null, .null, .int 0, .null, .int 0, .null, .int 0, .int 0, .int 0, .null, .null, .null, .null, .null, .int 0, .null, .null, .null, .int 0, .int 0])) := ⟨_, rfl⟩
  rw [← e_f34] at hw
  have hf_qwd : f34 qwd = .inl (cy 1, 4, .inl (fun _ => 0)) := (congrFun e_f34 qwd).trans (z_up_ne (Ne.symm ne_me_qwd) hf_qwd)
  have hf_qmy : f34 qmy = .inl (cy 1, 4, .inl (fun _ => 0)) := (congrFun e_f34 qmy).trans (z_up_ne (Ne.symm ne_me_qmy) hf_qmy)
  have hf_qce : f34 qce = .inl (cy 2, 240, .inr (.inl (fun _ => 0))) := (congrFun e_f34 qce).trans (z_up_ne (Ne.symm ne_me_qce) hf_qce)
  have hf_qmv : f34 qmv = .inl (cy 2, 60, .inr (.inl (fun _ => 0))) := (congrFun e_f34 qmv).trans (z_up_ne (Ne.symm ne_me_qmv) hf_qmv)
  have hf_qta : f34 qta = .inl (cy 0, 1600, .inl (fun _ => 0)) := (congrFun e_f34 qta).trans (z_up_ne (Ne.symm ne_me_qta) hf_qta)
  have hf_qli : f34 qli = .inl (cy 1, 5, .inl (fun _ => 0)) := (congrFun e_f34 qli).trans (z_up_ne (Ne.symm ne_me_qli) hf_qli)
  have hf_qha : f34 qha = .inl (cy 1, 30, .inl (fun _ => 0)) := (congrFun e_f34 qha).trans (z_up_ne (Ne.symm ne_me_qha) hf_qha)
  have hf_qlw : f34 qlw = .inl (cy 1, 25, .inl (fun _ => 0)) := (congrFun e_f34 qlw).trans (z_up_ne (Ne.symm ne_me_qlw) hf_qlw)
  have hf_qst : f34 qst = .inl (cy 1, 20, .inl (fun _ => 0)) := (congrFun e_f34 qst).trans (z_up_ne (Ne.symm ne_me_qst) hf_qst)
  have hf_qfo : f34 qfo = .inl (cy 1, 180, .inl (fun _ => 0)) := (congrFun e_f34 qfo).trans (z_up_ne (Ne.symm ne_me_qfo) hf_qfo)
  have hf_qdr : f34 qdr = .inl (cy 1, 520, .inl (fun _ => 0)) := (congrFun e_f34 qdr).trans (z_up_ne (Ne.symm ne_me_qdr) hf_qdr)
  have hf_me : f34 me = .inr (10, [.int 0, .ref qwd, .ref qmy, .ref qce, .ref qmv, .ref qta, .int 0, .int 0, .int 0, .int 0, .int 0, .long 0, .int 0, .int 0, .int 0, .int (-1), .ref qli, .ref qha, .ref qlw, .ref qst, .ref qfo, .ref qdr, .int 0, .null, .int 0, .int 0, .long 0, .int 0, .int 0, .null, .int 0, .null, .null, .null, .null, .null, .int 0, .null, .int 0, .null, .int 0, .int 0, .int 0, .null, .null, .null, .null, .null, .int 0, .null, .null, .null, .int 0, .int 0]) := (congrFun e_f34 me).trans z_up_self
  have hfr : ∀ b ∈ L, b ≠ me → f34 b = f b := fun b hb h0 => (congrFun e_f34 b).trans (z_up_ne h0 (hfr b hb h0))
  refine lv_aload_n hx hb dX10_init_98 rfl (lv_at hl 0 rfl) ?_
  refine lv_iconst (v := 3) hx hb dX10_init_99 (by decide) ?_
  refine z_newa (atype := .boolean) (n := 3) (N' := 3) (a0 := (3, .inl (fun _ => 0))) (cells := 11) (slots := 2688) hx hb (hT _ kw_334) rfl 3 rfl (fun _ h => by cases h) hK hw hA (fun _ => rfl) (by decide) (by decide) (by decide) (by decide) (by decide) dX10_init_100 (fun qik H hq_qik hw => ?_)
  refine W.widen (k := 12) (n := 2691) (by decide) (by decide) ?_
  have ne_me_qik : me ≠ qik := z_ne hm_me hq_qik
  have ne_qwd_qik : qwd ≠ qik := z_ne hm_qwd hq_qik
  have ne_qmy_qik : qmy ≠ qik := z_ne hm_qmy hq_qik
  have ne_qce_qik : qce ≠ qik := z_ne hm_qce hq_qik
  have ne_qmv_qik : qmv ≠ qik := z_ne hm_qmv hq_qik
  have ne_qta_qik : qta ≠ qik := z_ne hm_qta hq_qik
  have ne_qli_qik : qli ≠ qik := z_ne hm_qli hq_qik
  have ne_qha_qik : qha ≠ qik := z_ne hm_qha hq_qik
  have ne_qlw_qik : qlw ≠ qik := z_ne hm_qlw hq_qik
  have ne_qst_qik : qst ≠ qik := z_ne hm_qst hq_qik
  have ne_qfo_qik : qfo ≠ qik := z_ne hm_qfo hq_qik
  have ne_qdr_qik : qdr ≠ qik := z_ne hm_qdr hq_qik
  have hn_qik : qik ∉ L := fun h => hq_qik (hsub _ h)
  obtain ⟨f36, e_f36⟩ : ∃ z, z = va_up f34 qik (.inl (cy 3, 3, .inl (fun _ => 0))) := ⟨_, rfl⟩
  obtain ⟨L35, e_L35⟩ : ∃ z, z = L32 ++ [qik] := ⟨_, rfl⟩
  rw [← e_f36, ← e_L35] at hw
  have hm_me : me ∈ L35 := by rw [e_L35]; exact List.mem_append_left _ hm_me
  have hf_me : f36 me = .inr (10, [.int 0, .ref qwd, .ref qmy, .ref qce, .ref qmv, .ref qta, .int 0, .int 0, .int 0, .int 0, .int 0, .long 0, .int 0, .int 0, .int 0, .int (-1), .ref qli, .ref qha, .ref qlw, .ref qst, .ref qfo, .ref qdr, .int 0, .null, .int 0, .int 0, .long 0, .int 0, .int 0, .null, .int 0, .null, .null, .null, .null, .null, .int 0, .null, .int 0, .null, .int 0, .int 0, .int 0, .null, .null, .null, .null, .null, .int 0, .null, .null, .null, .int 0, .int 0]) := (congrFun e_f36 me).trans (z_up_ne ne_me_qik hf_me)
  have hm_qwd : qwd ∈ L35 := by rw [e_L35]; exact List.mem_append_left _ hm_qwd
  have hf_qwd : f36 qwd = .inl (cy 1, 4, .inl (fun _ => 0)) := (congrFun e_f36 qwd).trans (z_up_ne ne_qwd_qik hf_qwd)
  have hm_qmy : qmy ∈ L35 := by rw [e_L35]; exact List.mem_append_left _ hm_qmy
  have hf_qmy : f36 qmy = .inl (cy 1, 4, .inl (fun _ => 0)) := (congrFun e_f36 qmy).trans (z_up_ne ne_qmy_qik hf_qmy)
  have hm_qce : qce ∈ L35 := by rw [e_L35]; exact List.mem_append_left _ hm_qce
  have hf_qce : f36 qce = .inl (cy 2, 240, .inr (.inl (fun _ => 0))) := (congrFun e_f36 qce).trans (z_up_ne ne_qce_qik hf_qce)
  have hm_qmv : qmv ∈ L35 := by rw [e_L35]; exact List.mem_append_left _ hm_qmv
  have hf_qmv : f36 qmv = .inl (cy 2, 60, .inr (.inl (fun _ => 0))) := (congrFun e_f36 qmv).trans (z_up_ne ne_qmv_qik hf_qmv)
  have hm_qta : qta ∈ L35 := by rw [e_L35]; exact List.mem_append_left _ hm_qta
  have hf_qta : f36 qta = .inl (cy 0, 1600, .inl (fun _ => 0)) := (congrFun e_f36 qta).trans (z_up_ne ne_qta_qik hf_qta)
  have hm_qli : qli ∈ L35 := by rw [e_L35]; exact List.mem_append_left _ hm_qli
  have hf_qli : f36 qli = .inl (cy 1, 5, .inl (fun _ => 0)) := (congrFun e_f36 qli).trans (z_up_ne ne_qli_qik hf_qli)
  have hm_qha : qha ∈ L35 := by rw [e_L35]; exact List.mem_append_left _ hm_qha
  have hf_qha : f36 qha = .inl (cy 1, 30, .inl (fun _ => 0)) := (congrFun e_f36 qha).trans (z_up_ne ne_qha_qik hf_qha)
  have hm_qlw : qlw ∈ L35 := by rw [e_L35]; exact List.mem_append_left _ hm_qlw
  have hf_qlw : f36 qlw = .inl (cy 1, 25, .inl (fun _ => 0)) := (congrFun e_f36 qlw).trans (z_up_ne ne_qlw_qik hf_qlw)
  have hm_qst : qst ∈ L35 := by rw [e_L35]; exact List.mem_append_left _ hm_qst
  have hf_qst : f36 qst = .inl (cy 1, 20, .inl (fun _ => 0)) := (congrFun e_f36 qst).trans (z_up_ne ne_qst_qik hf_qst)
  have hm_qfo : qfo ∈ L35 := by rw [e_L35]; exact List.mem_append_left _ hm_qfo
  have hf_qfo : f36 qfo = .inl (cy 1, 180, .inl (fun _ => 0)) := (congrFun e_f36 qfo).trans (z_up_ne ne_qfo_qik hf_qfo)
  have hm_qdr : qdr ∈ L35 := by rw [e_L35]; exact List.mem_append_left _ hm_qdr
  have hf_qdr : f36 qdr = .inl (cy 1, 520, .inl (fun _ => 0)) := (congrFun e_f36 qdr).trans (z_up_ne ne_qdr_qik hf_qdr)
  have hm_qik : qik ∈ L35 := by rw [e_L35]; exact List.mem_append_right _ (List.mem_singleton.mpr rfl)
  have hf_qik : f36 qik = .inl (cy 3, 3, .inl (fun _ => 0)) := (congrFun e_f36 qik).trans z_up_self
  have hsub : ∀ b ∈ L, b ∈ L35 := fun b h => by rw [e_L35]; exact List.mem_append_left _ (hsub b h)
  have hfr : ∀ b ∈ L, b ≠ me → f36 b = f b := fun b hb h0 => (congrFun e_f36 b).trans (z_up_ne (z_ne hb hn_qik) (hfr b hb h0))
  refine z_putF (C := RX10) (T := TX10) (N := 54) (ci := 10) (v := .ref qik) (fs' := [.int 0, .ref qwd, .ref qmy, .ref qce, .ref qmv, .ref qta, .int 0, .int 0, .int 0, .int 0, .int 0, .long 0, .int 0, .int 0, .int 0, .int (-1), .ref qli, .ref qha, .ref qlw, .ref qst, .ref qfo, .ref qdr, .int 0, .ref qik, .int 0, .int 0, .long 0, .int 0, .int 0, .null, .int 0, .null, .null, .null, .null, .null, .int 0, .null, .int 0, .null, .int 0, .int 0, .int 0, .null, .null, .null, .null, .null, .int 0, .null, .null, .null, .int 0, .int 0]) hx hb hT zin_X10 tyX10_ok nmX10 hown hK hw hm_me hf_me rfl 23 (by decide) (hT _ kw_1191) rfl hnm rfl rfl rfl (Nat.le_of_ble_eq_true rfl) rfl dX10_init_102 (fun H locs hw => ?_)
  obtain ⟨f37, e_f37⟩ : ∃ z, z = va_up f36 me (.inr (10, [.int 0, .ref qwd, .ref qmy, .ref qce, .ref qmv, .ref qta, .int 0, .int 0, .int 0, .int 0, .int 0, .long 0, .int 0, .int 0, .int 0, .int (-1), .ref qli, .ref qha, .ref qlw, .ref qst, .ref qfo, .ref qdr, .int 0, .ref qik, .int 0, .int 0, .long 0, .int 0, .int 0, .null, .int 0, .null, .null, .null, .null, .null, .int 0, .null, .int 0, .null, .int 0, .int 0, .int 0, .null, .null, .null, .null, .null, .int 0, .null, .null, .null, .int 0, .int 0])) := ⟨_, rfl⟩
  rw [← e_f37] at hw
  have hf_qwd : f37 qwd = .inl (cy 1, 4, .inl (fun _ => 0)) := (congrFun e_f37 qwd).trans (z_up_ne (Ne.symm ne_me_qwd) hf_qwd)
  have hf_qmy : f37 qmy = .inl (cy 1, 4, .inl (fun _ => 0)) := (congrFun e_f37 qmy).trans (z_up_ne (Ne.symm ne_me_qmy) hf_qmy)
  have hf_qce : f37 qce = .inl (cy 2, 240, .inr (.inl (fun _ => 0))) := (congrFun e_f37 qce).trans (z_up_ne (Ne.symm ne_me_qce) hf_qce)
  have hf_qmv : f37 qmv = .inl (cy 2, 60, .inr (.inl (fun _ => 0))) := (congrFun e_f37 qmv).trans (z_up_ne (Ne.symm ne_me_qmv) hf_qmv)
  have hf_qta : f37 qta = .inl (cy 0, 1600, .inl (fun _ => 0)) := (congrFun e_f37 qta).trans (z_up_ne (Ne.symm ne_me_qta) hf_qta)
  have hf_qli : f37 qli = .inl (cy 1, 5, .inl (fun _ => 0)) := (congrFun e_f37 qli).trans (z_up_ne (Ne.symm ne_me_qli) hf_qli)
  have hf_qha : f37 qha = .inl (cy 1, 30, .inl (fun _ => 0)) := (congrFun e_f37 qha).trans (z_up_ne (Ne.symm ne_me_qha) hf_qha)
  have hf_qlw : f37 qlw = .inl (cy 1, 25, .inl (fun _ => 0)) := (congrFun e_f37 qlw).trans (z_up_ne (Ne.symm ne_me_qlw) hf_qlw)
  have hf_qst : f37 qst = .inl (cy 1, 20, .inl (fun _ => 0)) := (congrFun e_f37 qst).trans (z_up_ne (Ne.symm ne_me_qst) hf_qst)
  have hf_qfo : f37 qfo = .inl (cy 1, 180, .inl (fun _ => 0)) := (congrFun e_f37 qfo).trans (z_up_ne (Ne.symm ne_me_qfo) hf_qfo)
  have hf_qdr : f37 qdr = .inl (cy 1, 520, .inl (fun _ => 0)) := (congrFun e_f37 qdr).trans (z_up_ne (Ne.symm ne_me_qdr) hf_qdr)
  have hf_qik : f37 qik = .inl (cy 3, 3, .inl (fun _ => 0)) := (congrFun e_f37 qik).trans (z_up_ne (Ne.symm ne_me_qik) hf_qik)
  have hf_me : f37 me = .inr (10, [.int 0, .ref qwd, .ref qmy, .ref qce, .ref qmv, .ref qta, .int 0, .int 0, .int 0, .int 0, .int 0, .long 0, .int 0, .int 0, .int 0, .int (-1), .ref qli, .ref qha, .ref qlw, .ref qst, .ref qfo, .ref qdr, .int 0, .ref qik, .int 0, .int 0, .long 0, .int 0, .int 0, .null, .int 0, .null, .null, .null, .null, .null, .int 0, .null, .int 0, .null, .int 0, .int 0, .int 0, .null, .null, .null, .null, .null, .int 0, .null, .null, .null, .int 0, .int 0]) := (congrFun e_f37 me).trans z_up_self
  have hfr : ∀ b ∈ L, b ≠ me → f37 b = f b := fun b hb h0 => (congrFun e_f37 b).trans (z_up_ne h0 (hfr b hb h0))
  refine lv_aload_n hx hb dX10_init_105 rfl (lv_at hl 0 rfl) ?_
  refine lv_iconst (v := (-1)) hx hb dX10_init_106 (by decide) ?_
  refine z_put (C := RX10) (T := TX10) (N := 54) (ci := 10) (v := .int (-1)) (fs' := [.int 0, .ref qwd, .ref qmy, .ref qce, .ref qmv, .ref qta, .int 0, .int 0, .int 0, .int 0, .int 0, .long 0, .int 0, .int 0, .int 0, .int (-1), .ref qli, .ref qha, .ref qlw, .ref qst, .ref qfo, .ref qdr, .int 0, .ref qik, .int (-1), .int 0, .long 0, .int 0, .int 0, .null, .int 0, .null, .null, .null, .null, .null, .int 0, .null, .int 0, .null, .int 0, .int 0, .int 0, .null, .null, .null, .null, .null, .int 0, .null, .null, .null, .int 0, .int 0]) hx hb hT zin_X10 tyX10_ok nmX10 hown hK hw hm_me hf_me rfl 24 (by decide) (hT _ kw_1192) rfl rfl rfl (Nat.le_of_ble_eq_true rfl) rfl dX10_init_107 (fun H locs hw => ?_)
  obtain ⟨f38, e_f38⟩ : ∃ z, z = va_up f37 me (.inr (10, [.int 0, .ref qwd, .ref qmy, .ref qce, .ref qmv, .ref qta, .int 0, .int 0, .int 0, .int 0, .int 0, .long 0, .int 0, .int 0, .int 0, .int (-1), .ref qli, .ref qha, .ref qlw, .ref qst, .ref qfo, .ref qdr, .int 0, .ref qik, .int (-1), .int 0, .long 0, .int 0, .int 0, .null, .int 0, .null, .null, .null, .null, .null, .int 0, .null, .int 0, .null, .int 0, .int 0, .int 0, .null, .null, .null, .null, .null, .int 0, .null, .null, .null, .int 0, .int 0])) := ⟨_, rfl⟩
  rw [← e_f38] at hw
  have hf_qwd : f38 qwd = .inl (cy 1, 4, .inl (fun _ => 0)) := (congrFun e_f38 qwd).trans (z_up_ne (Ne.symm ne_me_qwd) hf_qwd)
  have hf_qmy : f38 qmy = .inl (cy 1, 4, .inl (fun _ => 0)) := (congrFun e_f38 qmy).trans (z_up_ne (Ne.symm ne_me_qmy) hf_qmy)
  have hf_qce : f38 qce = .inl (cy 2, 240, .inr (.inl (fun _ => 0))) := (congrFun e_f38 qce).trans (z_up_ne (Ne.symm ne_me_qce) hf_qce)
  have hf_qmv : f38 qmv = .inl (cy 2, 60, .inr (.inl (fun _ => 0))) := (congrFun e_f38 qmv).trans (z_up_ne (Ne.symm ne_me_qmv) hf_qmv)
  have hf_qta : f38 qta = .inl (cy 0, 1600, .inl (fun _ => 0)) := (congrFun e_f38 qta).trans (z_up_ne (Ne.symm ne_me_qta) hf_qta)
  have hf_qli : f38 qli = .inl (cy 1, 5, .inl (fun _ => 0)) := (congrFun e_f38 qli).trans (z_up_ne (Ne.symm ne_me_qli) hf_qli)
  have hf_qha : f38 qha = .inl (cy 1, 30, .inl (fun _ => 0)) := (congrFun e_f38 qha).trans (z_up_ne (Ne.symm ne_me_qha) hf_qha)
  have hf_qlw : f38 qlw = .inl (cy 1, 25, .inl (fun _ => 0)) := (congrFun e_f38 qlw).trans (z_up_ne (Ne.symm ne_me_qlw) hf_qlw)
  have hf_qst : f38 qst = .inl (cy 1, 20, .inl (fun _ => 0)) := (congrFun e_f38 qst).trans (z_up_ne (Ne.symm ne_me_qst) hf_qst)
  have hf_qfo : f38 qfo = .inl (cy 1, 180, .inl (fun _ => 0)) := (congrFun e_f38 qfo).trans (z_up_ne (Ne.symm ne_me_qfo) hf_qfo)
  have hf_qdr : f38 qdr = .inl (cy 1, 520, .inl (fun _ => 0)) := (congrFun e_f38 qdr).trans (z_up_ne (Ne.symm ne_me_qdr) hf_qdr)
  have hf_qik : f38 qik = .inl (cy 3, 3, .inl (fun _ => 0)) := (congrFun e_f38 qik).trans (z_up_ne (Ne.symm ne_me_qik) hf_qik)
  have hf_me : f38 me = .inr (10, [.int 0, .ref qwd, .ref qmy, .ref qce, .ref qmv, .ref qta, .int 0, .int 0, .int 0, .int 0, .int 0, .long 0, .int 0, .int 0, .int 0, .int (-1), .ref qli, .ref qha, .ref qlw, .ref qst, .ref qfo, .ref qdr, .int 0, .ref qik, .int (-1), .int 0, .long 0, .int 0, .int 0, .null, .int 0, .null, .null, .null, .null, .null, .int 0, .null, .int 0, .null, .int 0, .int 0, .int 0, .null, .null, .null, .null, .null, .int 0, .null, .null, .null, .int 0, .int 0]) := (congrFun e_f38 me).trans z_up_self
  have hfr : ∀ b ∈ L, b ≠ me → f38 b = f b := fun b hb h0 => (congrFun e_f38 b).trans (z_up_ne h0 (hfr b hb h0))
  refine lv_aload_n hx hb dX10_init_110 rfl (lv_at hl 0 rfl) ?_
  refine lv_bipush (v := 13) hx hb dX10_init_111 (by decide) ?_
  refine z_newa (atype := .int) (n := 13) (N' := 13) (a0 := (13, .inl (fun _ => 0))) (cells := 12) (slots := 2691) hx hb (hT _ kw_203) rfl 1 rfl (fun _ h => by cases h) hK hw hA (fun _ => rfl) (by decide) (by decide) (by decide) (by decide) (by decide) dX10_init_113 (fun qro H hq_qro hw => ?_)
  refine W.widen (k := 13) (n := 2704) (by decide) (by decide) ?_
  have ne_me_qro : me ≠ qro := z_ne hm_me hq_qro
  have ne_qwd_qro : qwd ≠ qro := z_ne hm_qwd hq_qro
  have ne_qmy_qro : qmy ≠ qro := z_ne hm_qmy hq_qro
  have ne_qce_qro : qce ≠ qro := z_ne hm_qce hq_qro
  have ne_qmv_qro : qmv ≠ qro := z_ne hm_qmv hq_qro
  have ne_qta_qro : qta ≠ qro := z_ne hm_qta hq_qro
  have ne_qli_qro : qli ≠ qro := z_ne hm_qli hq_qro
  have ne_qha_qro : qha ≠ qro := z_ne hm_qha hq_qro
  have ne_qlw_qro : qlw ≠ qro := z_ne hm_qlw hq_qro
  have ne_qst_qro : qst ≠ qro := z_ne hm_qst hq_qro
  have ne_qfo_qro : qfo ≠ qro := z_ne hm_qfo hq_qro
  have ne_qdr_qro : qdr ≠ qro := z_ne hm_qdr hq_qro
  have ne_qik_qro : qik ≠ qro := z_ne hm_qik hq_qro
  have hn_qro : qro ∉ L := fun h => hq_qro (hsub _ h)
  obtain ⟨f40, e_f40⟩ : ∃ z, z = va_up f38 qro (.inl (cy 1, 13, .inl (fun _ => 0))) := ⟨_, rfl⟩
  obtain ⟨L39, e_L39⟩ : ∃ z, z = L35 ++ [qro] := ⟨_, rfl⟩
  rw [← e_f40, ← e_L39] at hw
  have hm_me : me ∈ L39 := by rw [e_L39]; exact List.mem_append_left _ hm_me
  have hf_me : f40 me = .inr (10, [.int 0, .ref qwd, .ref qmy, .ref qce, .ref qmv, .ref qta, .int 0, .int 0, .int 0, .int 0, .int 0, .long 0, .int 0, .int 0, .int 0, .int (-1), .ref qli, .ref qha, .ref qlw, .ref qst, .ref qfo, .ref qdr, .int 0, .ref qik, .int (-1), .int 0, .long 0, .int 0, .int 0, .null, .int 0, .null, .null, .null, .null, .null, .int 0, .null, .int 0, .null, .int 0, .int 0, .int 0, .null, .null, .null, .null, .null, .int 0, .null, .null, .null, .int 0, .int 0]) := (congrFun e_f40 me).trans (z_up_ne ne_me_qro hf_me)
  have hm_qwd : qwd ∈ L39 := by rw [e_L39]; exact List.mem_append_left _ hm_qwd
  have hf_qwd : f40 qwd = .inl (cy 1, 4, .inl (fun _ => 0)) := (congrFun e_f40 qwd).trans (z_up_ne ne_qwd_qro hf_qwd)
  have hm_qmy : qmy ∈ L39 := by rw [e_L39]; exact List.mem_append_left _ hm_qmy
  have hf_qmy : f40 qmy = .inl (cy 1, 4, .inl (fun _ => 0)) := (congrFun e_f40 qmy).trans (z_up_ne ne_qmy_qro hf_qmy)
  have hm_qce : qce ∈ L39 := by rw [e_L39]; exact List.mem_append_left _ hm_qce
  have hf_qce : f40 qce = .inl (cy 2, 240, .inr (.inl (fun _ => 0))) := (congrFun e_f40 qce).trans (z_up_ne ne_qce_qro hf_qce)
  have hm_qmv : qmv ∈ L39 := by rw [e_L39]; exact List.mem_append_left _ hm_qmv
  have hf_qmv : f40 qmv = .inl (cy 2, 60, .inr (.inl (fun _ => 0))) := (congrFun e_f40 qmv).trans (z_up_ne ne_qmv_qro hf_qmv)
  have hm_qta : qta ∈ L39 := by rw [e_L39]; exact List.mem_append_left _ hm_qta
  have hf_qta : f40 qta = .inl (cy 0, 1600, .inl (fun _ => 0)) := (congrFun e_f40 qta).trans (z_up_ne ne_qta_qro hf_qta)
  have hm_qli : qli ∈ L39 := by rw [e_L39]; exact List.mem_append_left _ hm_qli
  have hf_qli : f40 qli = .inl (cy 1, 5, .inl (fun _ => 0)) := (congrFun e_f40 qli).trans (z_up_ne ne_qli_qro hf_qli)
  have hm_qha : qha ∈ L39 := by rw [e_L39]; exact List.mem_append_left _ hm_qha
  have hf_qha : f40 qha = .inl (cy 1, 30, .inl (fun _ => 0)) := (congrFun e_f40 qha).trans (z_up_ne ne_qha_qro hf_qha)
  have hm_qlw : qlw ∈ L39 := by rw [e_L39]; exact List.mem_append_left _ hm_qlw
  have hf_qlw : f40 qlw = .inl (cy 1, 25, .inl (fun _ => 0)) := (congrFun e_f40 qlw).trans (z_up_ne ne_qlw_qro hf_qlw)
  have hm_qst : qst ∈ L39 := by rw [e_L39]; exact List.mem_append_left _ hm_qst
  have hf_qst : f40 qst = .inl (cy 1, 20, .inl (fun _ => 0)) := (congrFun e_f40 qst).trans (z_up_ne ne_qst_qro hf_qst)
  have hm_qfo : qfo ∈ L39 := by rw [e_L39]; exact List.mem_append_left _ hm_qfo
  have hf_qfo : f40 qfo = .inl (cy 1, 180, .inl (fun _ => 0)) := (congrFun e_f40 qfo).trans (z_up_ne ne_qfo_qro hf_qfo)
  have hm_qdr : qdr ∈ L39 := by rw [e_L39]; exact List.mem_append_left _ hm_qdr
  have hf_qdr : f40 qdr = .inl (cy 1, 520, .inl (fun _ => 0)) := (congrFun e_f40 qdr).trans (z_up_ne ne_qdr_qro hf_qdr)
  have hm_qik : qik ∈ L39 := by rw [e_L39]; exact List.mem_append_left _ hm_qik
  have hf_qik : f40 qik = .inl (cy 3, 3, .inl (fun _ => 0)) := (congrFun e_f40 qik).trans (z_up_ne ne_qik_qro hf_qik)
  have hm_qro : qro ∈ L39 := by rw [e_L39]; exact List.mem_append_right _ (List.mem_singleton.mpr rfl)
  have hf_qro : f40 qro = .inl (cy 1, 13, .inl (fun _ => 0)) := (congrFun e_f40 qro).trans z_up_self
  have hsub : ∀ b ∈ L, b ∈ L39 := fun b h => by rw [e_L39]; exact List.mem_append_left _ (hsub b h)
  have hfr : ∀ b ∈ L, b ≠ me → f40 b = f b := fun b hb h0 => (congrFun e_f40 b).trans (z_up_ne (z_ne hb hn_qro) (hfr b hb h0))
  refine z_putF (C := RX10) (T := TX10) (N := 54) (ci := 10) (v := .ref qro) (fs' := [.int 0, .ref qwd, .ref qmy, .ref qce, .ref qmv, .ref qta, .int 0, .int 0, .int 0, .int 0, .int 0, .long 0, .int 0, .int 0, .int 0, .int (-1), .ref qli, .ref qha, .ref qlw, .ref qst, .ref qfo, .ref qdr, .int 0, .ref qik, .int (-1), .int 0, .long 0, .int 0, .int 0, .ref qro, .int 0, .null, .null, .null, .null, .null, .int 0, .null, .int 0, .null, .int 0, .int 0, .int 0, .null, .null, .null, .null, .null, .int 0, .null, .null, .null, .int 0, .int 0]) hx hb hT zin_X10 tyX10_ok nmX10 hown hK hw hm_me hf_me rfl 29 (by decide) (hT _ kw_1197) rfl hnm rfl rfl rfl (Nat.le_of_ble_eq_true rfl) rfl dX10_init_115 (fun H locs hw => ?_)
  obtain ⟨f41, e_f41⟩ : ∃ z, z = va_up f40 me (.inr (10, [.int 0, .ref qwd, .ref qmy, .ref qce, .ref qmv, .ref qta, .int 0, .int 0, .int 0, .int 0, .int 0, .long 0, .int 0, .int 0, .int 0, .int (-1), .ref qli, .ref qha, .ref qlw, .ref qst, .ref qfo, .ref qdr, .int 0, .ref qik, .int (-1), .int 0, .long 0, .int 0, .int 0, .ref qro, .int 0, .null, .null, .null, .null, .null, .int 0, .null, .int 0, .null, .int 0, .int 0, .int 0, .null, .null, .null, .null, .null, .int 0, .null, .null, .null, .int 0, .int 0])) := ⟨_, rfl⟩
  rw [← e_f41] at hw
  have hf_qwd : f41 qwd = .inl (cy 1, 4, .inl (fun _ => 0)) := (congrFun e_f41 qwd).trans (z_up_ne (Ne.symm ne_me_qwd) hf_qwd)
  have hf_qmy : f41 qmy = .inl (cy 1, 4, .inl (fun _ => 0)) := (congrFun e_f41 qmy).trans (z_up_ne (Ne.symm ne_me_qmy) hf_qmy)
  have hf_qce : f41 qce = .inl (cy 2, 240, .inr (.inl (fun _ => 0))) := (congrFun e_f41 qce).trans (z_up_ne (Ne.symm ne_me_qce) hf_qce)
  have hf_qmv : f41 qmv = .inl (cy 2, 60, .inr (.inl (fun _ => 0))) := (congrFun e_f41 qmv).trans (z_up_ne (Ne.symm ne_me_qmv) hf_qmv)
  have hf_qta : f41 qta = .inl (cy 0, 1600, .inl (fun _ => 0)) := (congrFun e_f41 qta).trans (z_up_ne (Ne.symm ne_me_qta) hf_qta)
  have hf_qli : f41 qli = .inl (cy 1, 5, .inl (fun _ => 0)) := (congrFun e_f41 qli).trans (z_up_ne (Ne.symm ne_me_qli) hf_qli)
  have hf_qha : f41 qha = .inl (cy 1, 30, .inl (fun _ => 0)) := (congrFun e_f41 qha).trans (z_up_ne (Ne.symm ne_me_qha) hf_qha)
  have hf_qlw : f41 qlw = .inl (cy 1, 25, .inl (fun _ => 0)) := (congrFun e_f41 qlw).trans (z_up_ne (Ne.symm ne_me_qlw) hf_qlw)
  have hf_qst : f41 qst = .inl (cy 1, 20, .inl (fun _ => 0)) := (congrFun e_f41 qst).trans (z_up_ne (Ne.symm ne_me_qst) hf_qst)
  have hf_qfo : f41 qfo = .inl (cy 1, 180, .inl (fun _ => 0)) := (congrFun e_f41 qfo).trans (z_up_ne (Ne.symm ne_me_qfo) hf_qfo)
  have hf_qdr : f41 qdr = .inl (cy 1, 520, .inl (fun _ => 0)) := (congrFun e_f41 qdr).trans (z_up_ne (Ne.symm ne_me_qdr) hf_qdr)
  have hf_qik : f41 qik = .inl (cy 3, 3, .inl (fun _ => 0)) := (congrFun e_f41 qik).trans (z_up_ne (Ne.symm ne_me_qik) hf_qik)
  have hf_qro : f41 qro = .inl (cy 1, 13, .inl (fun _ => 0)) := (congrFun e_f41 qro).trans (z_up_ne (Ne.symm ne_me_qro) hf_qro)
  have hf_me : f41 me = .inr (10, [.int 0, .ref qwd, .ref qmy, .ref qce, .ref qmv, .ref qta, .int 0, .int 0, .int 0, .int 0, .int 0, .long 0, .int 0, .int 0, .int 0, .int (-1), .ref qli, .ref qha, .ref qlw, .ref qst, .ref qfo, .ref qdr, .int 0, .ref qik, .int (-1), .int 0, .long 0, .int 0, .int 0, .ref qro, .int 0, .null, .null, .null, .null, .null, .int 0, .null, .int 0, .null, .int 0, .int 0, .int 0, .null, .null, .null, .null, .null, .int 0, .null, .null, .null, .int 0, .int 0]) := (congrFun e_f41 me).trans z_up_self
  have hfr : ∀ b ∈ L, b ≠ me → f41 b = f b := fun b hb h0 => (congrFun e_f41 b).trans (z_up_ne h0 (hfr b hb h0))
  refine lv_aload_n hx hb dX10_init_118 rfl (lv_at hl 0 rfl) ?_
  refine lv_iconst (v := 4) hx hb dX10_init_119 (by decide) ?_
  refine z_newa (atype := .int) (n := 4) (N' := 4) (a0 := (4, .inl (fun _ => 0))) (cells := 13) (slots := 2704) hx hb (hT _ kw_203) rfl 1 rfl (fun _ h => by cases h) hK hw hA (fun _ => rfl) (by decide) (by decide) (by decide) (by decide) (by decide) dX10_init_120 (fun qct H hq_qct hw => ?_)
  refine W.widen (k := 14) (n := 2708) (by decide) (by decide) ?_
  have ne_me_qct : me ≠ qct := z_ne hm_me hq_qct
  have ne_qwd_qct : qwd ≠ qct := z_ne hm_qwd hq_qct
  have ne_qmy_qct : qmy ≠ qct := z_ne hm_qmy hq_qct
  have ne_qce_qct : qce ≠ qct := z_ne hm_qce hq_qct
  have ne_qmv_qct : qmv ≠ qct := z_ne hm_qmv hq_qct
  have ne_qta_qct : qta ≠ qct := z_ne hm_qta hq_qct
  have ne_qli_qct : qli ≠ qct := z_ne hm_qli hq_qct
  have ne_qha_qct : qha ≠ qct := z_ne hm_qha hq_qct
  have ne_qlw_qct : qlw ≠ qct := z_ne hm_qlw hq_qct
  have ne_qst_qct : qst ≠ qct := z_ne hm_qst hq_qct
  have ne_qfo_qct : qfo ≠ qct := z_ne hm_qfo hq_qct
  have ne_qdr_qct : qdr ≠ qct := z_ne hm_qdr hq_qct
  have ne_qik_qct : qik ≠ qct := z_ne hm_qik hq_qct
  have ne_qro_qct : qro ≠ qct := z_ne hm_qro hq_qct
  have hn_qct : qct ∉ L := fun h => hq_qct (hsub _ h)
  obtain ⟨f43, e_f43⟩ : ∃ z, z = va_up f41 qct (.inl (cy 1, 4, .inl (fun _ => 0))) := ⟨_, rfl⟩
  obtain ⟨L42, e_L42⟩ : ∃ z, z = L39 ++ [qct] := ⟨_, rfl⟩
  rw [← e_f43, ← e_L42] at hw
  have hm_me : me ∈ L42 := by rw [e_L42]; exact List.mem_append_left _ hm_me
  have hf_me : f43 me = .inr (10, [.int 0, .ref qwd, .ref qmy, .ref qce, .ref qmv, .ref qta, .int 0, .int 0, .int 0, .int 0, .int 0, .long 0, .int 0, .int 0, .int 0, .int (-1), .ref qli, .ref qha, .ref qlw, .ref qst, .ref qfo, .ref qdr, .int 0, .ref qik, .int (-1), .int 0, .long 0, .int 0, .int 0, .ref qro, .int 0, .null, .null, .null, .null, .null, .int 0, .null, .int 0, .null, .int 0, .int 0, .int 0, .null, .null, .null, .null, .null, .int 0, .null, .null, .null, .int 0, .int 0]) := (congrFun e_f43 me).trans (z_up_ne ne_me_qct hf_me)
  have hm_qwd : qwd ∈ L42 := by rw [e_L42]; exact List.mem_append_left _ hm_qwd
  have hf_qwd : f43 qwd = .inl (cy 1, 4, .inl (fun _ => 0)) := (congrFun e_f43 qwd).trans (z_up_ne ne_qwd_qct hf_qwd)
  have hm_qmy : qmy ∈ L42 := by rw [e_L42]; exact List.mem_append_left _ hm_qmy
  have hf_qmy : f43 qmy = .inl (cy 1, 4, .inl (fun _ => 0)) := (congrFun e_f43 qmy).trans (z_up_ne ne_qmy_qct hf_qmy)
  have hm_qce : qce ∈ L42 := by rw [e_L42]; exact List.mem_append_left _ hm_qce
  have hf_qce : f43 qce = .inl (cy 2, 240, .inr (.inl (fun _ => 0))) := (congrFun e_f43 qce).trans (z_up_ne ne_qce_qct hf_qce)
  have hm_qmv : qmv ∈ L42 := by rw [e_L42]; exact List.mem_append_left _ hm_qmv
  have hf_qmv : f43 qmv = .inl (cy 2, 60, .inr (.inl (fun _ => 0))) := (congrFun e_f43 qmv).trans (z_up_ne ne_qmv_qct hf_qmv)
  have hm_qta : qta ∈ L42 := by rw [e_L42]; exact List.mem_append_left _ hm_qta
  have hf_qta : f43 qta = .inl (cy 0, 1600, .inl (fun _ => 0)) := (congrFun e_f43 qta).trans (z_up_ne ne_qta_qct hf_qta)
  have hm_qli : qli ∈ L42 := by rw [e_L42]; exact List.mem_append_left _ hm_qli
  have hf_qli : f43 qli = .inl (cy 1, 5, .inl (fun _ => 0)) := (congrFun e_f43 qli).trans (z_up_ne ne_qli_qct hf_qli)
  have hm_qha : qha ∈ L42 := by rw [e_L42]; exact List.mem_append_left _ hm_qha
  have hf_qha : f43 qha = .inl (cy 1, 30, .inl (fun _ => 0)) := (congrFun e_f43 qha).trans (z_up_ne ne_qha_qct hf_qha)
  have hm_qlw : qlw ∈ L42 := by rw [e_L42]; exact List.mem_append_left _ hm_qlw
  have hf_qlw : f43 qlw = .inl (cy 1, 25, .inl (fun _ => 0)) := (congrFun e_f43 qlw).trans (z_up_ne ne_qlw_qct hf_qlw)
  have hm_qst : qst ∈ L42 := by rw [e_L42]; exact List.mem_append_left _ hm_qst
  have hf_qst : f43 qst = .inl (cy 1, 20, .inl (fun _ => 0)) := (congrFun e_f43 qst).trans (z_up_ne ne_qst_qct hf_qst)
  have hm_qfo : qfo ∈ L42 := by rw [e_L42]; exact List.mem_append_left _ hm_qfo
  have hf_qfo : f43 qfo = .inl (cy 1, 180, .inl (fun _ => 0)) := (congrFun e_f43 qfo).trans (z_up_ne ne_qfo_qct hf_qfo)
  have hm_qdr : qdr ∈ L42 := by rw [e_L42]; exact List.mem_append_left _ hm_qdr
  have hf_qdr : f43 qdr = .inl (cy 1, 520, .inl (fun _ => 0)) := (congrFun e_f43 qdr).trans (z_up_ne ne_qdr_qct hf_qdr)
  have hm_qik : qik ∈ L42 := by rw [e_L42]; exact List.mem_append_left _ hm_qik
  have hf_qik : f43 qik = .inl (cy 3, 3, .inl (fun _ => 0)) := (congrFun e_f43 qik).trans (z_up_ne ne_qik_qct hf_qik)
  have hm_qro : qro ∈ L42 := by rw [e_L42]; exact List.mem_append_left _ hm_qro
  have hf_qro : f43 qro = .inl (cy 1, 13, .inl (fun _ => 0)) := (congrFun e_f43 qro).trans (z_up_ne ne_qro_qct hf_qro)
  have hm_qct : qct ∈ L42 := by rw [e_L42]; exact List.mem_append_right _ (List.mem_singleton.mpr rfl)
  have hf_qct : f43 qct = .inl (cy 1, 4, .inl (fun _ => 0)) := (congrFun e_f43 qct).trans z_up_self
  have hsub : ∀ b ∈ L, b ∈ L42 := fun b h => by rw [e_L42]; exact List.mem_append_left _ (hsub b h)
  have hfr : ∀ b ∈ L, b ≠ me → f43 b = f b := fun b hb h0 => (congrFun e_f43 b).trans (z_up_ne (z_ne hb hn_qct) (hfr b hb h0))
  refine z_putF (C := RX10) (T := TX10) (N := 54) (ci := 10) (v := .ref qct) (fs' := [.int 0, .ref qwd, .ref qmy, .ref qce, .ref qmv, .ref qta, .int 0, .int 0, .int 0, .int 0, .int 0, .long 0, .int 0, .int 0, .int 0, .int (-1), .ref qli, .ref qha, .ref qlw, .ref qst, .ref qfo, .ref qdr, .int 0, .ref qik, .int (-1), .int 0, .long 0, .int 0, .int 0, .ref qro, .int 0, .ref qct, .null, .null, .null, .null, .int 0, .null, .int 0, .null, .int 0, .int 0, .int 0, .null, .null, .null, .null, .null, .int 0, .null, .null, .null, .int 0, .int 0]) hx hb hT zin_X10 tyX10_ok nmX10 hown hK hw hm_me hf_me rfl 31 (by decide) (hT _ kw_1199) rfl hnm rfl rfl rfl (Nat.le_of_ble_eq_true rfl) rfl dX10_init_122 (fun H locs hw => ?_)
  obtain ⟨f44, e_f44⟩ : ∃ z, z = va_up f43 me (.inr (10, [.int 0, .ref qwd, .ref qmy, .ref qce, .ref qmv, .ref qta, .int 0, .int 0, .int 0, .int 0, .int 0, .long 0, .int 0, .int 0, .int 0, .int (-1), .ref qli, .ref qha, .ref qlw, .ref qst, .ref qfo, .ref qdr, .int 0, .ref qik, .int (-1), .int 0, .long 0, .int 0, .int 0, .ref qro, .int 0, .ref qct, .null, .null, .null, .null, .int 0, .null, .int 0, .null, .int 0, .int 0, .int 0, .null, .null, .null, .null, .null, .int 0, .null, .null, .null, .int 0, .int 0])) := ⟨_, rfl⟩
  rw [← e_f44] at hw
  have hf_qwd : f44 qwd = .inl (cy 1, 4, .inl (fun _ => 0)) := (congrFun e_f44 qwd).trans (z_up_ne (Ne.symm ne_me_qwd) hf_qwd)
  have hf_qmy : f44 qmy = .inl (cy 1, 4, .inl (fun _ => 0)) := (congrFun e_f44 qmy).trans (z_up_ne (Ne.symm ne_me_qmy) hf_qmy)
  have hf_qce : f44 qce = .inl (cy 2, 240, .inr (.inl (fun _ => 0))) := (congrFun e_f44 qce).trans (z_up_ne (Ne.symm ne_me_qce) hf_qce)
  have hf_qmv : f44 qmv = .inl (cy 2, 60, .inr (.inl (fun _ => 0))) := (congrFun e_f44 qmv).trans (z_up_ne (Ne.symm ne_me_qmv) hf_qmv)
  have hf_qta : f44 qta = .inl (cy 0, 1600, .inl (fun _ => 0)) := (congrFun e_f44 qta).trans (z_up_ne (Ne.symm ne_me_qta) hf_qta)
  have hf_qli : f44 qli = .inl (cy 1, 5, .inl (fun _ => 0)) := (congrFun e_f44 qli).trans (z_up_ne (Ne.symm ne_me_qli) hf_qli)
  have hf_qha : f44 qha = .inl (cy 1, 30, .inl (fun _ => 0)) := (congrFun e_f44 qha).trans (z_up_ne (Ne.symm ne_me_qha) hf_qha)
  have hf_qlw : f44 qlw = .inl (cy 1, 25, .inl (fun _ => 0)) := (congrFun e_f44 qlw).trans (z_up_ne (Ne.symm ne_me_qlw) hf_qlw)
  have hf_qst : f44 qst = .inl (cy 1, 20, .inl (fun _ => 0)) := (congrFun e_f44 qst).trans (z_up_ne (Ne.symm ne_me_qst) hf_qst)
  have hf_qfo : f44 qfo = .inl (cy 1, 180, .inl (fun _ => 0)) := (congrFun e_f44 qfo).trans (z_up_ne (Ne.symm ne_me_qfo) hf_qfo)
  have hf_qdr : f44 qdr = .inl (cy 1, 520, .inl (fun _ => 0)) := (congrFun e_f44 qdr).trans (z_up_ne (Ne.symm ne_me_qdr) hf_qdr)
  have hf_qik : f44 qik = .inl (cy 3, 3, .inl (fun _ => 0)) := (congrFun e_f44 qik).trans (z_up_ne (Ne.symm ne_me_qik) hf_qik)
  have hf_qro : f44 qro = .inl (cy 1, 13, .inl (fun _ => 0)) := (congrFun e_f44 qro).trans (z_up_ne (Ne.symm ne_me_qro) hf_qro)
  have hf_qct : f44 qct = .inl (cy 1, 4, .inl (fun _ => 0)) := (congrFun e_f44 qct).trans (z_up_ne (Ne.symm ne_me_qct) hf_qct)
  have hf_me : f44 me = .inr (10, [.int 0, .ref qwd, .ref qmy, .ref qce, .ref qmv, .ref qta, .int 0, .int 0, .int 0, .int 0, .int 0, .long 0, .int 0, .int 0, .int 0, .int (-1), .ref qli, .ref qha, .ref qlw, .ref qst, .ref qfo, .ref qdr, .int 0, .ref qik, .int (-1), .int 0, .long 0, .int 0, .int 0, .ref qro, .int 0, .ref qct, .null, .null, .null, .null, .int 0, .null, .int 0, .null, .int 0, .int 0, .int 0, .null, .null, .null, .null, .null, .int 0, .null, .null, .null, .int 0, .int 0]) := (congrFun e_f44 me).trans z_up_self
  have hfr : ∀ b ∈ L, b ≠ me → f44 b = f b := fun b hb h0 => (congrFun e_f44 b).trans (z_up_ne h0 (hfr b hb h0))
  refine lv_aload_n hx hb dX10_init_125 rfl (lv_at hl 0 rfl) ?_
  refine lv_bipush (v := 36) hx hb dX10_init_126 (by decide) ?_
  refine z_newa (atype := .int) (n := 36) (N' := 36) (a0 := (36, .inl (fun _ => 0))) (cells := 14) (slots := 2708) hx hb (hT _ kw_203) rfl 1 rfl (fun _ h => by cases h) hK hw hA (fun _ => rfl) (by decide) (by decide) (by decide) (by decide) (by decide) dX10_init_128 (fun qse H hq_qse hw => ?_)
  refine W.widen (k := 15) (n := 2744) (by decide) (by decide) ?_
  have ne_me_qse : me ≠ qse := z_ne hm_me hq_qse
  have ne_qwd_qse : qwd ≠ qse := z_ne hm_qwd hq_qse
  have ne_qmy_qse : qmy ≠ qse := z_ne hm_qmy hq_qse
  have ne_qce_qse : qce ≠ qse := z_ne hm_qce hq_qse
  have ne_qmv_qse : qmv ≠ qse := z_ne hm_qmv hq_qse
  have ne_qta_qse : qta ≠ qse := z_ne hm_qta hq_qse
  have ne_qli_qse : qli ≠ qse := z_ne hm_qli hq_qse
  have ne_qha_qse : qha ≠ qse := z_ne hm_qha hq_qse
  have ne_qlw_qse : qlw ≠ qse := z_ne hm_qlw hq_qse
  have ne_qst_qse : qst ≠ qse := z_ne hm_qst hq_qse
  have ne_qfo_qse : qfo ≠ qse := z_ne hm_qfo hq_qse
  have ne_qdr_qse : qdr ≠ qse := z_ne hm_qdr hq_qse
  have ne_qik_qse : qik ≠ qse := z_ne hm_qik hq_qse
  have ne_qro_qse : qro ≠ qse := z_ne hm_qro hq_qse
  have ne_qct_qse : qct ≠ qse := z_ne hm_qct hq_qse
  have hn_qse : qse ∉ L := fun h => hq_qse (hsub _ h)
  obtain ⟨f46, e_f46⟩ : ∃ z, z = va_up f44 qse (.inl (cy 1, 36, .inl (fun _ => 0))) := ⟨_, rfl⟩
  obtain ⟨L45, e_L45⟩ : ∃ z, z = L42 ++ [qse] := ⟨_, rfl⟩
  rw [← e_f46, ← e_L45] at hw
  have hm_me : me ∈ L45 := by rw [e_L45]; exact List.mem_append_left _ hm_me
  have hf_me : f46 me = .inr (10, [.int 0, .ref qwd, .ref qmy, .ref qce, .ref qmv, .ref qta, .int 0, .int 0, .int 0, .int 0, .int 0, .long 0, .int 0, .int 0, .int 0, .int (-1), .ref qli, .ref qha, .ref qlw, .ref qst, .ref qfo, .ref qdr, .int 0, .ref qik, .int (-1), .int 0, .long 0, .int 0, .int 0, .ref qro, .int 0, .ref qct, .null, .null, .null, .null, .int 0, .null, .int 0, .null, .int 0, .int 0, .int 0, .null, .null, .null, .null, .null, .int 0, .null, .null, .null, .int 0, .int 0]) := (congrFun e_f46 me).trans (z_up_ne ne_me_qse hf_me)
  have hm_qwd : qwd ∈ L45 := by rw [e_L45]; exact List.mem_append_left _ hm_qwd
  have hf_qwd : f46 qwd = .inl (cy 1, 4, .inl (fun _ => 0)) := (congrFun e_f46 qwd).trans (z_up_ne ne_qwd_qse hf_qwd)
  have hm_qmy : qmy ∈ L45 := by rw [e_L45]; exact List.mem_append_left _ hm_qmy
  have hf_qmy : f46 qmy = .inl (cy 1, 4, .inl (fun _ => 0)) := (congrFun e_f46 qmy).trans (z_up_ne ne_qmy_qse hf_qmy)
  have hm_qce : qce ∈ L45 := by rw [e_L45]; exact List.mem_append_left _ hm_qce
  have hf_qce : f46 qce = .inl (cy 2, 240, .inr (.inl (fun _ => 0))) := (congrFun e_f46 qce).trans (z_up_ne ne_qce_qse hf_qce)
  have hm_qmv : qmv ∈ L45 := by rw [e_L45]; exact List.mem_append_left _ hm_qmv
  have hf_qmv : f46 qmv = .inl (cy 2, 60, .inr (.inl (fun _ => 0))) := (congrFun e_f46 qmv).trans (z_up_ne ne_qmv_qse hf_qmv)
  have hm_qta : qta ∈ L45 := by rw [e_L45]; exact List.mem_append_left _ hm_qta
  have hf_qta : f46 qta = .inl (cy 0, 1600, .inl (fun _ => 0)) := (congrFun e_f46 qta).trans (z_up_ne ne_qta_qse hf_qta)
  have hm_qli : qli ∈ L45 := by rw [e_L45]; exact List.mem_append_left _ hm_qli
  have hf_qli : f46 qli = .inl (cy 1, 5, .inl (fun _ => 0)) := (congrFun e_f46 qli).trans (z_up_ne ne_qli_qse hf_qli)
  have hm_qha : qha ∈ L45 := by rw [e_L45]; exact List.mem_append_left _ hm_qha
  have hf_qha : f46 qha = .inl (cy 1, 30, .inl (fun _ => 0)) := (congrFun e_f46 qha).trans (z_up_ne ne_qha_qse hf_qha)
  have hm_qlw : qlw ∈ L45 := by rw [e_L45]; exact List.mem_append_left _ hm_qlw
  have hf_qlw : f46 qlw = .inl (cy 1, 25, .inl (fun _ => 0)) := (congrFun e_f46 qlw).trans (z_up_ne ne_qlw_qse hf_qlw)
  have hm_qst : qst ∈ L45 := by rw [e_L45]; exact List.mem_append_left _ hm_qst
  have hf_qst : f46 qst = .inl (cy 1, 20, .inl (fun _ => 0)) := (congrFun e_f46 qst).trans (z_up_ne ne_qst_qse hf_qst)
  have hm_qfo : qfo ∈ L45 := by rw [e_L45]; exact List.mem_append_left _ hm_qfo
  have hf_qfo : f46 qfo = .inl (cy 1, 180, .inl (fun _ => 0)) := (congrFun e_f46 qfo).trans (z_up_ne ne_qfo_qse hf_qfo)
  have hm_qdr : qdr ∈ L45 := by rw [e_L45]; exact List.mem_append_left _ hm_qdr
  have hf_qdr : f46 qdr = .inl (cy 1, 520, .inl (fun _ => 0)) := (congrFun e_f46 qdr).trans (z_up_ne ne_qdr_qse hf_qdr)
  have hm_qik : qik ∈ L45 := by rw [e_L45]; exact List.mem_append_left _ hm_qik
  have hf_qik : f46 qik = .inl (cy 3, 3, .inl (fun _ => 0)) := (congrFun e_f46 qik).trans (z_up_ne ne_qik_qse hf_qik)
  have hm_qro : qro ∈ L45 := by rw [e_L45]; exact List.mem_append_left _ hm_qro
  have hf_qro : f46 qro = .inl (cy 1, 13, .inl (fun _ => 0)) := (congrFun e_f46 qro).trans (z_up_ne ne_qro_qse hf_qro)
  have hm_qct : qct ∈ L45 := by rw [e_L45]; exact List.mem_append_left _ hm_qct
  have hf_qct : f46 qct = .inl (cy 1, 4, .inl (fun _ => 0)) := (congrFun e_f46 qct).trans (z_up_ne ne_qct_qse hf_qct)
  have hm_qse : qse ∈ L45 := by rw [e_L45]; exact List.mem_append_right _ (List.mem_singleton.mpr rfl)
  have hf_qse : f46 qse = .inl (cy 1, 36, .inl (fun _ => 0)) := (congrFun e_f46 qse).trans z_up_self
  have hsub : ∀ b ∈ L, b ∈ L45 := fun b h => by rw [e_L45]; exact List.mem_append_left _ (hsub b h)
  have hfr : ∀ b ∈ L, b ≠ me → f46 b = f b := fun b hb h0 => (congrFun e_f46 b).trans (z_up_ne (z_ne hb hn_qse) (hfr b hb h0))
  refine z_putF (C := RX10) (T := TX10) (N := 54) (ci := 10) (v := .ref qse) (fs' := [.int 0, .ref qwd, .ref qmy, .ref qce, .ref qmv, .ref qta, .int 0, .int 0, .int 0, .int 0, .int 0, .long 0, .int 0, .int 0, .int 0, .int (-1), .ref qli, .ref qha, .ref qlw, .ref qst, .ref qfo, .ref qdr, .int 0, .ref qik, .int (-1), .int 0, .long 0, .int 0, .int 0, .ref qro, .int 0, .ref qct, .ref qse, .null, .null, .null, .int 0, .null, .int 0, .null, .int 0, .int 0, .int 0, .null, .null, .null, .null, .null, .int 0, .null, .null, .null, .int 0, .int 0]) hx hb hT zin_X10 tyX10_ok nmX10 hown hK hw hm_me hf_me rfl 32 (by decide) (hT _ kw_1200) rfl hnm rfl rfl rfl (Nat.le_of_ble_eq_true rfl) rfl dX10_init_130 (fun H locs hw => ?_)
  obtain ⟨f47, e_f47⟩ : ∃ z, z = va_up f46 me (.inr (10, [.int 0, .ref qwd, .ref qmy, .ref qce, .ref qmv, .ref qta, .int 0, .int 0, .int 0, .int 0, .int 0, .long 0, .int 0, .int 0, .int 0, .int (-1), .ref qli, .ref qha, .ref qlw, .ref qst, .ref qfo, .ref qdr, .int 0, .ref qik, .int (-1), .int 0, .long 0, .int 0, .int 0, .ref qro, .int 0, .ref qct, .ref qse, .null, .null, .null, .int 0, .null, .int 0, .null, .int 0, .int 0, .int 0, .null, .null, .null, .null, .null, .int 0, .null, .null, .null, .int 0, .int 0])) := ⟨_, rfl⟩
  rw [← e_f47] at hw
  have hf_qwd : f47 qwd = .inl (cy 1, 4, .inl (fun _ => 0)) := (congrFun e_f47 qwd).trans (z_up_ne (Ne.symm ne_me_qwd) hf_qwd)
  have hf_qmy : f47 qmy = .inl (cy 1, 4, .inl (fun _ => 0)) := (congrFun e_f47 qmy).trans (z_up_ne (Ne.symm ne_me_qmy) hf_qmy)
  have hf_qce : f47 qce = .inl (cy 2, 240, .inr (.inl (fun _ => 0))) := (congrFun e_f47 qce).trans (z_up_ne (Ne.symm ne_me_qce) hf_qce)
  have hf_qmv : f47 qmv = .inl (cy 2, 60, .inr (.inl (fun _ => 0))) := (congrFun e_f47 qmv).trans (z_up_ne (Ne.symm ne_me_qmv) hf_qmv)
  have hf_qta : f47 qta = .inl (cy 0, 1600, .inl (fun _ => 0)) := (congrFun e_f47 qta).trans (z_up_ne (Ne.symm ne_me_qta) hf_qta)
  have hf_qli : f47 qli = .inl (cy 1, 5, .inl (fun _ => 0)) := (congrFun e_f47 qli).trans (z_up_ne (Ne.symm ne_me_qli) hf_qli)
  have hf_qha : f47 qha = .inl (cy 1, 30, .inl (fun _ => 0)) := (congrFun e_f47 qha).trans (z_up_ne (Ne.symm ne_me_qha) hf_qha)
  have hf_qlw : f47 qlw = .inl (cy 1, 25, .inl (fun _ => 0)) := (congrFun e_f47 qlw).trans (z_up_ne (Ne.symm ne_me_qlw) hf_qlw)
  have hf_qst : f47 qst = .inl (cy 1, 20, .inl (fun _ => 0)) := (congrFun e_f47 qst).trans (z_up_ne (Ne.symm ne_me_qst) hf_qst)
  have hf_qfo : f47 qfo = .inl (cy 1, 180, .inl (fun _ => 0)) := (congrFun e_f47 qfo).trans (z_up_ne (Ne.symm ne_me_qfo) hf_qfo)
  have hf_qdr : f47 qdr = .inl (cy 1, 520, .inl (fun _ => 0)) := (congrFun e_f47 qdr).trans (z_up_ne (Ne.symm ne_me_qdr) hf_qdr)
  have hf_qik : f47 qik = .inl (cy 3, 3, .inl (fun _ => 0)) := (congrFun e_f47 qik).trans (z_up_ne (Ne.symm ne_me_qik) hf_qik)
  have hf_qro : f47 qro = .inl (cy 1, 13, .inl (fun _ => 0)) := (congrFun e_f47 qro).trans (z_up_ne (Ne.symm ne_me_qro) hf_qro)
  have hf_qct : f47 qct = .inl (cy 1, 4, .inl (fun _ => 0)) := (congrFun e_f47 qct).trans (z_up_ne (Ne.symm ne_me_qct) hf_qct)
  have hf_qse : f47 qse = .inl (cy 1, 36, .inl (fun _ => 0)) := (congrFun e_f47 qse).trans (z_up_ne (Ne.symm ne_me_qse) hf_qse)
  have hf_me : f47 me = .inr (10, [.int 0, .ref qwd, .ref qmy, .ref qce, .ref qmv, .ref qta, .int 0, .int 0, .int 0, .int 0, .int 0, .long 0, .int 0, .int 0, .int 0, .int (-1), .ref qli, .ref qha, .ref qlw, .ref qst, .ref qfo, .ref qdr, .int 0, .ref qik, .int (-1), .int 0, .long 0, .int 0, .int 0, .ref qro, .int 0, .ref qct, .ref qse, .null, .null, .null, .int 0, .null, .int 0, .null, .int 0, .int 0, .int 0, .null, .null, .null, .null, .null, .int 0, .null, .null, .null, .int 0, .int 0]) := (congrFun e_f47 me).trans z_up_self
  have hfr : ∀ b ∈ L, b ≠ me → f47 b = f b := fun b hb h0 => (congrFun e_f47 b).trans (z_up_ne h0 (hfr b hb h0))
  refine lv_aload_n hx hb dX10_init_133 rfl (lv_at hl 0 rfl) ?_
  refine lv_bipush (v := 36) hx hb dX10_init_134 (by decide) ?_
  refine z_newa (atype := .int) (n := 36) (N' := 36) (a0 := (36, .inl (fun _ => 0))) (cells := 15) (slots := 2744) hx hb (hT _ kw_203) rfl 1 rfl (fun _ h => by cases h) hK hw hA (fun _ => rfl) (by decide) (by decide) (by decide) (by decide) (by decide) dX10_init_136 (fun qth H hq_qth hw => ?_)
  refine W.widen (k := 16) (n := 2780) (by decide) (by decide) ?_
  have ne_me_qth : me ≠ qth := z_ne hm_me hq_qth
  have ne_qwd_qth : qwd ≠ qth := z_ne hm_qwd hq_qth
  have ne_qmy_qth : qmy ≠ qth := z_ne hm_qmy hq_qth
  have ne_qce_qth : qce ≠ qth := z_ne hm_qce hq_qth
  have ne_qmv_qth : qmv ≠ qth := z_ne hm_qmv hq_qth
  have ne_qta_qth : qta ≠ qth := z_ne hm_qta hq_qth
  have ne_qli_qth : qli ≠ qth := z_ne hm_qli hq_qth
  have ne_qha_qth : qha ≠ qth := z_ne hm_qha hq_qth
  have ne_qlw_qth : qlw ≠ qth := z_ne hm_qlw hq_qth
  have ne_qst_qth : qst ≠ qth := z_ne hm_qst hq_qth
  have ne_qfo_qth : qfo ≠ qth := z_ne hm_qfo hq_qth
  have ne_qdr_qth : qdr ≠ qth := z_ne hm_qdr hq_qth
  have ne_qik_qth : qik ≠ qth := z_ne hm_qik hq_qth
  have ne_qro_qth : qro ≠ qth := z_ne hm_qro hq_qth
  have ne_qct_qth : qct ≠ qth := z_ne hm_qct hq_qth
  have ne_qse_qth : qse ≠ qth := z_ne hm_qse hq_qth
  have hn_qth : qth ∉ L := fun h => hq_qth (hsub _ h)
  obtain ⟨f49, e_f49⟩ : ∃ z, z = va_up f47 qth (.inl (cy 1, 36, .inl (fun _ => 0))) := ⟨_, rfl⟩
  obtain ⟨L48, e_L48⟩ : ∃ z, z = L45 ++ [qth] := ⟨_, rfl⟩
  rw [← e_f49, ← e_L48] at hw
  have hm_me : me ∈ L48 := by rw [e_L48]; exact List.mem_append_left _ hm_me
  have hf_me : f49 me = .inr (10, [.int 0, .ref qwd, .ref qmy, .ref qce, .ref qmv, .ref qta, .int 0, .int 0, .int 0, .int 0, .int 0, .long 0, .int 0, .int 0, .int 0, .int (-1), .ref qli, .ref qha, .ref qlw, .ref qst, .ref qfo, .ref qdr, .int 0, .ref qik, .int (-1), .int 0, .long 0, .int 0, .int 0, .ref qro, .int 0, .ref qct, .ref qse, .null, .null, .null, .int 0, .null, .int 0, .null, .int 0, .int 0, .int 0, .null, .null, .null, .null, .null, .int 0, .null, .null, .null, .int 0, .int 0]) := (congrFun e_f49 me).trans (z_up_ne ne_me_qth hf_me)
  have hm_qwd : qwd ∈ L48 := by rw [e_L48]; exact List.mem_append_left _ hm_qwd
  have hf_qwd : f49 qwd = .inl (cy 1, 4, .inl (fun _ => 0)) := (congrFun e_f49 qwd).trans (z_up_ne ne_qwd_qth hf_qwd)
  have hm_qmy : qmy ∈ L48 := by rw [e_L48]; exact List.mem_append_left _ hm_qmy
  have hf_qmy : f49 qmy = .inl (cy 1, 4, .inl (fun _ => 0)) := (congrFun e_f49 qmy).trans (z_up_ne ne_qmy_qth hf_qmy)
  have hm_qce : qce ∈ L48 := by rw [e_L48]; exact List.mem_append_left _ hm_qce
  have hf_qce : f49 qce = .inl (cy 2, 240, .inr (.inl (fun _ => 0))) := (congrFun e_f49 qce).trans (z_up_ne ne_qce_qth hf_qce)
  have hm_qmv : qmv ∈ L48 := by rw [e_L48]; exact List.mem_append_left _ hm_qmv
  have hf_qmv : f49 qmv = .inl (cy 2, 60, .inr (.inl (fun _ => 0))) := (congrFun e_f49 qmv).trans (z_up_ne ne_qmv_qth hf_qmv)
  have hm_qta : qta ∈ L48 := by rw [e_L48]; exact List.mem_append_left _ hm_qta
  have hf_qta : f49 qta = .inl (cy 0, 1600, .inl (fun _ => 0)) := (congrFun e_f49 qta).trans (z_up_ne ne_qta_qth hf_qta)
  have hm_qli : qli ∈ L48 := by rw [e_L48]; exact List.mem_append_left _ hm_qli
  have hf_qli : f49 qli = .inl (cy 1, 5, .inl (fun _ => 0)) := (congrFun e_f49 qli).trans (z_up_ne ne_qli_qth hf_qli)
  have hm_qha : qha ∈ L48 := by rw [e_L48]; exact List.mem_append_left _ hm_qha
  have hf_qha : f49 qha = .inl (cy 1, 30, .inl (fun _ => 0)) := (congrFun e_f49 qha).trans (z_up_ne ne_qha_qth hf_qha)
  have hm_qlw : qlw ∈ L48 := by rw [e_L48]; exact List.mem_append_left _ hm_qlw
  have hf_qlw : f49 qlw = .inl (cy 1, 25, .inl (fun _ => 0)) := (congrFun e_f49 qlw).trans (z_up_ne ne_qlw_qth hf_qlw)
  have hm_qst : qst ∈ L48 := by rw [e_L48]; exact List.mem_append_left _ hm_qst
  have hf_qst : f49 qst = .inl (cy 1, 20, .inl (fun _ => 0)) := (congrFun e_f49 qst).trans (z_up_ne ne_qst_qth hf_qst)
  have hm_qfo : qfo ∈ L48 := by rw [e_L48]; exact List.mem_append_left _ hm_qfo
  have hf_qfo : f49 qfo = .inl (cy 1, 180, .inl (fun _ => 0)) := (congrFun e_f49 qfo).trans (z_up_ne ne_qfo_qth hf_qfo)
  have hm_qdr : qdr ∈ L48 := by rw [e_L48]; exact List.mem_append_left _ hm_qdr
  have hf_qdr : f49 qdr = .inl (cy 1, 520, .inl (fun _ => 0)) := (congrFun e_f49 qdr).trans (z_up_ne ne_qdr_qth hf_qdr)
  have hm_qik : qik ∈ L48 := by rw [e_L48]; exact List.mem_append_left _ hm_qik
  have hf_qik : f49 qik = .inl (cy 3, 3, .inl (fun _ => 0)) := (congrFun e_f49 qik).trans (z_up_ne ne_qik_qth hf_qik)
  have hm_qro : qro ∈ L48 := by rw [e_L48]; exact List.mem_append_left _ hm_qro
  have hf_qro : f49 qro = .inl (cy 1, 13, .inl (fun _ => 0)) := (congrFun e_f49 qro).trans (z_up_ne ne_qro_qth hf_qro)
  have hm_qct : qct ∈ L48 := by rw [e_L48]; exact List.mem_append_left _ hm_qct
  have hf_qct : f49 qct = .inl (cy 1, 4, .inl (fun _ => 0)) := (congrFun e_f49 qct).trans (z_up_ne ne_qct_qth hf_qct)
  have hm_qse : qse ∈ L48 := by rw [e_L48]; exact List.mem_append_left _ hm_qse
  have hf_qse : f49 qse = .inl (cy 1, 36, .inl (fun _ => 0)) := (congrFun e_f49 qse).trans (z_up_ne ne_qse_qth hf_qse)
  have hm_qth : qth ∈ L48 := by rw [e_L48]; exact List.mem_append_right _ (List.mem_singleton.mpr rfl)
  have hf_qth : f49 qth = .inl (cy 1, 36, .inl (fun _ => 0)) := (congrFun e_f49 qth).trans z_up_self
  have hsub : ∀ b ∈ L, b ∈ L48 := fun b h => by rw [e_L48]; exact List.mem_append_left _ (hsub b h)
  have hfr : ∀ b ∈ L, b ≠ me → f49 b = f b := fun b hb h0 => (congrFun e_f49 b).trans (z_up_ne (z_ne hb hn_qth) (hfr b hb h0))
  refine z_putF (C := RX10) (T := TX10) (N := 54) (ci := 10) (v := .ref qth) (fs' := [.int 0, .ref qwd, .ref qmy, .ref qce, .ref qmv, .ref qta, .int 0, .int 0, .int 0, .int 0, .int 0, .long 0, .int 0, .int 0, .int 0, .int (-1), .ref qli, .ref qha, .ref qlw, .ref qst, .ref qfo, .ref qdr, .int 0, .ref qik, .int (-1), .int 0, .long 0, .int 0, .int 0, .ref qro, .int 0, .ref qct, .ref qse, .ref qth, .null, .null, .int 0, .null, .int 0, .null, .int 0, .int 0, .int 0, .null, .null, .null, .null, .null, .int 0, .null, .null, .null, .int 0, .int 0]) hx hb hT zin_X10 tyX10_ok nmX10 hown hK hw hm_me hf_me rfl 33 (by decide) (hT _ kw_1201) rfl hnm rfl rfl rfl (Nat.le_of_ble_eq_true rfl) rfl dX10_init_138 (fun H locs hw => ?_)
  obtain ⟨f50, e_f50⟩ : ∃ z, z = va_up f49 me (.inr (10, [.int 0, .ref qwd, .ref qmy, .ref qce, .ref qmv, .ref qta, .int 0, .int 0, .int 0, .int 0, .int 0, .long 0, .int 0, .int 0, .int 0, .int (-1), .ref qli, .ref qha, .ref qlw, .ref qst, .ref qfo, .ref qdr, .int 0, .ref qik, .int (-1), .int 0, .long 0, .int 0, .int 0, .ref qro, .int 0, .ref qct, .ref qse, .ref qth, .null, .null, .int 0, .null, .int 0, .null, .int 0, .int 0, .int 0, .null, .null, .null, .null, .null, .int 0, .null, .null, .null, .int 0, .int 0])) := ⟨_, rfl⟩
  rw [← e_f50] at hw
  have hf_qwd : f50 qwd = .inl (cy 1, 4, .inl (fun _ => 0)) := (congrFun e_f50 qwd).trans (z_up_ne (Ne.symm ne_me_qwd) hf_qwd)
  have hf_qmy : f50 qmy = .inl (cy 1, 4, .inl (fun _ => 0)) := (congrFun e_f50 qmy).trans (z_up_ne (Ne.symm ne_me_qmy) hf_qmy)
  have hf_qce : f50 qce = .inl (cy 2, 240, .inr (.inl (fun _ => 0))) := (congrFun e_f50 qce).trans (z_up_ne (Ne.symm ne_me_qce) hf_qce)
  have hf_qmv : f50 qmv = .inl (cy 2, 60, .inr (.inl (fun _ => 0))) := (congrFun e_f50 qmv).trans (z_up_ne (Ne.symm ne_me_qmv) hf_qmv)
  have hf_qta : f50 qta = .inl (cy 0, 1600, .inl (fun _ => 0)) := (congrFun e_f50 qta).trans (z_up_ne (Ne.symm ne_me_qta) hf_qta)
  have hf_qli : f50 qli = .inl (cy 1, 5, .inl (fun _ => 0)) := (congrFun e_f50 qli).trans (z_up_ne (Ne.symm ne_me_qli) hf_qli)
  have hf_qha : f50 qha = .inl (cy 1, 30, .inl (fun _ => 0)) := (congrFun e_f50 qha).trans (z_up_ne (Ne.symm ne_me_qha) hf_qha)
  have hf_qlw : f50 qlw = .inl (cy 1, 25, .inl (fun _ => 0)) := (congrFun e_f50 qlw).trans (z_up_ne (Ne.symm ne_me_qlw) hf_qlw)
  have hf_qst : f50 qst = .inl (cy 1, 20, .inl (fun _ => 0)) := (congrFun e_f50 qst).trans (z_up_ne (Ne.symm ne_me_qst) hf_qst)
  have hf_qfo : f50 qfo = .inl (cy 1, 180, .inl (fun _ => 0)) := (congrFun e_f50 qfo).trans (z_up_ne (Ne.symm ne_me_qfo) hf_qfo)
  have hf_qdr : f50 qdr = .inl (cy 1, 520, .inl (fun _ => 0)) := (congrFun e_f50 qdr).trans (z_up_ne (Ne.symm ne_me_qdr) hf_qdr)
  have hf_qik : f50 qik = .inl (cy 3, 3, .inl (fun _ => 0)) := (congrFun e_f50 qik).trans (z_up_ne (Ne.symm ne_me_qik) hf_qik)
  have hf_qro : f50 qro = .inl (cy 1, 13, .inl (fun _ => 0)) := (congrFun e_f50 qro).trans (z_up_ne (Ne.symm ne_me_qro) hf_qro)
  have hf_qct : f50 qct = .inl (cy 1, 4, .inl (fun _ => 0)) := (congrFun e_f50 qct).trans (z_up_ne (Ne.symm ne_me_qct) hf_qct)
  have hf_qse : f50 qse = .inl (cy 1, 36, .inl (fun _ => 0)) := (congrFun e_f50 qse).trans (z_up_ne (Ne.symm ne_me_qse) hf_qse)
  have hf_qth : f50 qth = .inl (cy 1, 36, .inl (fun _ => 0)) := (congrFun e_f50 qth).trans (z_up_ne (Ne.symm ne_me_qth) hf_qth)
  have hf_me : f50 me = .inr (10, [.int 0, .ref qwd, .ref qmy, .ref qce, .ref qmv, .ref qta, .int 0, .int 0, .int 0, .int 0, .int 0, .long 0, .int 0, .int 0, .int 0, .int (-1), .ref qli, .ref qha, .ref qlw, .ref qst, .ref qfo, .ref qdr, .int 0, .ref qik, .int (-1), .int 0, .long 0, .int 0, .int 0, .ref qro, .int 0, .ref qct, .ref qse, .ref qth, .null, .null, .int 0, .null, .int 0, .null, .int 0, .int 0, .int 0, .null, .null, .null, .null, .null, .int 0, .null, .null, .null, .int 0, .int 0]) := (congrFun e_f50 me).trans z_up_self
  have hfr : ∀ b ∈ L, b ≠ me → f50 b = f b := fun b hb h0 => (congrFun e_f50 b).trans (z_up_ne h0 (hfr b hb h0))
  refine lv_aload_n hx hb dX10_init_141 rfl (lv_at hl 0 rfl) ?_
  refine lv_bipush (v := 36) hx hb dX10_init_142 (by decide) ?_
  refine z_newa (atype := .int) (n := 36) (N' := 36) (a0 := (36, .inl (fun _ => 0))) (cells := 16) (slots := 2780) hx hb (hT _ kw_203) rfl 1 rfl (fun _ h => by cases h) hK hw hA (fun _ => rfl) (by decide) (by decide) (by decide) (by decide) (by decide) dX10_init_144 (fun qcn H hq_qcn hw => ?_)
  refine W.widen (k := 17) (n := 2816) (by decide) (by decide) ?_
  have ne_me_qcn : me ≠ qcn := z_ne hm_me hq_qcn
  have ne_qwd_qcn : qwd ≠ qcn := z_ne hm_qwd hq_qcn
  have ne_qmy_qcn : qmy ≠ qcn := z_ne hm_qmy hq_qcn
  have ne_qce_qcn : qce ≠ qcn := z_ne hm_qce hq_qcn
  have ne_qmv_qcn : qmv ≠ qcn := z_ne hm_qmv hq_qcn
  have ne_qta_qcn : qta ≠ qcn := z_ne hm_qta hq_qcn
  have ne_qli_qcn : qli ≠ qcn := z_ne hm_qli hq_qcn
  have ne_qha_qcn : qha ≠ qcn := z_ne hm_qha hq_qcn
  have ne_qlw_qcn : qlw ≠ qcn := z_ne hm_qlw hq_qcn
  have ne_qst_qcn : qst ≠ qcn := z_ne hm_qst hq_qcn
  have ne_qfo_qcn : qfo ≠ qcn := z_ne hm_qfo hq_qcn
  have ne_qdr_qcn : qdr ≠ qcn := z_ne hm_qdr hq_qcn
  have ne_qik_qcn : qik ≠ qcn := z_ne hm_qik hq_qcn
  have ne_qro_qcn : qro ≠ qcn := z_ne hm_qro hq_qcn
  have ne_qct_qcn : qct ≠ qcn := z_ne hm_qct hq_qcn
  have ne_qse_qcn : qse ≠ qcn := z_ne hm_qse hq_qcn
  have ne_qth_qcn : qth ≠ qcn := z_ne hm_qth hq_qcn
  have hn_qcn : qcn ∉ L := fun h => hq_qcn (hsub _ h)
  obtain ⟨f52, e_f52⟩ : ∃ z, z = va_up f50 qcn (.inl (cy 1, 36, .inl (fun _ => 0))) := ⟨_, rfl⟩
  obtain ⟨L51, e_L51⟩ : ∃ z, z = L48 ++ [qcn] := ⟨_, rfl⟩
  rw [← e_f52, ← e_L51] at hw
  have hm_me : me ∈ L51 := by rw [e_L51]; exact List.mem_append_left _ hm_me
  have hf_me : f52 me = .inr (10, [.int 0, .ref qwd, .ref qmy, .ref qce, .ref qmv, .ref qta, .int 0, .int 0, .int 0, .int 0, .int 0, .long 0, .int 0, .int 0, .int 0, .int (-1), .ref qli, .ref qha, .ref qlw, .ref qst, .ref qfo, .ref qdr, .int 0, .ref qik, .int (-1), .int 0, .long 0, .int 0, .int 0, .ref qro, .int 0, .ref qct, .ref qse, .ref qth, .null, .null, .int 0, .null, .int 0, .null, .int 0, .int 0, .int 0, .null, .null, .null, .null, .null, .int 0, .null, .null, .null, .int 0, .int 0]) := (congrFun e_f52 me).trans (z_up_ne ne_me_qcn hf_me)
  have hm_qwd : qwd ∈ L51 := by rw [e_L51]; exact List.mem_append_left _ hm_qwd
  have hf_qwd : f52 qwd = .inl (cy 1, 4, .inl (fun _ => 0)) := (congrFun e_f52 qwd).trans (z_up_ne ne_qwd_qcn hf_qwd)
  have hm_qmy : qmy ∈ L51 := by rw [e_L51]; exact List.mem_append_left _ hm_qmy
  have hf_qmy : f52 qmy = .inl (cy 1, 4, .inl (fun _ => 0)) := (congrFun e_f52 qmy).trans (z_up_ne ne_qmy_qcn hf_qmy)
  have hm_qce : qce ∈ L51 := by rw [e_L51]; exact List.mem_append_left _ hm_qce
  have hf_qce : f52 qce = .inl (cy 2, 240, .inr (.inl (fun _ => 0))) := (congrFun e_f52 qce).trans (z_up_ne ne_qce_qcn hf_qce)
  have hm_qmv : qmv ∈ L51 := by rw [e_L51]; exact List.mem_append_left _ hm_qmv
  have hf_qmv : f52 qmv = .inl (cy 2, 60, .inr (.inl (fun _ => 0))) := (congrFun e_f52 qmv).trans (z_up_ne ne_qmv_qcn hf_qmv)
  have hm_qta : qta ∈ L51 := by rw [e_L51]; exact List.mem_append_left _ hm_qta
  have hf_qta : f52 qta = .inl (cy 0, 1600, .inl (fun _ => 0)) := (congrFun e_f52 qta).trans (z_up_ne ne_qta_qcn hf_qta)
  have hm_qli : qli ∈ L51 := by rw [e_L51]; exact List.mem_append_left _ hm_qli
  have hf_qli : f52 qli = .inl (cy 1, 5, .inl (fun _ => 0)) := (congrFun e_f52 qli).trans (z_up_ne ne_qli_qcn hf_qli)
  have hm_qha : qha ∈ L51 := by rw [e_L51]; exact List.mem_append_left _ hm_qha
  have hf_qha : f52 qha = .inl (cy 1, 30, .inl (fun _ => 0)) := (congrFun e_f52 qha).trans (z_up_ne ne_qha_qcn hf_qha)
  have hm_qlw : qlw ∈ L51 := by rw [e_L51]; exact List.mem_append_left _ hm_qlw
  have hf_qlw : f52 qlw = .inl (cy 1, 25, .inl (fun _ => 0)) := (congrFun e_f52 qlw).trans (z_up_ne ne_qlw_qcn hf_qlw)
  have hm_qst : qst ∈ L51 := by rw [e_L51]; exact List.mem_append_left _ hm_qst
  have hf_qst : f52 qst = .inl (cy 1, 20, .inl (fun _ => 0)) := (congrFun e_f52 qst).trans (z_up_ne ne_qst_qcn hf_qst)
  have hm_qfo : qfo ∈ L51 := by rw [e_L51]; exact List.mem_append_left _ hm_qfo
  have hf_qfo : f52 qfo = .inl (cy 1, 180, .inl (fun _ => 0)) := (congrFun e_f52 qfo).trans (z_up_ne ne_qfo_qcn hf_qfo)
  have hm_qdr : qdr ∈ L51 := by rw [e_L51]; exact List.mem_append_left _ hm_qdr
  have hf_qdr : f52 qdr = .inl (cy 1, 520, .inl (fun _ => 0)) := (congrFun e_f52 qdr).trans (z_up_ne ne_qdr_qcn hf_qdr)
  have hm_qik : qik ∈ L51 := by rw [e_L51]; exact List.mem_append_left _ hm_qik
  have hf_qik : f52 qik = .inl (cy 3, 3, .inl (fun _ => 0)) := (congrFun e_f52 qik).trans (z_up_ne ne_qik_qcn hf_qik)
  have hm_qro : qro ∈ L51 := by rw [e_L51]; exact List.mem_append_left _ hm_qro
  have hf_qro : f52 qro = .inl (cy 1, 13, .inl (fun _ => 0)) := (congrFun e_f52 qro).trans (z_up_ne ne_qro_qcn hf_qro)
  have hm_qct : qct ∈ L51 := by rw [e_L51]; exact List.mem_append_left _ hm_qct
  have hf_qct : f52 qct = .inl (cy 1, 4, .inl (fun _ => 0)) := (congrFun e_f52 qct).trans (z_up_ne ne_qct_qcn hf_qct)
  have hm_qse : qse ∈ L51 := by rw [e_L51]; exact List.mem_append_left _ hm_qse
  have hf_qse : f52 qse = .inl (cy 1, 36, .inl (fun _ => 0)) := (congrFun e_f52 qse).trans (z_up_ne ne_qse_qcn hf_qse)
  have hm_qth : qth ∈ L51 := by rw [e_L51]; exact List.mem_append_left _ hm_qth
  have hf_qth : f52 qth = .inl (cy 1, 36, .inl (fun _ => 0)) := (congrFun e_f52 qth).trans (z_up_ne ne_qth_qcn hf_qth)
  have hm_qcn : qcn ∈ L51 := by rw [e_L51]; exact List.mem_append_right _ (List.mem_singleton.mpr rfl)
  have hf_qcn : f52 qcn = .inl (cy 1, 36, .inl (fun _ => 0)) := (congrFun e_f52 qcn).trans z_up_self
  have hsub : ∀ b ∈ L, b ∈ L51 := fun b h => by rw [e_L51]; exact List.mem_append_left _ (hsub b h)
  have hfr : ∀ b ∈ L, b ≠ me → f52 b = f b := fun b hb h0 => (congrFun e_f52 b).trans (z_up_ne (z_ne hb hn_qcn) (hfr b hb h0))
  refine z_putF (C := RX10) (T := TX10) (N := 54) (ci := 10) (v := .ref qcn) (fs' := [.int 0, .ref qwd, .ref qmy, .ref qce, .ref qmv, .ref qta, .int 0, .int 0, .int 0, .int 0, .int 0, .long 0, .int 0, .int 0, .int 0, .int (-1), .ref qli, .ref qha, .ref qlw, .ref qst, .ref qfo, .ref qdr, .int 0, .ref qik, .int (-1), .int 0, .long 0, .int 0, .int 0, .ref qro, .int 0, .ref qct, .ref qse, .ref qth, .ref qcn, .null, .int 0, .null, .int 0, .null, .int 0, .int 0, .int 0, .null, .null, .null, .null, .null, .int 0, .null, .null, .null, .int 0, .int 0]) hx hb hT zin_X10 tyX10_ok nmX10 hown hK hw hm_me hf_me rfl 34 (by decide) (hT _ kw_1202) rfl hnm rfl rfl rfl (Nat.le_of_ble_eq_true rfl) rfl dX10_init_146 (fun H locs hw => ?_)
  obtain ⟨f53, e_f53⟩ : ∃ z, z = va_up f52 me (.inr (10, [.int 0, .ref qwd, .ref qmy, .ref qce, .ref qmv, .ref qta, .int 0, .int 0, .int 0, .int 0, .int 0, .long 0, .int 0, .int 0, .int 0, .int (-1), .ref qli, .ref qha, .ref qlw, .ref qst, .ref qfo, .ref qdr, .int 0, .ref qik, .int (-1), .int 0, .long 0, .int 0, .int 0, .ref qro, .int 0, .ref qct, .ref qse, .ref qth, .ref qcn, .null, .int 0, .null, .int 0, .null, .int 0, .int 0, .int 0, .null, .null, .null, .null, .null, .int 0, .null, .null, .null, .int 0, .int 0])) := ⟨_, rfl⟩
  rw [← e_f53] at hw
  have hf_qwd : f53 qwd = .inl (cy 1, 4, .inl (fun _ => 0)) := (congrFun e_f53 qwd).trans (z_up_ne (Ne.symm ne_me_qwd) hf_qwd)
  have hf_qmy : f53 qmy = .inl (cy 1, 4, .inl (fun _ => 0)) := (congrFun e_f53 qmy).trans (z_up_ne (Ne.symm ne_me_qmy) hf_qmy)
  have hf_qce : f53 qce = .inl (cy 2, 240, .inr (.inl (fun _ => 0))) := (congrFun e_f53 qce).trans (z_up_ne (Ne.symm ne_me_qce) hf_qce)
  have hf_qmv : f53 qmv = .inl (cy 2, 60, .inr (.inl (fun _ => 0))) := (congrFun e_f53 qmv).trans (z_up_ne (Ne.symm ne_me_qmv) hf_qmv)
  have hf_qta : f53 qta = .inl (cy 0, 1600, .inl (fun _ => 0)) := (congrFun e_f53 qta).trans (z_up_ne (Ne.symm ne_me_qta) hf_qta)
  have hf_qli : f53 qli = .inl (cy 1, 5, .inl (fun _ => 0)) := (congrFun e_f53 qli).trans (z_up_ne (Ne.symm ne_me_qli) hf_qli)
  have hf_qha : f53 qha = .inl (cy 1, 30, .inl (fun _ => 0)) := (congrFun e_f53 qha).trans (z_up_ne (Ne.symm ne_me_qha) hf_qha)
  have hf_qlw : f53 qlw = .inl (cy 1, 25, .inl (fun _ => 0)) := (congrFun e_f53 qlw).trans (z_up_ne (Ne.symm ne_me_qlw) hf_qlw)
  have hf_qst : f53 qst = .inl (cy 1, 20, .inl (fun _ => 0)) := (congrFun e_f53 qst).trans (z_up_ne (Ne.symm ne_me_qst) hf_qst)
  have hf_qfo : f53 qfo = .inl (cy 1, 180, .inl (fun _ => 0)) := (congrFun e_f53 qfo).trans (z_up_ne (Ne.symm ne_me_qfo) hf_qfo)
  have hf_qdr : f53 qdr = .inl (cy 1, 520, .inl (fun _ => 0)) := (congrFun e_f53 qdr).trans (z_up_ne (Ne.symm ne_me_qdr) hf_qdr)
  have hf_qik : f53 qik = .inl (cy 3, 3, .inl (fun _ => 0)) := (congrFun e_f53 qik).trans (z_up_ne (Ne.symm ne_me_qik) hf_qik)
  have hf_qro : f53 qro = .inl (cy 1, 13, .inl (fun _ => 0)) := (congrFun e_f53 qro).trans (z_up_ne (Ne.symm ne_me_qro) hf_qro)
  have hf_qct : f53 qct = .inl (cy 1, 4, .inl (fun _ => 0)) := (congrFun e_f53 qct).trans (z_up_ne (Ne.symm ne_me_qct) hf_qct)
  have hf_qse : f53 qse = .inl (cy 1, 36, .inl (fun _ => 0)) := (congrFun e_f53 qse).trans (z_up_ne (Ne.symm ne_me_qse) hf_qse)
  have hf_qth : f53 qth = .inl (cy 1, 36, .inl (fun _ => 0)) := (congrFun e_f53 qth).trans (z_up_ne (Ne.symm ne_me_qth) hf_qth)
  have hf_qcn : f53 qcn = .inl (cy 1, 36, .inl (fun _ => 0)) := (congrFun e_f53 qcn).trans (z_up_ne (Ne.symm ne_me_qcn) hf_qcn)
  have hf_me : f53 me = .inr (10, [.int 0, .ref qwd, .ref qmy, .ref qce, .ref qmv, .ref qta, .int 0, .int 0, .int 0, .int 0, .int 0, .long 0, .int 0, .int 0, .int 0, .int (-1), .ref qli, .ref qha, .ref qlw, .ref qst, .ref qfo, .ref qdr, .int 0, .ref qik, .int (-1), .int 0, .long 0, .int 0, .int 0, .ref qro, .int 0, .ref qct, .ref qse, .ref qth, .ref qcn, .null, .int 0, .null, .int 0, .null, .int 0, .int 0, .int 0, .null, .null, .null, .null, .null, .int 0, .null, .null, .null, .int 0, .int 0]) := (congrFun e_f53 me).trans z_up_self
  have hfr : ∀ b ∈ L, b ≠ me → f53 b = f b := fun b hb h0 => (congrFun e_f53 b).trans (z_up_ne h0 (hfr b hb h0))
  refine lv_aload_n hx hb dX10_init_149 rfl (lv_at hl 0 rfl) ?_
  refine lv_sipush (v := 2574) hx hb dX10_init_150 (by decide) ?_
  refine z_newa (atype := .int) (n := 2574) (N' := 2574) (a0 := (2574, .inl (fun _ => 0))) (cells := 17) (slots := 2816) hx hb (hT _ kw_203) rfl 1 rfl (fun _ h => by cases h) hK hw hA (fun _ => rfl) (by decide) (by decide) (by decide) (by decide) (by decide) dX10_init_153 (fun qbe H hq_qbe hw => ?_)
  refine W.widen (k := 18) (n := 5390) (by decide) (by decide) ?_
  have ne_me_qbe : me ≠ qbe := z_ne hm_me hq_qbe
  have ne_qwd_qbe : qwd ≠ qbe := z_ne hm_qwd hq_qbe
  have ne_qmy_qbe : qmy ≠ qbe := z_ne hm_qmy hq_qbe
  have ne_qce_qbe : qce ≠ qbe := z_ne hm_qce hq_qbe
  have ne_qmv_qbe : qmv ≠ qbe := z_ne hm_qmv hq_qbe
  have ne_qta_qbe : qta ≠ qbe := z_ne hm_qta hq_qbe
  have ne_qli_qbe : qli ≠ qbe := z_ne hm_qli hq_qbe
  have ne_qha_qbe : qha ≠ qbe := z_ne hm_qha hq_qbe
  have ne_qlw_qbe : qlw ≠ qbe := z_ne hm_qlw hq_qbe
  have ne_qst_qbe : qst ≠ qbe := z_ne hm_qst hq_qbe
  have ne_qfo_qbe : qfo ≠ qbe := z_ne hm_qfo hq_qbe
  have ne_qdr_qbe : qdr ≠ qbe := z_ne hm_qdr hq_qbe
  have ne_qik_qbe : qik ≠ qbe := z_ne hm_qik hq_qbe
  have ne_qro_qbe : qro ≠ qbe := z_ne hm_qro hq_qbe
  have ne_qct_qbe : qct ≠ qbe := z_ne hm_qct hq_qbe
  have ne_qse_qbe : qse ≠ qbe := z_ne hm_qse hq_qbe
  have ne_qth_qbe : qth ≠ qbe := z_ne hm_qth hq_qbe
  have ne_qcn_qbe : qcn ≠ qbe := z_ne hm_qcn hq_qbe
  have hn_qbe : qbe ∉ L := fun h => hq_qbe (hsub _ h)
  obtain ⟨f55, e_f55⟩ : ∃ z, z = va_up f53 qbe (.inl (cy 1, 2574, .inl (fun _ => 0))) := ⟨_, rfl⟩
  obtain ⟨L54, e_L54⟩ : ∃ z, z = L51 ++ [qbe] := ⟨_, rfl⟩
  rw [← e_f55, ← e_L54] at hw
  have hm_me : me ∈ L54 := by rw [e_L54]; exact List.mem_append_left _ hm_me
  have hf_me : f55 me = .inr (10, [.int 0, .ref qwd, .ref qmy, .ref qce, .ref qmv, .ref qta, .int 0, .int 0, .int 0, .int 0, .int 0, .long 0, .int 0, .int 0, .int 0, .int (-1), .ref qli, .ref qha, .ref qlw, .ref qst, .ref qfo, .ref qdr, .int 0, .ref qik, .int (-1), .int 0, .long 0, .int 0, .int 0, .ref qro, .int 0, .ref qct, .ref qse, .ref qth, .ref qcn, .null, .int 0, .null, .int 0, .null, .int 0, .int 0, .int 0, .null, .null, .null, .null, .null, .int 0, .null, .null, .null, .int 0, .int 0]) := (congrFun e_f55 me).trans (z_up_ne ne_me_qbe hf_me)
  have hm_qwd : qwd ∈ L54 := by rw [e_L54]; exact List.mem_append_left _ hm_qwd
  have hf_qwd : f55 qwd = .inl (cy 1, 4, .inl (fun _ => 0)) := (congrFun e_f55 qwd).trans (z_up_ne ne_qwd_qbe hf_qwd)
  have hm_qmy : qmy ∈ L54 := by rw [e_L54]; exact List.mem_append_left _ hm_qmy
  have hf_qmy : f55 qmy = .inl (cy 1, 4, .inl (fun _ => 0)) := (congrFun e_f55 qmy).trans (z_up_ne ne_qmy_qbe hf_qmy)
  have hm_qce : qce ∈ L54 := by rw [e_L54]; exact List.mem_append_left _ hm_qce
  have hf_qce : f55 qce = .inl (cy 2, 240, .inr (.inl (fun _ => 0))) := (congrFun e_f55 qce).trans (z_up_ne ne_qce_qbe hf_qce)
  have hm_qmv : qmv ∈ L54 := by rw [e_L54]; exact List.mem_append_left _ hm_qmv
  have hf_qmv : f55 qmv = .inl (cy 2, 60, .inr (.inl (fun _ => 0))) := (congrFun e_f55 qmv).trans (z_up_ne ne_qmv_qbe hf_qmv)
  have hm_qta : qta ∈ L54 := by rw [e_L54]; exact List.mem_append_left _ hm_qta
  have hf_qta : f55 qta = .inl (cy 0, 1600, .inl (fun _ => 0)) := (congrFun e_f55 qta).trans (z_up_ne ne_qta_qbe hf_qta)
  have hm_qli : qli ∈ L54 := by rw [e_L54]; exact List.mem_append_left _ hm_qli
  have hf_qli : f55 qli = .inl (cy 1, 5, .inl (fun _ => 0)) := (congrFun e_f55 qli).trans (z_up_ne ne_qli_qbe hf_qli)
  have hm_qha : qha ∈ L54 := by rw [e_L54]; exact List.mem_append_left _ hm_qha
  have hf_qha : f55 qha = .inl (cy 1, 30, .inl (fun _ => 0)) := (congrFun e_f55 qha).trans (z_up_ne ne_qha_qbe hf_qha)
  have hm_qlw : qlw ∈ L54 := by rw [e_L54]; exact List.mem_append_left _ hm_qlw
  have hf_qlw : f55 qlw = .inl (cy 1, 25, .inl (fun _ => 0)) := (congrFun e_f55 qlw).trans (z_up_ne ne_qlw_qbe hf_qlw)
  have hm_qst : qst ∈ L54 := by rw [e_L54]; exact List.mem_append_left _ hm_qst
  have hf_qst : f55 qst = .inl (cy 1, 20, .inl (fun _ => 0)) := (congrFun e_f55 qst).trans (z_up_ne ne_qst_qbe hf_qst)
  have hm_qfo : qfo ∈ L54 := by rw [e_L54]; exact List.mem_append_left _ hm_qfo
  have hf_qfo : f55 qfo = .inl (cy 1, 180, .inl (fun _ => 0)) := (congrFun e_f55 qfo).trans (z_up_ne ne_qfo_qbe hf_qfo)
  have hm_qdr : qdr ∈ L54 := by rw [e_L54]; exact List.mem_append_left _ hm_qdr
  have hf_qdr : f55 qdr = .inl (cy 1, 520, .inl (fun _ => 0)) := (congrFun e_f55 qdr).trans (z_up_ne ne_qdr_qbe hf_qdr)
  have hm_qik : qik ∈ L54 := by rw [e_L54]; exact List.mem_append_left _ hm_qik
  have hf_qik : f55 qik = .inl (cy 3, 3, .inl (fun _ => 0)) := (congrFun e_f55 qik).trans (z_up_ne ne_qik_qbe hf_qik)
  have hm_qro : qro ∈ L54 := by rw [e_L54]; exact List.mem_append_left _ hm_qro
  have hf_qro : f55 qro = .inl (cy 1, 13, .inl (fun _ => 0)) := (congrFun e_f55 qro).trans (z_up_ne ne_qro_qbe hf_qro)
  have hm_qct : qct ∈ L54 := by rw [e_L54]; exact List.mem_append_left _ hm_qct
  have hf_qct : f55 qct = .inl (cy 1, 4, .inl (fun _ => 0)) := (congrFun e_f55 qct).trans (z_up_ne ne_qct_qbe hf_qct)
  have hm_qse : qse ∈ L54 := by rw [e_L54]; exact List.mem_append_left _ hm_qse
  have hf_qse : f55 qse = .inl (cy 1, 36, .inl (fun _ => 0)) := (congrFun e_f55 qse).trans (z_up_ne ne_qse_qbe hf_qse)
  have hm_qth : qth ∈ L54 := by rw [e_L54]; exact List.mem_append_left _ hm_qth
  have hf_qth : f55 qth = .inl (cy 1, 36, .inl (fun _ => 0)) := (congrFun e_f55 qth).trans (z_up_ne ne_qth_qbe hf_qth)
  have hm_qcn : qcn ∈ L54 := by rw [e_L54]; exact List.mem_append_left _ hm_qcn
  have hf_qcn : f55 qcn = .inl (cy 1, 36, .inl (fun _ => 0)) := (congrFun e_f55 qcn).trans (z_up_ne ne_qcn_qbe hf_qcn)
  have hm_qbe : qbe ∈ L54 := by rw [e_L54]; exact List.mem_append_right _ (List.mem_singleton.mpr rfl)
  have hf_qbe : f55 qbe = .inl (cy 1, 2574, .inl (fun _ => 0)) := (congrFun e_f55 qbe).trans z_up_self
  have hsub : ∀ b ∈ L, b ∈ L54 := fun b h => by rw [e_L54]; exact List.mem_append_left _ (hsub b h)
  have hfr : ∀ b ∈ L, b ≠ me → f55 b = f b := fun b hb h0 => (congrFun e_f55 b).trans (z_up_ne (z_ne hb hn_qbe) (hfr b hb h0))
  refine z_putF (C := RX10) (T := TX10) (N := 54) (ci := 10) (v := .ref qbe) (fs' := [.int 0, .ref qwd, .ref qmy, .ref qce, .ref qmv, .ref qta, .int 0, .int 0, .int 0, .int 0, .int 0, .long 0, .int 0, .int 0, .int 0, .int (-1), .ref qli, .ref qha, .ref qlw, .ref qst, .ref qfo, .ref qdr, .int 0, .ref qik, .int (-1), .int 0, .long 0, .int 0, .int 0, .ref qro, .int 0, .ref qct, .ref qse, .ref qth, .ref qcn, .ref qbe, .int 0, .null, .int 0, .null, .int 0, .int 0, .int 0, .null, .null, .null, .null, .null, .int 0, .null, .null, .null, .int 0, .int 0]) hx hb hT zin_X10 tyX10_ok nmX10 hown hK hw hm_me hf_me rfl 35 (by decide) (hT _ kw_1203) rfl hnm rfl rfl rfl (Nat.le_of_ble_eq_true rfl) rfl dX10_init_155 (fun H locs hw => ?_)
  obtain ⟨f56, e_f56⟩ : ∃ z, z = va_up f55 me (.inr (10, [.int 0, .ref qwd, .ref qmy, .ref qce, .ref qmv, .ref qta, .int 0, .int 0, .int 0, .int 0, .int 0, .long 0, .int 0, .int 0, .int 0, .int (-1), .ref qli, .ref qha, .ref qlw, .ref qst, .ref qfo, .ref qdr, .int 0, .ref qik, .int (-1), .int 0, .long 0, .int 0, .int 0, .ref qro, .int 0, .ref qct, .ref qse, .ref qth, .ref qcn, .ref qbe, .int 0, .null, .int 0, .null, .int 0, .int 0, .int 0, .null, .null, .null, .null, .null, .int 0, .null, .null, .null, .int 0, .int 0])) := ⟨_, rfl⟩
  rw [← e_f56] at hw
  have hf_qwd : f56 qwd = .inl (cy 1, 4, .inl (fun _ => 0)) := (congrFun e_f56 qwd).trans (z_up_ne (Ne.symm ne_me_qwd) hf_qwd)
  have hf_qmy : f56 qmy = .inl (cy 1, 4, .inl (fun _ => 0)) := (congrFun e_f56 qmy).trans (z_up_ne (Ne.symm ne_me_qmy) hf_qmy)
  have hf_qce : f56 qce = .inl (cy 2, 240, .inr (.inl (fun _ => 0))) := (congrFun e_f56 qce).trans (z_up_ne (Ne.symm ne_me_qce) hf_qce)
  have hf_qmv : f56 qmv = .inl (cy 2, 60, .inr (.inl (fun _ => 0))) := (congrFun e_f56 qmv).trans (z_up_ne (Ne.symm ne_me_qmv) hf_qmv)
  have hf_qta : f56 qta = .inl (cy 0, 1600, .inl (fun _ => 0)) := (congrFun e_f56 qta).trans (z_up_ne (Ne.symm ne_me_qta) hf_qta)
  have hf_qli : f56 qli = .inl (cy 1, 5, .inl (fun _ => 0)) := (congrFun e_f56 qli).trans (z_up_ne (Ne.symm ne_me_qli) hf_qli)
  have hf_qha : f56 qha = .inl (cy 1, 30, .inl (fun _ => 0)) := (congrFun e_f56 qha).trans (z_up_ne (Ne.symm ne_me_qha) hf_qha)
  have hf_qlw : f56 qlw = .inl (cy 1, 25, .inl (fun _ => 0)) := (congrFun e_f56 qlw).trans (z_up_ne (Ne.symm ne_me_qlw) hf_qlw)
  have hf_qst : f56 qst = .inl (cy 1, 20, .inl (fun _ => 0)) := (congrFun e_f56 qst).trans (z_up_ne (Ne.symm ne_me_qst) hf_qst)
  have hf_qfo : f56 qfo = .inl (cy 1, 180, .inl (fun _ => 0)) := (congrFun e_f56 qfo).trans (z_up_ne (Ne.symm ne_me_qfo) hf_qfo)
  have hf_qdr : f56 qdr = .inl (cy 1, 520, .inl (fun _ => 0)) := (congrFun e_f56 qdr).trans (z_up_ne (Ne.symm ne_me_qdr) hf_qdr)
  have hf_qik : f56 qik = .inl (cy 3, 3, .inl (fun _ => 0)) := (congrFun e_f56 qik).trans (z_up_ne (Ne.symm ne_me_qik) hf_qik)
  have hf_qro : f56 qro = .inl (cy 1, 13, .inl (fun _ => 0)) := (congrFun e_f56 qro).trans (z_up_ne (Ne.symm ne_me_qro) hf_qro)
  have hf_qct : f56 qct = .inl (cy 1, 4, .inl (fun _ => 0)) := (congrFun e_f56 qct).trans (z_up_ne (Ne.symm ne_me_qct) hf_qct)
  have hf_qse : f56 qse = .inl (cy 1, 36, .inl (fun _ => 0)) := (congrFun e_f56 qse).trans (z_up_ne (Ne.symm ne_me_qse) hf_qse)
  have hf_qth : f56 qth = .inl (cy 1, 36, .inl (fun _ => 0)) := (congrFun e_f56 qth).trans (z_up_ne (Ne.symm ne_me_qth) hf_qth)
  have hf_qcn : f56 qcn = .inl (cy 1, 36, .inl (fun _ => 0)) := (congrFun e_f56 qcn).trans (z_up_ne (Ne.symm ne_me_qcn) hf_qcn)
  have hf_qbe : f56 qbe = .inl (cy 1, 2574, .inl (fun _ => 0)) := (congrFun e_f56 qbe).trans (z_up_ne (Ne.symm ne_me_qbe) hf_qbe)
  have hf_me : f56 me = .inr (10, [.int 0, .ref qwd, .ref qmy, .ref qce, .ref qmv, .ref qta, .int 0, .int 0, .int 0, .int 0, .int 0, .long 0, .int 0, .int 0, .int 0, .int (-1), .ref qli, .ref qha, .ref qlw, .ref qst, .ref qfo, .ref qdr, .int 0, .ref qik, .int (-1), .int 0, .long 0, .int 0, .int 0, .ref qro, .int 0, .ref qct, .ref qse, .ref qth, .ref qcn, .ref qbe, .int 0, .null, .int 0, .null, .int 0, .int 0, .int 0, .null, .null, .null, .null, .null, .int 0, .null, .null, .null, .int 0, .int 0]) := (congrFun e_f56 me).trans z_up_self
  have hfr : ∀ b ∈ L, b ≠ me → f56 b = f b := fun b hb h0 => (congrFun e_f56 b).trans (z_up_ne h0 (hfr b hb h0))
  refine lv_aload_n hx hb dX10_init_158 rfl (lv_at hl 0 rfl) ?_
  refine lv_sipush (v := 5200) hx hb dX10_init_159 (by decide) ?_
  refine z_newa (atype := .int) (n := 5200) (N' := 5200) (a0 := (5200, .inl (fun _ => 0))) (cells := 18) (slots := 5390) hx hb (hT _ kw_203) rfl 1 rfl (fun _ h => by cases h) hK hw hA (fun _ => rfl) (by decide) (by decide) (by decide) (by decide) (by decide) dX10_init_162 (fun qdu H hq_qdu hw => ?_)
  refine W.widen (k := 19) (n := 10590) (by decide) (by decide) ?_
  have ne_me_qdu : me ≠ qdu := z_ne hm_me hq_qdu
  have ne_qwd_qdu : qwd ≠ qdu := z_ne hm_qwd hq_qdu
  have ne_qmy_qdu : qmy ≠ qdu := z_ne hm_qmy hq_qdu
  have ne_qce_qdu : qce ≠ qdu := z_ne hm_qce hq_qdu
  have ne_qmv_qdu : qmv ≠ qdu := z_ne hm_qmv hq_qdu
  have ne_qta_qdu : qta ≠ qdu := z_ne hm_qta hq_qdu
  have ne_qli_qdu : qli ≠ qdu := z_ne hm_qli hq_qdu
  have ne_qha_qdu : qha ≠ qdu := z_ne hm_qha hq_qdu
  have ne_qlw_qdu : qlw ≠ qdu := z_ne hm_qlw hq_qdu
  have ne_qst_qdu : qst ≠ qdu := z_ne hm_qst hq_qdu
  have ne_qfo_qdu : qfo ≠ qdu := z_ne hm_qfo hq_qdu
  have ne_qdr_qdu : qdr ≠ qdu := z_ne hm_qdr hq_qdu
  have ne_qik_qdu : qik ≠ qdu := z_ne hm_qik hq_qdu
  have ne_qro_qdu : qro ≠ qdu := z_ne hm_qro hq_qdu
  have ne_qct_qdu : qct ≠ qdu := z_ne hm_qct hq_qdu
  have ne_qse_qdu : qse ≠ qdu := z_ne hm_qse hq_qdu
  have ne_qth_qdu : qth ≠ qdu := z_ne hm_qth hq_qdu
  have ne_qcn_qdu : qcn ≠ qdu := z_ne hm_qcn hq_qdu
  have ne_qbe_qdu : qbe ≠ qdu := z_ne hm_qbe hq_qdu
  have hn_qdu : qdu ∉ L := fun h => hq_qdu (hsub _ h)
  obtain ⟨f58, e_f58⟩ : ∃ z, z = va_up f56 qdu (.inl (cy 1, 5200, .inl (fun _ => 0))) := ⟨_, rfl⟩
  obtain ⟨L57, e_L57⟩ : ∃ z, z = L54 ++ [qdu] := ⟨_, rfl⟩
  rw [← e_f58, ← e_L57] at hw
  have hm_me : me ∈ L57 := by rw [e_L57]; exact List.mem_append_left _ hm_me
  have hf_me : f58 me = .inr (10, [.int 0, .ref qwd, .ref qmy, .ref qce, .ref qmv, .ref qta, .int 0, .int 0, .int 0, .int 0, .int 0, .long 0, .int 0, .int 0, .int 0, .int (-1), .ref qli, .ref qha, .ref qlw, .ref qst, .ref qfo, .ref qdr, .int 0, .ref qik, .int (-1), .int 0, .long 0, .int 0, .int 0, .ref qro, .int 0, .ref qct, .ref qse, .ref qth, .ref qcn, .ref qbe, .int 0, .null, .int 0, .null, .int 0, .int 0, .int 0, .null, .null, .null, .null, .null, .int 0, .null, .null, .null, .int 0, .int 0]) := (congrFun e_f58 me).trans (z_up_ne ne_me_qdu hf_me)
  have hm_qwd : qwd ∈ L57 := by rw [e_L57]; exact List.mem_append_left _ hm_qwd
  have hf_qwd : f58 qwd = .inl (cy 1, 4, .inl (fun _ => 0)) := (congrFun e_f58 qwd).trans (z_up_ne ne_qwd_qdu hf_qwd)
  have hm_qmy : qmy ∈ L57 := by rw [e_L57]; exact List.mem_append_left _ hm_qmy
  have hf_qmy : f58 qmy = .inl (cy 1, 4, .inl (fun _ => 0)) := (congrFun e_f58 qmy).trans (z_up_ne ne_qmy_qdu hf_qmy)
  have hm_qce : qce ∈ L57 := by rw [e_L57]; exact List.mem_append_left _ hm_qce
  have hf_qce : f58 qce = .inl (cy 2, 240, .inr (.inl (fun _ => 0))) := (congrFun e_f58 qce).trans (z_up_ne ne_qce_qdu hf_qce)
  have hm_qmv : qmv ∈ L57 := by rw [e_L57]; exact List.mem_append_left _ hm_qmv
  have hf_qmv : f58 qmv = .inl (cy 2, 60, .inr (.inl (fun _ => 0))) := (congrFun e_f58 qmv).trans (z_up_ne ne_qmv_qdu hf_qmv)
  have hm_qta : qta ∈ L57 := by rw [e_L57]; exact List.mem_append_left _ hm_qta
  have hf_qta : f58 qta = .inl (cy 0, 1600, .inl (fun _ => 0)) := (congrFun e_f58 qta).trans (z_up_ne ne_qta_qdu hf_qta)
  have hm_qli : qli ∈ L57 := by rw [e_L57]; exact List.mem_append_left _ hm_qli
  have hf_qli : f58 qli = .inl (cy 1, 5, .inl (fun _ => 0)) := (congrFun e_f58 qli).trans (z_up_ne ne_qli_qdu hf_qli)
  have hm_qha : qha ∈ L57 := by rw [e_L57]; exact List.mem_append_left _ hm_qha
  have hf_qha : f58 qha = .inl (cy 1, 30, .inl (fun _ => 0)) := (congrFun e_f58 qha).trans (z_up_ne ne_qha_qdu hf_qha)
  have hm_qlw : qlw ∈ L57 := by rw [e_L57]; exact List.mem_append_left _ hm_qlw
  have hf_qlw : f58 qlw = .inl (cy 1, 25, .inl (fun _ => 0)) := (congrFun e_f58 qlw).trans (z_up_ne ne_qlw_qdu hf_qlw)
  have hm_qst : qst ∈ L57 := by rw [e_L57]; exact List.mem_append_left _ hm_qst
  have hf_qst : f58 qst = .inl (cy 1, 20, .inl (fun _ => 0)) := (congrFun e_f58 qst).trans (z_up_ne ne_qst_qdu hf_qst)
  have hm_qfo : qfo ∈ L57 := by rw [e_L57]; exact List.mem_append_left _ hm_qfo
  have hf_qfo : f58 qfo = .inl (cy 1, 180, .inl (fun _ => 0)) := (congrFun e_f58 qfo).trans (z_up_ne ne_qfo_qdu hf_qfo)
  have hm_qdr : qdr ∈ L57 := by rw [e_L57]; exact List.mem_append_left _ hm_qdr
  have hf_qdr : f58 qdr = .inl (cy 1, 520, .inl (fun _ => 0)) := (congrFun e_f58 qdr).trans (z_up_ne ne_qdr_qdu hf_qdr)
  have hm_qik : qik ∈ L57 := by rw [e_L57]; exact List.mem_append_left _ hm_qik
  have hf_qik : f58 qik = .inl (cy 3, 3, .inl (fun _ => 0)) := (congrFun e_f58 qik).trans (z_up_ne ne_qik_qdu hf_qik)
  have hm_qro : qro ∈ L57 := by rw [e_L57]; exact List.mem_append_left _ hm_qro
  have hf_qro : f58 qro = .inl (cy 1, 13, .inl (fun _ => 0)) := (congrFun e_f58 qro).trans (z_up_ne ne_qro_qdu hf_qro)
  have hm_qct : qct ∈ L57 := by rw [e_L57]; exact List.mem_append_left _ hm_qct
  have hf_qct : f58 qct = .inl (cy 1, 4, .inl (fun _ => 0)) := (congrFun e_f58 qct).trans (z_up_ne ne_qct_qdu hf_qct)
  have hm_qse : qse ∈ L57 := by rw [e_L57]; exact List.mem_append_left _ hm_qse
  have hf_qse : f58 qse = .inl (cy 1, 36, .inl (fun _ => 0)) := (congrFun e_f58 qse).trans (z_up_ne ne_qse_qdu hf_qse)
  have hm_qth : qth ∈ L57 := by rw [e_L57]; exact List.mem_append_left _ hm_qth
  have hf_qth : f58 qth = .inl (cy 1, 36, .inl (fun _ => 0)) := (congrFun e_f58 qth).trans (z_up_ne ne_qth_qdu hf_qth)
  have hm_qcn : qcn ∈ L57 := by rw [e_L57]; exact List.mem_append_left _ hm_qcn
  have hf_qcn : f58 qcn = .inl (cy 1, 36, .inl (fun _ => 0)) := (congrFun e_f58 qcn).trans (z_up_ne ne_qcn_qdu hf_qcn)
  have hm_qbe : qbe ∈ L57 := by rw [e_L57]; exact List.mem_append_left _ hm_qbe
  have hf_qbe : f58 qbe = .inl (cy 1, 2574, .inl (fun _ => 0)) := (congrFun e_f58 qbe).trans (z_up_ne ne_qbe_qdu hf_qbe)
  have hm_qdu : qdu ∈ L57 := by rw [e_L57]; exact List.mem_append_right _ (List.mem_singleton.mpr rfl)
  have hf_qdu : f58 qdu = .inl (cy 1, 5200, .inl (fun _ => 0)) := (congrFun e_f58 qdu).trans z_up_self
  have hsub : ∀ b ∈ L, b ∈ L57 := fun b h => by rw [e_L57]; exact List.mem_append_left _ (hsub b h)
  have hfr : ∀ b ∈ L, b ≠ me → f58 b = f b := fun b hb h0 => (congrFun e_f58 b).trans (z_up_ne (z_ne hb hn_qdu) (hfr b hb h0))
  refine z_putF (C := RX10) (T := TX10) (N := 54) (ci := 10) (v := .ref qdu) (fs' := [.int 0, .ref qwd, .ref qmy, .ref qce, .ref qmv, .ref qta, .int 0, .int 0, .int 0, .int 0, .int 0, .long 0, .int 0, .int 0, .int 0, .int (-1), .ref qli, .ref qha, .ref qlw, .ref qst, .ref qfo, .ref qdr, .int 0, .ref qik, .int (-1), .int 0, .long 0, .int 0, .int 0, .ref qro, .int 0, .ref qct, .ref qse, .ref qth, .ref qcn, .ref qbe, .int 0, .ref qdu, .int 0, .null, .int 0, .int 0, .int 0, .null, .null, .null, .null, .null, .int 0, .null, .null, .null, .int 0, .int 0]) hx hb hT zin_X10 tyX10_ok nmX10 hown hK hw hm_me hf_me rfl 37 (by decide) (hT _ kw_1205) rfl hnm rfl rfl rfl (Nat.le_of_ble_eq_true rfl) rfl dX10_init_164 (fun H locs hw => ?_)
  obtain ⟨f59, e_f59⟩ : ∃ z, z = va_up f58 me (.inr (10, [.int 0, .ref qwd, .ref qmy, .ref qce, .ref qmv, .ref qta, .int 0, .int 0, .int 0, .int 0, .int 0, .long 0, .int 0, .int 0, .int 0, .int (-1), .ref qli, .ref qha, .ref qlw, .ref qst, .ref qfo, .ref qdr, .int 0, .ref qik, .int (-1), .int 0, .long 0, .int 0, .int 0, .ref qro, .int 0, .ref qct, .ref qse, .ref qth, .ref qcn, .ref qbe, .int 0, .ref qdu, .int 0, .null, .int 0, .int 0, .int 0, .null, .null, .null, .null, .null, .int 0, .null, .null, .null, .int 0, .int 0])) := ⟨_, rfl⟩
  rw [← e_f59] at hw
  have hf_qwd : f59 qwd = .inl (cy 1, 4, .inl (fun _ => 0)) := (congrFun e_f59 qwd).trans (z_up_ne (Ne.symm ne_me_qwd) hf_qwd)
  have hf_qmy : f59 qmy = .inl (cy 1, 4, .inl (fun _ => 0)) := (congrFun e_f59 qmy).trans (z_up_ne (Ne.symm ne_me_qmy) hf_qmy)
  have hf_qce : f59 qce = .inl (cy 2, 240, .inr (.inl (fun _ => 0))) := (congrFun e_f59 qce).trans (z_up_ne (Ne.symm ne_me_qce) hf_qce)
  have hf_qmv : f59 qmv = .inl (cy 2, 60, .inr (.inl (fun _ => 0))) := (congrFun e_f59 qmv).trans (z_up_ne (Ne.symm ne_me_qmv) hf_qmv)
  have hf_qta : f59 qta = .inl (cy 0, 1600, .inl (fun _ => 0)) := (congrFun e_f59 qta).trans (z_up_ne (Ne.symm ne_me_qta) hf_qta)
  have hf_qli : f59 qli = .inl (cy 1, 5, .inl (fun _ => 0)) := (congrFun e_f59 qli).trans (z_up_ne (Ne.symm ne_me_qli) hf_qli)
  have hf_qha : f59 qha = .inl (cy 1, 30, .inl (fun _ => 0)) := (congrFun e_f59 qha).trans (z_up_ne (Ne.symm ne_me_qha) hf_qha)
  have hf_qlw : f59 qlw = .inl (cy 1, 25, .inl (fun _ => 0)) := (congrFun e_f59 qlw).trans (z_up_ne (Ne.symm ne_me_qlw) hf_qlw)
  have hf_qst : f59 qst = .inl (cy 1, 20, .inl (fun _ => 0)) := (congrFun e_f59 qst).trans (z_up_ne (Ne.symm ne_me_qst) hf_qst)
  have hf_qfo : f59 qfo = .inl (cy 1, 180, .inl (fun _ => 0)) := (congrFun e_f59 qfo).trans (z_up_ne (Ne.symm ne_me_qfo) hf_qfo)
  have hf_qdr : f59 qdr = .inl (cy 1, 520, .inl (fun _ => 0)) := (congrFun e_f59 qdr).trans (z_up_ne (Ne.symm ne_me_qdr) hf_qdr)
  have hf_qik : f59 qik = .inl (cy 3, 3, .inl (fun _ => 0)) := (congrFun e_f59 qik).trans (z_up_ne (Ne.symm ne_me_qik) hf_qik)
  have hf_qro : f59 qro = .inl (cy 1, 13, .inl (fun _ => 0)) := (congrFun e_f59 qro).trans (z_up_ne (Ne.symm ne_me_qro) hf_qro)
  have hf_qct : f59 qct = .inl (cy 1, 4, .inl (fun _ => 0)) := (congrFun e_f59 qct).trans (z_up_ne (Ne.symm ne_me_qct) hf_qct)
  have hf_qse : f59 qse = .inl (cy 1, 36, .inl (fun _ => 0)) := (congrFun e_f59 qse).trans (z_up_ne (Ne.symm ne_me_qse) hf_qse)
  have hf_qth : f59 qth = .inl (cy 1, 36, .inl (fun _ => 0)) := (congrFun e_f59 qth).trans (z_up_ne (Ne.symm ne_me_qth) hf_qth)
  have hf_qcn : f59 qcn = .inl (cy 1, 36, .inl (fun _ => 0)) := (congrFun e_f59 qcn).trans (z_up_ne (Ne.symm ne_me_qcn) hf_qcn)
  have hf_qbe : f59 qbe = .inl (cy 1, 2574, .inl (fun _ => 0)) := (congrFun e_f59 qbe).trans (z_up_ne (Ne.symm ne_me_qbe) hf_qbe)
  have hf_qdu : f59 qdu = .inl (cy 1, 5200, .inl (fun _ => 0)) := (congrFun e_f59 qdu).trans (z_up_ne (Ne.symm ne_me_qdu) hf_qdu)
  have hf_me : f59 me = .inr (10, [.int 0, .ref qwd, .ref qmy, .ref qce, .ref qmv, .ref qta, .int 0, .int 0, .int 0, .int 0, .int 0, .long 0, .int 0, .int 0, .int 0, .int (-1), .ref qli, .ref qha, .ref qlw, .ref qst, .ref qfo, .ref qdr, .int 0, .ref qik, .int (-1), .int 0, .long 0, .int 0, .int 0, .ref qro, .int 0, .ref qct, .ref qse, .ref qth, .ref qcn, .ref qbe, .int 0, .ref qdu, .int 0, .null, .int 0, .int 0, .int 0, .null, .null, .null, .null, .null, .int 0, .null, .null, .null, .int 0, .int 0]) := (congrFun e_f59 me).trans z_up_self
  have hfr : ∀ b ∈ L, b ≠ me → f59 b = f b := fun b hb h0 => (congrFun e_f59 b).trans (z_up_ne h0 (hfr b hb h0))
  refine lv_aload_n hx hb dX10_init_167 rfl (lv_at hl 0 rfl) ?_
  refine lv_iconst (v := 5) hx hb dX10_init_168 (by decide) ?_
  refine z_newa (atype := .int) (n := 5) (N' := 5) (a0 := (5, .inl (fun _ => 0))) (cells := 19) (slots := 10590) hx hb (hT _ kw_203) rfl 1 rfl (fun _ h => by cases h) hK hw hA (fun _ => rfl) (by decide) (by decide) (by decide) (by decide) (by decide) dX10_init_169 (fun qdb H hq_qdb hw => ?_)
  refine W.widen (k := 20) (n := 10595) (by decide) (by decide) ?_
  have ne_me_qdb : me ≠ qdb := z_ne hm_me hq_qdb
  have ne_qwd_qdb : qwd ≠ qdb := z_ne hm_qwd hq_qdb
  have ne_qmy_qdb : qmy ≠ qdb := z_ne hm_qmy hq_qdb
  have ne_qce_qdb : qce ≠ qdb := z_ne hm_qce hq_qdb
  have ne_qmv_qdb : qmv ≠ qdb := z_ne hm_qmv hq_qdb
  have ne_qta_qdb : qta ≠ qdb := z_ne hm_qta hq_qdb
  have ne_qli_qdb : qli ≠ qdb := z_ne hm_qli hq_qdb
  have ne_qha_qdb : qha ≠ qdb := z_ne hm_qha hq_qdb
  have ne_qlw_qdb : qlw ≠ qdb := z_ne hm_qlw hq_qdb
  have ne_qst_qdb : qst ≠ qdb := z_ne hm_qst hq_qdb
  have ne_qfo_qdb : qfo ≠ qdb := z_ne hm_qfo hq_qdb
  have ne_qdr_qdb : qdr ≠ qdb := z_ne hm_qdr hq_qdb
  have ne_qik_qdb : qik ≠ qdb := z_ne hm_qik hq_qdb
  have ne_qro_qdb : qro ≠ qdb := z_ne hm_qro hq_qdb
  have ne_qct_qdb : qct ≠ qdb := z_ne hm_qct hq_qdb
  have ne_qse_qdb : qse ≠ qdb := z_ne hm_qse hq_qdb
  have ne_qth_qdb : qth ≠ qdb := z_ne hm_qth hq_qdb
  have ne_qcn_qdb : qcn ≠ qdb := z_ne hm_qcn hq_qdb
  have ne_qbe_qdb : qbe ≠ qdb := z_ne hm_qbe hq_qdb
  have ne_qdu_qdb : qdu ≠ qdb := z_ne hm_qdu hq_qdb
  have hn_qdb : qdb ∉ L := fun h => hq_qdb (hsub _ h)
  obtain ⟨f61, e_f61⟩ : ∃ z, z = va_up f59 qdb (.inl (cy 1, 5, .inl (fun _ => 0))) := ⟨_, rfl⟩
  obtain ⟨L60, e_L60⟩ : ∃ z, z = L57 ++ [qdb] := ⟨_, rfl⟩
  rw [← e_f61, ← e_L60] at hw
  have hm_me : me ∈ L60 := by rw [e_L60]; exact List.mem_append_left _ hm_me
  have hf_me : f61 me = .inr (10, [.int 0, .ref qwd, .ref qmy, .ref qce, .ref qmv, .ref qta, .int 0, .int 0, .int 0, .int 0, .int 0, .long 0, .int 0, .int 0, .int 0, .int (-1), .ref qli, .ref qha, .ref qlw, .ref qst, .ref qfo, .ref qdr, .int 0, .ref qik, .int (-1), .int 0, .long 0, .int 0, .int 0, .ref qro, .int 0, .ref qct, .ref qse, .ref qth, .ref qcn, .ref qbe, .int 0, .ref qdu, .int 0, .null, .int 0, .int 0, .int 0, .null, .null, .null, .null, .null, .int 0, .null, .null, .null, .int 0, .int 0]) := (congrFun e_f61 me).trans (z_up_ne ne_me_qdb hf_me)
  have hm_qwd : qwd ∈ L60 := by rw [e_L60]; exact List.mem_append_left _ hm_qwd
  have hf_qwd : f61 qwd = .inl (cy 1, 4, .inl (fun _ => 0)) := (congrFun e_f61 qwd).trans (z_up_ne ne_qwd_qdb hf_qwd)
  have hm_qmy : qmy ∈ L60 := by rw [e_L60]; exact List.mem_append_left _ hm_qmy
  have hf_qmy : f61 qmy = .inl (cy 1, 4, .inl (fun _ => 0)) := (congrFun e_f61 qmy).trans (z_up_ne ne_qmy_qdb hf_qmy)
  have hm_qce : qce ∈ L60 := by rw [e_L60]; exact List.mem_append_left _ hm_qce
  have hf_qce : f61 qce = .inl (cy 2, 240, .inr (.inl (fun _ => 0))) := (congrFun e_f61 qce).trans (z_up_ne ne_qce_qdb hf_qce)
  have hm_qmv : qmv ∈ L60 := by rw [e_L60]; exact List.mem_append_left _ hm_qmv
  have hf_qmv : f61 qmv = .inl (cy 2, 60, .inr (.inl (fun _ => 0))) := (congrFun e_f61 qmv).trans (z_up_ne ne_qmv_qdb hf_qmv)
  have hm_qta : qta ∈ L60 := by rw [e_L60]; exact List.mem_append_left _ hm_qta
  have hf_qta : f61 qta = .inl (cy 0, 1600, .inl (fun _ => 0)) := (congrFun e_f61 qta).trans (z_up_ne ne_qta_qdb hf_qta)
  have hm_qli : qli ∈ L60 := by rw [e_L60]; exact List.mem_append_left _ hm_qli
  have hf_qli : f61 qli = .inl (cy 1, 5, .inl (fun _ => 0)) := (congrFun e_f61 qli).trans (z_up_ne ne_qli_qdb hf_qli)
  have hm_qha : qha ∈ L60 := by rw [e_L60]; exact List.mem_append_left _ hm_qha
  have hf_qha : f61 qha = .inl (cy 1, 30, .inl (fun _ => 0)) := (congrFun e_f61 qha).trans (z_up_ne ne_qha_qdb hf_qha)
  have hm_qlw : qlw ∈ L60 := by rw [e_L60]; exact List.mem_append_left _ hm_qlw
  have hf_qlw : f61 qlw = .inl (cy 1, 25, .inl (fun _ => 0)) := (congrFun e_f61 qlw).trans (z_up_ne ne_qlw_qdb hf_qlw)
  have hm_qst : qst ∈ L60 := by rw [e_L60]; exact List.mem_append_left _ hm_qst
  have hf_qst : f61 qst = .inl (cy 1, 20, .inl (fun _ => 0)) := (congrFun e_f61 qst).trans (z_up_ne ne_qst_qdb hf_qst)
  have hm_qfo : qfo ∈ L60 := by rw [e_L60]; exact List.mem_append_left _ hm_qfo
  have hf_qfo : f61 qfo = .inl (cy 1, 180, .inl (fun _ => 0)) := (congrFun e_f61 qfo).trans (z_up_ne ne_qfo_qdb hf_qfo)
  have hm_qdr : qdr ∈ L60 := by rw [e_L60]; exact List.mem_append_left _ hm_qdr
  have hf_qdr : f61 qdr = .inl (cy 1, 520, .inl (fun _ => 0)) := (congrFun e_f61 qdr).trans (z_up_ne ne_qdr_qdb hf_qdr)
  have hm_qik : qik ∈ L60 := by rw [e_L60]; exact List.mem_append_left _ hm_qik
  have hf_qik : f61 qik = .inl (cy 3, 3, .inl (fun _ => 0)) := (congrFun e_f61 qik).trans (z_up_ne ne_qik_qdb hf_qik)
  have hm_qro : qro ∈ L60 := by rw [e_L60]; exact List.mem_append_left _ hm_qro
  have hf_qro : f61 qro = .inl (cy 1, 13, .inl (fun _ => 0)) := (congrFun e_f61 qro).trans (z_up_ne ne_qro_qdb hf_qro)
  have hm_qct : qct ∈ L60 := by rw [e_L60]; exact List.mem_append_left _ hm_qct
  have hf_qct : f61 qct = .inl (cy 1, 4, .inl (fun _ => 0)) := (congrFun e_f61 qct).trans (z_up_ne ne_qct_qdb hf_qct)
  have hm_qse : qse ∈ L60 := by rw [e_L60]; exact List.mem_append_left _ hm_qse
  have hf_qse : f61 qse = .inl (cy 1, 36, .inl (fun _ => 0)) := (congrFun e_f61 qse).trans (z_up_ne ne_qse_qdb hf_qse)
  have hm_qth : qth ∈ L60 := by rw [e_L60]; exact List.mem_append_left _ hm_qth
  have hf_qth : f61 qth = .inl (cy 1, 36, .inl (fun _ => 0)) := (congrFun e_f61 qth).trans (z_up_ne ne_qth_qdb hf_qth)
  have hm_qcn : qcn ∈ L60 := by rw [e_L60]; exact List.mem_append_left _ hm_qcn
  have hf_qcn : f61 qcn = .inl (cy 1, 36, .inl (fun _ => 0)) := (congrFun e_f61 qcn).trans (z_up_ne ne_qcn_qdb hf_qcn)
  have hm_qbe : qbe ∈ L60 := by rw [e_L60]; exact List.mem_append_left _ hm_qbe
  have hf_qbe : f61 qbe = .inl (cy 1, 2574, .inl (fun _ => 0)) := (congrFun e_f61 qbe).trans (z_up_ne ne_qbe_qdb hf_qbe)
  have hm_qdu : qdu ∈ L60 := by rw [e_L60]; exact List.mem_append_left _ hm_qdu
  have hf_qdu : f61 qdu = .inl (cy 1, 5200, .inl (fun _ => 0)) := (congrFun e_f61 qdu).trans (z_up_ne ne_qdu_qdb hf_qdu)
  have hm_qdb : qdb ∈ L60 := by rw [e_L60]; exact List.mem_append_right _ (List.mem_singleton.mpr rfl)
  have hf_qdb : f61 qdb = .inl (cy 1, 5, .inl (fun _ => 0)) := (congrFun e_f61 qdb).trans z_up_self
  have hsub : ∀ b ∈ L, b ∈ L60 := fun b h => by rw [e_L60]; exact List.mem_append_left _ (hsub b h)
  have hfr : ∀ b ∈ L, b ≠ me → f61 b = f b := fun b hb h0 => (congrFun e_f61 b).trans (z_up_ne (z_ne hb hn_qdb) (hfr b hb h0))
  refine z_putF (C := RX10) (T := TX10) (N := 54) (ci := 10) (v := .ref qdb) (fs' := [.int 0, .ref qwd, .ref qmy, .ref qce, .ref qmv, .ref qta, .int 0, .int 0, .int 0, .int 0, .int 0, .long 0, .int 0, .int 0, .int 0, .int (-1), .ref qli, .ref qha, .ref qlw, .ref qst, .ref qfo, .ref qdr, .int 0, .ref qik, .int (-1), .int 0, .long 0, .int 0, .int 0, .ref qro, .int 0, .ref qct, .ref qse, .ref qth, .ref qcn, .ref qbe, .int 0, .ref qdu, .int 0, .ref qdb, .int 0, .int 0, .int 0, .null, .null, .null, .null, .null, .int 0, .null, .null, .null, .int 0, .int 0]) hx hb hT zin_X10 tyX10_ok nmX10 hown hK hw hm_me hf_me rfl 39 (by decide) (hT _ kw_1207) rfl hnm rfl rfl rfl (Nat.le_of_ble_eq_true rfl) rfl dX10_init_171 (fun H locs hw => ?_)
  obtain ⟨f62, e_f62⟩ : ∃ z, z = va_up f61 me (.inr (10, [.int 0, .ref qwd, .ref qmy, .ref qce, .ref qmv, .ref qta, .int 0, .int 0, .int 0, .int 0, .int 0, .long 0, .int 0, .int 0, .int 0, .int (-1), .ref qli, .ref qha, .ref qlw, .ref qst, .ref qfo, .ref qdr, .int 0, .ref qik, .int (-1), .int 0, .long 0, .int 0, .int 0, .ref qro, .int 0, .ref qct, .ref qse, .ref qth, .ref qcn, .ref qbe, .int 0, .ref qdu, .int 0, .ref qdb, .int 0, .int 0, .int 0, .null, .null, .null, .null, .null, .int 0, .null, .null, .null, .int 0, .int 0])) := ⟨_, rfl⟩
  rw [← e_f62] at hw
  have hf_qwd : f62 qwd = .inl (cy 1, 4, .inl (fun _ => 0)) := (congrFun e_f62 qwd).trans (z_up_ne (Ne.symm ne_me_qwd) hf_qwd)
  have hf_qmy : f62 qmy = .inl (cy 1, 4, .inl (fun _ => 0)) := (congrFun e_f62 qmy).trans (z_up_ne (Ne.symm ne_me_qmy) hf_qmy)
  have hf_qce : f62 qce = .inl (cy 2, 240, .inr (.inl (fun _ => 0))) := (congrFun e_f62 qce).trans (z_up_ne (Ne.symm ne_me_qce) hf_qce)
  have hf_qmv : f62 qmv = .inl (cy 2, 60, .inr (.inl (fun _ => 0))) := (congrFun e_f62 qmv).trans (z_up_ne (Ne.symm ne_me_qmv) hf_qmv)
  have hf_qta : f62 qta = .inl (cy 0, 1600, .inl (fun _ => 0)) := (congrFun e_f62 qta).trans (z_up_ne (Ne.symm ne_me_qta) hf_qta)
  have hf_qli : f62 qli = .inl (cy 1, 5, .inl (fun _ => 0)) := (congrFun e_f62 qli).trans (z_up_ne (Ne.symm ne_me_qli) hf_qli)
  have hf_qha : f62 qha = .inl (cy 1, 30, .inl (fun _ => 0)) := (congrFun e_f62 qha).trans (z_up_ne (Ne.symm ne_me_qha) hf_qha)
  have hf_qlw : f62 qlw = .inl (cy 1, 25, .inl (fun _ => 0)) := (congrFun e_f62 qlw).trans (z_up_ne (Ne.symm ne_me_qlw) hf_qlw)
  have hf_qst : f62 qst = .inl (cy 1, 20, .inl (fun _ => 0)) := (congrFun e_f62 qst).trans (z_up_ne (Ne.symm ne_me_qst) hf_qst)
  have hf_qfo : f62 qfo = .inl (cy 1, 180, .inl (fun _ => 0)) := (congrFun e_f62 qfo).trans (z_up_ne (Ne.symm ne_me_qfo) hf_qfo)
  have hf_qdr : f62 qdr = .inl (cy 1, 520, .inl (fun _ => 0)) := (congrFun e_f62 qdr).trans (z_up_ne (Ne.symm ne_me_qdr) hf_qdr)
  have hf_qik : f62 qik = .inl (cy 3, 3, .inl (fun _ => 0)) := (congrFun e_f62 qik).trans (z_up_ne (Ne.symm ne_me_qik) hf_qik)
  have hf_qro : f62 qro = .inl (cy 1, 13, .inl (fun _ => 0)) := (congrFun e_f62 qro).trans (z_up_ne (Ne.symm ne_me_qro) hf_qro)
  have hf_qct : f62 qct = .inl (cy 1, 4, .inl (fun _ => 0)) := (congrFun e_f62 qct).trans (z_up_ne (Ne.symm ne_me_qct) hf_qct)
  have hf_qse : f62 qse = .inl (cy 1, 36, .inl (fun _ => 0)) := (congrFun e_f62 qse).trans (z_up_ne (Ne.symm ne_me_qse) hf_qse)
  have hf_qth : f62 qth = .inl (cy 1, 36, .inl (fun _ => 0)) := (congrFun e_f62 qth).trans (z_up_ne (Ne.symm ne_me_qth) hf_qth)
  have hf_qcn : f62 qcn = .inl (cy 1, 36, .inl (fun _ => 0)) := (congrFun e_f62 qcn).trans (z_up_ne (Ne.symm ne_me_qcn) hf_qcn)
  have hf_qbe : f62 qbe = .inl (cy 1, 2574, .inl (fun _ => 0)) := (congrFun e_f62 qbe).trans (z_up_ne (Ne.symm ne_me_qbe) hf_qbe)
  have hf_qdu : f62 qdu = .inl (cy 1, 5200, .inl (fun _ => 0)) := (congrFun e_f62 qdu).trans (z_up_ne (Ne.symm ne_me_qdu) hf_qdu)
  have hf_qdb : f62 qdb = .inl (cy 1, 5, .inl (fun _ => 0)) := (congrFun e_f62 qdb).trans (z_up_ne (Ne.symm ne_me_qdb) hf_qdb)
  have hf_me : f62 me = .inr (10, [.int 0, .ref qwd, .ref qmy, .ref qce, .ref qmv, .ref qta, .int 0, .int 0, .int 0, .int 0, .int 0, .long 0, .int 0, .int 0, .int 0, .int (-1), .ref qli, .ref qha, .ref qlw, .ref qst, .ref qfo, .ref qdr, .int 0, .ref qik, .int (-1), .int 0, .long 0, .int 0, .int 0, .ref qro, .int 0, .ref qct, .ref qse, .ref qth, .ref qcn, .ref qbe, .int 0, .ref qdu, .int 0, .ref qdb, .int 0, .int 0, .int 0, .null, .null, .null, .null, .null, .int 0, .null, .null, .null, .int 0, .int 0]) := (congrFun e_f62 me).trans z_up_self
  have hfr : ∀ b ∈ L, b ≠ me → f62 b = f b := fun b hb h0 => (congrFun e_f62 b).trans (z_up_ne h0 (hfr b hb h0))
  refine lv_aload_n hx hb dX10_init_174 rfl (lv_at hl 0 rfl) ?_
  refine lv_iconst (v := 5) hx hb dX10_init_175 (by decide) ?_
  refine z_newa (atype := .int) (n := 5) (N' := 5) (a0 := (5, .inl (fun _ => 0))) (cells := 20) (slots := 10595) hx hb (hT _ kw_203) rfl 1 rfl (fun _ h => by cases h) hK hw hA (fun _ => rfl) (by decide) (by decide) (by decide) (by decide) (by decide) dX10_init_176 (fun qpn H hq_qpn hw => ?_)
  refine W.widen (k := 21) (n := 10600) (by decide) (by decide) ?_
  have ne_me_qpn : me ≠ qpn := z_ne hm_me hq_qpn
  have ne_qwd_qpn : qwd ≠ qpn := z_ne hm_qwd hq_qpn
  have ne_qmy_qpn : qmy ≠ qpn := z_ne hm_qmy hq_qpn
  have ne_qce_qpn : qce ≠ qpn := z_ne hm_qce hq_qpn
  have ne_qmv_qpn : qmv ≠ qpn := z_ne hm_qmv hq_qpn
  have ne_qta_qpn : qta ≠ qpn := z_ne hm_qta hq_qpn
  have ne_qli_qpn : qli ≠ qpn := z_ne hm_qli hq_qpn
  have ne_qha_qpn : qha ≠ qpn := z_ne hm_qha hq_qpn
  have ne_qlw_qpn : qlw ≠ qpn := z_ne hm_qlw hq_qpn
  have ne_qst_qpn : qst ≠ qpn := z_ne hm_qst hq_qpn
  have ne_qfo_qpn : qfo ≠ qpn := z_ne hm_qfo hq_qpn
  have ne_qdr_qpn : qdr ≠ qpn := z_ne hm_qdr hq_qpn
  have ne_qik_qpn : qik ≠ qpn := z_ne hm_qik hq_qpn
  have ne_qro_qpn : qro ≠ qpn := z_ne hm_qro hq_qpn
  have ne_qct_qpn : qct ≠ qpn := z_ne hm_qct hq_qpn
  have ne_qse_qpn : qse ≠ qpn := z_ne hm_qse hq_qpn
  have ne_qth_qpn : qth ≠ qpn := z_ne hm_qth hq_qpn
  have ne_qcn_qpn : qcn ≠ qpn := z_ne hm_qcn hq_qpn
  have ne_qbe_qpn : qbe ≠ qpn := z_ne hm_qbe hq_qpn
  have ne_qdu_qpn : qdu ≠ qpn := z_ne hm_qdu hq_qpn
  have ne_qdb_qpn : qdb ≠ qpn := z_ne hm_qdb hq_qpn
  have hn_qpn : qpn ∉ L := fun h => hq_qpn (hsub _ h)
  obtain ⟨f64, e_f64⟩ : ∃ z, z = va_up f62 qpn (.inl (cy 1, 5, .inl (fun _ => 0))) := ⟨_, rfl⟩
  obtain ⟨L63, e_L63⟩ : ∃ z, z = L60 ++ [qpn] := ⟨_, rfl⟩
  rw [← e_f64, ← e_L63] at hw
  have hm_me : me ∈ L63 := by rw [e_L63]; exact List.mem_append_left _ hm_me
  have hf_me : f64 me = .inr (10, [.int 0, .ref qwd, .ref qmy, .ref qce, .ref qmv, .ref qta, .int 0, .int 0, .int 0, .int 0, .int 0, .long 0, .int 0, .int 0, .int 0, .int (-1), .ref qli, .ref qha, .ref qlw, .ref qst, .ref qfo, .ref qdr, .int 0, .ref qik, .int (-1), .int 0, .long 0, .int 0, .int 0, .ref qro, .int 0, .ref qct, .ref qse, .ref qth, .ref qcn, .ref qbe, .int 0, .ref qdu, .int 0, .ref qdb, .int 0, .int 0, .int 0, .null, .null, .null, .null, .null, .int 0, .null, .null, .null, .int 0, .int 0]) := (congrFun e_f64 me).trans (z_up_ne ne_me_qpn hf_me)
  have hm_qwd : qwd ∈ L63 := by rw [e_L63]; exact List.mem_append_left _ hm_qwd
  have hf_qwd : f64 qwd = .inl (cy 1, 4, .inl (fun _ => 0)) := (congrFun e_f64 qwd).trans (z_up_ne ne_qwd_qpn hf_qwd)
  have hm_qmy : qmy ∈ L63 := by rw [e_L63]; exact List.mem_append_left _ hm_qmy
  have hf_qmy : f64 qmy = .inl (cy 1, 4, .inl (fun _ => 0)) := (congrFun e_f64 qmy).trans (z_up_ne ne_qmy_qpn hf_qmy)
  have hm_qce : qce ∈ L63 := by rw [e_L63]; exact List.mem_append_left _ hm_qce
  have hf_qce : f64 qce = .inl (cy 2, 240, .inr (.inl (fun _ => 0))) := (congrFun e_f64 qce).trans (z_up_ne ne_qce_qpn hf_qce)
  have hm_qmv : qmv ∈ L63 := by rw [e_L63]; exact List.mem_append_left _ hm_qmv
  have hf_qmv : f64 qmv = .inl (cy 2, 60, .inr (.inl (fun _ => 0))) := (congrFun e_f64 qmv).trans (z_up_ne ne_qmv_qpn hf_qmv)
  have hm_qta : qta ∈ L63 := by rw [e_L63]; exact List.mem_append_left _ hm_qta
  have hf_qta : f64 qta = .inl (cy 0, 1600, .inl (fun _ => 0)) := (congrFun e_f64 qta).trans (z_up_ne ne_qta_qpn hf_qta)
  have hm_qli : qli ∈ L63 := by rw [e_L63]; exact List.mem_append_left _ hm_qli
  have hf_qli : f64 qli = .inl (cy 1, 5, .inl (fun _ => 0)) := (congrFun e_f64 qli).trans (z_up_ne ne_qli_qpn hf_qli)
  have hm_qha : qha ∈ L63 := by rw [e_L63]; exact List.mem_append_left _ hm_qha
  have hf_qha : f64 qha = .inl (cy 1, 30, .inl (fun _ => 0)) := (congrFun e_f64 qha).trans (z_up_ne ne_qha_qpn hf_qha)
  have hm_qlw : qlw ∈ L63 := by rw [e_L63]; exact List.mem_append_left _ hm_qlw
  have hf_qlw : f64 qlw = .inl (cy 1, 25, .inl (fun _ => 0)) := (congrFun e_f64 qlw).trans (z_up_ne ne_qlw_qpn hf_qlw)
  have hm_qst : qst ∈ L63 := by rw [e_L63]; exact List.mem_append_left _ hm_qst
  have hf_qst : f64 qst = .inl (cy 1, 20, .inl (fun _ => 0)) := (congrFun e_f64 qst).trans (z_up_ne ne_qst_qpn hf_qst)
  have hm_qfo : qfo ∈ L63 := by rw [e_L63]; exact List.mem_append_left _ hm_qfo
  have hf_qfo : f64 qfo = .inl (cy 1, 180, .inl (fun _ => 0)) := (congrFun e_f64 qfo).trans (z_up_ne ne_qfo_qpn hf_qfo)
  have hm_qdr : qdr ∈ L63 := by rw [e_L63]; exact List.mem_append_left _ hm_qdr
  have hf_qdr : f64 qdr = .inl (cy 1, 520, .inl (fun _ => 0)) := (congrFun e_f64 qdr).trans (z_up_ne ne_qdr_qpn hf_qdr)
  have hm_qik : qik ∈ L63 := by rw [e_L63]; exact List.mem_append_left _ hm_qik
  have hf_qik : f64 qik = .inl (cy 3, 3, .inl (fun _ => 0)) := (congrFun e_f64 qik).trans (z_up_ne ne_qik_qpn hf_qik)
  have hm_qro : qro ∈ L63 := by rw [e_L63]; exact List.mem_append_left _ hm_qro
  have hf_qro : f64 qro = .inl (cy 1, 13, .inl (fun _ => 0)) := (congrFun e_f64 qro).trans (z_up_ne ne_qro_qpn hf_qro)
  have hm_qct : qct ∈ L63 := by rw [e_L63]; exact List.mem_append_left _ hm_qct
  have hf_qct : f64 qct = .inl (cy 1, 4, .inl (fun _ => 0)) := (congrFun e_f64 qct).trans (z_up_ne ne_qct_qpn hf_qct)
  have hm_qse : qse ∈ L63 := by rw [e_L63]; exact List.mem_append_left _ hm_qse
  have hf_qse : f64 qse = .inl (cy 1, 36, .inl (fun _ => 0)) := (congrFun e_f64 qse).trans (z_up_ne ne_qse_qpn hf_qse)
  have hm_qth : qth ∈ L63 := by rw [e_L63]; exact List.mem_append_left _ hm_qth
  have hf_qth : f64 qth = .inl (cy 1, 36, .inl (fun _ => 0)) := (congrFun e_f64 qth).trans (z_up_ne ne_qth_qpn hf_qth)
  have hm_qcn : qcn ∈ L63 := by rw [e_L63]; exact List.mem_append_left _ hm_qcn
  have hf_qcn : f64 qcn = .inl (cy 1, 36, .inl (fun _ => 0)) := (congrFun e_f64 qcn).trans (z_up_ne ne_qcn_qpn hf_qcn)
  have hm_qbe : qbe ∈ L63 := by rw [e_L63]; exact List.mem_append_left _ hm_qbe
  have hf_qbe : f64 qbe = .inl (cy 1, 2574, .inl (fun _ => 0)) := (congrFun e_f64 qbe).trans (z_up_ne ne_qbe_qpn hf_qbe)
  have hm_qdu : qdu ∈ L63 := by rw [e_L63]; exact List.mem_append_left _ hm_qdu
  have hf_qdu : f64 qdu = .inl (cy 1, 5200, .inl (fun _ => 0)) := (congrFun e_f64 qdu).trans (z_up_ne ne_qdu_qpn hf_qdu)
  have hm_qdb : qdb ∈ L63 := by rw [e_L63]; exact List.mem_append_left _ hm_qdb
  have hf_qdb : f64 qdb = .inl (cy 1, 5, .inl (fun _ => 0)) := (congrFun e_f64 qdb).trans (z_up_ne ne_qdb_qpn hf_qdb)
  have hm_qpn : qpn ∈ L63 := by rw [e_L63]; exact List.mem_append_right _ (List.mem_singleton.mpr rfl)
  have hf_qpn : f64 qpn = .inl (cy 1, 5, .inl (fun _ => 0)) := (congrFun e_f64 qpn).trans z_up_self
  have hsub : ∀ b ∈ L, b ∈ L63 := fun b h => by rw [e_L63]; exact List.mem_append_left _ (hsub b h)
  have hfr : ∀ b ∈ L, b ≠ me → f64 b = f b := fun b hb h0 => (congrFun e_f64 b).trans (z_up_ne (z_ne hb hn_qpn) (hfr b hb h0))
  refine z_putF (C := RX10) (T := TX10) (N := 54) (ci := 10) (v := .ref qpn) (fs' := [.int 0, .ref qwd, .ref qmy, .ref qce, .ref qmv, .ref qta, .int 0, .int 0, .int 0, .int 0, .int 0, .long 0, .int 0, .int 0, .int 0, .int (-1), .ref qli, .ref qha, .ref qlw, .ref qst, .ref qfo, .ref qdr, .int 0, .ref qik, .int (-1), .int 0, .long 0, .int 0, .int 0, .ref qro, .int 0, .ref qct, .ref qse, .ref qth, .ref qcn, .ref qbe, .int 0, .ref qdu, .int 0, .ref qdb, .int 0, .int 0, .int 0, .ref qpn, .null, .null, .null, .null, .int 0, .null, .null, .null, .int 0, .int 0]) hx hb hT zin_X10 tyX10_ok nmX10 hown hK hw hm_me hf_me rfl 43 (by decide) (hT _ kw_1211) rfl hnm rfl rfl rfl (Nat.le_of_ble_eq_true rfl) rfl dX10_init_178 (fun H locs hw => ?_)
  obtain ⟨f65, e_f65⟩ : ∃ z, z = va_up f64 me (.inr (10, [.int 0, .ref qwd, .ref qmy, .ref qce, .ref qmv, .ref qta, .int 0, .int 0, .int 0, .int 0, .int 0, .long 0, .int 0, .int 0, .int 0, .int (-1), .ref qli, .ref qha, .ref qlw, .ref qst, .ref qfo, .ref qdr, .int 0, .ref qik, .int (-1), .int 0, .long 0, .int 0, .int 0, .ref qro, .int 0, .ref qct, .ref qse, .ref qth, .ref qcn, .ref qbe, .int 0, .ref qdu, .int 0, .ref qdb, .int 0, .int 0, .int 0, .ref qpn, .null, .null, .null, .null, .int 0, .null, .null, .null, .int 0, .int 0])) := ⟨_, rfl⟩
  rw [← e_f65] at hw
  have hf_qwd : f65 qwd = .inl (cy 1, 4, .inl (fun _ => 0)) := (congrFun e_f65 qwd).trans (z_up_ne (Ne.symm ne_me_qwd) hf_qwd)
  have hf_qmy : f65 qmy = .inl (cy 1, 4, .inl (fun _ => 0)) := (congrFun e_f65 qmy).trans (z_up_ne (Ne.symm ne_me_qmy) hf_qmy)
  have hf_qce : f65 qce = .inl (cy 2, 240, .inr (.inl (fun _ => 0))) := (congrFun e_f65 qce).trans (z_up_ne (Ne.symm ne_me_qce) hf_qce)
  have hf_qmv : f65 qmv = .inl (cy 2, 60, .inr (.inl (fun _ => 0))) := (congrFun e_f65 qmv).trans (z_up_ne (Ne.symm ne_me_qmv) hf_qmv)
  have hf_qta : f65 qta = .inl (cy 0, 1600, .inl (fun _ => 0)) := (congrFun e_f65 qta).trans (z_up_ne (Ne.symm ne_me_qta) hf_qta)
  have hf_qli : f65 qli = .inl (cy 1, 5, .inl (fun _ => 0)) := (congrFun e_f65 qli).trans (z_up_ne (Ne.symm ne_me_qli) hf_qli)
  have hf_qha : f65 qha = .inl (cy 1, 30, .inl (fun _ => 0)) := (congrFun e_f65 qha).trans (z_up_ne (Ne.symm ne_me_qha) hf_qha)
  have hf_qlw : f65 qlw = .inl (cy 1, 25, .inl (fun _ => 0)) := (congrFun e_f65 qlw).trans (z_up_ne (Ne.symm ne_me_qlw) hf_qlw)
  have hf_qst : f65 qst = .inl (cy 1, 20, .inl (fun _ => 0)) := (congrFun e_f65 qst).trans (z_up_ne (Ne.symm ne_me_qst) hf_qst)
  have hf_qfo : f65 qfo = .inl (cy 1, 180, .inl (fun _ => 0)) := (congrFun e_f65 qfo).trans (z_up_ne (Ne.symm ne_me_qfo) hf_qfo)
  have hf_qdr : f65 qdr = .inl (cy 1, 520, .inl (fun _ => 0)) := (congrFun e_f65 qdr).trans (z_up_ne (Ne.symm ne_me_qdr) hf_qdr)
  have hf_qik : f65 qik = .inl (cy 3, 3, .inl (fun _ => 0)) := (congrFun e_f65 qik).trans (z_up_ne (Ne.symm ne_me_qik) hf_qik)
  have hf_qro : f65 qro = .inl (cy 1, 13, .inl (fun _ => 0)) := (congrFun e_f65 qro).trans (z_up_ne (Ne.symm ne_me_qro) hf_qro)
  have hf_qct : f65 qct = .inl (cy 1, 4, .inl (fun _ => 0)) := (congrFun e_f65 qct).trans (z_up_ne (Ne.symm ne_me_qct) hf_qct)
  have hf_qse : f65 qse = .inl (cy 1, 36, .inl (fun _ => 0)) := (congrFun e_f65 qse).trans (z_up_ne (Ne.symm ne_me_qse) hf_qse)
  have hf_qth : f65 qth = .inl (cy 1, 36, .inl (fun _ => 0)) := (congrFun e_f65 qth).trans (z_up_ne (Ne.symm ne_me_qth) hf_qth)
  have hf_qcn : f65 qcn = .inl (cy 1, 36, .inl (fun _ => 0)) := (congrFun e_f65 qcn).trans (z_up_ne (Ne.symm ne_me_qcn) hf_qcn)
  have hf_qbe : f65 qbe = .inl (cy 1, 2574, .inl (fun _ => 0)) := (congrFun e_f65 qbe).trans (z_up_ne (Ne.symm ne_me_qbe) hf_qbe)
  have hf_qdu : f65 qdu = .inl (cy 1, 5200, .inl (fun _ => 0)) := (congrFun e_f65 qdu).trans (z_up_ne (Ne.symm ne_me_qdu) hf_qdu)
  have hf_qdb : f65 qdb = .inl (cy 1, 5, .inl (fun _ => 0)) := (congrFun e_f65 qdb).trans (z_up_ne (Ne.symm ne_me_qdb) hf_qdb)
  have hf_qpn : f65 qpn = .inl (cy 1, 5, .inl (fun _ => 0)) := (congrFun e_f65 qpn).trans (z_up_ne (Ne.symm ne_me_qpn) hf_qpn)
  have hf_me : f65 me = .inr (10, [.int 0, .ref qwd, .ref qmy, .ref qce, .ref qmv, .ref qta, .int 0, .int 0, .int 0, .int 0, .int 0, .long 0, .int 0, .int 0, .int 0, .int (-1), .ref qli, .ref qha, .ref qlw, .ref qst, .ref qfo, .ref qdr, .int 0, .ref qik, .int (-1), .int 0, .long 0, .int 0, .int 0, .ref qro, .int 0, .ref qct, .ref qse, .ref qth, .ref qcn, .ref qbe, .int 0, .ref qdu, .int 0, .ref qdb, .int 0, .int 0, .int 0, .ref qpn, .null, .null, .null, .null, .int 0, .null, .null, .null, .int 0, .int 0]) := (congrFun e_f65 me).trans z_up_self
  have hfr : ∀ b ∈ L, b ≠ me → f65 b = f b := fun b hb h0 => (congrFun e_f65 b).trans (z_up_ne h0 (hfr b hb h0))
  refine lv_aload_n hx hb dX10_init_181 rfl (lv_at hl 0 rfl) ?_
  refine lv_bipush (v := 12) hx hb dX10_init_182 (by decide) ?_
  refine z_newa (atype := .int) (n := 12) (N' := 12) (a0 := (12, .inl (fun _ => 0))) (cells := 21) (slots := 10600) hx hb (hT _ kw_203) rfl 1 rfl (fun _ h => by cases h) hK hw hA (fun _ => rfl) (by decide) (by decide) (by decide) (by decide) (by decide) dX10_init_184 (fun qwg H hq_qwg hw => ?_)
  refine W.widen (k := 22) (n := 10612) (by decide) (by decide) ?_
  have ne_me_qwg : me ≠ qwg := z_ne hm_me hq_qwg
  have ne_qwd_qwg : qwd ≠ qwg := z_ne hm_qwd hq_qwg
  have ne_qmy_qwg : qmy ≠ qwg := z_ne hm_qmy hq_qwg
  have ne_qce_qwg : qce ≠ qwg := z_ne hm_qce hq_qwg
  have ne_qmv_qwg : qmv ≠ qwg := z_ne hm_qmv hq_qwg
  have ne_qta_qwg : qta ≠ qwg := z_ne hm_qta hq_qwg
  have ne_qli_qwg : qli ≠ qwg := z_ne hm_qli hq_qwg
  have ne_qha_qwg : qha ≠ qwg := z_ne hm_qha hq_qwg
  have ne_qlw_qwg : qlw ≠ qwg := z_ne hm_qlw hq_qwg
  have ne_qst_qwg : qst ≠ qwg := z_ne hm_qst hq_qwg
  have ne_qfo_qwg : qfo ≠ qwg := z_ne hm_qfo hq_qwg
  have ne_qdr_qwg : qdr ≠ qwg := z_ne hm_qdr hq_qwg
  have ne_qik_qwg : qik ≠ qwg := z_ne hm_qik hq_qwg
  have ne_qro_qwg : qro ≠ qwg := z_ne hm_qro hq_qwg
  have ne_qct_qwg : qct ≠ qwg := z_ne hm_qct hq_qwg
  have ne_qse_qwg : qse ≠ qwg := z_ne hm_qse hq_qwg
  have ne_qth_qwg : qth ≠ qwg := z_ne hm_qth hq_qwg
  have ne_qcn_qwg : qcn ≠ qwg := z_ne hm_qcn hq_qwg
  have ne_qbe_qwg : qbe ≠ qwg := z_ne hm_qbe hq_qwg
  have ne_qdu_qwg : qdu ≠ qwg := z_ne hm_qdu hq_qwg
  have ne_qdb_qwg : qdb ≠ qwg := z_ne hm_qdb hq_qwg
  have ne_qpn_qwg : qpn ≠ qwg := z_ne hm_qpn hq_qwg
  have hn_qwg : qwg ∉ L := fun h => hq_qwg (hsub _ h)
  obtain ⟨f67, e_f67⟩ : ∃ z, z = va_up f65 qwg (.inl (cy 1, 12, .inl (fun _ => 0))) := ⟨_, rfl⟩
  obtain ⟨L66, e_L66⟩ : ∃ z, z = L63 ++ [qwg] := ⟨_, rfl⟩
  rw [← e_f67, ← e_L66] at hw
  have hm_me : me ∈ L66 := by rw [e_L66]; exact List.mem_append_left _ hm_me
  have hf_me : f67 me = .inr (10, [.int 0, .ref qwd, .ref qmy, .ref qce, .ref qmv, .ref qta, .int 0, .int 0, .int 0, .int 0, .int 0, .long 0, .int 0, .int 0, .int 0, .int (-1), .ref qli, .ref qha, .ref qlw, .ref qst, .ref qfo, .ref qdr, .int 0, .ref qik, .int (-1), .int 0, .long 0, .int 0, .int 0, .ref qro, .int 0, .ref qct, .ref qse, .ref qth, .ref qcn, .ref qbe, .int 0, .ref qdu, .int 0, .ref qdb, .int 0, .int 0, .int 0, .ref qpn, .null, .null, .null, .null, .int 0, .null, .null, .null, .int 0, .int 0]) := (congrFun e_f67 me).trans (z_up_ne ne_me_qwg hf_me)
  have hm_qwd : qwd ∈ L66 := by rw [e_L66]; exact List.mem_append_left _ hm_qwd
  have hf_qwd : f67 qwd = .inl (cy 1, 4, .inl (fun _ => 0)) := (congrFun e_f67 qwd).trans (z_up_ne ne_qwd_qwg hf_qwd)
  have hm_qmy : qmy ∈ L66 := by rw [e_L66]; exact List.mem_append_left _ hm_qmy
  have hf_qmy : f67 qmy = .inl (cy 1, 4, .inl (fun _ => 0)) := (congrFun e_f67 qmy).trans (z_up_ne ne_qmy_qwg hf_qmy)
  have hm_qce : qce ∈ L66 := by rw [e_L66]; exact List.mem_append_left _ hm_qce
  have hf_qce : f67 qce = .inl (cy 2, 240, .inr (.inl (fun _ => 0))) := (congrFun e_f67 qce).trans (z_up_ne ne_qce_qwg hf_qce)
  have hm_qmv : qmv ∈ L66 := by rw [e_L66]; exact List.mem_append_left _ hm_qmv
  have hf_qmv : f67 qmv = .inl (cy 2, 60, .inr (.inl (fun _ => 0))) := (congrFun e_f67 qmv).trans (z_up_ne ne_qmv_qwg hf_qmv)
  have hm_qta : qta ∈ L66 := by rw [e_L66]; exact List.mem_append_left _ hm_qta
  have hf_qta : f67 qta = .inl (cy 0, 1600, .inl (fun _ => 0)) := (congrFun e_f67 qta).trans (z_up_ne ne_qta_qwg hf_qta)
  have hm_qli : qli ∈ L66 := by rw [e_L66]; exact List.mem_append_left _ hm_qli
  have hf_qli : f67 qli = .inl (cy 1, 5, .inl (fun _ => 0)) := (congrFun e_f67 qli).trans (z_up_ne ne_qli_qwg hf_qli)
  have hm_qha : qha ∈ L66 := by rw [e_L66]; exact List.mem_append_left _ hm_qha
  have hf_qha : f67 qha = .inl (cy 1, 30, .inl (fun _ => 0)) := (congrFun e_f67 qha).trans (z_up_ne ne_qha_qwg hf_qha)
  have hm_qlw : qlw ∈ L66 := by rw [e_L66]; exact List.mem_append_left _ hm_qlw
  have hf_qlw : f67 qlw = .inl (cy 1, 25, .inl (fun _ => 0)) := (congrFun e_f67 qlw).trans (z_up_ne ne_qlw_qwg hf_qlw)
  have hm_qst : qst ∈ L66 := by rw [e_L66]; exact List.mem_append_left _ hm_qst
  have hf_qst : f67 qst = .inl (cy 1, 20, .inl (fun _ => 0)) := (congrFun e_f67 qst).trans (z_up_ne ne_qst_qwg hf_qst)
  have hm_qfo : qfo ∈ L66 := by rw [e_L66]; exact List.mem_append_left _ hm_qfo
  have hf_qfo : f67 qfo = .inl (cy 1, 180, .inl (fun _ => 0)) := (congrFun e_f67 qfo).trans (z_up_ne ne_qfo_qwg hf_qfo)
  have hm_qdr : qdr ∈ L66 := by rw [e_L66]; exact List.mem_append_left _ hm_qdr
  have hf_qdr : f67 qdr = .inl (cy 1, 520, .inl (fun _ => 0)) := (congrFun e_f67 qdr).trans (z_up_ne ne_qdr_qwg hf_qdr)
  have hm_qik : qik ∈ L66 := by rw [e_L66]; exact List.mem_append_left _ hm_qik
  have hf_qik : f67 qik = .inl (cy 3, 3, .inl (fun _ => 0)) := (congrFun e_f67 qik).trans (z_up_ne ne_qik_qwg hf_qik)
  have hm_qro : qro ∈ L66 := by rw [e_L66]; exact List.mem_append_left _ hm_qro
  have hf_qro : f67 qro = .inl (cy 1, 13, .inl (fun _ => 0)) := (congrFun e_f67 qro).trans (z_up_ne ne_qro_qwg hf_qro)
  have hm_qct : qct ∈ L66 := by rw [e_L66]; exact List.mem_append_left _ hm_qct
  have hf_qct : f67 qct = .inl (cy 1, 4, .inl (fun _ => 0)) := (congrFun e_f67 qct).trans (z_up_ne ne_qct_qwg hf_qct)
  have hm_qse : qse ∈ L66 := by rw [e_L66]; exact List.mem_append_left _ hm_qse
  have hf_qse : f67 qse = .inl (cy 1, 36, .inl (fun _ => 0)) := (congrFun e_f67 qse).trans (z_up_ne ne_qse_qwg hf_qse)
  have hm_qth : qth ∈ L66 := by rw [e_L66]; exact List.mem_append_left _ hm_qth
  have hf_qth : f67 qth = .inl (cy 1, 36, .inl (fun _ => 0)) := (congrFun e_f67 qth).trans (z_up_ne ne_qth_qwg hf_qth)
  have hm_qcn : qcn ∈ L66 := by rw [e_L66]; exact List.mem_append_left _ hm_qcn
  have hf_qcn : f67 qcn = .inl (cy 1, 36, .inl (fun _ => 0)) := (congrFun e_f67 qcn).trans (z_up_ne ne_qcn_qwg hf_qcn)
  have hm_qbe : qbe ∈ L66 := by rw [e_L66]; exact List.mem_append_left _ hm_qbe
  have hf_qbe : f67 qbe = .inl (cy 1, 2574, .inl (fun _ => 0)) := (congrFun e_f67 qbe).trans (z_up_ne ne_qbe_qwg hf_qbe)
  have hm_qdu : qdu ∈ L66 := by rw [e_L66]; exact List.mem_append_left _ hm_qdu
  have hf_qdu : f67 qdu = .inl (cy 1, 5200, .inl (fun _ => 0)) := (congrFun e_f67 qdu).trans (z_up_ne ne_qdu_qwg hf_qdu)
  have hm_qdb : qdb ∈ L66 := by rw [e_L66]; exact List.mem_append_left _ hm_qdb
  have hf_qdb : f67 qdb = .inl (cy 1, 5, .inl (fun _ => 0)) := (congrFun e_f67 qdb).trans (z_up_ne ne_qdb_qwg hf_qdb)
  have hm_qpn : qpn ∈ L66 := by rw [e_L66]; exact List.mem_append_left _ hm_qpn
  have hf_qpn : f67 qpn = .inl (cy 1, 5, .inl (fun _ => 0)) := (congrFun e_f67 qpn).trans (z_up_ne ne_qpn_qwg hf_qpn)
  have hm_qwg : qwg ∈ L66 := by rw [e_L66]; exact List.mem_append_right _ (List.mem_singleton.mpr rfl)
  have hf_qwg : f67 qwg = .inl (cy 1, 12, .inl (fun _ => 0)) := (congrFun e_f67 qwg).trans z_up_self
  have hsub : ∀ b ∈ L, b ∈ L66 := fun b h => by rw [e_L66]; exact List.mem_append_left _ (hsub b h)
  have hfr : ∀ b ∈ L, b ≠ me → f67 b = f b := fun b hb h0 => (congrFun e_f67 b).trans (z_up_ne (z_ne hb hn_qwg) (hfr b hb h0))
  refine z_putF (C := RX10) (T := TX10) (N := 54) (ci := 10) (v := .ref qwg) (fs' := [.int 0, .ref qwd, .ref qmy, .ref qce, .ref qmv, .ref qta, .int 0, .int 0, .int 0, .int 0, .int 0, .long 0, .int 0, .int 0, .int 0, .int (-1), .ref qli, .ref qha, .ref qlw, .ref qst, .ref qfo, .ref qdr, .int 0, .ref qik, .int (-1), .int 0, .long 0, .int 0, .int 0, .ref qro, .int 0, .ref qct, .ref qse, .ref qth, .ref qcn, .ref qbe, .int 0, .ref qdu, .int 0, .ref qdb, .int 0, .int 0, .int 0, .ref qpn, .ref qwg, .null, .null, .null, .int 0, .null, .null, .null, .int 0, .int 0]) hx hb hT zin_X10 tyX10_ok nmX10 hown hK hw hm_me hf_me rfl 44 (by decide) (hT _ kw_1212) rfl hnm rfl rfl rfl (Nat.le_of_ble_eq_true rfl) rfl dX10_init_186 (fun H locs hw => ?_)
  obtain ⟨f68, e_f68⟩ : ∃ z, z = va_up f67 me (.inr (10, [.int 0, .ref qwd, .ref qmy, .ref qce, .ref qmv, .ref qta, .int 0, .int 0, .int 0, .int 0, .int 0, .long 0, .int 0, .int 0, .int 0, .int (-1), .ref qli, .ref qha, .ref qlw, .ref qst, .ref qfo, .ref qdr, .int 0, .ref qik, .int (-1), .int 0, .long 0, .int 0, .int 0, .ref qro, .int 0, .ref qct, .ref qse, .ref qth, .ref qcn, .ref qbe, .int 0, .ref qdu, .int 0, .ref qdb, .int 0, .int 0, .int 0, .ref qpn, .ref qwg, .null, .null, .null, .int 0, .null, .null, .null, .int 0, .int 0])) := ⟨_, rfl⟩
  rw [← e_f68] at hw
  have hf_qwd : f68 qwd = .inl (cy 1, 4, .inl (fun _ => 0)) := (congrFun e_f68 qwd).trans (z_up_ne (Ne.symm ne_me_qwd) hf_qwd)
  have hf_qmy : f68 qmy = .inl (cy 1, 4, .inl (fun _ => 0)) := (congrFun e_f68 qmy).trans (z_up_ne (Ne.symm ne_me_qmy) hf_qmy)
  have hf_qce : f68 qce = .inl (cy 2, 240, .inr (.inl (fun _ => 0))) := (congrFun e_f68 qce).trans (z_up_ne (Ne.symm ne_me_qce) hf_qce)
  have hf_qmv : f68 qmv = .inl (cy 2, 60, .inr (.inl (fun _ => 0))) := (congrFun e_f68 qmv).trans (z_up_ne (Ne.symm ne_me_qmv) hf_qmv)
  have hf_qta : f68 qta = .inl (cy 0, 1600, .inl (fun _ => 0)) := (congrFun e_f68 qta).trans (z_up_ne (Ne.symm ne_me_qta) hf_qta)
  have hf_qli : f68 qli = .inl (cy 1, 5, .inl (fun _ => 0)) := (congrFun e_f68 qli).trans (z_up_ne (Ne.symm ne_me_qli) hf_qli)
  have hf_qha : f68 qha = .inl (cy 1, 30, .inl (fun _ => 0)) := (congrFun e_f68 qha).trans (z_up_ne (Ne.symm ne_me_qha) hf_qha)
  have hf_qlw : f68 qlw = .inl (cy 1, 25, .inl (fun _ => 0)) := (congrFun e_f68 qlw).trans (z_up_ne (Ne.symm ne_me_qlw) hf_qlw)
  have hf_qst : f68 qst = .inl (cy 1, 20, .inl (fun _ => 0)) := (congrFun e_f68 qst).trans (z_up_ne (Ne.symm ne_me_qst) hf_qst)
  have hf_qfo : f68 qfo = .inl (cy 1, 180, .inl (fun _ => 0)) := (congrFun e_f68 qfo).trans (z_up_ne (Ne.symm ne_me_qfo) hf_qfo)
  have hf_qdr : f68 qdr = .inl (cy 1, 520, .inl (fun _ => 0)) := (congrFun e_f68 qdr).trans (z_up_ne (Ne.symm ne_me_qdr) hf_qdr)
  have hf_qik : f68 qik = .inl (cy 3, 3, .inl (fun _ => 0)) := (congrFun e_f68 qik).trans (z_up_ne (Ne.symm ne_me_qik) hf_qik)
  have hf_qro : f68 qro = .inl (cy 1, 13, .inl (fun _ => 0)) := (congrFun e_f68 qro).trans (z_up_ne (Ne.symm ne_me_qro) hf_qro)
  have hf_qct : f68 qct = .inl (cy 1, 4, .inl (fun _ => 0)) := (congrFun e_f68 qct).trans (z_up_ne (Ne.symm ne_me_qct) hf_qct)
  have hf_qse : f68 qse = .inl (cy 1, 36, .inl (fun _ => 0)) := (congrFun e_f68 qse).trans (z_up_ne (Ne.symm ne_me_qse) hf_qse)
  have hf_qth : f68 qth = .inl (cy 1, 36, .inl (fun _ => 0)) := (congrFun e_f68 qth).trans (z_up_ne (Ne.symm ne_me_qth) hf_qth)
  have hf_qcn : f68 qcn = .inl (cy 1, 36, .inl (fun _ => 0)) := (congrFun e_f68 qcn).trans (z_up_ne (Ne.symm ne_me_qcn) hf_qcn)
  have hf_qbe : f68 qbe = .inl (cy 1, 2574, .inl (fun _ => 0)) := (congrFun e_f68 qbe).trans (z_up_ne (Ne.symm ne_me_qbe) hf_qbe)
  have hf_qdu : f68 qdu = .inl (cy 1, 5200, .inl (fun _ => 0)) := (congrFun e_f68 qdu).trans (z_up_ne (Ne.symm ne_me_qdu) hf_qdu)
  have hf_qdb : f68 qdb = .inl (cy 1, 5, .inl (fun _ => 0)) := (congrFun e_f68 qdb).trans (z_up_ne (Ne.symm ne_me_qdb) hf_qdb)
  have hf_qpn : f68 qpn = .inl (cy 1, 5, .inl (fun _ => 0)) := (congrFun e_f68 qpn).trans (z_up_ne (Ne.symm ne_me_qpn) hf_qpn)
  have hf_qwg : f68 qwg = .inl (cy 1, 12, .inl (fun _ => 0)) := (congrFun e_f68 qwg).trans (z_up_ne (Ne.symm ne_me_qwg) hf_qwg)
  have hf_me : f68 me = .inr (10, [.int 0, .ref qwd, .ref qmy, .ref qce, .ref qmv, .ref qta, .int 0, .int 0, .int 0, .int 0, .int 0, .long 0, .int 0, .int 0, .int 0, .int (-1), .ref qli, .ref qha, .ref qlw, .ref qst, .ref qfo, .ref qdr, .int 0, .ref qik, .int (-1), .int 0, .long 0, .int 0, .int 0, .ref qro, .int 0, .ref qct, .ref qse, .ref qth, .ref qcn, .ref qbe, .int 0, .ref qdu, .int 0, .ref qdb, .int 0, .int 0, .int 0, .ref qpn, .ref qwg, .null, .null, .null, .int 0, .null, .null, .null, .int 0, .int 0]) := (congrFun e_f68 me).trans z_up_self
  have hfr : ∀ b ∈ L, b ≠ me → f68 b = f b := fun b hb h0 => (congrFun e_f68 b).trans (z_up_ne h0 (hfr b hb h0))
  refine lv_aload_n hx hb dX10_init_189 rfl (lv_at hl 0 rfl) ?_
  refine lv_bipush (v := 12) hx hb dX10_init_190 (by decide) ?_
  refine z_newa (atype := .int) (n := 12) (N' := 12) (a0 := (12, .inl (fun _ => 0))) (cells := 22) (slots := 10612) hx hb (hT _ kw_203) rfl 1 rfl (fun _ h => by cases h) hK hw hA (fun _ => rfl) (by decide) (by decide) (by decide) (by decide) (by decide) dX10_init_192 (fun qwh H hq_qwh hw => ?_)
  refine W.widen (k := 23) (n := 10624) (by decide) (by decide) ?_
  have ne_me_qwh : me ≠ qwh := z_ne hm_me hq_qwh
  have ne_qwd_qwh : qwd ≠ qwh := z_ne hm_qwd hq_qwh
  have ne_qmy_qwh : qmy ≠ qwh := z_ne hm_qmy hq_qwh
  have ne_qce_qwh : qce ≠ qwh := z_ne hm_qce hq_qwh
  have ne_qmv_qwh : qmv ≠ qwh := z_ne hm_qmv hq_qwh
  have ne_qta_qwh : qta ≠ qwh := z_ne hm_qta hq_qwh
  have ne_qli_qwh : qli ≠ qwh := z_ne hm_qli hq_qwh
  have ne_qha_qwh : qha ≠ qwh := z_ne hm_qha hq_qwh
  have ne_qlw_qwh : qlw ≠ qwh := z_ne hm_qlw hq_qwh
  have ne_qst_qwh : qst ≠ qwh := z_ne hm_qst hq_qwh
  have ne_qfo_qwh : qfo ≠ qwh := z_ne hm_qfo hq_qwh
  have ne_qdr_qwh : qdr ≠ qwh := z_ne hm_qdr hq_qwh
  have ne_qik_qwh : qik ≠ qwh := z_ne hm_qik hq_qwh
  have ne_qro_qwh : qro ≠ qwh := z_ne hm_qro hq_qwh
  have ne_qct_qwh : qct ≠ qwh := z_ne hm_qct hq_qwh
  have ne_qse_qwh : qse ≠ qwh := z_ne hm_qse hq_qwh
  have ne_qth_qwh : qth ≠ qwh := z_ne hm_qth hq_qwh
  have ne_qcn_qwh : qcn ≠ qwh := z_ne hm_qcn hq_qwh
  have ne_qbe_qwh : qbe ≠ qwh := z_ne hm_qbe hq_qwh
  have ne_qdu_qwh : qdu ≠ qwh := z_ne hm_qdu hq_qwh
  have ne_qdb_qwh : qdb ≠ qwh := z_ne hm_qdb hq_qwh
  have ne_qpn_qwh : qpn ≠ qwh := z_ne hm_qpn hq_qwh
  have ne_qwg_qwh : qwg ≠ qwh := z_ne hm_qwg hq_qwh
  have hn_qwh : qwh ∉ L := fun h => hq_qwh (hsub _ h)
  obtain ⟨f70, e_f70⟩ : ∃ z, z = va_up f68 qwh (.inl (cy 1, 12, .inl (fun _ => 0))) := ⟨_, rfl⟩
  obtain ⟨L69, e_L69⟩ : ∃ z, z = L66 ++ [qwh] := ⟨_, rfl⟩
  rw [← e_f70, ← e_L69] at hw
  have hm_me : me ∈ L69 := by rw [e_L69]; exact List.mem_append_left _ hm_me
  have hf_me : f70 me = .inr (10, [.int 0, .ref qwd, .ref qmy, .ref qce, .ref qmv, .ref qta, .int 0, .int 0, .int 0, .int 0, .int 0, .long 0, .int 0, .int 0, .int 0, .int (-1), .ref qli, .ref qha, .ref qlw, .ref qst, .ref qfo, .ref qdr, .int 0, .ref qik, .int (-1), .int 0, .long 0, .int 0, .int 0, .ref qro, .int 0, .ref qct, .ref qse, .ref qth, .ref qcn, .ref qbe, .int 0, .ref qdu, .int 0, .ref qdb, .int 0, .int 0, .int 0, .ref qpn, .ref qwg, .null, .null, .null, .int 0, .null, .null, .null, .int 0, .int 0]) := (congrFun e_f70 me).trans (z_up_ne ne_me_qwh hf_me)
  have hm_qwd : qwd ∈ L69 := by rw [e_L69]; exact List.mem_append_left _ hm_qwd
  have hf_qwd : f70 qwd = .inl (cy 1, 4, .inl (fun _ => 0)) := (congrFun e_f70 qwd).trans (z_up_ne ne_qwd_qwh hf_qwd)
  have hm_qmy : qmy ∈ L69 := by rw [e_L69]; exact List.mem_append_left _ hm_qmy
  have hf_qmy : f70 qmy = .inl (cy 1, 4, .inl (fun _ => 0)) := (congrFun e_f70 qmy).trans (z_up_ne ne_qmy_qwh hf_qmy)
  have hm_qce : qce ∈ L69 := by rw [e_L69]; exact List.mem_append_left _ hm_qce
  have hf_qce : f70 qce = .inl (cy 2, 240, .inr (.inl (fun _ => 0))) := (congrFun e_f70 qce).trans (z_up_ne ne_qce_qwh hf_qce)
  have hm_qmv : qmv ∈ L69 := by rw [e_L69]; exact List.mem_append_left _ hm_qmv
  have hf_qmv : f70 qmv = .inl (cy 2, 60, .inr (.inl (fun _ => 0))) := (congrFun e_f70 qmv).trans (z_up_ne ne_qmv_qwh hf_qmv)
  have hm_qta : qta ∈ L69 := by rw [e_L69]; exact List.mem_append_left _ hm_qta
  have hf_qta : f70 qta = .inl (cy 0, 1600, .inl (fun _ => 0)) := (congrFun e_f70 qta).trans (z_up_ne ne_qta_qwh hf_qta)
  have hm_qli : qli ∈ L69 := by rw [e_L69]; exact List.mem_append_left _ hm_qli
  have hf_qli : f70 qli = .inl (cy 1, 5, .inl (fun _ => 0)) := (congrFun e_f70 qli).trans (z_up_ne ne_qli_qwh hf_qli)
  have hm_qha : qha ∈ L69 := by rw [e_L69]; exact List.mem_append_left _ hm_qha
  have hf_qha : f70 qha = .inl (cy 1, 30, .inl (fun _ => 0)) := (congrFun e_f70 qha).trans (z_up_ne ne_qha_qwh hf_qha)
  have hm_qlw : qlw ∈ L69 := by rw [e_L69]; exact List.mem_append_left _ hm_qlw
  have hf_qlw : f70 qlw = .inl (cy 1, 25, .inl (fun _ => 0)) := (congrFun e_f70 qlw).trans (z_up_ne ne_qlw_qwh hf_qlw)
  have hm_qst : qst ∈ L69 := by rw [e_L69]; exact List.mem_append_left _ hm_qst
  have hf_qst : f70 qst = .inl (cy 1, 20, .inl (fun _ => 0)) := (congrFun e_f70 qst).trans (z_up_ne ne_qst_qwh hf_qst)
  have hm_qfo : qfo ∈ L69 := by rw [e_L69]; exact List.mem_append_left _ hm_qfo
  have hf_qfo : f70 qfo = .inl (cy 1, 180, .inl (fun _ => 0)) := (congrFun e_f70 qfo).trans (z_up_ne ne_qfo_qwh hf_qfo)
  have hm_qdr : qdr ∈ L69 := by rw [e_L69]; exact List.mem_append_left _ hm_qdr
  have hf_qdr : f70 qdr = .inl (cy 1, 520, .inl (fun _ => 0)) := (congrFun e_f70 qdr).trans (z_up_ne ne_qdr_qwh hf_qdr)
  have hm_qik : qik ∈ L69 := by rw [e_L69]; exact List.mem_append_left _ hm_qik
  have hf_qik : f70 qik = .inl (cy 3, 3, .inl (fun _ => 0)) := (congrFun e_f70 qik).trans (z_up_ne ne_qik_qwh hf_qik)
  have hm_qro : qro ∈ L69 := by rw [e_L69]; exact List.mem_append_left _ hm_qro
  have hf_qro : f70 qro = .inl (cy 1, 13, .inl (fun _ => 0)) := (congrFun e_f70 qro).trans (z_up_ne ne_qro_qwh hf_qro)
  have hm_qct : qct ∈ L69 := by rw [e_L69]; exact List.mem_append_left _ hm_qct
  have hf_qct : f70 qct = .inl (cy 1, 4, .inl (fun _ => 0)) := (congrFun e_f70 qct).trans (z_up_ne ne_qct_qwh hf_qct)
  have hm_qse : qse ∈ L69 := by rw [e_L69]; exact List.mem_append_left _ hm_qse
  have hf_qse : f70 qse = .inl (cy 1, 36, .inl (fun _ => 0)) := (congrFun e_f70 qse).trans (z_up_ne ne_qse_qwh hf_qse)
  have hm_qth : qth ∈ L69 := by rw [e_L69]; exact List.mem_append_left _ hm_qth
  have hf_qth : f70 qth = .inl (cy 1, 36, .inl (fun _ => 0)) := (congrFun e_f70 qth).trans (z_up_ne ne_qth_qwh hf_qth)
  have hm_qcn : qcn ∈ L69 := by rw [e_L69]; exact List.mem_append_left _ hm_qcn
  have hf_qcn : f70 qcn = .inl (cy 1, 36, .inl (fun _ => 0)) := (congrFun e_f70 qcn).trans (z_up_ne ne_qcn_qwh hf_qcn)
  have hm_qbe : qbe ∈ L69 := by rw [e_L69]; exact List.mem_append_left _ hm_qbe
  have hf_qbe : f70 qbe = .inl (cy 1, 2574, .inl (fun _ => 0)) := (congrFun e_f70 qbe).trans (z_up_ne ne_qbe_qwh hf_qbe)
  have hm_qdu : qdu ∈ L69 := by rw [e_L69]; exact List.mem_append_left _ hm_qdu
  have hf_qdu : f70 qdu = .inl (cy 1, 5200, .inl (fun _ => 0)) := (congrFun e_f70 qdu).trans (z_up_ne ne_qdu_qwh hf_qdu)
  have hm_qdb : qdb ∈ L69 := by rw [e_L69]; exact List.mem_append_left _ hm_qdb
  have hf_qdb : f70 qdb = .inl (cy 1, 5, .inl (fun _ => 0)) := (congrFun e_f70 qdb).trans (z_up_ne ne_qdb_qwh hf_qdb)
  have hm_qpn : qpn ∈ L69 := by rw [e_L69]; exact List.mem_append_left _ hm_qpn
  have hf_qpn : f70 qpn = .inl (cy 1, 5, .inl (fun _ => 0)) := (congrFun e_f70 qpn).trans (z_up_ne ne_qpn_qwh hf_qpn)
  have hm_qwg : qwg ∈ L69 := by rw [e_L69]; exact List.mem_append_left _ hm_qwg
  have hf_qwg : f70 qwg = .inl (cy 1, 12, .inl (fun _ => 0)) := (congrFun e_f70 qwg).trans (z_up_ne ne_qwg_qwh hf_qwg)
  have hm_qwh : qwh ∈ L69 := by rw [e_L69]; exact List.mem_append_right _ (List.mem_singleton.mpr rfl)
  have hf_qwh : f70 qwh = .inl (cy 1, 12, .inl (fun _ => 0)) := (congrFun e_f70 qwh).trans z_up_self
  have hsub : ∀ b ∈ L, b ∈ L69 := fun b h => by rw [e_L69]; exact List.mem_append_left _ (hsub b h)
  have hfr : ∀ b ∈ L, b ≠ me → f70 b = f b := fun b hb h0 => (congrFun e_f70 b).trans (z_up_ne (z_ne hb hn_qwh) (hfr b hb h0))
  refine z_putF (C := RX10) (T := TX10) (N := 54) (ci := 10) (v := .ref qwh) (fs' := [.int 0, .ref qwd, .ref qmy, .ref qce, .ref qmv, .ref qta, .int 0, .int 0, .int 0, .int 0, .int 0, .long 0, .int 0, .int 0, .int 0, .int (-1), .ref qli, .ref qha, .ref qlw, .ref qst, .ref qfo, .ref qdr, .int 0, .ref qik, .int (-1), .int 0, .long 0, .int 0, .int 0, .ref qro, .int 0, .ref qct, .ref qse, .ref qth, .ref qcn, .ref qbe, .int 0, .ref qdu, .int 0, .ref qdb, .int 0, .int 0, .int 0, .ref qpn, .ref qwg, .ref qwh, .null, .null, .int 0, .null, .null, .null, .int 0, .int 0]) hx hb hT zin_X10 tyX10_ok nmX10 hown hK hw hm_me hf_me rfl 45 (by decide) (hT _ kw_1213) rfl hnm rfl rfl rfl (Nat.le_of_ble_eq_true rfl) rfl dX10_init_194 (fun H locs hw => ?_)
  obtain ⟨f71, e_f71⟩ : ∃ z, z = va_up f70 me (.inr (10, [.int 0, .ref qwd, .ref qmy, .ref qce, .ref qmv, .ref qta, .int 0, .int 0, .int 0, .int 0, .int 0, .long 0, .int 0, .int 0, .int 0, .int (-1), .ref qli, .ref qha, .ref qlw, .ref qst, .ref qfo, .ref qdr, .int 0, .ref qik, .int (-1), .int 0, .long 0, .int 0, .int 0, .ref qro, .int 0, .ref qct, .ref qse, .ref qth, .ref qcn, .ref qbe, .int 0, .ref qdu, .int 0, .ref qdb, .int 0, .int 0, .int 0, .ref qpn, .ref qwg, .ref qwh, .null, .null, .int 0, .null, .null, .null, .int 0, .int 0])) := ⟨_, rfl⟩
  rw [← e_f71] at hw
  have hf_qwd : f71 qwd = .inl (cy 1, 4, .inl (fun _ => 0)) := (congrFun e_f71 qwd).trans (z_up_ne (Ne.symm ne_me_qwd) hf_qwd)
  have hf_qmy : f71 qmy = .inl (cy 1, 4, .inl (fun _ => 0)) := (congrFun e_f71 qmy).trans (z_up_ne (Ne.symm ne_me_qmy) hf_qmy)
  have hf_qce : f71 qce = .inl (cy 2, 240, .inr (.inl (fun _ => 0))) := (congrFun e_f71 qce).trans (z_up_ne (Ne.symm ne_me_qce) hf_qce)
  have hf_qmv : f71 qmv = .inl (cy 2, 60, .inr (.inl (fun _ => 0))) := (congrFun e_f71 qmv).trans (z_up_ne (Ne.symm ne_me_qmv) hf_qmv)
  have hf_qta : f71 qta = .inl (cy 0, 1600, .inl (fun _ => 0)) := (congrFun e_f71 qta).trans (z_up_ne (Ne.symm ne_me_qta) hf_qta)
  have hf_qli : f71 qli = .inl (cy 1, 5, .inl (fun _ => 0)) := (congrFun e_f71 qli).trans (z_up_ne (Ne.symm ne_me_qli) hf_qli)
  have hf_qha : f71 qha = .inl (cy 1, 30, .inl (fun _ => 0)) := (congrFun e_f71 qha).trans (z_up_ne (Ne.symm ne_me_qha) hf_qha)
  have hf_qlw : f71 qlw = .inl (cy 1, 25, .inl (fun _ => 0)) := (congrFun e_f71 qlw).trans (z_up_ne (Ne.symm ne_me_qlw) hf_qlw)
  have hf_qst : f71 qst = .inl (cy 1, 20, .inl (fun _ => 0)) := (congrFun e_f71 qst).trans (z_up_ne (Ne.symm ne_me_qst) hf_qst)
  have hf_qfo : f71 qfo = .inl (cy 1, 180, .inl (fun _ => 0)) := (congrFun e_f71 qfo).trans (z_up_ne (Ne.symm ne_me_qfo) hf_qfo)
  have hf_qdr : f71 qdr = .inl (cy 1, 520, .inl (fun _ => 0)) := (congrFun e_f71 qdr).trans (z_up_ne (Ne.symm ne_me_qdr) hf_qdr)
  have hf_qik : f71 qik = .inl (cy 3, 3, .inl (fun _ => 0)) := (congrFun e_f71 qik).trans (z_up_ne (Ne.symm ne_me_qik) hf_qik)
  have hf_qro : f71 qro = .inl (cy 1, 13, .inl (fun _ => 0)) := (congrFun e_f71 qro).trans (z_up_ne (Ne.symm ne_me_qro) hf_qro)
  have hf_qct : f71 qct = .inl (cy 1, 4, .inl (fun _ => 0)) := (congrFun e_f71 qct).trans (z_up_ne (Ne.symm ne_me_qct) hf_qct)
  have hf_qse : f71 qse = .inl (cy 1, 36, .inl (fun _ => 0)) := (congrFun e_f71 qse).trans (z_up_ne (Ne.symm ne_me_qse) hf_qse)
  have hf_qth : f71 qth = .inl (cy 1, 36, .inl (fun _ => 0)) := (congrFun e_f71 qth).trans (z_up_ne (Ne.symm ne_me_qth) hf_qth)
  have hf_qcn : f71 qcn = .inl (cy 1, 36, .inl (fun _ => 0)) := (congrFun e_f71 qcn).trans (z_up_ne (Ne.symm ne_me_qcn) hf_qcn)
  have hf_qbe : f71 qbe = .inl (cy 1, 2574, .inl (fun _ => 0)) := (congrFun e_f71 qbe).trans (z_up_ne (Ne.symm ne_me_qbe) hf_qbe)
  have hf_qdu : f71 qdu = .inl (cy 1, 5200, .inl (fun _ => 0)) := (congrFun e_f71 qdu).trans (z_up_ne (Ne.symm ne_me_qdu) hf_qdu)
  have hf_qdb : f71 qdb = .inl (cy 1, 5, .inl (fun _ => 0)) := (congrFun e_f71 qdb).trans (z_up_ne (Ne.symm ne_me_qdb) hf_qdb)
  have hf_qpn : f71 qpn = .inl (cy 1, 5, .inl (fun _ => 0)) := (congrFun e_f71 qpn).trans (z_up_ne (Ne.symm ne_me_qpn) hf_qpn)
  have hf_qwg : f71 qwg = .inl (cy 1, 12, .inl (fun _ => 0)) := (congrFun e_f71 qwg).trans (z_up_ne (Ne.symm ne_me_qwg) hf_qwg)
  have hf_qwh : f71 qwh = .inl (cy 1, 12, .inl (fun _ => 0)) := (congrFun e_f71 qwh).trans (z_up_ne (Ne.symm ne_me_qwh) hf_qwh)
  have hf_me : f71 me = .inr (10, [.int 0, .ref qwd, .ref qmy, .ref qce, .ref qmv, .ref qta, .int 0, .int 0, .int 0, .int 0, .int 0, .long 0, .int 0, .int 0, .int 0, .int (-1), .ref qli, .ref qha, .ref qlw, .ref qst, .ref qfo, .ref qdr, .int 0, .ref qik, .int (-1), .int 0, .long 0, .int 0, .int 0, .ref qro, .int 0, .ref qct, .ref qse, .ref qth, .ref qcn, .ref qbe, .int 0, .ref qdu, .int 0, .ref qdb, .int 0, .int 0, .int 0, .ref qpn, .ref qwg, .ref qwh, .null, .null, .int 0, .null, .null, .null, .int 0, .int 0]) := (congrFun e_f71 me).trans z_up_self
  have hfr : ∀ b ∈ L, b ≠ me → f71 b = f b := fun b hb h0 => (congrFun e_f71 b).trans (z_up_ne h0 (hfr b hb h0))
  refine lv_aload_n hx hb dX10_init_197 rfl (lv_at hl 0 rfl) ?_
  refine lv_bipush (v := 12) hx hb dX10_init_198 (by decide) ?_
  refine z_newa (atype := .int) (n := 12) (N' := 12) (a0 := (12, .inl (fun _ => 0))) (cells := 23) (slots := 10624) hx hb (hT _ kw_203) rfl 1 rfl (fun _ h => by cases h) hK hw hA (fun _ => rfl) (by decide) (by decide) (by decide) (by decide) (by decide) dX10_init_200 (fun qtn H hq_qtn hw => ?_)
  refine W.widen (k := 24) (n := 10636) (by decide) (by decide) ?_
  have ne_me_qtn : me ≠ qtn := z_ne hm_me hq_qtn
  have ne_qwd_qtn : qwd ≠ qtn := z_ne hm_qwd hq_qtn
  have ne_qmy_qtn : qmy ≠ qtn := z_ne hm_qmy hq_qtn
  have ne_qce_qtn : qce ≠ qtn := z_ne hm_qce hq_qtn
  have ne_qmv_qtn : qmv ≠ qtn := z_ne hm_qmv hq_qtn
  have ne_qta_qtn : qta ≠ qtn := z_ne hm_qta hq_qtn
  have ne_qli_qtn : qli ≠ qtn := z_ne hm_qli hq_qtn
  have ne_qha_qtn : qha ≠ qtn := z_ne hm_qha hq_qtn
  have ne_qlw_qtn : qlw ≠ qtn := z_ne hm_qlw hq_qtn
  have ne_qst_qtn : qst ≠ qtn := z_ne hm_qst hq_qtn
  have ne_qfo_qtn : qfo ≠ qtn := z_ne hm_qfo hq_qtn
  have ne_qdr_qtn : qdr ≠ qtn := z_ne hm_qdr hq_qtn
  have ne_qik_qtn : qik ≠ qtn := z_ne hm_qik hq_qtn
  have ne_qro_qtn : qro ≠ qtn := z_ne hm_qro hq_qtn
  have ne_qct_qtn : qct ≠ qtn := z_ne hm_qct hq_qtn
  have ne_qse_qtn : qse ≠ qtn := z_ne hm_qse hq_qtn
  have ne_qth_qtn : qth ≠ qtn := z_ne hm_qth hq_qtn
  have ne_qcn_qtn : qcn ≠ qtn := z_ne hm_qcn hq_qtn
  have ne_qbe_qtn : qbe ≠ qtn := z_ne hm_qbe hq_qtn
  have ne_qdu_qtn : qdu ≠ qtn := z_ne hm_qdu hq_qtn
  have ne_qdb_qtn : qdb ≠ qtn := z_ne hm_qdb hq_qtn
  have ne_qpn_qtn : qpn ≠ qtn := z_ne hm_qpn hq_qtn
  have ne_qwg_qtn : qwg ≠ qtn := z_ne hm_qwg hq_qtn
  have ne_qwh_qtn : qwh ≠ qtn := z_ne hm_qwh hq_qtn
  have hn_qtn : qtn ∉ L := fun h => hq_qtn (hsub _ h)
  obtain ⟨f73, e_f73⟩ : ∃ z, z = va_up f71 qtn (.inl (cy 1, 12, .inl (fun _ => 0))) := ⟨_, rfl⟩
  obtain ⟨L72, e_L72⟩ : ∃ z, z = L69 ++ [qtn] := ⟨_, rfl⟩
  rw [← e_f73, ← e_L72] at hw
  have hm_me : me ∈ L72 := by rw [e_L72]; exact List.mem_append_left _ hm_me
  have hf_me : f73 me = .inr (10, [.int 0, .ref qwd, .ref qmy, .ref qce, .ref qmv, .ref qta, .int 0, .int 0, .int 0, .int 0, .int 0, .long 0, .int 0, .int 0, .int 0, .int (-1), .ref qli, .ref qha, .ref qlw, .ref qst, .ref qfo, .ref qdr, .int 0, .ref qik, .int (-1), .int 0, .long 0, .int 0, .int 0, .ref qro, .int 0, .ref qct, .ref qse, .ref qth, .ref qcn, .ref qbe, .int 0, .ref qdu, .int 0, .ref qdb, .int 0, .int 0, .int 0, .ref qpn, .ref qwg, .ref qwh, .null, .null, .int 0, .null, .null, .null, .int 0, .int 0]) := (congrFun e_f73 me).trans (z_up_ne ne_me_qtn hf_me)
  have hm_qwd : qwd ∈ L72 := by rw [e_L72]; exact List.mem_append_left _ hm_qwd
  have hf_qwd : f73 qwd = .inl (cy 1, 4, .inl (fun _ => 0)) := (congrFun e_f73 qwd).trans (z_up_ne ne_qwd_qtn hf_qwd)
  have hm_qmy : qmy ∈ L72 := by rw [e_L72]; exact List.mem_append_left _ hm_qmy
  have hf_qmy : f73 qmy = .inl (cy 1, 4, .inl (fun _ => 0)) := (congrFun e_f73 qmy).trans (z_up_ne ne_qmy_qtn hf_qmy)
  have hm_qce : qce ∈ L72 := by rw [e_L72]; exact List.mem_append_left _ hm_qce
  have hf_qce : f73 qce = .inl (cy 2, 240, .inr (.inl (fun _ => 0))) := (congrFun e_f73 qce).trans (z_up_ne ne_qce_qtn hf_qce)
  have hm_qmv : qmv ∈ L72 := by rw [e_L72]; exact List.mem_append_left _ hm_qmv
  have hf_qmv : f73 qmv = .inl (cy 2, 60, .inr (.inl (fun _ => 0))) := (congrFun e_f73 qmv).trans (z_up_ne ne_qmv_qtn hf_qmv)
  have hm_qta : qta ∈ L72 := by rw [e_L72]; exact List.mem_append_left _ hm_qta
  have hf_qta : f73 qta = .inl (cy 0, 1600, .inl (fun _ => 0)) := (congrFun e_f73 qta).trans (z_up_ne ne_qta_qtn hf_qta)
  have hm_qli : qli ∈ L72 := by rw [e_L72]; exact List.mem_append_left _ hm_qli
  have hf_qli : f73 qli = .inl (cy 1, 5, .inl (fun _ => 0)) := (congrFun e_f73 qli).trans (z_up_ne ne_qli_qtn hf_qli)
  have hm_qha : qha ∈ L72 := by rw [e_L72]; exact List.mem_append_left _ hm_qha
  have hf_qha : f73 qha = .inl (cy 1, 30, .inl (fun _ => 0)) := (congrFun e_f73 qha).trans (z_up_ne ne_qha_qtn hf_qha)
  have hm_qlw : qlw ∈ L72 := by rw [e_L72]; exact List.mem_append_left _ hm_qlw
  have hf_qlw : f73 qlw = .inl (cy 1, 25, .inl (fun _ => 0)) := (congrFun e_f73 qlw).trans (z_up_ne ne_qlw_qtn hf_qlw)
  have hm_qst : qst ∈ L72 := by rw [e_L72]; exact List.mem_append_left _ hm_qst
  have hf_qst : f73 qst = .inl (cy 1, 20, .inl (fun _ => 0)) := (congrFun e_f73 qst).trans (z_up_ne ne_qst_qtn hf_qst)
  have hm_qfo : qfo ∈ L72 := by rw [e_L72]; exact List.mem_append_left _ hm_qfo
  have hf_qfo : f73 qfo = .inl (cy 1, 180, .inl (fun _ => 0)) := (congrFun e_f73 qfo).trans (z_up_ne ne_qfo_qtn hf_qfo)
  have hm_qdr : qdr ∈ L72 := by rw [e_L72]; exact List.mem_append_left _ hm_qdr
  have hf_qdr : f73 qdr = .inl (cy 1, 520, .inl (fun _ => 0)) := (congrFun e_f73 qdr).trans (z_up_ne ne_qdr_qtn hf_qdr)
  have hm_qik : qik ∈ L72 := by rw [e_L72]; exact List.mem_append_left _ hm_qik
  have hf_qik : f73 qik = .inl (cy 3, 3, .inl (fun _ => 0)) := (congrFun e_f73 qik).trans (z_up_ne ne_qik_qtn hf_qik)
  have hm_qro : qro ∈ L72 := by rw [e_L72]; exact List.mem_append_left _ hm_qro
  have hf_qro : f73 qro = .inl (cy 1, 13, .inl (fun _ => 0)) := (congrFun e_f73 qro).trans (z_up_ne ne_qro_qtn hf_qro)
  have hm_qct : qct ∈ L72 := by rw [e_L72]; exact List.mem_append_left _ hm_qct
  have hf_qct : f73 qct = .inl (cy 1, 4, .inl (fun _ => 0)) := (congrFun e_f73 qct).trans (z_up_ne ne_qct_qtn hf_qct)
  have hm_qse : qse ∈ L72 := by rw [e_L72]; exact List.mem_append_left _ hm_qse
  have hf_qse : f73 qse = .inl (cy 1, 36, .inl (fun _ => 0)) := (congrFun e_f73 qse).trans (z_up_ne ne_qse_qtn hf_qse)
  have hm_qth : qth ∈ L72 := by rw [e_L72]; exact List.mem_append_left _ hm_qth
  have hf_qth : f73 qth = .inl (cy 1, 36, .inl (fun _ => 0)) := (congrFun e_f73 qth).trans (z_up_ne ne_qth_qtn hf_qth)
  have hm_qcn : qcn ∈ L72 := by rw [e_L72]; exact List.mem_append_left _ hm_qcn
  have hf_qcn : f73 qcn = .inl (cy 1, 36, .inl (fun _ => 0)) := (congrFun e_f73 qcn).trans (z_up_ne ne_qcn_qtn hf_qcn)
  have hm_qbe : qbe ∈ L72 := by rw [e_L72]; exact List.mem_append_left _ hm_qbe
  have hf_qbe : f73 qbe = .inl (cy 1, 2574, .inl (fun _ => 0)) := (congrFun e_f73 qbe).trans (z_up_ne ne_qbe_qtn hf_qbe)
  have hm_qdu : qdu ∈ L72 := by rw [e_L72]; exact List.mem_append_left _ hm_qdu
  have hf_qdu : f73 qdu = .inl (cy 1, 5200, .inl (fun _ => 0)) := (congrFun e_f73 qdu).trans (z_up_ne ne_qdu_qtn hf_qdu)
  have hm_qdb : qdb ∈ L72 := by rw [e_L72]; exact List.mem_append_left _ hm_qdb
  have hf_qdb : f73 qdb = .inl (cy 1, 5, .inl (fun _ => 0)) := (congrFun e_f73 qdb).trans (z_up_ne ne_qdb_qtn hf_qdb)
  have hm_qpn : qpn ∈ L72 := by rw [e_L72]; exact List.mem_append_left _ hm_qpn
  have hf_qpn : f73 qpn = .inl (cy 1, 5, .inl (fun _ => 0)) := (congrFun e_f73 qpn).trans (z_up_ne ne_qpn_qtn hf_qpn)
  have hm_qwg : qwg ∈ L72 := by rw [e_L72]; exact List.mem_append_left _ hm_qwg
  have hf_qwg : f73 qwg = .inl (cy 1, 12, .inl (fun _ => 0)) := (congrFun e_f73 qwg).trans (z_up_ne ne_qwg_qtn hf_qwg)
  have hm_qwh : qwh ∈ L72 := by rw [e_L72]; exact List.mem_append_left _ hm_qwh
  have hf_qwh : f73 qwh = .inl (cy 1, 12, .inl (fun _ => 0)) := (congrFun e_f73 qwh).trans (z_up_ne ne_qwh_qtn hf_qwh)
  have hm_qtn : qtn ∈ L72 := by rw [e_L72]; exact List.mem_append_right _ (List.mem_singleton.mpr rfl)
  have hf_qtn : f73 qtn = .inl (cy 1, 12, .inl (fun _ => 0)) := (congrFun e_f73 qtn).trans z_up_self
  have hsub : ∀ b ∈ L, b ∈ L72 := fun b h => by rw [e_L72]; exact List.mem_append_left _ (hsub b h)
  have hfr : ∀ b ∈ L, b ≠ me → f73 b = f b := fun b hb h0 => (congrFun e_f73 b).trans (z_up_ne (z_ne hb hn_qtn) (hfr b hb h0))
  refine z_putF (C := RX10) (T := TX10) (N := 54) (ci := 10) (v := .ref qtn) (fs' := [.int 0, .ref qwd, .ref qmy, .ref qce, .ref qmv, .ref qta, .int 0, .int 0, .int 0, .int 0, .int 0, .long 0, .int 0, .int 0, .int 0, .int (-1), .ref qli, .ref qha, .ref qlw, .ref qst, .ref qfo, .ref qdr, .int 0, .ref qik, .int (-1), .int 0, .long 0, .int 0, .int 0, .ref qro, .int 0, .ref qct, .ref qse, .ref qth, .ref qcn, .ref qbe, .int 0, .ref qdu, .int 0, .ref qdb, .int 0, .int 0, .int 0, .ref qpn, .ref qwg, .ref qwh, .ref qtn, .null, .int 0, .null, .null, .null, .int 0, .int 0]) hx hb hT zin_X10 tyX10_ok nmX10 hown hK hw hm_me hf_me rfl 46 (by decide) (hT _ kw_1214) rfl hnm rfl rfl rfl (Nat.le_of_ble_eq_true rfl) rfl dX10_init_202 (fun H locs hw => ?_)
  obtain ⟨f74, e_f74⟩ : ∃ z, z = va_up f73 me (.inr (10, [.int 0, .ref qwd, .ref qmy, .ref qce, .ref qmv, .ref qta, .int 0, .int 0, .int 0, .int 0, .int 0, .long 0, .int 0, .int 0, .int 0, .int (-1), .ref qli, .ref qha, .ref qlw, .ref qst, .ref qfo, .ref qdr, .int 0, .ref qik, .int (-1), .int 0, .long 0, .int 0, .int 0, .ref qro, .int 0, .ref qct, .ref qse, .ref qth, .ref qcn, .ref qbe, .int 0, .ref qdu, .int 0, .ref qdb, .int 0, .int 0, .int 0, .ref qpn, .ref qwg, .ref qwh, .ref qtn, .null, .int 0, .null, .null, .null, .int 0, .int 0])) := ⟨_, rfl⟩
  rw [← e_f74] at hw
  have hf_qwd : f74 qwd = .inl (cy 1, 4, .inl (fun _ => 0)) := (congrFun e_f74 qwd).trans (z_up_ne (Ne.symm ne_me_qwd) hf_qwd)
  have hf_qmy : f74 qmy = .inl (cy 1, 4, .inl (fun _ => 0)) := (congrFun e_f74 qmy).trans (z_up_ne (Ne.symm ne_me_qmy) hf_qmy)
  have hf_qce : f74 qce = .inl (cy 2, 240, .inr (.inl (fun _ => 0))) := (congrFun e_f74 qce).trans (z_up_ne (Ne.symm ne_me_qce) hf_qce)
  have hf_qmv : f74 qmv = .inl (cy 2, 60, .inr (.inl (fun _ => 0))) := (congrFun e_f74 qmv).trans (z_up_ne (Ne.symm ne_me_qmv) hf_qmv)
  have hf_qta : f74 qta = .inl (cy 0, 1600, .inl (fun _ => 0)) := (congrFun e_f74 qta).trans (z_up_ne (Ne.symm ne_me_qta) hf_qta)
  have hf_qli : f74 qli = .inl (cy 1, 5, .inl (fun _ => 0)) := (congrFun e_f74 qli).trans (z_up_ne (Ne.symm ne_me_qli) hf_qli)
  have hf_qha : f74 qha = .inl (cy 1, 30, .inl (fun _ => 0)) := (congrFun e_f74 qha).trans (z_up_ne (Ne.symm ne_me_qha) hf_qha)
  have hf_qlw : f74 qlw = .inl (cy 1, 25, .inl (fun _ => 0)) := (congrFun e_f74 qlw).trans (z_up_ne (Ne.symm ne_me_qlw) hf_qlw)
  have hf_qst : f74 qst = .inl (cy 1, 20, .inl (fun _ => 0)) := (congrFun e_f74 qst).trans (z_up_ne (Ne.symm ne_me_qst) hf_qst)
  have hf_qfo : f74 qfo = .inl (cy 1, 180, .inl (fun _ => 0)) := (congrFun e_f74 qfo).trans (z_up_ne (Ne.symm ne_me_qfo) hf_qfo)
  have hf_qdr : f74 qdr = .inl (cy 1, 520, .inl (fun _ => 0)) := (congrFun e_f74 qdr).trans (z_up_ne (Ne.symm ne_me_qdr) hf_qdr)
  have hf_qik : f74 qik = .inl (cy 3, 3, .inl (fun _ => 0)) := (congrFun e_f74 qik).trans (z_up_ne (Ne.symm ne_me_qik) hf_qik)
  have hf_qro : f74 qro = .inl (cy 1, 13, .inl (fun _ => 0)) := (congrFun e_f74 qro).trans (z_up_ne (Ne.symm ne_me_qro) hf_qro)
  have hf_qct : f74 qct = .inl (cy 1, 4, .inl (fun _ => 0)) := (congrFun e_f74 qct).trans (z_up_ne (Ne.symm ne_me_qct) hf_qct)
  have hf_qse : f74 qse = .inl (cy 1, 36, .inl (fun _ => 0)) := (congrFun e_f74 qse).trans (z_up_ne (Ne.symm ne_me_qse) hf_qse)
  have hf_qth : f74 qth = .inl (cy 1, 36, .inl (fun _ => 0)) := (congrFun e_f74 qth).trans (z_up_ne (Ne.symm ne_me_qth) hf_qth)
  have hf_qcn : f74 qcn = .inl (cy 1, 36, .inl (fun _ => 0)) := (congrFun e_f74 qcn).trans (z_up_ne (Ne.symm ne_me_qcn) hf_qcn)
  have hf_qbe : f74 qbe = .inl (cy 1, 2574, .inl (fun _ => 0)) := (congrFun e_f74 qbe).trans (z_up_ne (Ne.symm ne_me_qbe) hf_qbe)
  have hf_qdu : f74 qdu = .inl (cy 1, 5200, .inl (fun _ => 0)) := (congrFun e_f74 qdu).trans (z_up_ne (Ne.symm ne_me_qdu) hf_qdu)
  have hf_qdb : f74 qdb = .inl (cy 1, 5, .inl (fun _ => 0)) := (congrFun e_f74 qdb).trans (z_up_ne (Ne.symm ne_me_qdb) hf_qdb)
  have hf_qpn : f74 qpn = .inl (cy 1, 5, .inl (fun _ => 0)) := (congrFun e_f74 qpn).trans (z_up_ne (Ne.symm ne_me_qpn) hf_qpn)
  have hf_qwg : f74 qwg = .inl (cy 1, 12, .inl (fun _ => 0)) := (congrFun e_f74 qwg).trans (z_up_ne (Ne.symm ne_me_qwg) hf_qwg)
  have hf_qwh : f74 qwh = .inl (cy 1, 12, .inl (fun _ => 0)) := (congrFun e_f74 qwh).trans (z_up_ne (Ne.symm ne_me_qwh) hf_qwh)
  have hf_qtn : f74 qtn = .inl (cy 1, 12, .inl (fun _ => 0)) := (congrFun e_f74 qtn).trans (z_up_ne (Ne.symm ne_me_qtn) hf_qtn)
  have hf_me : f74 me = .inr (10, [.int 0, .ref qwd, .ref qmy, .ref qce, .ref qmv, .ref qta, .int 0, .int 0, .int 0, .int 0, .int 0, .long 0, .int 0, .int 0, .int 0, .int (-1), .ref qli, .ref qha, .ref qlw, .ref qst, .ref qfo, .ref qdr, .int 0, .ref qik, .int (-1), .int 0, .long 0, .int 0, .int 0, .ref qro, .int 0, .ref qct, .ref qse, .ref qth, .ref qcn, .ref qbe, .int 0, .ref qdu, .int 0, .ref qdb, .int 0, .int 0, .int 0, .ref qpn, .ref qwg, .ref qwh, .ref qtn, .null, .int 0, .null, .null, .null, .int 0, .int 0]) := (congrFun e_f74 me).trans z_up_self
  have hfr : ∀ b ∈ L, b ≠ me → f74 b = f b := fun b hb h0 => (congrFun e_f74 b).trans (z_up_ne h0 (hfr b hb h0))
  refine lv_aload_n hx hb dX10_init_205 rfl (lv_at hl 0 rfl) ?_
  refine lv_bipush (v := 13) hx hb dX10_init_206 (by decide) ?_
  refine z_newa (atype := .int) (n := 13) (N' := 13) (a0 := (13, .inl (fun _ => 0))) (cells := 24) (slots := 10636) hx hb (hT _ kw_203) rfl 1 rfl (fun _ h => by cases h) hK hw hA (fun _ => rfl) (by decide) (by decide) (by decide) (by decide) (by decide) dX10_init_208 (fun qhe H hq_qhe hw => ?_)
  refine W.widen (k := 25) (n := 10649) (by decide) (by decide) ?_
  have ne_me_qhe : me ≠ qhe := z_ne hm_me hq_qhe
  have ne_qwd_qhe : qwd ≠ qhe := z_ne hm_qwd hq_qhe
  have ne_qmy_qhe : qmy ≠ qhe := z_ne hm_qmy hq_qhe
  have ne_qce_qhe : qce ≠ qhe := z_ne hm_qce hq_qhe
  have ne_qmv_qhe : qmv ≠ qhe := z_ne hm_qmv hq_qhe
  have ne_qta_qhe : qta ≠ qhe := z_ne hm_qta hq_qhe
  have ne_qli_qhe : qli ≠ qhe := z_ne hm_qli hq_qhe
  have ne_qha_qhe : qha ≠ qhe := z_ne hm_qha hq_qhe
  have ne_qlw_qhe : qlw ≠ qhe := z_ne hm_qlw hq_qhe
  have ne_qst_qhe : qst ≠ qhe := z_ne hm_qst hq_qhe
  have ne_qfo_qhe : qfo ≠ qhe := z_ne hm_qfo hq_qhe
  have ne_qdr_qhe : qdr ≠ qhe := z_ne hm_qdr hq_qhe
  have ne_qik_qhe : qik ≠ qhe := z_ne hm_qik hq_qhe
  have ne_qro_qhe : qro ≠ qhe := z_ne hm_qro hq_qhe
  have ne_qct_qhe : qct ≠ qhe := z_ne hm_qct hq_qhe
  have ne_qse_qhe : qse ≠ qhe := z_ne hm_qse hq_qhe
  have ne_qth_qhe : qth ≠ qhe := z_ne hm_qth hq_qhe
  have ne_qcn_qhe : qcn ≠ qhe := z_ne hm_qcn hq_qhe
  have ne_qbe_qhe : qbe ≠ qhe := z_ne hm_qbe hq_qhe
  have ne_qdu_qhe : qdu ≠ qhe := z_ne hm_qdu hq_qhe
  have ne_qdb_qhe : qdb ≠ qhe := z_ne hm_qdb hq_qhe
  have ne_qpn_qhe : qpn ≠ qhe := z_ne hm_qpn hq_qhe
  have ne_qwg_qhe : qwg ≠ qhe := z_ne hm_qwg hq_qhe
  have ne_qwh_qhe : qwh ≠ qhe := z_ne hm_qwh hq_qhe
  have ne_qtn_qhe : qtn ≠ qhe := z_ne hm_qtn hq_qhe
  have hn_qhe : qhe ∉ L := fun h => hq_qhe (hsub _ h)
  obtain ⟨f76, e_f76⟩ : ∃ z, z = va_up f74 qhe (.inl (cy 1, 13, .inl (fun _ => 0))) := ⟨_, rfl⟩
  obtain ⟨L75, e_L75⟩ : ∃ z, z = L72 ++ [qhe] := ⟨_, rfl⟩
  rw [← e_f76, ← e_L75] at hw
  have hm_me : me ∈ L75 := by rw [e_L75]; exact List.mem_append_left _ hm_me
  have hf_me : f76 me = .inr (10, [.int 0, .ref qwd, .ref qmy, .ref qce, .ref qmv, .ref qta, .int 0, .int 0, .int 0, .int 0, .int 0, .long 0, .int 0, .int 0, .int 0, .int (-1), .ref qli, .ref qha, .ref qlw, .ref qst, .ref qfo, .ref qdr, .int 0, .ref qik, .int (-1), .int 0, .long 0, .int 0, .int 0, .ref qro, .int 0, .ref qct, .ref qse, .ref qth, .ref qcn, .ref qbe, .int 0, .ref qdu, .int 0, .ref qdb, .int 0, .int 0, .int 0, .ref qpn, .ref qwg, .ref qwh, .ref qtn, .null, .int 0, .null, .null, .null, .int 0, .int 0]) := (congrFun e_f76 me).trans (z_up_ne ne_me_qhe hf_me)
  have hm_qwd : qwd ∈ L75 := by rw [e_L75]; exact List.mem_append_left _ hm_qwd
  have hf_qwd : f76 qwd = .inl (cy 1, 4, .inl (fun _ => 0)) := (congrFun e_f76 qwd).trans (z_up_ne ne_qwd_qhe hf_qwd)
  have hm_qmy : qmy ∈ L75 := by rw [e_L75]; exact List.mem_append_left _ hm_qmy
  have hf_qmy : f76 qmy = .inl (cy 1, 4, .inl (fun _ => 0)) := (congrFun e_f76 qmy).trans (z_up_ne ne_qmy_qhe hf_qmy)
  have hm_qce : qce ∈ L75 := by rw [e_L75]; exact List.mem_append_left _ hm_qce
  have hf_qce : f76 qce = .inl (cy 2, 240, .inr (.inl (fun _ => 0))) := (congrFun e_f76 qce).trans (z_up_ne ne_qce_qhe hf_qce)
  have hm_qmv : qmv ∈ L75 := by rw [e_L75]; exact List.mem_append_left _ hm_qmv
  have hf_qmv : f76 qmv = .inl (cy 2, 60, .inr (.inl (fun _ => 0))) := (congrFun e_f76 qmv).trans (z_up_ne ne_qmv_qhe hf_qmv)
  have hm_qta : qta ∈ L75 := by rw [e_L75]; exact List.mem_append_left _ hm_qta
  have hf_qta : f76 qta = .inl (cy 0, 1600, .inl (fun _ => 0)) := (congrFun e_f76 qta).trans (z_up_ne ne_qta_qhe hf_qta)
  have hm_qli : qli ∈ L75 := by rw [e_L75]; exact List.mem_append_left _ hm_qli
  have hf_qli : f76 qli = .inl (cy 1, 5, .inl (fun _ => 0)) := (congrFun e_f76 qli).trans (z_up_ne ne_qli_qhe hf_qli)
  have hm_qha : qha ∈ L75 := by rw [e_L75]; exact List.mem_append_left _ hm_qha
  have hf_qha : f76 qha = .inl (cy 1, 30, .inl (fun _ => 0)) := (congrFun e_f76 qha).trans (z_up_ne ne_qha_qhe hf_qha)
  have hm_qlw : qlw ∈ L75 := by rw [e_L75]; exact List.mem_append_left _ hm_qlw
  have hf_qlw : f76 qlw = .inl (cy 1, 25, .inl (fun _ => 0)) := (congrFun e_f76 qlw).trans (z_up_ne ne_qlw_qhe hf_qlw)
  have hm_qst : qst ∈ L75 := by rw [e_L75]; exact List.mem_append_left _ hm_qst
  have hf_qst : f76 qst = .inl (cy 1, 20, .inl (fun _ => 0)) := (congrFun e_f76 qst).trans (z_up_ne ne_qst_qhe hf_qst)
  have hm_qfo : qfo ∈ L75 := by rw [e_L75]; exact List.mem_append_left _ hm_qfo
  have hf_qfo : f76 qfo = .inl (cy 1, 180, .inl (fun _ => 0)) := (congrFun e_f76 qfo).trans (z_up_ne ne_qfo_qhe hf_qfo)
  have hm_qdr : qdr ∈ L75 := by rw [e_L75]; exact List.mem_append_left _ hm_qdr
  have hf_qdr : f76 qdr = .inl (cy 1, 520, .inl (fun _ => 0)) := (congrFun e_f76 qdr).trans (z_up_ne ne_qdr_qhe hf_qdr)
  have hm_qik : qik ∈ L75 := by rw [e_L75]; exact List.mem_append_left _ hm_qik
  have hf_qik : f76 qik = .inl (cy 3, 3, .inl (fun _ => 0)) := (congrFun e_f76 qik).trans (z_up_ne ne_qik_qhe hf_qik)
  have hm_qro : qro ∈ L75 := by rw [e_L75]; exact List.mem_append_left _ hm_qro
  have hf_qro : f76 qro = .inl (cy 1, 13, .inl (fun _ => 0)) := (congrFun e_f76 qro).trans (z_up_ne ne_qro_qhe hf_qro)
  have hm_qct : qct ∈ L75 := by rw [e_L75]; exact List.mem_append_left _ hm_qct
  have hf_qct : f76 qct = .inl (cy 1, 4, .inl (fun _ => 0)) := (congrFun e_f76 qct).trans (z_up_ne ne_qct_qhe hf_qct)
  have hm_qse : qse ∈ L75 := by rw [e_L75]; exact List.mem_append_left _ hm_qse
  have hf_qse : f76 qse = .inl (cy 1, 36, .inl (fun _ => 0)) := (congrFun e_f76 qse).trans (z_up_ne ne_qse_qhe hf_qse)
  have hm_qth : qth ∈ L75 := by rw [e_L75]; exact List.mem_append_left _ hm_qth
  have hf_qth : f76 qth = .inl (cy 1, 36, .inl (fun _ => 0)) := (congrFun e_f76 qth).trans (z_up_ne ne_qth_qhe hf_qth)
  have hm_qcn : qcn ∈ L75 := by rw [e_L75]; exact List.mem_append_left _ hm_qcn
  have hf_qcn : f76 qcn = .inl (cy 1, 36, .inl (fun _ => 0)) := (congrFun e_f76 qcn).trans (z_up_ne ne_qcn_qhe hf_qcn)
  have hm_qbe : qbe ∈ L75 := by rw [e_L75]; exact List.mem_append_left _ hm_qbe
  have hf_qbe : f76 qbe = .inl (cy 1, 2574, .inl (fun _ => 0)) := (congrFun e_f76 qbe).trans (z_up_ne ne_qbe_qhe hf_qbe)
  have hm_qdu : qdu ∈ L75 := by rw [e_L75]; exact List.mem_append_left _ hm_qdu
  have hf_qdu : f76 qdu = .inl (cy 1, 5200, .inl (fun _ => 0)) := (congrFun e_f76 qdu).trans (z_up_ne ne_qdu_qhe hf_qdu)
  have hm_qdb : qdb ∈ L75 := by rw [e_L75]; exact List.mem_append_left _ hm_qdb
  have hf_qdb : f76 qdb = .inl (cy 1, 5, .inl (fun _ => 0)) := (congrFun e_f76 qdb).trans (z_up_ne ne_qdb_qhe hf_qdb)
  have hm_qpn : qpn ∈ L75 := by rw [e_L75]; exact List.mem_append_left _ hm_qpn
  have hf_qpn : f76 qpn = .inl (cy 1, 5, .inl (fun _ => 0)) := (congrFun e_f76 qpn).trans (z_up_ne ne_qpn_qhe hf_qpn)
  have hm_qwg : qwg ∈ L75 := by rw [e_L75]; exact List.mem_append_left _ hm_qwg
  have hf_qwg : f76 qwg = .inl (cy 1, 12, .inl (fun _ => 0)) := (congrFun e_f76 qwg).trans (z_up_ne ne_qwg_qhe hf_qwg)
  have hm_qwh : qwh ∈ L75 := by rw [e_L75]; exact List.mem_append_left _ hm_qwh
  have hf_qwh : f76 qwh = .inl (cy 1, 12, .inl (fun _ => 0)) := (congrFun e_f76 qwh).trans (z_up_ne ne_qwh_qhe hf_qwh)
  have hm_qtn : qtn ∈ L75 := by rw [e_L75]; exact List.mem_append_left _ hm_qtn
  have hf_qtn : f76 qtn = .inl (cy 1, 12, .inl (fun _ => 0)) := (congrFun e_f76 qtn).trans (z_up_ne ne_qtn_qhe hf_qtn)
  have hm_qhe : qhe ∈ L75 := by rw [e_L75]; exact List.mem_append_right _ (List.mem_singleton.mpr rfl)
  have hf_qhe : f76 qhe = .inl (cy 1, 13, .inl (fun _ => 0)) := (congrFun e_f76 qhe).trans z_up_self
  have hsub : ∀ b ∈ L, b ∈ L75 := fun b h => by rw [e_L75]; exact List.mem_append_left _ (hsub b h)
  have hfr : ∀ b ∈ L, b ≠ me → f76 b = f b := fun b hb h0 => (congrFun e_f76 b).trans (z_up_ne (z_ne hb hn_qhe) (hfr b hb h0))
  refine z_putF (C := RX10) (T := TX10) (N := 54) (ci := 10) (v := .ref qhe) (fs' := [.int 0, .ref qwd, .ref qmy, .ref qce, .ref qmv, .ref qta, .int 0, .int 0, .int 0, .int 0, .int 0, .long 0, .int 0, .int 0, .int 0, .int (-1), .ref qli, .ref qha, .ref qlw, .ref qst, .ref qfo, .ref qdr, .int 0, .ref qik, .int (-1), .int 0, .long 0, .int 0, .int 0, .ref qro, .int 0, .ref qct, .ref qse, .ref qth, .ref qcn, .ref qbe, .int 0, .ref qdu, .int 0, .ref qdb, .int 0, .int 0, .int 0, .ref qpn, .ref qwg, .ref qwh, .ref qtn, .ref qhe, .int 0, .null, .null, .null, .int 0, .int 0]) hx hb hT zin_X10 tyX10_ok nmX10 hown hK hw hm_me hf_me rfl 47 (by decide) (hT _ kw_1215) rfl hnm rfl rfl rfl (Nat.le_of_ble_eq_true rfl) rfl dX10_init_210 (fun H locs hw => ?_)
  obtain ⟨f77, e_f77⟩ : ∃ z, z = va_up f76 me (.inr (10, [.int 0, .ref qwd, .ref qmy, .ref qce, .ref qmv, .ref qta, .int 0, .int 0, .int 0, .int 0, .int 0, .long 0, .int 0, .int 0, .int 0, .int (-1), .ref qli, .ref qha, .ref qlw, .ref qst, .ref qfo, .ref qdr, .int 0, .ref qik, .int (-1), .int 0, .long 0, .int 0, .int 0, .ref qro, .int 0, .ref qct, .ref qse, .ref qth, .ref qcn, .ref qbe, .int 0, .ref qdu, .int 0, .ref qdb, .int 0, .int 0, .int 0, .ref qpn, .ref qwg, .ref qwh, .ref qtn, .ref qhe, .int 0, .null, .null, .null, .int 0, .int 0])) := ⟨_, rfl⟩
  rw [← e_f77] at hw
  have hf_qwd : f77 qwd = .inl (cy 1, 4, .inl (fun _ => 0)) := (congrFun e_f77 qwd).trans (z_up_ne (Ne.symm ne_me_qwd) hf_qwd)
  have hf_qmy : f77 qmy = .inl (cy 1, 4, .inl (fun _ => 0)) := (congrFun e_f77 qmy).trans (z_up_ne (Ne.symm ne_me_qmy) hf_qmy)
  have hf_qce : f77 qce = .inl (cy 2, 240, .inr (.inl (fun _ => 0))) := (congrFun e_f77 qce).trans (z_up_ne (Ne.symm ne_me_qce) hf_qce)
  have hf_qmv : f77 qmv = .inl (cy 2, 60, .inr (.inl (fun _ => 0))) := (congrFun e_f77 qmv).trans (z_up_ne (Ne.symm ne_me_qmv) hf_qmv)
  have hf_qta : f77 qta = .inl (cy 0, 1600, .inl (fun _ => 0)) := (congrFun e_f77 qta).trans (z_up_ne (Ne.symm ne_me_qta) hf_qta)
  have hf_qli : f77 qli = .inl (cy 1, 5, .inl (fun _ => 0)) := (congrFun e_f77 qli).trans (z_up_ne (Ne.symm ne_me_qli) hf_qli)
  have hf_qha : f77 qha = .inl (cy 1, 30, .inl (fun _ => 0)) := (congrFun e_f77 qha).trans (z_up_ne (Ne.symm ne_me_qha) hf_qha)
  have hf_qlw : f77 qlw = .inl (cy 1, 25, .inl (fun _ => 0)) := (congrFun e_f77 qlw).trans (z_up_ne (Ne.symm ne_me_qlw) hf_qlw)
  have hf_qst : f77 qst = .inl (cy 1, 20, .inl (fun _ => 0)) := (congrFun e_f77 qst).trans (z_up_ne (Ne.symm ne_me_qst) hf_qst)
  have hf_qfo : f77 qfo = .inl (cy 1, 180, .inl (fun _ => 0)) := (congrFun e_f77 qfo).trans (z_up_ne (Ne.symm ne_me_qfo) hf_qfo)
  have hf_qdr : f77 qdr = .inl (cy 1, 520, .inl (fun _ => 0)) := (congrFun e_f77 qdr).trans (z_up_ne (Ne.symm ne_me_qdr) hf_qdr)
  have hf_qik : f77 qik = .inl (cy 3, 3, .inl (fun _ => 0)) := (congrFun e_f77 qik).trans (z_up_ne (Ne.symm ne_me_qik) hf_qik)
  have hf_qro : f77 qro = .inl (cy 1, 13, .inl (fun _ => 0)) := (congrFun e_f77 qro).trans (z_up_ne (Ne.symm ne_me_qro) hf_qro)
  have hf_qct : f77 qct = .inl (cy 1, 4, .inl (fun _ => 0)) := (congrFun e_f77 qct).trans (z_up_ne (Ne.symm ne_me_qct) hf_qct)
  have hf_qse : f77 qse = .inl (cy 1, 36, .inl (fun _ => 0)) := (congrFun e_f77 qse).trans (z_up_ne (Ne.symm ne_me_qse) hf_qse)
  have hf_qth : f77 qth = .inl (cy 1, 36, .inl (fun _ => 0)) := (congrFun e_f77 qth).trans (z_up_ne (Ne.symm ne_me_qth) hf_qth)
  have hf_qcn : f77 qcn = .inl (cy 1, 36, .inl (fun _ => 0)) := (congrFun e_f77 qcn).trans (z_up_ne (Ne.symm ne_me_qcn) hf_qcn)
  have hf_qbe : f77 qbe = .inl (cy 1, 2574, .inl (fun _ => 0)) := (congrFun e_f77 qbe).trans (z_up_ne (Ne.symm ne_me_qbe) hf_qbe)
  have hf_qdu : f77 qdu = .inl (cy 1, 5200, .inl (fun _ => 0)) := (congrFun e_f77 qdu).trans (z_up_ne (Ne.symm ne_me_qdu) hf_qdu)
  have hf_qdb : f77 qdb = .inl (cy 1, 5, .inl (fun _ => 0)) := (congrFun e_f77 qdb).trans (z_up_ne (Ne.symm ne_me_qdb) hf_qdb)
  have hf_qpn : f77 qpn = .inl (cy 1, 5, .inl (fun _ => 0)) := (congrFun e_f77 qpn).trans (z_up_ne (Ne.symm ne_me_qpn) hf_qpn)
  have hf_qwg : f77 qwg = .inl (cy 1, 12, .inl (fun _ => 0)) := (congrFun e_f77 qwg).trans (z_up_ne (Ne.symm ne_me_qwg) hf_qwg)
  have hf_qwh : f77 qwh = .inl (cy 1, 12, .inl (fun _ => 0)) := (congrFun e_f77 qwh).trans (z_up_ne (Ne.symm ne_me_qwh) hf_qwh)
  have hf_qtn : f77 qtn = .inl (cy 1, 12, .inl (fun _ => 0)) := (congrFun e_f77 qtn).trans (z_up_ne (Ne.symm ne_me_qtn) hf_qtn)
  have hf_qhe : f77 qhe = .inl (cy 1, 13, .inl (fun _ => 0)) := (congrFun e_f77 qhe).trans (z_up_ne (Ne.symm ne_me_qhe) hf_qhe)
  have hf_me : f77 me = .inr (10, [.int 0, .ref qwd, .ref qmy, .ref qce, .ref qmv, .ref qta, .int 0, .int 0, .int 0, .int 0, .int 0, .long 0, .int 0, .int 0, .int 0, .int (-1), .ref qli, .ref qha, .ref qlw, .ref qst, .ref qfo, .ref qdr, .int 0, .ref qik, .int (-1), .int 0, .long 0, .int 0, .int 0, .ref qro, .int 0, .ref qct, .ref qse, .ref qth, .ref qcn, .ref qbe, .int 0, .ref qdu, .int 0, .ref qdb, .int 0, .int 0, .int 0, .ref qpn, .ref qwg, .ref qwh, .ref qtn, .ref qhe, .int 0, .null, .null, .null, .int 0, .int 0]) := (congrFun e_f77 me).trans z_up_self
  have hfr : ∀ b ∈ L, b ≠ me → f77 b = f b := fun b hb h0 => (congrFun e_f77 b).trans (z_up_ne h0 (hfr b hb h0))
  refine lv_aload_n hx hb dX10_init_213 rfl (lv_at hl 0 rfl) ?_
  refine lv_bipush (v := 6) hx hb dX10_init_214 (by decide) ?_
  refine z_newa (atype := .int) (n := 6) (N' := 6) (a0 := (6, .inl (fun _ => 0))) (cells := 25) (slots := 10649) hx hb (hT _ kw_203) rfl 1 rfl (fun _ h => by cases h) hK hw hA (fun _ => rfl) (by decide) (by decide) (by decide) (by decide) (by decide) dX10_init_216 (fun qtr H hq_qtr hw => ?_)
  refine W.widen (k := 26) (n := 10655) (by decide) (by decide) ?_
  have ne_me_qtr : me ≠ qtr := z_ne hm_me hq_qtr
  have ne_qwd_qtr : qwd ≠ qtr := z_ne hm_qwd hq_qtr
  have ne_qmy_qtr : qmy ≠ qtr := z_ne hm_qmy hq_qtr
  have ne_qce_qtr : qce ≠ qtr := z_ne hm_qce hq_qtr
  have ne_qmv_qtr : qmv ≠ qtr := z_ne hm_qmv hq_qtr
  have ne_qta_qtr : qta ≠ qtr := z_ne hm_qta hq_qtr
  have ne_qli_qtr : qli ≠ qtr := z_ne hm_qli hq_qtr
  have ne_qha_qtr : qha ≠ qtr := z_ne hm_qha hq_qtr
  have ne_qlw_qtr : qlw ≠ qtr := z_ne hm_qlw hq_qtr
  have ne_qst_qtr : qst ≠ qtr := z_ne hm_qst hq_qtr
  have ne_qfo_qtr : qfo ≠ qtr := z_ne hm_qfo hq_qtr
  have ne_qdr_qtr : qdr ≠ qtr := z_ne hm_qdr hq_qtr
  have ne_qik_qtr : qik ≠ qtr := z_ne hm_qik hq_qtr
  have ne_qro_qtr : qro ≠ qtr := z_ne hm_qro hq_qtr
  have ne_qct_qtr : qct ≠ qtr := z_ne hm_qct hq_qtr
  have ne_qse_qtr : qse ≠ qtr := z_ne hm_qse hq_qtr
  have ne_qth_qtr : qth ≠ qtr := z_ne hm_qth hq_qtr
  have ne_qcn_qtr : qcn ≠ qtr := z_ne hm_qcn hq_qtr
  have ne_qbe_qtr : qbe ≠ qtr := z_ne hm_qbe hq_qtr
  have ne_qdu_qtr : qdu ≠ qtr := z_ne hm_qdu hq_qtr
  have ne_qdb_qtr : qdb ≠ qtr := z_ne hm_qdb hq_qtr
  have ne_qpn_qtr : qpn ≠ qtr := z_ne hm_qpn hq_qtr
  have ne_qwg_qtr : qwg ≠ qtr := z_ne hm_qwg hq_qtr
  have ne_qwh_qtr : qwh ≠ qtr := z_ne hm_qwh hq_qtr
  have ne_qtn_qtr : qtn ≠ qtr := z_ne hm_qtn hq_qtr
  have ne_qhe_qtr : qhe ≠ qtr := z_ne hm_qhe hq_qtr
  have hn_qtr : qtr ∉ L := fun h => hq_qtr (hsub _ h)
  obtain ⟨f79, e_f79⟩ : ∃ z, z = va_up f77 qtr (.inl (cy 1, 6, .inl (fun _ => 0))) := ⟨_, rfl⟩
  obtain ⟨L78, e_L78⟩ : ∃ z, z = L75 ++ [qtr] := ⟨_, rfl⟩
  rw [← e_f79, ← e_L78] at hw
  have hm_me : me ∈ L78 := by rw [e_L78]; exact List.mem_append_left _ hm_me
  have hf_me : f79 me = .inr (10, [.int 0, .ref qwd, .ref qmy, .ref qce, .ref qmv, .ref qta, .int 0, .int 0, .int 0, .int 0, .int 0, .long 0, .int 0, .int 0, .int 0, .int (-1), .ref qli, .ref qha, .ref qlw, .ref qst, .ref qfo, .ref qdr, .int 0, .ref qik, .int (-1), .int 0, .long 0, .int 0, .int 0, .ref qro, .int 0, .ref qct, .ref qse, .ref qth, .ref qcn, .ref qbe, .int 0, .ref qdu, .int 0, .ref qdb, .int 0, .int 0, .int 0, .ref qpn, .ref qwg, .ref qwh, .ref qtn, .ref qhe, .int 0, .null, .null, .null, .int 0, .int 0]) := (congrFun e_f79 me).trans (z_up_ne ne_me_qtr hf_me)
  have hm_qwd : qwd ∈ L78 := by rw [e_L78]; exact List.mem_append_left _ hm_qwd
  have hf_qwd : f79 qwd = .inl (cy 1, 4, .inl (fun _ => 0)) := (congrFun e_f79 qwd).trans (z_up_ne ne_qwd_qtr hf_qwd)
  have hm_qmy : qmy ∈ L78 := by rw [e_L78]; exact List.mem_append_left _ hm_qmy
  have hf_qmy : f79 qmy = .inl (cy 1, 4, .inl (fun _ => 0)) := (congrFun e_f79 qmy).trans (z_up_ne ne_qmy_qtr hf_qmy)
  have hm_qce : qce ∈ L78 := by rw [e_L78]; exact List.mem_append_left _ hm_qce
  have hf_qce : f79 qce = .inl (cy 2, 240, .inr (.inl (fun _ => 0))) := (congrFun e_f79 qce).trans (z_up_ne ne_qce_qtr hf_qce)
  have hm_qmv : qmv ∈ L78 := by rw [e_L78]; exact List.mem_append_left _ hm_qmv
  have hf_qmv : f79 qmv = .inl (cy 2, 60, .inr (.inl (fun _ => 0))) := (congrFun e_f79 qmv).trans (z_up_ne ne_qmv_qtr hf_qmv)
  have hm_qta : qta ∈ L78 := by rw [e_L78]; exact List.mem_append_left _ hm_qta
  have hf_qta : f79 qta = .inl (cy 0, 1600, .inl (fun _ => 0)) := (congrFun e_f79 qta).trans (z_up_ne ne_qta_qtr hf_qta)
  have hm_qli : qli ∈ L78 := by rw [e_L78]; exact List.mem_append_left _ hm_qli
  have hf_qli : f79 qli = .inl (cy 1, 5, .inl (fun _ => 0)) := (congrFun e_f79 qli).trans (z_up_ne ne_qli_qtr hf_qli)
  have hm_qha : qha ∈ L78 := by rw [e_L78]; exact List.mem_append_left _ hm_qha
  have hf_qha : f79 qha = .inl (cy 1, 30, .inl (fun _ => 0)) := (congrFun e_f79 qha).trans (z_up_ne ne_qha_qtr hf_qha)
  have hm_qlw : qlw ∈ L78 := by rw [e_L78]; exact List.mem_append_left _ hm_qlw
  have hf_qlw : f79 qlw = .inl (cy 1, 25, .inl (fun _ => 0)) := (congrFun e_f79 qlw).trans (z_up_ne ne_qlw_qtr hf_qlw)
  have hm_qst : qst ∈ L78 := by rw [e_L78]; exact List.mem_append_left _ hm_qst
  have hf_qst : f79 qst = .inl (cy 1, 20, .inl (fun _ => 0)) := (congrFun e_f79 qst).trans (z_up_ne ne_qst_qtr hf_qst)
  have hm_qfo : qfo ∈ L78 := by rw [e_L78]; exact List.mem_append_left _ hm_qfo
  have hf_qfo : f79 qfo = .inl (cy 1, 180, .inl (fun _ => 0)) := (congrFun e_f79 qfo).trans (z_up_ne ne_qfo_qtr hf_qfo)
  have hm_qdr : qdr ∈ L78 := by rw [e_L78]; exact List.mem_append_left _ hm_qdr
  have hf_qdr : f79 qdr = .inl (cy 1, 520, .inl (fun _ => 0)) := (congrFun e_f79 qdr).trans (z_up_ne ne_qdr_qtr hf_qdr)
  have hm_qik : qik ∈ L78 := by rw [e_L78]; exact List.mem_append_left _ hm_qik
  have hf_qik : f79 qik = .inl (cy 3, 3, .inl (fun _ => 0)) := (congrFun e_f79 qik).trans (z_up_ne ne_qik_qtr hf_qik)
  have hm_qro : qro ∈ L78 := by rw [e_L78]; exact List.mem_append_left _ hm_qro
  have hf_qro : f79 qro = .inl (cy 1, 13, .inl (fun _ => 0)) := (congrFun e_f79 qro).trans (z_up_ne ne_qro_qtr hf_qro)
  have hm_qct : qct ∈ L78 := by rw [e_L78]; exact List.mem_append_left _ hm_qct
  have hf_qct : f79 qct = .inl (cy 1, 4, .inl (fun _ => 0)) := (congrFun e_f79 qct).trans (z_up_ne ne_qct_qtr hf_qct)
  have hm_qse : qse ∈ L78 := by rw [e_L78]; exact List.mem_append_left _ hm_qse
  have hf_qse : f79 qse = .inl (cy 1, 36, .inl (fun _ => 0)) := (congrFun e_f79 qse).trans (z_up_ne ne_qse_qtr hf_qse)
  have hm_qth : qth ∈ L78 := by rw [e_L78]; exact List.mem_append_left _ hm_qth
  have hf_qth : f79 qth = .inl (cy 1, 36, .inl (fun _ => 0)) := (congrFun e_f79 qth).trans (z_up_ne ne_qth_qtr hf_qth)
  have hm_qcn : qcn ∈ L78 := by rw [e_L78]; exact List.mem_append_left _ hm_qcn
  have hf_qcn : f79 qcn = .inl (cy 1, 36, .inl (fun _ => 0)) := (congrFun e_f79 qcn).trans (z_up_ne ne_qcn_qtr hf_qcn)
  have hm_qbe : qbe ∈ L78 := by rw [e_L78]; exact List.mem_append_left _ hm_qbe
  have hf_qbe : f79 qbe = .inl (cy 1, 2574, .inl (fun _ => 0)) := (congrFun e_f79 qbe).trans (z_up_ne ne_qbe_qtr hf_qbe)
  have hm_qdu : qdu ∈ L78 := by rw [e_L78]; exact List.mem_append_left _ hm_qdu
  have hf_qdu : f79 qdu = .inl (cy 1, 5200, .inl (fun _ => 0)) := (congrFun e_f79 qdu).trans (z_up_ne ne_qdu_qtr hf_qdu)
  have hm_qdb : qdb ∈ L78 := by rw [e_L78]; exact List.mem_append_left _ hm_qdb
  have hf_qdb : f79 qdb = .inl (cy 1, 5, .inl (fun _ => 0)) := (congrFun e_f79 qdb).trans (z_up_ne ne_qdb_qtr hf_qdb)
  have hm_qpn : qpn ∈ L78 := by rw [e_L78]; exact List.mem_append_left _ hm_qpn
  have hf_qpn : f79 qpn = .inl (cy 1, 5, .inl (fun _ => 0)) := (congrFun e_f79 qpn).trans (z_up_ne ne_qpn_qtr hf_qpn)
  have hm_qwg : qwg ∈ L78 := by rw [e_L78]; exact List.mem_append_left _ hm_qwg
  have hf_qwg : f79 qwg = .inl (cy 1, 12, .inl (fun _ => 0)) := (congrFun e_f79 qwg).trans (z_up_ne ne_qwg_qtr hf_qwg)
  have hm_qwh : qwh ∈ L78 := by rw [e_L78]; exact List.mem_append_left _ hm_qwh
  have hf_qwh : f79 qwh = .inl (cy 1, 12, .inl (fun _ => 0)) := (congrFun e_f79 qwh).trans (z_up_ne ne_qwh_qtr hf_qwh)
  have hm_qtn : qtn ∈ L78 := by rw [e_L78]; exact List.mem_append_left _ hm_qtn
  have hf_qtn : f79 qtn = .inl (cy 1, 12, .inl (fun _ => 0)) := (congrFun e_f79 qtn).trans (z_up_ne ne_qtn_qtr hf_qtn)
  have hm_qhe : qhe ∈ L78 := by rw [e_L78]; exact List.mem_append_left _ hm_qhe
  have hf_qhe : f79 qhe = .inl (cy 1, 13, .inl (fun _ => 0)) := (congrFun e_f79 qhe).trans (z_up_ne ne_qhe_qtr hf_qhe)
  have hm_qtr : qtr ∈ L78 := by rw [e_L78]; exact List.mem_append_right _ (List.mem_singleton.mpr rfl)
  have hf_qtr : f79 qtr = .inl (cy 1, 6, .inl (fun _ => 0)) := (congrFun e_f79 qtr).trans z_up_self
  have hsub : ∀ b ∈ L, b ∈ L78 := fun b h => by rw [e_L78]; exact List.mem_append_left _ (hsub b h)
  have hfr : ∀ b ∈ L, b ≠ me → f79 b = f b := fun b hb h0 => (congrFun e_f79 b).trans (z_up_ne (z_ne hb hn_qtr) (hfr b hb h0))
  refine z_putF (C := RX10) (T := TX10) (N := 54) (ci := 10) (v := .ref qtr) (fs' := [.int 0, .ref qwd, .ref qmy, .ref qce, .ref qmv, .ref qta, .int 0, .int 0, .int 0, .int 0, .int 0, .long 0, .int 0, .int 0, .int 0, .int (-1), .ref qli, .ref qha, .ref qlw, .ref qst, .ref qfo, .ref qdr, .int 0, .ref qik, .int (-1), .int 0, .long 0, .int 0, .int 0, .ref qro, .int 0, .ref qct, .ref qse, .ref qth, .ref qcn, .ref qbe, .int 0, .ref qdu, .int 0, .ref qdb, .int 0, .int 0, .int 0, .ref qpn, .ref qwg, .ref qwh, .ref qtn, .ref qhe, .int 0, .ref qtr, .null, .null, .int 0, .int 0]) hx hb hT zin_X10 tyX10_ok nmX10 hown hK hw hm_me hf_me rfl 49 (by decide) (hT _ kw_1217) rfl hnm rfl rfl rfl (Nat.le_of_ble_eq_true rfl) rfl dX10_init_218 (fun H locs hw => ?_)
  obtain ⟨f80, e_f80⟩ : ∃ z, z = va_up f79 me (.inr (10, [.int 0, .ref qwd, .ref qmy, .ref qce, .ref qmv, .ref qta, .int 0, .int 0, .int 0, .int 0, .int 0, .long 0, .int 0, .int 0, .int 0, .int (-1), .ref qli, .ref qha, .ref qlw, .ref qst, .ref qfo, .ref qdr, .int 0, .ref qik, .int (-1), .int 0, .long 0, .int 0, .int 0, .ref qro, .int 0, .ref qct, .ref qse, .ref qth, .ref qcn, .ref qbe, .int 0, .ref qdu, .int 0, .ref qdb, .int 0, .int 0, .int 0, .ref qpn, .ref qwg, .ref qwh, .ref qtn, .ref qhe, .int 0, .ref qtr, .null, .null, .int 0, .int 0])) := ⟨_, rfl⟩
  rw [← e_f80] at hw
  have hf_qwd : f80 qwd = .inl (cy 1, 4, .inl (fun _ => 0)) := (congrFun e_f80 qwd).trans (z_up_ne (Ne.symm ne_me_qwd) hf_qwd)
  have hf_qmy : f80 qmy = .inl (cy 1, 4, .inl (fun _ => 0)) := (congrFun e_f80 qmy).trans (z_up_ne (Ne.symm ne_me_qmy) hf_qmy)
  have hf_qce : f80 qce = .inl (cy 2, 240, .inr (.inl (fun _ => 0))) := (congrFun e_f80 qce).trans (z_up_ne (Ne.symm ne_me_qce) hf_qce)
  have hf_qmv : f80 qmv = .inl (cy 2, 60, .inr (.inl (fun _ => 0))) := (congrFun e_f80 qmv).trans (z_up_ne (Ne.symm ne_me_qmv) hf_qmv)
  have hf_qta : f80 qta = .inl (cy 0, 1600, .inl (fun _ => 0)) := (congrFun e_f80 qta).trans (z_up_ne (Ne.symm ne_me_qta) hf_qta)
  have hf_qli : f80 qli = .inl (cy 1, 5, .inl (fun _ => 0)) := (congrFun e_f80 qli).trans (z_up_ne (Ne.symm ne_me_qli) hf_qli)
  have hf_qha : f80 qha = .inl (cy 1, 30, .inl (fun _ => 0)) := (congrFun e_f80 qha).trans (z_up_ne (Ne.symm ne_me_qha) hf_qha)
  have hf_qlw : f80 qlw = .inl (cy 1, 25, .inl (fun _ => 0)) := (congrFun e_f80 qlw).trans (z_up_ne (Ne.symm ne_me_qlw) hf_qlw)
  have hf_qst : f80 qst = .inl (cy 1, 20, .inl (fun _ => 0)) := (congrFun e_f80 qst).trans (z_up_ne (Ne.symm ne_me_qst) hf_qst)
  have hf_qfo : f80 qfo = .inl (cy 1, 180, .inl (fun _ => 0)) := (congrFun e_f80 qfo).trans (z_up_ne (Ne.symm ne_me_qfo) hf_qfo)
  have hf_qdr : f80 qdr = .inl (cy 1, 520, .inl (fun _ => 0)) := (congrFun e_f80 qdr).trans (z_up_ne (Ne.symm ne_me_qdr) hf_qdr)
  have hf_qik : f80 qik = .inl (cy 3, 3, .inl (fun _ => 0)) := (congrFun e_f80 qik).trans (z_up_ne (Ne.symm ne_me_qik) hf_qik)
  have hf_qro : f80 qro = .inl (cy 1, 13, .inl (fun _ => 0)) := (congrFun e_f80 qro).trans (z_up_ne (Ne.symm ne_me_qro) hf_qro)
  have hf_qct : f80 qct = .inl (cy 1, 4, .inl (fun _ => 0)) := (congrFun e_f80 qct).trans (z_up_ne (Ne.symm ne_me_qct) hf_qct)
  have hf_qse : f80 qse = .inl (cy 1, 36, .inl (fun _ => 0)) := (congrFun e_f80 qse).trans (z_up_ne (Ne.symm ne_me_qse) hf_qse)
  have hf_qth : f80 qth = .inl (cy 1, 36, .inl (fun _ => 0)) := (congrFun e_f80 qth).trans (z_up_ne (Ne.symm ne_me_qth) hf_qth)
  have hf_qcn : f80 qcn = .inl (cy 1, 36, .inl (fun _ => 0)) := (congrFun e_f80 qcn).trans (z_up_ne (Ne.symm ne_me_qcn) hf_qcn)
  have hf_qbe : f80 qbe = .inl (cy 1, 2574, .inl (fun _ => 0)) := (congrFun e_f80 qbe).trans (z_up_ne (Ne.symm ne_me_qbe) hf_qbe)
  have hf_qdu : f80 qdu = .inl (cy 1, 5200, .inl (fun _ => 0)) := (congrFun e_f80 qdu).trans (z_up_ne (Ne.symm ne_me_qdu) hf_qdu)
  have hf_qdb : f80 qdb = .inl (cy 1, 5, .inl (fun _ => 0)) := (congrFun e_f80 qdb).trans (z_up_ne (Ne.symm ne_me_qdb) hf_qdb)
  have hf_qpn : f80 qpn = .inl (cy 1, 5, .inl (fun _ => 0)) := (congrFun e_f80 qpn).trans (z_up_ne (Ne.symm ne_me_qpn) hf_qpn)
  have hf_qwg : f80 qwg = .inl (cy 1, 12, .inl (fun _ => 0)) := (congrFun e_f80 qwg).trans (z_up_ne (Ne.symm ne_me_qwg) hf_qwg)
  have hf_qwh : f80 qwh = .inl (cy 1, 12, .inl (fun _ => 0)) := (congrFun e_f80 qwh).trans (z_up_ne (Ne.symm ne_me_qwh) hf_qwh)
  have hf_qtn : f80 qtn = .inl (cy 1, 12, .inl (fun _ => 0)) := (congrFun e_f80 qtn).trans (z_up_ne (Ne.symm ne_me_qtn) hf_qtn)
  have hf_qhe : f80 qhe = .inl (cy 1, 13, .inl (fun _ => 0)) := (congrFun e_f80 qhe).trans (z_up_ne (Ne.symm ne_me_qhe) hf_qhe)
  have hf_qtr : f80 qtr = .inl (cy 1, 6, .inl (fun _ => 0)) := (congrFun e_f80 qtr).trans (z_up_ne (Ne.symm ne_me_qtr) hf_qtr)
  have hf_me : f80 me = .inr (10, [.int 0, .ref qwd, .ref qmy, .ref qce, .ref qmv, .ref qta, .int 0, .int 0, .int 0, .int 0, .int 0, .long 0, .int 0, .int 0, .int 0, .int (-1), .ref qli, .ref qha, .ref qlw, .ref qst, .ref qfo, .ref qdr, .int 0, .ref qik, .int (-1), .int 0, .long 0, .int 0, .int 0, .ref qro, .int 0, .ref qct, .ref qse, .ref qth, .ref qcn, .ref qbe, .int 0, .ref qdu, .int 0, .ref qdb, .int 0, .int 0, .int 0, .ref qpn, .ref qwg, .ref qwh, .ref qtn, .ref qhe, .int 0, .ref qtr, .null, .null, .int 0, .int 0]) := (congrFun e_f80 me).trans z_up_self
  have hfr : ∀ b ∈ L, b ≠ me → f80 b = f b := fun b hb h0 => (congrFun e_f80 b).trans (z_up_ne h0 (hfr b hb h0))
  refine lv_aload_n hx hb dX10_init_221 rfl (lv_at hl 0 rfl) ?_
  refine lv_bipush (v := 6) hx hb dX10_init_222 (by decide) ?_
  refine z_newa (atype := .int) (n := 6) (N' := 6) (a0 := (6, .inl (fun _ => 0))) (cells := 26) (slots := 10655) hx hb (hT _ kw_203) rfl 1 rfl (fun _ h => by cases h) hK hw hA (fun _ => rfl) (by decide) (by decide) (by decide) (by decide) (by decide) dX10_init_224 (fun qfd H hq_qfd hw => ?_)
  refine W.widen (k := 27) (n := 10661) (by decide) (by decide) ?_
  have ne_me_qfd : me ≠ qfd := z_ne hm_me hq_qfd
  have ne_qwd_qfd : qwd ≠ qfd := z_ne hm_qwd hq_qfd
  have ne_qmy_qfd : qmy ≠ qfd := z_ne hm_qmy hq_qfd
  have ne_qce_qfd : qce ≠ qfd := z_ne hm_qce hq_qfd
  have ne_qmv_qfd : qmv ≠ qfd := z_ne hm_qmv hq_qfd
  have ne_qta_qfd : qta ≠ qfd := z_ne hm_qta hq_qfd
  have ne_qli_qfd : qli ≠ qfd := z_ne hm_qli hq_qfd
  have ne_qha_qfd : qha ≠ qfd := z_ne hm_qha hq_qfd
  have ne_qlw_qfd : qlw ≠ qfd := z_ne hm_qlw hq_qfd
  have ne_qst_qfd : qst ≠ qfd := z_ne hm_qst hq_qfd
  have ne_qfo_qfd : qfo ≠ qfd := z_ne hm_qfo hq_qfd
  have ne_qdr_qfd : qdr ≠ qfd := z_ne hm_qdr hq_qfd
  have ne_qik_qfd : qik ≠ qfd := z_ne hm_qik hq_qfd
  have ne_qro_qfd : qro ≠ qfd := z_ne hm_qro hq_qfd
  have ne_qct_qfd : qct ≠ qfd := z_ne hm_qct hq_qfd
  have ne_qse_qfd : qse ≠ qfd := z_ne hm_qse hq_qfd
  have ne_qth_qfd : qth ≠ qfd := z_ne hm_qth hq_qfd
  have ne_qcn_qfd : qcn ≠ qfd := z_ne hm_qcn hq_qfd
  have ne_qbe_qfd : qbe ≠ qfd := z_ne hm_qbe hq_qfd
  have ne_qdu_qfd : qdu ≠ qfd := z_ne hm_qdu hq_qfd
  have ne_qdb_qfd : qdb ≠ qfd := z_ne hm_qdb hq_qfd
  have ne_qpn_qfd : qpn ≠ qfd := z_ne hm_qpn hq_qfd
  have ne_qwg_qfd : qwg ≠ qfd := z_ne hm_qwg hq_qfd
  have ne_qwh_qfd : qwh ≠ qfd := z_ne hm_qwh hq_qfd
  have ne_qtn_qfd : qtn ≠ qfd := z_ne hm_qtn hq_qfd
  have ne_qhe_qfd : qhe ≠ qfd := z_ne hm_qhe hq_qfd
  have ne_qtr_qfd : qtr ≠ qfd := z_ne hm_qtr hq_qfd
  have hn_qfd : qfd ∉ L := fun h => hq_qfd (hsub _ h)
  obtain ⟨f82, e_f82⟩ : ∃ z, z = va_up f80 qfd (.inl (cy 1, 6, .inl (fun _ => 0))) := ⟨_, rfl⟩
  obtain ⟨L81, e_L81⟩ : ∃ z, z = L78 ++ [qfd] := ⟨_, rfl⟩
  rw [← e_f82, ← e_L81] at hw
  have hm_me : me ∈ L81 := by rw [e_L81]; exact List.mem_append_left _ hm_me
  have hf_me : f82 me = .inr (10, [.int 0, .ref qwd, .ref qmy, .ref qce, .ref qmv, .ref qta, .int 0, .int 0, .int 0, .int 0, .int 0, .long 0, .int 0, .int 0, .int 0, .int (-1), .ref qli, .ref qha, .ref qlw, .ref qst, .ref qfo, .ref qdr, .int 0, .ref qik, .int (-1), .int 0, .long 0, .int 0, .int 0, .ref qro, .int 0, .ref qct, .ref qse, .ref qth, .ref qcn, .ref qbe, .int 0, .ref qdu, .int 0, .ref qdb, .int 0, .int 0, .int 0, .ref qpn, .ref qwg, .ref qwh, .ref qtn, .ref qhe, .int 0, .ref qtr, .null, .null, .int 0, .int 0]) := (congrFun e_f82 me).trans (z_up_ne ne_me_qfd hf_me)
  have hm_qwd : qwd ∈ L81 := by rw [e_L81]; exact List.mem_append_left _ hm_qwd
  have hf_qwd : f82 qwd = .inl (cy 1, 4, .inl (fun _ => 0)) := (congrFun e_f82 qwd).trans (z_up_ne ne_qwd_qfd hf_qwd)
  have hm_qmy : qmy ∈ L81 := by rw [e_L81]; exact List.mem_append_left _ hm_qmy
  have hf_qmy : f82 qmy = .inl (cy 1, 4, .inl (fun _ => 0)) := (congrFun e_f82 qmy).trans (z_up_ne ne_qmy_qfd hf_qmy)
  have hm_qce : qce ∈ L81 := by rw [e_L81]; exact List.mem_append_left _ hm_qce
  have hf_qce : f82 qce = .inl (cy 2, 240, .inr (.inl (fun _ => 0))) := (congrFun e_f82 qce).trans (z_up_ne ne_qce_qfd hf_qce)
  have hm_qmv : qmv ∈ L81 := by rw [e_L81]; exact List.mem_append_left _ hm_qmv
  have hf_qmv : f82 qmv = .inl (cy 2, 60, .inr (.inl (fun _ => 0))) := (congrFun e_f82 qmv).trans (z_up_ne ne_qmv_qfd hf_qmv)
  have hm_qta : qta ∈ L81 := by rw [e_L81]; exact List.mem_append_left _ hm_qta
  have hf_qta : f82 qta = .inl (cy 0, 1600, .inl (fun _ => 0)) := (congrFun e_f82 qta).trans (z_up_ne ne_qta_qfd hf_qta)
  have hm_qli : qli ∈ L81 := by rw [e_L81]; exact List.mem_append_left _ hm_qli
  have hf_qli : f82 qli = .inl (cy 1, 5, .inl (fun _ => 0)) := (congrFun e_f82 qli).trans (z_up_ne ne_qli_qfd hf_qli)
  have hm_qha : qha ∈ L81 := by rw [e_L81]; exact List.mem_append_left _ hm_qha
  have hf_qha : f82 qha = .inl (cy 1, 30, .inl (fun _ => 0)) := (congrFun e_f82 qha).trans (z_up_ne ne_qha_qfd hf_qha)
  have hm_qlw : qlw ∈ L81 := by rw [e_L81]; exact List.mem_append_left _ hm_qlw
  have hf_qlw : f82 qlw = .inl (cy 1, 25, .inl (fun _ => 0)) := (congrFun e_f82 qlw).trans (z_up_ne ne_qlw_qfd hf_qlw)
  have hm_qst : qst ∈ L81 := by rw [e_L81]; exact List.mem_append_left _ hm_qst
  have hf_qst : f82 qst = .inl (cy 1, 20, .inl (fun _ => 0)) := (congrFun e_f82 qst).trans (z_up_ne ne_qst_qfd hf_qst)
  have hm_qfo : qfo ∈ L81 := by rw [e_L81]; exact List.mem_append_left _ hm_qfo
  have hf_qfo : f82 qfo = .inl (cy 1, 180, .inl (fun _ => 0)) := (congrFun e_f82 qfo).trans (z_up_ne ne_qfo_qfd hf_qfo)
  have hm_qdr : qdr ∈ L81 := by rw [e_L81]; exact List.mem_append_left _ hm_qdr
  have hf_qdr : f82 qdr = .inl (cy 1, 520, .inl (fun _ => 0)) := (congrFun e_f82 qdr).trans (z_up_ne ne_qdr_qfd hf_qdr)
  have hm_qik : qik ∈ L81 := by rw [e_L81]; exact List.mem_append_left _ hm_qik
  have hf_qik : f82 qik = .inl (cy 3, 3, .inl (fun _ => 0)) := (congrFun e_f82 qik).trans (z_up_ne ne_qik_qfd hf_qik)
  have hm_qro : qro ∈ L81 := by rw [e_L81]; exact List.mem_append_left _ hm_qro
  have hf_qro : f82 qro = .inl (cy 1, 13, .inl (fun _ => 0)) := (congrFun e_f82 qro).trans (z_up_ne ne_qro_qfd hf_qro)
  have hm_qct : qct ∈ L81 := by rw [e_L81]; exact List.mem_append_left _ hm_qct
  have hf_qct : f82 qct = .inl (cy 1, 4, .inl (fun _ => 0)) := (congrFun e_f82 qct).trans (z_up_ne ne_qct_qfd hf_qct)
  have hm_qse : qse ∈ L81 := by rw [e_L81]; exact List.mem_append_left _ hm_qse
  have hf_qse : f82 qse = .inl (cy 1, 36, .inl (fun _ => 0)) := (congrFun e_f82 qse).trans (z_up_ne ne_qse_qfd hf_qse)
  have hm_qth : qth ∈ L81 := by rw [e_L81]; exact List.mem_append_left _ hm_qth
  have hf_qth : f82 qth = .inl (cy 1, 36, .inl (fun _ => 0)) := (congrFun e_f82 qth).trans (z_up_ne ne_qth_qfd hf_qth)
  have hm_qcn : qcn ∈ L81 := by rw [e_L81]; exact List.mem_append_left _ hm_qcn
  have hf_qcn : f82 qcn = .inl (cy 1, 36, .inl (fun _ => 0)) := (congrFun e_f82 qcn).trans (z_up_ne ne_qcn_qfd hf_qcn)
  have hm_qbe : qbe ∈ L81 := by rw [e_L81]; exact List.mem_append_left _ hm_qbe
  have hf_qbe : f82 qbe = .inl (cy 1, 2574, .inl (fun _ => 0)) := (congrFun e_f82 qbe).trans (z_up_ne ne_qbe_qfd hf_qbe)
  have hm_qdu : qdu ∈ L81 := by rw [e_L81]; exact List.mem_append_left _ hm_qdu
  have hf_qdu : f82 qdu = .inl (cy 1, 5200, .inl (fun _ => 0)) := (congrFun e_f82 qdu).trans (z_up_ne ne_qdu_qfd hf_qdu)
  have hm_qdb : qdb ∈ L81 := by rw [e_L81]; exact List.mem_append_left _ hm_qdb
  have hf_qdb : f82 qdb = .inl (cy 1, 5, .inl (fun _ => 0)) := (congrFun e_f82 qdb).trans (z_up_ne ne_qdb_qfd hf_qdb)
  have hm_qpn : qpn ∈ L81 := by rw [e_L81]; exact List.mem_append_left _ hm_qpn
  have hf_qpn : f82 qpn = .inl (cy 1, 5, .inl (fun _ => 0)) := (congrFun e_f82 qpn).trans (z_up_ne ne_qpn_qfd hf_qpn)
  have hm_qwg : qwg ∈ L81 := by rw [e_L81]; exact List.mem_append_left _ hm_qwg
  have hf_qwg : f82 qwg = .inl (cy 1, 12, .inl (fun _ => 0)) := (congrFun e_f82 qwg).trans (z_up_ne ne_qwg_qfd hf_qwg)
  have hm_qwh : qwh ∈ L81 := by rw [e_L81]; exact List.mem_append_left _ hm_qwh
  have hf_qwh : f82 qwh = .inl (cy 1, 12, .inl (fun _ => 0)) := (congrFun e_f82 qwh).trans (z_up_ne ne_qwh_qfd hf_qwh)
  have hm_qtn : qtn ∈ L81 := by rw [e_L81]; exact List.mem_append_left _ hm_qtn
  have hf_qtn : f82 qtn = .inl (cy 1, 12, .inl (fun _ => 0)) := (congrFun e_f82 qtn).trans (z_up_ne ne_qtn_qfd hf_qtn)
  have hm_qhe : qhe ∈ L81 := by rw [e_L81]; exact List.mem_append_left _ hm_qhe
  have hf_qhe : f82 qhe = .inl (cy 1, 13, .inl (fun _ => 0)) := (congrFun e_f82 qhe).trans (z_up_ne ne_qhe_qfd hf_qhe)
  have hm_qtr : qtr ∈ L81 := by rw [e_L81]; exact List.mem_append_left _ hm_qtr
  have hf_qtr : f82 qtr = .inl (cy 1, 6, .inl (fun _ => 0)) := (congrFun e_f82 qtr).trans (z_up_ne ne_qtr_qfd hf_qtr)
  have hm_qfd : qfd ∈ L81 := by rw [e_L81]; exact List.mem_append_right _ (List.mem_singleton.mpr rfl)
  have hf_qfd : f82 qfd = .inl (cy 1, 6, .inl (fun _ => 0)) := (congrFun e_f82 qfd).trans z_up_self
  have hsub : ∀ b ∈ L, b ∈ L81 := fun b h => by rw [e_L81]; exact List.mem_append_left _ (hsub b h)
  have hfr : ∀ b ∈ L, b ≠ me → f82 b = f b := fun b hb h0 => (congrFun e_f82 b).trans (z_up_ne (z_ne hb hn_qfd) (hfr b hb h0))
  refine z_putF (C := RX10) (T := TX10) (N := 54) (ci := 10) (v := .ref qfd) (fs' := [.int 0, .ref qwd, .ref qmy, .ref qce, .ref qmv, .ref qta, .int 0, .int 0, .int 0, .int 0, .int 0, .long 0, .int 0, .int 0, .int 0, .int (-1), .ref qli, .ref qha, .ref qlw, .ref qst, .ref qfo, .ref qdr, .int 0, .ref qik, .int (-1), .int 0, .long 0, .int 0, .int 0, .ref qro, .int 0, .ref qct, .ref qse, .ref qth, .ref qcn, .ref qbe, .int 0, .ref qdu, .int 0, .ref qdb, .int 0, .int 0, .int 0, .ref qpn, .ref qwg, .ref qwh, .ref qtn, .ref qhe, .int 0, .ref qtr, .ref qfd, .null, .int 0, .int 0]) hx hb hT zin_X10 tyX10_ok nmX10 hown hK hw hm_me hf_me rfl 50 (by decide) (hT _ kw_1218) rfl hnm rfl rfl rfl (Nat.le_of_ble_eq_true rfl) rfl dX10_init_226 (fun H locs hw => ?_)
  obtain ⟨f83, e_f83⟩ : ∃ z, z = va_up f82 me (.inr (10, [.int 0, .ref qwd, .ref qmy, .ref qce, .ref qmv, .ref qta, .int 0, .int 0, .int 0, .int 0, .int 0, .long 0, .int 0, .int 0, .int 0, .int (-1), .ref qli, .ref qha, .ref qlw, .ref qst, .ref qfo, .ref qdr, .int 0, .ref qik, .int (-1), .int 0, .long 0, .int 0, .int 0, .ref qro, .int 0, .ref qct, .ref qse, .ref qth, .ref qcn, .ref qbe, .int 0, .ref qdu, .int 0, .ref qdb, .int 0, .int 0, .int 0, .ref qpn, .ref qwg, .ref qwh, .ref qtn, .ref qhe, .int 0, .ref qtr, .ref qfd, .null, .int 0, .int 0])) := ⟨_, rfl⟩
  rw [← e_f83] at hw
  have hf_qwd : f83 qwd = .inl (cy 1, 4, .inl (fun _ => 0)) := (congrFun e_f83 qwd).trans (z_up_ne (Ne.symm ne_me_qwd) hf_qwd)
  have hf_qmy : f83 qmy = .inl (cy 1, 4, .inl (fun _ => 0)) := (congrFun e_f83 qmy).trans (z_up_ne (Ne.symm ne_me_qmy) hf_qmy)
  have hf_qce : f83 qce = .inl (cy 2, 240, .inr (.inl (fun _ => 0))) := (congrFun e_f83 qce).trans (z_up_ne (Ne.symm ne_me_qce) hf_qce)
  have hf_qmv : f83 qmv = .inl (cy 2, 60, .inr (.inl (fun _ => 0))) := (congrFun e_f83 qmv).trans (z_up_ne (Ne.symm ne_me_qmv) hf_qmv)
  have hf_qta : f83 qta = .inl (cy 0, 1600, .inl (fun _ => 0)) := (congrFun e_f83 qta).trans (z_up_ne (Ne.symm ne_me_qta) hf_qta)
  have hf_qli : f83 qli = .inl (cy 1, 5, .inl (fun _ => 0)) := (congrFun e_f83 qli).trans (z_up_ne (Ne.symm ne_me_qli) hf_qli)
  have hf_qha : f83 qha = .inl (cy 1, 30, .inl (fun _ => 0)) := (congrFun e_f83 qha).trans (z_up_ne (Ne.symm ne_me_qha) hf_qha)
  have hf_qlw : f83 qlw = .inl (cy 1, 25, .inl (fun _ => 0)) := (congrFun e_f83 qlw).trans (z_up_ne (Ne.symm ne_me_qlw) hf_qlw)
  have hf_qst : f83 qst = .inl (cy 1, 20, .inl (fun _ => 0)) := (congrFun e_f83 qst).trans (z_up_ne (Ne.symm ne_me_qst) hf_qst)
  have hf_qfo : f83 qfo = .inl (cy 1, 180, .inl (fun _ => 0)) := (congrFun e_f83 qfo).trans (z_up_ne (Ne.symm ne_me_qfo) hf_qfo)
  have hf_qdr : f83 qdr = .inl (cy 1, 520, .inl (fun _ => 0)) := (congrFun e_f83 qdr).trans (z_up_ne (Ne.symm ne_me_qdr) hf_qdr)
  have hf_qik : f83 qik = .inl (cy 3, 3, .inl (fun _ => 0)) := (congrFun e_f83 qik).trans (z_up_ne (Ne.symm ne_me_qik) hf_qik)
  have hf_qro : f83 qro = .inl (cy 1, 13, .inl (fun _ => 0)) := (congrFun e_f83 qro).trans (z_up_ne (Ne.symm ne_me_qro) hf_qro)
  have hf_qct : f83 qct = .inl (cy 1, 4, .inl (fun _ => 0)) := (congrFun e_f83 qct).trans (z_up_ne (Ne.symm ne_me_qct) hf_qct)
  have hf_qse : f83 qse = .inl (cy 1, 36, .inl (fun _ => 0)) := (congrFun e_f83 qse).trans (z_up_ne (Ne.symm ne_me_qse) hf_qse)
  have hf_qth : f83 qth = .inl (cy 1, 36, .inl (fun _ => 0)) := (congrFun e_f83 qth).trans (z_up_ne (Ne.symm ne_me_qth) hf_qth)
  have hf_qcn : f83 qcn = .inl (cy 1, 36, .inl (fun _ => 0)) := (congrFun e_f83 qcn).trans (z_up_ne (Ne.symm ne_me_qcn) hf_qcn)
  have hf_qbe : f83 qbe = .inl (cy 1, 2574, .inl (fun _ => 0)) := (congrFun e_f83 qbe).trans (z_up_ne (Ne.symm ne_me_qbe) hf_qbe)
  have hf_qdu : f83 qdu = .inl (cy 1, 5200, .inl (fun _ => 0)) := (congrFun e_f83 qdu).trans (z_up_ne (Ne.symm ne_me_qdu) hf_qdu)
  have hf_qdb : f83 qdb = .inl (cy 1, 5, .inl (fun _ => 0)) := (congrFun e_f83 qdb).trans (z_up_ne (Ne.symm ne_me_qdb) hf_qdb)
  have hf_qpn : f83 qpn = .inl (cy 1, 5, .inl (fun _ => 0)) := (congrFun e_f83 qpn).trans (z_up_ne (Ne.symm ne_me_qpn) hf_qpn)
  have hf_qwg : f83 qwg = .inl (cy 1, 12, .inl (fun _ => 0)) := (congrFun e_f83 qwg).trans (z_up_ne (Ne.symm ne_me_qwg) hf_qwg)
  have hf_qwh : f83 qwh = .inl (cy 1, 12, .inl (fun _ => 0)) := (congrFun e_f83 qwh).trans (z_up_ne (Ne.symm ne_me_qwh) hf_qwh)
  have hf_qtn : f83 qtn = .inl (cy 1, 12, .inl (fun _ => 0)) := (congrFun e_f83 qtn).trans (z_up_ne (Ne.symm ne_me_qtn) hf_qtn)
  have hf_qhe : f83 qhe = .inl (cy 1, 13, .inl (fun _ => 0)) := (congrFun e_f83 qhe).trans (z_up_ne (Ne.symm ne_me_qhe) hf_qhe)
  have hf_qtr : f83 qtr = .inl (cy 1, 6, .inl (fun _ => 0)) := (congrFun e_f83 qtr).trans (z_up_ne (Ne.symm ne_me_qtr) hf_qtr)
  have hf_qfd : f83 qfd = .inl (cy 1, 6, .inl (fun _ => 0)) := (congrFun e_f83 qfd).trans (z_up_ne (Ne.symm ne_me_qfd) hf_qfd)
  have hf_me : f83 me = .inr (10, [.int 0, .ref qwd, .ref qmy, .ref qce, .ref qmv, .ref qta, .int 0, .int 0, .int 0, .int 0, .int 0, .long 0, .int 0, .int 0, .int 0, .int (-1), .ref qli, .ref qha, .ref qlw, .ref qst, .ref qfo, .ref qdr, .int 0, .ref qik, .int (-1), .int 0, .long 0, .int 0, .int 0, .ref qro, .int 0, .ref qct, .ref qse, .ref qth, .ref qcn, .ref qbe, .int 0, .ref qdu, .int 0, .ref qdb, .int 0, .int 0, .int 0, .ref qpn, .ref qwg, .ref qwh, .ref qtn, .ref qhe, .int 0, .ref qtr, .ref qfd, .null, .int 0, .int 0]) := (congrFun e_f83 me).trans z_up_self
  have hfr : ∀ b ∈ L, b ≠ me → f83 b = f b := fun b hb h0 => (congrFun e_f83 b).trans (z_up_ne h0 (hfr b hb h0))
  refine lv_aload_n hx hb dX10_init_229 rfl (lv_at hl 0 rfl) ?_
  refine lv_bipush (v := 13) hx hb dX10_init_230 (by decide) ?_
  refine z_newa (atype := .int) (n := 13) (N' := 13) (a0 := (13, .inl (fun _ => 0))) (cells := 27) (slots := 10661) hx hb (hT _ kw_203) rfl 1 rfl (fun _ h => by cases h) hK hw hA (fun _ => rfl) (by decide) (by decide) (by decide) (by decide) (by decide) dX10_init_232 (fun qpo H hq_qpo hw => ?_)
  refine W.widen (k := 28) (n := 10674) (by decide) (by decide) ?_
  have ne_me_qpo : me ≠ qpo := z_ne hm_me hq_qpo
  have ne_qwd_qpo : qwd ≠ qpo := z_ne hm_qwd hq_qpo
  have ne_qmy_qpo : qmy ≠ qpo := z_ne hm_qmy hq_qpo
  have ne_qce_qpo : qce ≠ qpo := z_ne hm_qce hq_qpo
  have ne_qmv_qpo : qmv ≠ qpo := z_ne hm_qmv hq_qpo
  have ne_qta_qpo : qta ≠ qpo := z_ne hm_qta hq_qpo
  have ne_qli_qpo : qli ≠ qpo := z_ne hm_qli hq_qpo
  have ne_qha_qpo : qha ≠ qpo := z_ne hm_qha hq_qpo
  have ne_qlw_qpo : qlw ≠ qpo := z_ne hm_qlw hq_qpo
  have ne_qst_qpo : qst ≠ qpo := z_ne hm_qst hq_qpo
  have ne_qfo_qpo : qfo ≠ qpo := z_ne hm_qfo hq_qpo
  have ne_qdr_qpo : qdr ≠ qpo := z_ne hm_qdr hq_qpo
  have ne_qik_qpo : qik ≠ qpo := z_ne hm_qik hq_qpo
  have ne_qro_qpo : qro ≠ qpo := z_ne hm_qro hq_qpo
  have ne_qct_qpo : qct ≠ qpo := z_ne hm_qct hq_qpo
  have ne_qse_qpo : qse ≠ qpo := z_ne hm_qse hq_qpo
  have ne_qth_qpo : qth ≠ qpo := z_ne hm_qth hq_qpo
  have ne_qcn_qpo : qcn ≠ qpo := z_ne hm_qcn hq_qpo
  have ne_qbe_qpo : qbe ≠ qpo := z_ne hm_qbe hq_qpo
  have ne_qdu_qpo : qdu ≠ qpo := z_ne hm_qdu hq_qpo
  have ne_qdb_qpo : qdb ≠ qpo := z_ne hm_qdb hq_qpo
  have ne_qpn_qpo : qpn ≠ qpo := z_ne hm_qpn hq_qpo
  have ne_qwg_qpo : qwg ≠ qpo := z_ne hm_qwg hq_qpo
  have ne_qwh_qpo : qwh ≠ qpo := z_ne hm_qwh hq_qpo
  have ne_qtn_qpo : qtn ≠ qpo := z_ne hm_qtn hq_qpo
  have ne_qhe_qpo : qhe ≠ qpo := z_ne hm_qhe hq_qpo
  have ne_qtr_qpo : qtr ≠ qpo := z_ne hm_qtr hq_qpo
  have ne_qfd_qpo : qfd ≠ qpo := z_ne hm_qfd hq_qpo
  have hn_qpo : qpo ∉ L := fun h => hq_qpo (hsub _ h)
  obtain ⟨f85, e_f85⟩ : ∃ z, z = va_up f83 qpo (.inl (cy 1, 13, .inl (fun _ => 0))) := ⟨_, rfl⟩
  obtain ⟨L84, e_L84⟩ : ∃ z, z = L81 ++ [qpo] := ⟨_, rfl⟩
  rw [← e_f85, ← e_L84] at hw
  have hm_me : me ∈ L84 := by rw [e_L84]; exact List.mem_append_left _ hm_me
  have hf_me : f85 me = .inr (10, [.int 0, .ref qwd, .ref qmy, .ref qce, .ref qmv, .ref qta, .int 0, .int 0, .int 0, .int 0, .int 0, .long 0, .int 0, .int 0, .int 0, .int (-1), .ref qli, .ref qha, .ref qlw, .ref qst, .ref qfo, .ref qdr, .int 0, .ref qik, .int (-1), .int 0, .long 0, .int 0, .int 0, .ref qro, .int 0, .ref qct, .ref qse, .ref qth, .ref qcn, .ref qbe, .int 0, .ref qdu, .int 0, .ref qdb, .int 0, .int 0, .int 0, .ref qpn, .ref qwg, .ref qwh, .ref qtn, .ref qhe, .int 0, .ref qtr, .ref qfd, .null, .int 0, .int 0]) := (congrFun e_f85 me).trans (z_up_ne ne_me_qpo hf_me)
  have hm_qwd : qwd ∈ L84 := by rw [e_L84]; exact List.mem_append_left _ hm_qwd
  have hf_qwd : f85 qwd = .inl (cy 1, 4, .inl (fun _ => 0)) := (congrFun e_f85 qwd).trans (z_up_ne ne_qwd_qpo hf_qwd)
  have hm_qmy : qmy ∈ L84 := by rw [e_L84]; exact List.mem_append_left _ hm_qmy
  have hf_qmy : f85 qmy = .inl (cy 1, 4, .inl (fun _ => 0)) := (congrFun e_f85 qmy).trans (z_up_ne ne_qmy_qpo hf_qmy)
  have hm_qce : qce ∈ L84 := by rw [e_L84]; exact List.mem_append_left _ hm_qce
  have hf_qce : f85 qce = .inl (cy 2, 240, .inr (.inl (fun _ => 0))) := (congrFun e_f85 qce).trans (z_up_ne ne_qce_qpo hf_qce)
  have hm_qmv : qmv ∈ L84 := by rw [e_L84]; exact List.mem_append_left _ hm_qmv
  have hf_qmv : f85 qmv = .inl (cy 2, 60, .inr (.inl (fun _ => 0))) := (congrFun e_f85 qmv).trans (z_up_ne ne_qmv_qpo hf_qmv)
  have hm_qta : qta ∈ L84 := by rw [e_L84]; exact List.mem_append_left _ hm_qta
  have hf_qta : f85 qta = .inl (cy 0, 1600, .inl (fun _ => 0)) := (congrFun e_f85 qta).trans (z_up_ne ne_qta_qpo hf_qta)
  have hm_qli : qli ∈ L84 := by rw [e_L84]; exact List.mem_append_left _ hm_qli
  have hf_qli : f85 qli = .inl (cy 1, 5, .inl (fun _ => 0)) := (congrFun e_f85 qli).trans (z_up_ne ne_qli_qpo hf_qli)
  have hm_qha : qha ∈ L84 := by rw [e_L84]; exact List.mem_append_left _ hm_qha
  have hf_qha : f85 qha = .inl (cy 1, 30, .inl (fun _ => 0)) := (congrFun e_f85 qha).trans (z_up_ne ne_qha_qpo hf_qha)
  have hm_qlw : qlw ∈ L84 := by rw [e_L84]; exact List.mem_append_left _ hm_qlw
  have hf_qlw : f85 qlw = .inl (cy 1, 25, .inl (fun _ => 0)) := (congrFun e_f85 qlw).trans (z_up_ne ne_qlw_qpo hf_qlw)
  have hm_qst : qst ∈ L84 := by rw [e_L84]; exact List.mem_append_left _ hm_qst
  have hf_qst : f85 qst = .inl (cy 1, 20, .inl (fun _ => 0)) := (congrFun e_f85 qst).trans (z_up_ne ne_qst_qpo hf_qst)
  have hm_qfo : qfo ∈ L84 := by rw [e_L84]; exact List.mem_append_left _ hm_qfo
  have hf_qfo : f85 qfo = .inl (cy 1, 180, .inl (fun _ => 0)) := (congrFun e_f85 qfo).trans (z_up_ne ne_qfo_qpo hf_qfo)
  have hm_qdr : qdr ∈ L84 := by rw [e_L84]; exact List.mem_append_left _ hm_qdr
  have hf_qdr : f85 qdr = .inl (cy 1, 520, .inl (fun _ => 0)) := (congrFun e_f85 qdr).trans (z_up_ne ne_qdr_qpo hf_qdr)
  have hm_qik : qik ∈ L84 := by rw [e_L84]; exact List.mem_append_left _ hm_qik
  have hf_qik : f85 qik = .inl (cy 3, 3, .inl (fun _ => 0)) := (congrFun e_f85 qik).trans (z_up_ne ne_qik_qpo hf_qik)
  have hm_qro : qro ∈ L84 := by rw [e_L84]; exact List.mem_append_left _ hm_qro
  have hf_qro : f85 qro = .inl (cy 1, 13, .inl (fun _ => 0)) := (congrFun e_f85 qro).trans (z_up_ne ne_qro_qpo hf_qro)
  have hm_qct : qct ∈ L84 := by rw [e_L84]; exact List.mem_append_left _ hm_qct
  have hf_qct : f85 qct = .inl (cy 1, 4, .inl (fun _ => 0)) := (congrFun e_f85 qct).trans (z_up_ne ne_qct_qpo hf_qct)
  have hm_qse : qse ∈ L84 := by rw [e_L84]; exact List.mem_append_left _ hm_qse
  have hf_qse : f85 qse = .inl (cy 1, 36, .inl (fun _ => 0)) := (congrFun e_f85 qse).trans (z_up_ne ne_qse_qpo hf_qse)
  have hm_qth : qth ∈ L84 := by rw [e_L84]; exact List.mem_append_left _ hm_qth
  have hf_qth : f85 qth = .inl (cy 1, 36, .inl (fun _ => 0)) := (congrFun e_f85 qth).trans (z_up_ne ne_qth_qpo hf_qth)
  have hm_qcn : qcn ∈ L84 := by rw [e_L84]; exact List.mem_append_left _ hm_qcn
  have hf_qcn : f85 qcn = .inl (cy 1, 36, .inl (fun _ => 0)) := (congrFun e_f85 qcn).trans (z_up_ne ne_qcn_qpo hf_qcn)
  have hm_qbe : qbe ∈ L84 := by rw [e_L84]; exact List.mem_append_left _ hm_qbe
  have hf_qbe : f85 qbe = .inl (cy 1, 2574, .inl (fun _ => 0)) := (congrFun e_f85 qbe).trans (z_up_ne ne_qbe_qpo hf_qbe)
  have hm_qdu : qdu ∈ L84 := by rw [e_L84]; exact List.mem_append_left _ hm_qdu
  have hf_qdu : f85 qdu = .inl (cy 1, 5200, .inl (fun _ => 0)) := (congrFun e_f85 qdu).trans (z_up_ne ne_qdu_qpo hf_qdu)
  have hm_qdb : qdb ∈ L84 := by rw [e_L84]; exact List.mem_append_left _ hm_qdb
  have hf_qdb : f85 qdb = .inl (cy 1, 5, .inl (fun _ => 0)) := (congrFun e_f85 qdb).trans (z_up_ne ne_qdb_qpo hf_qdb)
  have hm_qpn : qpn ∈ L84 := by rw [e_L84]; exact List.mem_append_left _ hm_qpn
  have hf_qpn : f85 qpn = .inl (cy 1, 5, .inl (fun _ => 0)) := (congrFun e_f85 qpn).trans (z_up_ne ne_qpn_qpo hf_qpn)
  have hm_qwg : qwg ∈ L84 := by rw [e_L84]; exact List.mem_append_left _ hm_qwg
  have hf_qwg : f85 qwg = .inl (cy 1, 12, .inl (fun _ => 0)) := (congrFun e_f85 qwg).trans (z_up_ne ne_qwg_qpo hf_qwg)
  have hm_qwh : qwh ∈ L84 := by rw [e_L84]; exact List.mem_append_left _ hm_qwh
  have hf_qwh : f85 qwh = .inl (cy 1, 12, .inl (fun _ => 0)) := (congrFun e_f85 qwh).trans (z_up_ne ne_qwh_qpo hf_qwh)
  have hm_qtn : qtn ∈ L84 := by rw [e_L84]; exact List.mem_append_left _ hm_qtn
  have hf_qtn : f85 qtn = .inl (cy 1, 12, .inl (fun _ => 0)) := (congrFun e_f85 qtn).trans (z_up_ne ne_qtn_qpo hf_qtn)
  have hm_qhe : qhe ∈ L84 := by rw [e_L84]; exact List.mem_append_left _ hm_qhe
  have hf_qhe : f85 qhe = .inl (cy 1, 13, .inl (fun _ => 0)) := (congrFun e_f85 qhe).trans (z_up_ne ne_qhe_qpo hf_qhe)
  have hm_qtr : qtr ∈ L84 := by rw [e_L84]; exact List.mem_append_left _ hm_qtr
  have hf_qtr : f85 qtr = .inl (cy 1, 6, .inl (fun _ => 0)) := (congrFun e_f85 qtr).trans (z_up_ne ne_qtr_qpo hf_qtr)
  have hm_qfd : qfd ∈ L84 := by rw [e_L84]; exact List.mem_append_left _ hm_qfd
  have hf_qfd : f85 qfd = .inl (cy 1, 6, .inl (fun _ => 0)) := (congrFun e_f85 qfd).trans (z_up_ne ne_qfd_qpo hf_qfd)
  have hm_qpo : qpo ∈ L84 := by rw [e_L84]; exact List.mem_append_right _ (List.mem_singleton.mpr rfl)
  have hf_qpo : f85 qpo = .inl (cy 1, 13, .inl (fun _ => 0)) := (congrFun e_f85 qpo).trans z_up_self
  have hsub : ∀ b ∈ L, b ∈ L84 := fun b h => by rw [e_L84]; exact List.mem_append_left _ (hsub b h)
  have hfr : ∀ b ∈ L, b ≠ me → f85 b = f b := fun b hb h0 => (congrFun e_f85 b).trans (z_up_ne (z_ne hb hn_qpo) (hfr b hb h0))
  refine z_putF (C := RX10) (T := TX10) (N := 54) (ci := 10) (v := .ref qpo) (fs' := [.int 0, .ref qwd, .ref qmy, .ref qce, .ref qmv, .ref qta, .int 0, .int 0, .int 0, .int 0, .int 0, .long 0, .int 0, .int 0, .int 0, .int (-1), .ref qli, .ref qha, .ref qlw, .ref qst, .ref qfo, .ref qdr, .int 0, .ref qik, .int (-1), .int 0, .long 0, .int 0, .int 0, .ref qro, .int 0, .ref qct, .ref qse, .ref qth, .ref qcn, .ref qbe, .int 0, .ref qdu, .int 0, .ref qdb, .int 0, .int 0, .int 0, .ref qpn, .ref qwg, .ref qwh, .ref qtn, .ref qhe, .int 0, .ref qtr, .ref qfd, .ref qpo, .int 0, .int 0]) hx hb hT zin_X10 tyX10_ok nmX10 hown hK hw hm_me hf_me rfl 51 (by decide) (hT _ kw_1219) rfl hnm rfl rfl rfl (Nat.le_of_ble_eq_true rfl) rfl dX10_init_234 (fun H locs hw => ?_)
  obtain ⟨f86, e_f86⟩ : ∃ z, z = va_up f85 me (.inr (10, [.int 0, .ref qwd, .ref qmy, .ref qce, .ref qmv, .ref qta, .int 0, .int 0, .int 0, .int 0, .int 0, .long 0, .int 0, .int 0, .int 0, .int (-1), .ref qli, .ref qha, .ref qlw, .ref qst, .ref qfo, .ref qdr, .int 0, .ref qik, .int (-1), .int 0, .long 0, .int 0, .int 0, .ref qro, .int 0, .ref qct, .ref qse, .ref qth, .ref qcn, .ref qbe, .int 0, .ref qdu, .int 0, .ref qdb, .int 0, .int 0, .int 0, .ref qpn, .ref qwg, .ref qwh, .ref qtn, .ref qhe, .int 0, .ref qtr, .ref qfd, .ref qpo, .int 0, .int 0])) := ⟨_, rfl⟩
  rw [← e_f86] at hw
  have hf_qwd : f86 qwd = .inl (cy 1, 4, .inl (fun _ => 0)) := (congrFun e_f86 qwd).trans (z_up_ne (Ne.symm ne_me_qwd) hf_qwd)
  have hf_qmy : f86 qmy = .inl (cy 1, 4, .inl (fun _ => 0)) := (congrFun e_f86 qmy).trans (z_up_ne (Ne.symm ne_me_qmy) hf_qmy)
  have hf_qce : f86 qce = .inl (cy 2, 240, .inr (.inl (fun _ => 0))) := (congrFun e_f86 qce).trans (z_up_ne (Ne.symm ne_me_qce) hf_qce)
  have hf_qmv : f86 qmv = .inl (cy 2, 60, .inr (.inl (fun _ => 0))) := (congrFun e_f86 qmv).trans (z_up_ne (Ne.symm ne_me_qmv) hf_qmv)
  have hf_qta : f86 qta = .inl (cy 0, 1600, .inl (fun _ => 0)) := (congrFun e_f86 qta).trans (z_up_ne (Ne.symm ne_me_qta) hf_qta)
  have hf_qli : f86 qli = .inl (cy 1, 5, .inl (fun _ => 0)) := (congrFun e_f86 qli).trans (z_up_ne (Ne.symm ne_me_qli) hf_qli)
  have hf_qha : f86 qha = .inl (cy 1, 30, .inl (fun _ => 0)) := (congrFun e_f86 qha).trans (z_up_ne (Ne.symm ne_me_qha) hf_qha)
  have hf_qlw : f86 qlw = .inl (cy 1, 25, .inl (fun _ => 0)) := (congrFun e_f86 qlw).trans (z_up_ne (Ne.symm ne_me_qlw) hf_qlw)
  have hf_qst : f86 qst = .inl (cy 1, 20, .inl (fun _ => 0)) := (congrFun e_f86 qst).trans (z_up_ne (Ne.symm ne_me_qst) hf_qst)
  have hf_qfo : f86 qfo = .inl (cy 1, 180, .inl (fun _ => 0)) := (congrFun e_f86 qfo).trans (z_up_ne (Ne.symm ne_me_qfo) hf_qfo)
  have hf_qdr : f86 qdr = .inl (cy 1, 520, .inl (fun _ => 0)) := (congrFun e_f86 qdr).trans (z_up_ne (Ne.symm ne_me_qdr) hf_qdr)
  have hf_qik : f86 qik = .inl (cy 3, 3, .inl (fun _ => 0)) := (congrFun e_f86 qik).trans (z_up_ne (Ne.symm ne_me_qik) hf_qik)
  have hf_qro : f86 qro = .inl (cy 1, 13, .inl (fun _ => 0)) := (congrFun e_f86 qro).trans (z_up_ne (Ne.symm ne_me_qro) hf_qro)
  have hf_qct : f86 qct = .inl (cy 1, 4, .inl (fun _ => 0)) := (congrFun e_f86 qct).trans (z_up_ne (Ne.symm ne_me_qct) hf_qct)
  have hf_qse : f86 qse = .inl (cy 1, 36, .inl (fun _ => 0)) := (congrFun e_f86 qse).trans (z_up_ne (Ne.symm ne_me_qse) hf_qse)
  have hf_qth : f86 qth = .inl (cy 1, 36, .inl (fun _ => 0)) := (congrFun e_f86 qth).trans (z_up_ne (Ne.symm ne_me_qth) hf_qth)
  have hf_qcn : f86 qcn = .inl (cy 1, 36, .inl (fun _ => 0)) := (congrFun e_f86 qcn).trans (z_up_ne (Ne.symm ne_me_qcn) hf_qcn)
  have hf_qbe : f86 qbe = .inl (cy 1, 2574, .inl (fun _ => 0)) := (congrFun e_f86 qbe).trans (z_up_ne (Ne.symm ne_me_qbe) hf_qbe)
  have hf_qdu : f86 qdu = .inl (cy 1, 5200, .inl (fun _ => 0)) := (congrFun e_f86 qdu).trans (z_up_ne (Ne.symm ne_me_qdu) hf_qdu)
  have hf_qdb : f86 qdb = .inl (cy 1, 5, .inl (fun _ => 0)) := (congrFun e_f86 qdb).trans (z_up_ne (Ne.symm ne_me_qdb) hf_qdb)
  have hf_qpn : f86 qpn = .inl (cy 1, 5, .inl (fun _ => 0)) := (congrFun e_f86 qpn).trans (z_up_ne (Ne.symm ne_me_qpn) hf_qpn)
  have hf_qwg : f86 qwg = .inl (cy 1, 12, .inl (fun _ => 0)) := (congrFun e_f86 qwg).trans (z_up_ne (Ne.symm ne_me_qwg) hf_qwg)
  have hf_qwh : f86 qwh = .inl (cy 1, 12, .inl (fun _ => 0)) := (congrFun e_f86 qwh).trans (z_up_ne (Ne.symm ne_me_qwh) hf_qwh)
  have hf_qtn : f86 qtn = .inl (cy 1, 12, .inl (fun _ => 0)) := (congrFun e_f86 qtn).trans (z_up_ne (Ne.symm ne_me_qtn) hf_qtn)
  have hf_qhe : f86 qhe = .inl (cy 1, 13, .inl (fun _ => 0)) := (congrFun e_f86 qhe).trans (z_up_ne (Ne.symm ne_me_qhe) hf_qhe)
  have hf_qtr : f86 qtr = .inl (cy 1, 6, .inl (fun _ => 0)) := (congrFun e_f86 qtr).trans (z_up_ne (Ne.symm ne_me_qtr) hf_qtr)
  have hf_qfd : f86 qfd = .inl (cy 1, 6, .inl (fun _ => 0)) := (congrFun e_f86 qfd).trans (z_up_ne (Ne.symm ne_me_qfd) hf_qfd)
  have hf_qpo : f86 qpo = .inl (cy 1, 13, .inl (fun _ => 0)) := (congrFun e_f86 qpo).trans (z_up_ne (Ne.symm ne_me_qpo) hf_qpo)
  have hf_me : f86 me = .inr (10, [.int 0, .ref qwd, .ref qmy, .ref qce, .ref qmv, .ref qta, .int 0, .int 0, .int 0, .int 0, .int 0, .long 0, .int 0, .int 0, .int 0, .int (-1), .ref qli, .ref qha, .ref qlw, .ref qst, .ref qfo, .ref qdr, .int 0, .ref qik, .int (-1), .int 0, .long 0, .int 0, .int 0, .ref qro, .int 0, .ref qct, .ref qse, .ref qth, .ref qcn, .ref qbe, .int 0, .ref qdu, .int 0, .ref qdb, .int 0, .int 0, .int 0, .ref qpn, .ref qwg, .ref qwh, .ref qtn, .ref qhe, .int 0, .ref qtr, .ref qfd, .ref qpo, .int 0, .int 0]) := (congrFun e_f86 me).trans z_up_self
  have hfr : ∀ b ∈ L, b ≠ me → f86 b = f b := fun b hb h0 => (congrFun e_f86 b).trans (z_up_ne h0 (hfr b hb h0))
  refine lv_iconst (v := 0) hx hb dX10_init_237 (by decide) ?_
  refine lv_istore_n (lv' := [(1, .int 0), (0, .ref me)]) hx hb dX10_init_238 rfl hl (by decide) rfl (fun ls hl => ?_)
  have hzk : (0 : Int32).toInt = 0 := by decide
  refine z_loop (fun n H locs ls => ∃ (K87 : Int32) (G89 : Nat → Int32) (f88 : Nat → va_E), (n = (4 - K87.toInt).toNat) ∧ (0 ≤ K87.toInt) ∧ (K87.toInt ≤ 4) ∧ (∀ j : Nat, (j : Int) < K87.toInt → G89 j = -1) ∧ (z_H D vwCl (z_A L sz) s.heap L84 f88 H locs) ∧ (f88 me = .inr (10, [.int 0, .ref qwd, .ref qmy, .ref qce, .ref qmv, .ref qta, .int 0, .int 0, .int 0, .int 0, .int 0, .long 0, .int 0, .int 0, .int 0, .int (-1), .ref qli, .ref qha, .ref qlw, .ref qst, .ref qfo, .ref qdr, .int 0, .ref qik, .int (-1), .int 0, .long 0, .int 0, .int 0, .ref qro, .int 0, .ref qct, .ref qse, .ref qth, .ref qcn, .ref qbe, .int 0, .ref qdu, .int 0, .ref qdb, .int 0, .int 0, .int 0, .ref qpn, .ref qwg, .ref qwh, .ref qtn, .ref qhe, .int 0, .ref qtr, .ref qfd, .ref qpo, .int 0, .int 0])) ∧ (f88 qwd = .inl (cy 1, 4, .inl G89)) ∧ (f88 qmy = .inl (cy 1, 4, .inl (fun _ => 0))) ∧ (f88 qce = .inl (cy 2, 240, .inr (.inl (fun _ => 0)))) ∧ (f88 qmv = .inl (cy 2, 60, .inr (.inl (fun _ => 0)))) ∧ (f88 qta = .inl (cy 0, 1600, .inl (fun _ => 0))) ∧ (f88 qli = .inl (cy 1, 5, .inl (fun _ => 0))) ∧ (f88 qha = .inl (cy 1, 30, .inl (fun _ => 0))) ∧ (f88 qlw = .inl (cy 1, 25, .inl (fun _ => 0))) ∧ (f88 qst = .inl (cy 1, 20, .inl (fun _ => 0))) ∧ (f88 qfo = .inl (cy 1, 180, .inl (fun _ => 0))) ∧ (f88 qdr = .inl (cy 1, 520, .inl (fun _ => 0))) ∧ (f88 qik = .inl (cy 3, 3, .inl (fun _ => 0))) ∧ (f88 qro = .inl (cy 1, 13, .inl (fun _ => 0))) ∧ (f88 qct = .inl (cy 1, 4, .inl (fun _ => 0))) ∧ (f88 qse = .inl (cy 1, 36, .inl (fun _ => 0))) ∧ (f88 qth = .inl (cy 1, 36, .inl (fun _ => 0))) ∧ (f88 qcn = .inl (cy 1, 36, .inl (fun _ => 0))) ∧ (f88 qbe = .inl (cy 1, 2574, .inl (fun _ => 0))) ∧ (f88 qdu = .inl (cy 1, 5200, .inl (fun _ => 0))) ∧ (f88 qdb = .inl (cy 1, 5, .inl (fun _ => 0))) ∧ (f88 qpn = .inl (cy 1, 5, .inl (fun _ => 0))) ∧ (f88 qwg = .inl (cy 1, 12, .inl (fun _ => 0))) ∧ (f88 qwh = .inl (cy 1, 12, .inl (fun _ => 0))) ∧ (f88 qtn = .inl (cy 1, 12, .inl (fun _ => 0))) ∧ (f88 qhe = .inl (cy 1, 13, .inl (fun _ => 0))) ∧ (f88 qtr = .inl (cy 1, 6, .inl (fun _ => 0))) ∧ (f88 qfd = .inl (cy 1, 6, .inl (fun _ => 0))) ∧ (f88 qpo = .inl (cy 1, 13, .inl (fun _ => 0))) ∧ (∀ b ∈ L, b ≠ me → f88 b = f b) ∧ (lv_has ls 2 [(1, .int K87), (0, .ref me)])) _ ⟨0, (fun _ => 0), f86, rfl, (by first | decide | omega), (by first | decide | omega), (fun j hj => absurd hj (by rw [show (0 : Int32).toInt = 0 from rfl]; omega)), hw, hf_me, hf_qwd, hf_qmy, hf_qce, hf_qmv, hf_qta, hf_qli, hf_qha, hf_qlw, hf_qst, hf_qfo, hf_qdr, hf_qik, hf_qro, hf_qct, hf_qse, hf_qth, hf_qcn, hf_qbe, hf_qdu, hf_qdb, hf_qpn, hf_qwg, hf_qwh, hf_qtn, hf_qhe, hf_qtr, hf_qfd, hf_qpo, hfr, (lv_sub hl [0, 1] rfl)⟩ (fun n H locs ls hI ih_239 => ?_)
  obtain ⟨K87, G89, f88, hn, hk0, hk1, hi0, hw, hf_me, hf_qwd, hf_qmy, hf_qce, hf_qmv, hf_qta, hf_qli, hf_qha, hf_qlw, hf_qst, hf_qfo, hf_qdr, hf_qik, hf_qro, hf_qct, hf_qse, hf_qth, hf_qcn, hf_qbe, hf_qdu, hf_qdb, hf_qpn, hf_qwg, hf_qwh, hf_qtn, hf_qhe, hf_qtr, hf_qfd, hf_qpo, hfr, hl⟩ := hI
  refine lv_iload_n hx hb dX10_init_239 rfl (lv_at hl 0 rfl) ?_
  refine lv_iconst (v := 4) hx hb dX10_init_240 (by decide) ?_
  refine z_icmp_ge (tgt := 257) hx hb rfl (show (4 : Int32).toInt = 4 by decide) dX10_init_241 (by decide) (fun c90 => ?_) (fun c90 => ?_)
  · skip
    have hLf : L84 = L ++ [qwd, qmy, qce, qmv, qta, qli, qha, qlw, qst, qfo, qdr, qik, qro, qct, qse, qth, qcn, qbe, qdu, qdb, qpn, qwg, qwh, qtn, qhe, qtr, qfd, qpo] := by rw [e_L84, e_L81, e_L78, e_L75, e_L72, e_L69, e_L66, e_L63, e_L60, e_L57, e_L54, e_L51, e_L48, e_L45, e_L42, e_L39, e_L35, e_L32, e_L29, e_L26, e_L23, e_L20, e_L17, e_L13, e_L10, e_L7, e_L4, e_L1]; (try simp only [List.append_assoc, List.cons_append, List.nil_append])
    have hinj := z_injL hw
    rw [hLf] at hinj
    obtain ⟨bd, hbds⟩ : ∃ bd : Nat → Nat, bd = fun i => (me :: [qwd, qmy, qce, qmv, qta, qli, qha, qlw, qst, qfo, qdr, qik, qro, qct, qse, qth, qcn, qbe, qdu, qdb, qpn, qwg, qwh, qtn, qhe, qtr, qfd, qpo]).getD i 0 := ⟨_, rfl⟩
    have bd_0 : bd 0 = me := by rw [hbds]; rfl
    have bd_1 : bd 1 = qwd := by rw [hbds]; rfl
    have bd_2 : bd 2 = qmy := by rw [hbds]; rfl
    have bd_3 : bd 3 = qce := by rw [hbds]; rfl
    have bd_4 : bd 4 = qmv := by rw [hbds]; rfl
    have bd_5 : bd 5 = qta := by rw [hbds]; rfl
    have bd_6 : bd 6 = qli := by rw [hbds]; rfl
    have bd_7 : bd 7 = qha := by rw [hbds]; rfl
    have bd_8 : bd 8 = qlw := by rw [hbds]; rfl
    have bd_9 : bd 9 = qst := by rw [hbds]; rfl
    have bd_10 : bd 10 = qfo := by rw [hbds]; rfl
    have bd_11 : bd 11 = qdr := by rw [hbds]; rfl
    have bd_12 : bd 12 = qik := by rw [hbds]; rfl
    have bd_13 : bd 13 = qro := by rw [hbds]; rfl
    have bd_14 : bd 14 = qct := by rw [hbds]; rfl
    have bd_15 : bd 15 = qse := by rw [hbds]; rfl
    have bd_16 : bd 16 = qth := by rw [hbds]; rfl
    have bd_17 : bd 17 = qcn := by rw [hbds]; rfl
    have bd_18 : bd 18 = qbe := by rw [hbds]; rfl
    have bd_19 : bd 19 = qdu := by rw [hbds]; rfl
    have bd_20 : bd 20 = qdb := by rw [hbds]; rfl
    have bd_21 : bd 21 = qpn := by rw [hbds]; rfl
    have bd_22 : bd 22 = qwg := by rw [hbds]; rfl
    have bd_23 : bd 23 = qwh := by rw [hbds]; rfl
    have bd_24 : bd 24 = qtn := by rw [hbds]; rfl
    have bd_25 : bd 25 = qhe := by rw [hbds]; rfl
    have bd_26 : bd 26 = qtr := by rw [hbds]; rfl
    have bd_27 : bd 27 = qfd := by rw [hbds]; rfl
    have bd_28 : bd 28 = qpo := by rw [hbds]; rfl
    have hmem2 : ∀ i : Nat, i < 29 → bd i ∈ L84 := fun i hi => by rw [hbds, hLf]; exact z_admem hm0_me hi
    have hinj2 : ∀ i j : Nat, i < 29 → j < 29 → bd i = bd j → i = j := fun i j hi hj e => z_adinj hinj hm0_me i j hi hj (by rw [hbds] at e; exact e)
    have hnot2 : ∀ i : Nat, i < 29 → i ≠ 0 → bd i ∉ L := fun i hi h0 => by rw [hbds]; exact z_adnot hinj hi h0
    have y0f : y_0 f88 bd := ⟨0, 0, 0, 0, 0, 0, 0, 0, 0, (-1), 0, (-1), 0, 0, 0, 0, 0, 0, 0, 0, 0, 0, 0, 0, 0, 0, (by rw [bd_0, bd_1, bd_2, bd_3, bd_4, bd_5, bd_6, bd_7, bd_8, bd_9, bd_10, bd_11, bd_12, bd_13, bd_14, bd_15, bd_16, bd_17, bd_18, bd_19, bd_20, bd_21, bd_22, bd_23, bd_24, bd_25, bd_26, bd_27, bd_28]; exact hf_me), by decide, by decide, by decide, by decide⟩
    have yHf : y_H f88 cy bd := ⟨_, _, (by rw [bd_7]; exact hf_qha), (by rw [bd_8]; exact hf_qlw), (fun _ => z_has01 (x := 0) (by decide)), (fun _ => (by decide : 0 ≤ (0 : Int32).toInt ∧ (0 : Int32).toInt ≤ 999)), fun m hm => Or.inr ⟨(by decide : (0 : Int32).toInt = 0), (by decide : (0 : Int32).toInt = 0)⟩⟩
    exact z_vret hx hb hr hlk (by decide) (by decide) hw (⟨hsub, hfr, bd, (fun _ => 0), G89, (fun _ => 0), bd_0, hnot2, ⟨hmem2, hinj2, y0f, yHf, (by rw [bd_12]; exact hf_qik), (by rw [bd_1]; exact hf_qwd), (by rw [bd_2]; exact hf_qmy), (fun _ => (by decide : 0 ≤ (0 : Int32).toInt ∧ (0 : Int32).toInt ≤ 60)), ⟨_, (by rw [bd_3]; exact hf_qce)⟩, ⟨_, (by rw [bd_4]; exact hf_qmv)⟩, ⟨_, (by rw [bd_5]; exact hf_qta), fun _ => trivial⟩, ⟨_, (by rw [bd_6]; exact hf_qli), fun _ => trivial⟩, ⟨_, (by rw [bd_9]; exact hf_qst), (fun _ => (by decide : 0 ≤ (0 : Int32).toInt ∧ (0 : Int32).toInt ≤ 999))⟩, ⟨_, (by rw [bd_10]; exact hf_qfo), fun _ => trivial⟩, ⟨_, (by rw [bd_11]; exact hf_qdr), (fun _ => z_drv0)⟩, ⟨_, (by rw [bd_13]; exact hf_qro), (fun _ => (by decide : 0 ≤ (0 : Int32).toInt ∧ (0 : Int32).toInt ≤ 12))⟩, ⟨_, (by rw [bd_14]; exact hf_qct), (fun _ => (by decide : 0 ≤ (0 : Int32).toInt ∧ (0 : Int32).toInt ≤ 999))⟩, ⟨_, (by rw [bd_15]; exact hf_qse), fun _ => trivial⟩, ⟨_, (by rw [bd_16]; exact hf_qth), fun _ => trivial⟩, ⟨_, (by rw [bd_17]; exact hf_qcn), fun _ => trivial⟩, ⟨_, (by rw [bd_18]; exact hf_qbe), (fun _ => (by decide : 0 ≤ (0 : Int32).toInt ∧ (0 : Int32).toInt ≤ 2599))⟩, ⟨_, (by rw [bd_19]; exact hf_qdu), (fun _ _ => (by decide : 0 ≤ (0 : Int32).toInt ∧ (0 : Int32).toInt ≤ 12))⟩, ⟨_, (by rw [bd_20]; exact hf_qdb), fun _ => trivial⟩, ⟨_, (by rw [bd_21]; exact hf_qpn), fun _ => trivial⟩, ⟨_, (by rw [bd_22]; exact hf_qwg), (fun _ => (by decide : 0 ≤ (0 : Int32).toInt ∧ (0 : Int32).toInt ≤ 3))⟩, ⟨_, (by rw [bd_23]; exact hf_qwh), (fun _ => (by decide : 0 ≤ (0 : Int32).toInt ∧ (0 : Int32).toInt ≤ 23))⟩, ⟨_, (by rw [bd_24]; exact hf_qtn), fun _ => trivial⟩, ⟨_, (by rw [bd_25]; exact hf_qhe), (fun _ => (by decide : 0 ≤ (0 : Int32).toInt ∧ (0 : Int32).toInt ≤ 12))⟩, ⟨_, (by rw [bd_26]; exact hf_qtr), (fun _ => (by decide : 0 ≤ (0 : Int32).toInt ∧ (0 : Int32).toInt ≤ 12))⟩, ⟨_, (by rw [bd_27]; exact hf_qfd), fun _ => trivial⟩, ⟨_, (by rw [bd_28]; exact hf_qpo), fun _ => trivial⟩⟩, fun _ _ => (show (0 : Int32).toInt = 0 by decide), fun k hk => by rw [hi0 k (by omega)]; decide⟩) dX10_init_257
  · skip
    refine lv_aload_n hx hb dX10_init_244 rfl (lv_at hl 1 rfl) ?_
    refine z_get (C := RX10) (T := TX10) (N := 54) (ci := 10) (v := .ref qwd) hx hb hT zin_X10 hown hK hw hm_me hf_me rfl 1 (by decide) (hT _ kw_1169) rfl dX10_init_245 ?_
    refine lv_iload_n hx hb dX10_init_248 rfl (lv_at hl 0 rfl) ?_
    refine lv_iconst (v := (-1)) hx hb dX10_init_249 (by decide) ?_
    refine z_iast hx hb hK hw 1 hm_qwd hf_qwd rfl (z_ix rfl (by omega)) dX10_init_250 (fun H locs hw => ?_)
    obtain ⟨f92, e_f92⟩ : ∃ z, z = va_up f88 qwd (.inl (cy 1, 4, .inl (upd G89 K87.toNatClampNeg (-1)))) := ⟨_, rfl⟩
    rw [← e_f92] at hw
    have hf_me : f92 me = .inr (10, [.int 0, .ref qwd, .ref qmy, .ref qce, .ref qmv, .ref qta, .int 0, .int 0, .int 0, .int 0, .int 0, .long 0, .int 0, .int 0, .int 0, .int (-1), .ref qli, .ref qha, .ref qlw, .ref qst, .ref qfo, .ref qdr, .int 0, .ref qik, .int (-1), .int 0, .long 0, .int 0, .int 0, .ref qro, .int 0, .ref qct, .ref qse, .ref qth, .ref qcn, .ref qbe, .int 0, .ref qdu, .int 0, .ref qdb, .int 0, .int 0, .int 0, .ref qpn, .ref qwg, .ref qwh, .ref qtn, .ref qhe, .int 0, .ref qtr, .ref qfd, .ref qpo, .int 0, .int 0]) := (congrFun e_f92 me).trans (z_up_ne ne_me_qwd hf_me)
    have hf_qmy : f92 qmy = .inl (cy 1, 4, .inl (fun _ => 0)) := (congrFun e_f92 qmy).trans (z_up_ne (Ne.symm ne_qwd_qmy) hf_qmy)
    have hf_qce : f92 qce = .inl (cy 2, 240, .inr (.inl (fun _ => 0))) := (congrFun e_f92 qce).trans (z_up_ne (Ne.symm ne_qwd_qce) hf_qce)
    have hf_qmv : f92 qmv = .inl (cy 2, 60, .inr (.inl (fun _ => 0))) := (congrFun e_f92 qmv).trans (z_up_ne (Ne.symm ne_qwd_qmv) hf_qmv)
    have hf_qta : f92 qta = .inl (cy 0, 1600, .inl (fun _ => 0)) := (congrFun e_f92 qta).trans (z_up_ne (Ne.symm ne_qwd_qta) hf_qta)
    have hf_qli : f92 qli = .inl (cy 1, 5, .inl (fun _ => 0)) := (congrFun e_f92 qli).trans (z_up_ne (Ne.symm ne_qwd_qli) hf_qli)
    have hf_qha : f92 qha = .inl (cy 1, 30, .inl (fun _ => 0)) := (congrFun e_f92 qha).trans (z_up_ne (Ne.symm ne_qwd_qha) hf_qha)
    have hf_qlw : f92 qlw = .inl (cy 1, 25, .inl (fun _ => 0)) := (congrFun e_f92 qlw).trans (z_up_ne (Ne.symm ne_qwd_qlw) hf_qlw)
    have hf_qst : f92 qst = .inl (cy 1, 20, .inl (fun _ => 0)) := (congrFun e_f92 qst).trans (z_up_ne (Ne.symm ne_qwd_qst) hf_qst)
    have hf_qfo : f92 qfo = .inl (cy 1, 180, .inl (fun _ => 0)) := (congrFun e_f92 qfo).trans (z_up_ne (Ne.symm ne_qwd_qfo) hf_qfo)
    have hf_qdr : f92 qdr = .inl (cy 1, 520, .inl (fun _ => 0)) := (congrFun e_f92 qdr).trans (z_up_ne (Ne.symm ne_qwd_qdr) hf_qdr)
    have hf_qik : f92 qik = .inl (cy 3, 3, .inl (fun _ => 0)) := (congrFun e_f92 qik).trans (z_up_ne (Ne.symm ne_qwd_qik) hf_qik)
    have hf_qro : f92 qro = .inl (cy 1, 13, .inl (fun _ => 0)) := (congrFun e_f92 qro).trans (z_up_ne (Ne.symm ne_qwd_qro) hf_qro)
    have hf_qct : f92 qct = .inl (cy 1, 4, .inl (fun _ => 0)) := (congrFun e_f92 qct).trans (z_up_ne (Ne.symm ne_qwd_qct) hf_qct)
    have hf_qse : f92 qse = .inl (cy 1, 36, .inl (fun _ => 0)) := (congrFun e_f92 qse).trans (z_up_ne (Ne.symm ne_qwd_qse) hf_qse)
    have hf_qth : f92 qth = .inl (cy 1, 36, .inl (fun _ => 0)) := (congrFun e_f92 qth).trans (z_up_ne (Ne.symm ne_qwd_qth) hf_qth)
    have hf_qcn : f92 qcn = .inl (cy 1, 36, .inl (fun _ => 0)) := (congrFun e_f92 qcn).trans (z_up_ne (Ne.symm ne_qwd_qcn) hf_qcn)
    have hf_qbe : f92 qbe = .inl (cy 1, 2574, .inl (fun _ => 0)) := (congrFun e_f92 qbe).trans (z_up_ne (Ne.symm ne_qwd_qbe) hf_qbe)
    have hf_qdu : f92 qdu = .inl (cy 1, 5200, .inl (fun _ => 0)) := (congrFun e_f92 qdu).trans (z_up_ne (Ne.symm ne_qwd_qdu) hf_qdu)
    have hf_qdb : f92 qdb = .inl (cy 1, 5, .inl (fun _ => 0)) := (congrFun e_f92 qdb).trans (z_up_ne (Ne.symm ne_qwd_qdb) hf_qdb)
    have hf_qpn : f92 qpn = .inl (cy 1, 5, .inl (fun _ => 0)) := (congrFun e_f92 qpn).trans (z_up_ne (Ne.symm ne_qwd_qpn) hf_qpn)
    have hf_qwg : f92 qwg = .inl (cy 1, 12, .inl (fun _ => 0)) := (congrFun e_f92 qwg).trans (z_up_ne (Ne.symm ne_qwd_qwg) hf_qwg)
    have hf_qwh : f92 qwh = .inl (cy 1, 12, .inl (fun _ => 0)) := (congrFun e_f92 qwh).trans (z_up_ne (Ne.symm ne_qwd_qwh) hf_qwh)
    have hf_qtn : f92 qtn = .inl (cy 1, 12, .inl (fun _ => 0)) := (congrFun e_f92 qtn).trans (z_up_ne (Ne.symm ne_qwd_qtn) hf_qtn)
    have hf_qhe : f92 qhe = .inl (cy 1, 13, .inl (fun _ => 0)) := (congrFun e_f92 qhe).trans (z_up_ne (Ne.symm ne_qwd_qhe) hf_qhe)
    have hf_qtr : f92 qtr = .inl (cy 1, 6, .inl (fun _ => 0)) := (congrFun e_f92 qtr).trans (z_up_ne (Ne.symm ne_qwd_qtr) hf_qtr)
    have hf_qfd : f92 qfd = .inl (cy 1, 6, .inl (fun _ => 0)) := (congrFun e_f92 qfd).trans (z_up_ne (Ne.symm ne_qwd_qfd) hf_qfd)
    have hf_qpo : f92 qpo = .inl (cy 1, 13, .inl (fun _ => 0)) := (congrFun e_f92 qpo).trans (z_up_ne (Ne.symm ne_qwd_qpo) hf_qpo)
    have hf_qwd : f92 qwd = .inl (cy 1, 4, .inl (upd G89 K87.toNatClampNeg (-1))) := (congrFun e_f92 qwd).trans z_up_self
    have hfr : ∀ b ∈ L, b ≠ me → f92 b = f b := fun b hb h0 => (congrFun e_f92 b).trans (z_up_ne (z_ne hb hn_qwd) (hfr b hb h0))
    obtain ⟨g91, e_g91⟩ : ∃ z, z = (upd G89 K87.toNatClampNeg (-1)) := ⟨_, rfl⟩
    rw [← e_g91] at hf_qwd
    obtain ⟨k93, e_k93⟩ : ∃ z : Int32, z = K87 + 1 := ⟨_, rfl⟩
    refine lv_iinc (v := k93) (lv' := [(1, .int k93), (0, .ref me)]) hx hb dX10_init_251 hl (k := 0) rfl (by rw [e_k93]; rfl) (by decide) rfl (fun ls hl => ?_)
    have i_k93 : k93.toInt = (K87.toInt + 1) := z_add e_k93 rfl (by decide) (by omega)
    refine lv_goto (tgt := 239) hx hb dX10_init_254 (by decide) ?_
    exact ih_239 _ (by omega) _ _ _ ⟨k93, g91, f92, rfl, (by first | decide | omega), (by first | decide | omega), (z_updlt hk0 i_k93 e_g91 hi0), hw, hf_me, hf_qwd, hf_qmy, hf_qce, hf_qmv, hf_qta, hf_qli, hf_qha, hf_qlw, hf_qst, hf_qfo, hf_qdr, hf_qik, hf_qro, hf_qct, hf_qse, hf_qth, hf_qcn, hf_qbe, hf_qdu, hf_qdb, hf_qpn, hf_qwg, hf_qwh, hf_qtn, hf_qhe, hf_qtr, hf_qfd, hf_qpo, hfr, (lv_sub hl [0, 1] rfl)⟩
