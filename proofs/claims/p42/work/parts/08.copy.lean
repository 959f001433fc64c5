set_option maxHeartbeats 2000000 in
set_option maxRecDepth 100000 in
theorem c_X0_copy (l : Launch) {D : va_G} {cy : Nat → ClassId} {L : List Nat} {f : Nat → va_E} {sz : Nat} {adK adV : Nat → Nat} {dq : Nat} {o1 o2 o3 o4 o5 o6 o7 o8 : Int32} {dx : Nat} {e1 e2 e3 e4 e5 e6 e7 e8 : Int32} (hm_dq : dq ∈ L) (hm_dx : dx ∈ L) (hf_dq : f dq = .inr (0, [.int o1, .int o2, .int o3, .int o4, .int o5, .int o6, .int o7, .int o8])) (hf_dx : f dx = .inr (0, [.int e1, .int e2, .int e3, .int e4, .int e5, .int e6, .int e7, .int e8])) (ne_dq_dx : dq ≠ dx) : Met l yX0_copy (z_ws yX0_copy cX0_copy 2 none) (z_R 1 0 0) (va_Pc [.ref dq, .ref dx] (z_Pre D vwCl (z_KK D cy adK adV) L f sz)) (z_Qv D vwCl (fun u => L = u.1 ∧ (∀ b ∈ L, b ≠ dq → u.2 b = f b) ∧ ((u.2 dq = .inr (0, [.int e1, .int e2, .int e3, .int e4, .int e5, .int e6, .int e7, .int e8])) ∧ (True))) L sz) 0 0 (z_A L sz) := by
  refine z_met (cc := cX0_copy) (maxL := 2) (ret := none) (lv := [(0, .ref dq), (1, .ref dx)]) (by decide) rfl (Nat.le_of_ble_eq_true rfl) rfl ?_
  intro p e s m below meth c ls hx hb hr hlk hml hown hnm hts hKK hA hw hl
  have hK := hKK.1.1
  have hown : s.vm.findClass RX0 = some m.cls := hown
  have hT : ∀ w ∈ lw_all, w.before ([.ref dq, .ref dx] : List Value).toArray s = true := fun w h => hts w (z_cons w h)
  have hsub : L = L := rfl
  have hfr : ∀ b ∈ L, b ≠ dq → f b = f b := fun _ _ _ => rfl
  refine lv_aload_n hx hb dX0_copy_0 rfl (lv_at hl 0 rfl) ?_
  refine lv_aload_n hx hb dX0_copy_1 rfl (lv_at hl 1 rfl) ?_
  refine z_get (C := RX0) (T := TX0) (N := 8) (ci := 0) (v := .int e1) hx hb hT zin_X0 hown hK hw hm_dx hf_dx rfl 0 (by decide) (hT _ kw_141) rfl dX0_copy_2 ?_
  refine z_put (C := RX0) (T := TX0) (N := 8) (ci := 0) (v := .int e1) (fs' := [.int e1, .int o2, .int o3, .int o4, .int o5, .int o6, .int o7, .int o8]) hx hb hT zin_X0 tyX0_ok nmX0 hown hK hw hm_dq hf_dq rfl 0 (by decide) (hT _ kw_141) rfl rfl rfl (Nat.le_of_ble_eq_true rfl) rfl dX0_copy_5 (fun H locs hw => ?_)
  obtain ⟨f1, e_f1⟩ : ∃ z, z = va_up f dq (.inr (0, [.int e1, .int o2, .int o3, .int o4, .int o5, .int o6, .int o7, .int o8])) := ⟨_, rfl⟩
  rw [← e_f1] at hw
  have hf_dx : f1 dx = .inr (0, [.int e1, .int e2, .int e3, .int e4, .int e5, .int e6, .int e7, .int e8]) := (congrFun e_f1 dx).trans (z_up_ne (Ne.symm ne_dq_dx) hf_dx)
  have hf_dq : f1 dq = .inr (0, [.int e1, .int o2, .int o3, .int o4, .int o5, .int o6, .int o7, .int o8]) := (congrFun e_f1 dq).trans z_up_self
  have hfr : ∀ b ∈ L, b ≠ dq → f1 b = f b := fun b hb h0 => (congrFun e_f1 b).trans (z_up_ne h0 (hfr b hb h0))
  refine lv_aload_n hx hb dX0_copy_8 rfl (lv_at hl 0 rfl) ?_
  refine lv_aload_n hx hb dX0_copy_9 rfl (lv_at hl 1 rfl) ?_
  refine z_get (C := RX0) (T := TX0) (N := 8) (ci := 0) (v := .int e2) hx hb hT zin_X0 hown hK hw hm_dx hf_dx rfl 1 (by decide) (hT _ kw_145) rfl dX0_copy_10 ?_
  refine z_put (C := RX0) (T := TX0) (N := 8) (ci := 0) (v := .int e2) (fs' := [.int e1, .int e2, .int o3, .int o4, .int o5, .int o6, .int o7, .int o8]) hx hb hT zin_X0 tyX0_ok nmX0 hown hK hw hm_dq hf_dq rfl 1 (by decide) (hT _ kw_145) rfl rfl rfl (Nat.le_of_ble_eq_true rfl) rfl dX0_copy_13 (fun H locs hw => ?_)
  obtain ⟨f2, e_f2⟩ : ∃ z, z = va_up f1 dq (.inr (0, [.int e1, .int e2, .int o3, .int o4, .int o5, .int o6, .int o7, .int o8])) := ⟨_, rfl⟩
  rw [← e_f2] at hw
  have hf_dx : f2 dx = .inr (0, [.int e1, .int e2, .int e3, .int e4, .int e5, .int e6, .int e7, .int e8]) := (congrFun e_f2 dx).trans (z_up_ne (Ne.symm ne_dq_dx) hf_dx)
  have hf_dq : f2 dq = .inr (0, [.int e1, .int e2, .int o3, .int o4, .int o5, .int o6, .int o7, .int o8]) := (congrFun e_f2 dq).trans z_up_self
  have hfr : ∀ b ∈ L, b ≠ dq → f2 b = f b := fun b hb h0 => (congrFun e_f2 b).trans (z_up_ne h0 (hfr b hb h0))
  refine lv_aload_n hx hb dX0_copy_16 rfl (lv_at hl 0 rfl) ?_
  refine lv_aload_n hx hb dX0_copy_17 rfl (lv_at hl 1 rfl) ?_
  refine z_get (C := RX0) (T := TX0) (N := 8) (ci := 0) (v := .int e3) hx hb hT zin_X0 hown hK hw hm_dx hf_dx rfl 2 (by decide) (hT _ kw_152) rfl dX0_copy_18 ?_
  refine z_put (C := RX0) (T := TX0) (N := 8) (ci := 0) (v := .int e3) (fs' := [.int e1, .int e2, .int e3, .int o4, .int o5, .int o6, .int o7, .int o8]) hx hb hT zin_X0 tyX0_ok nmX0 hown hK hw hm_dq hf_dq rfl 2 (by decide) (hT _ kw_152) rfl rfl rfl (Nat.le_of_ble_eq_true rfl) rfl dX0_copy_21 (fun H locs hw => ?_)
  obtain ⟨f3, e_f3⟩ : ∃ z, z = va_up f2 dq (.inr (0, [.int e1, .int e2, .int e3, .int o4, .int o5, .int o6, .int o7, .int o8])) := ⟨_, rfl⟩
  rw [← e_f3] at hw
  have hf_dx : f3 dx = .inr (0, [.int e1, .int e2, .int e3, .int e4, .int e5, .int e6, .int e7, .int e8]) := (congrFun e_f3 dx).trans (z_up_ne (Ne.symm ne_dq_dx) hf_dx)
  have hf_dq : f3 dq = .inr (0, [.int e1, .int e2, .int e3, .int o4, .int o5, .int o6, .int o7, .int o8]) := (congrFun e_f3 dq).trans z_up_self
  have hfr : ∀ b ∈ L, b ≠ dq → f3 b = f b := fun b hb h0 => (congrFun e_f3 b).trans (z_up_ne h0 (hfr b hb h0))
  refine lv_aload_n hx hb dX0_copy_24 rfl (lv_at hl 0 rfl) ?_
  refine lv_aload_n hx hb dX0_copy_25 rfl (lv_at hl 1 rfl) ?_
  refine z_get (C := RX0) (T := TX0) (N := 8) (ci := 0) (v := .int e4) hx hb hT zin_X0 hown hK hw hm_dx hf_dx rfl 3 (by decide) (hT _ kw_157) rfl dX0_copy_26 ?_
  refine z_put (C := RX0) (T := TX0) (N := 8) (ci := 0) (v := .int e4) (fs' := [.int e1, .int e2, .int e3, .int e4, .int o5, .int o6, .int o7, .int o8]) hx hb hT zin_X0 tyX0_ok nmX0 hown hK hw hm_dq hf_dq rfl 3 (by decide) (hT _ kw_157) rfl rfl rfl (Nat.le_of_ble_eq_true rfl) rfl dX0_copy_29 (fun H locs hw => ?_)
  obtain ⟨f4, e_f4⟩ : ∃ z, z = va_up f3 dq (.inr (0, [.int e1, .int e2, .int e3, .int e4, .int o5, .int o6, .int o7, .int o8])) := ⟨_, rfl⟩
  rw [← e_f4] at hw
  have hf_dx : f4 dx = .inr (0, [.int e1, .int e2, .int e3, .int e4, .int e5, .int e6, .int e7, .int e8]) := (congrFun e_f4 dx).trans (z_up_ne (Ne.symm ne_dq_dx) hf_dx)
  have hf_dq : f4 dq = .inr (0, [.int e1, .int e2, .int e3, .int e4, .int o5, .int o6, .int o7, .int o8]) := (congrFun e_f4 dq).trans z_up_self
  have hfr : ∀ b ∈ L, b ≠ dq → f4 b = f b := fun b hb h0 => (congrFun e_f4 b).trans (z_up_ne h0 (hfr b hb h0))
  refine lv_aload_n hx hb dX0_copy_32 rfl (lv_at hl 0 rfl) ?_
  refine lv_aload_n hx hb dX0_copy_33 rfl (lv_at hl 1 rfl) ?_
  refine z_get (C := RX0) (T := TX0) (N := 8) (ci := 0) (v := .int e5) hx hb hT zin_X0 hown hK hw hm_dx hf_dx rfl 4 (by decide) (hT _ kw_162) rfl dX0_copy_34 ?_
  refine z_put (C := RX0) (T := TX0) (N := 8) (ci := 0) (v := .int e5) (fs' := [.int e1, .int e2, .int e3, .int e4, .int e5, .int o6, .int o7, .int o8]) hx hb hT zin_X0 tyX0_ok nmX0 hown hK hw hm_dq hf_dq rfl 4 (by decide) (hT _ kw_162) rfl rfl rfl (Nat.le_of_ble_eq_true rfl) rfl dX0_copy_37 (fun H locs hw => ?_)
  obtain ⟨f5, e_f5⟩ : ∃ z, z = va_up f4 dq (.inr (0, [.int e1, .int e2, .int e3, .int e4, .int e5, .int o6, .int o7, .int o8])) := ⟨_, rfl⟩
  rw [← e_f5] at hw
  have hf_dx : f5 dx = .inr (0, [.int e1, .int e2, .int e3, .int e4, .int e5, .int e6, .int e7, .int e8]) := (congrFun e_f5 dx).trans (z_up_ne (Ne.symm ne_dq_dx) hf_dx)
  have hf_dq : f5 dq = .inr (0, [.int e1, .int e2, .int e3, .int e4, .int e5, .int o6, .int o7, .int o8]) := (congrFun e_f5 dq).trans z_up_self
  have hfr : ∀ b ∈ L, b ≠ dq → f5 b = f b := fun b hb h0 => (congrFun e_f5 b).trans (z_up_ne h0 (hfr b hb h0))
  refine lv_aload_n hx hb dX0_copy_40 rfl (lv_at hl 0 rfl) ?_
  refine lv_aload_n hx hb dX0_copy_41 rfl (lv_at hl 1 rfl) ?_
  refine z_get (C := RX0) (T := TX0) (N := 8) (ci := 0) (v := .int e6) hx hb hT zin_X0 hown hK hw hm_dx hf_dx rfl 5 (by decide) (hT _ kw_168) rfl dX0_copy_42 ?_
  refine z_put (C := RX0) (T := TX0) (N := 8) (ci := 0) (v := .int e6) (fs' := [.int e1, .int e2, .int e3, .int e4, .int e5, .int e6, .int o7, .int o8]) hx hb hT zin_X0 tyX0_ok nmX0 hown hK hw hm_dq hf_dq rfl 5 (by decide) (hT _ kw_168) rfl rfl rfl (Nat.le_of_ble_eq_true rfl) rfl dX0_copy_45 (fun H locs hw => ?_)
  obtain ⟨f6, e_f6⟩ : ∃ z, z = va_up f5 dq (.inr (0, [.int e1, .int e2, .int e3, .int e4, .int e5, .int e6, .int o7, .int o8])) := ⟨_, rfl⟩
  rw [← e_f6] at hw
  have hf_dx : f6 dx = .inr (0, [.int e1, .int e2, .int e3, .int e4, .int e5, .int e6, .int e7, .int e8]) := (congrFun e_f6 dx).trans (z_up_ne (Ne.symm ne_dq_dx) hf_dx)
  have hf_dq : f6 dq = .inr (0, [.int e1, .int e2, .int e3, .int e4, .int e5, .int e6, .int o7, .int o8]) := (congrFun e_f6 dq).trans z_up_self
  have hfr : ∀ b ∈ L, b ≠ dq → f6 b = f b := fun b hb h0 => (congrFun e_f6 b).trans (z_up_ne h0 (hfr b hb h0))
  refine lv_aload_n hx hb dX0_copy_48 rfl (lv_at hl 0 rfl) ?_
  refine lv_aload_n hx hb dX0_copy_49 rfl (lv_at hl 1 rfl) ?_
  refine z_get (C := RX0) (T := TX0) (N := 8) (ci := 0) (v := .int e7) hx hb hT zin_X0 hown hK hw hm_dx hf_dx rfl 6 (by decide) (hT _ kw_174) rfl dX0_copy_50 ?_
  refine z_put (C := RX0) (T := TX0) (N := 8) (ci := 0) (v := .int e7) (fs' := [.int e1, .int e2, .int e3, .int e4, .int e5, .int e6, .int e7, .int o8]) hx hb hT zin_X0 tyX0_ok nmX0 hown hK hw hm_dq hf_dq rfl 6 (by decide) (hT _ kw_174) rfl rfl rfl (Nat.le_of_ble_eq_true rfl) rfl dX0_copy_53 (fun H locs hw => ?_)
  obtain ⟨f7, e_f7⟩ : ∃ z, z = va_up f6 dq (.inr (0, [.int e1, .int e2, .int e3, .int e4, .int e5, .int e6, .int e7, .int o8])) := ⟨_, rfl⟩
  rw [← e_f7] at hw
  have hf_dx : f7 dx = .inr (0, [.int e1, .int e2, .int e3, .int e4, .int e5, .int e6, .int e7, .int e8]) := (congrFun e_f7 dx).trans (z_up_ne (Ne.symm ne_dq_dx) hf_dx)
  have hf_dq : f7 dq = .inr (0, [.int e1, .int e2, .int e3, .int e4, .int e5, .int e6, .int e7, .int o8]) := (congrFun e_f7 dq).trans z_up_self
  have hfr : ∀ b ∈ L, b ≠ dq → f7 b = f b := fun b hb h0 => (congrFun e_f7 b).trans (z_up_ne h0 (hfr b hb h0))
  refine lv_aload_n hx hb dX0_copy_56 rfl (lv_at hl 0 rfl) ?_
  refine lv_aload_n hx hb dX0_copy_57 rfl (lv_at hl 1 rfl) ?_
  refine z_get (C := RX0) (T := TX0) (N := 8) (ci := 0) (v := .int e8) hx hb hT zin_X0 hown hK hw hm_dx hf_dx rfl 7 (by decide) (hT _ kw_181) rfl dX0_copy_58 ?_
  refine z_put (C := RX0) (T := TX0) (N := 8) (ci := 0) (v := .int e8) (fs' := [.int e1, .int e2, .int e3, .int e4, .int e5, .int e6, .int e7, .int e8]) hx hb hT zin_X0 tyX0_ok nmX0 hown hK hw hm_dq hf_dq rfl 7 (by decide) (hT _ kw_181) rfl rfl rfl (Nat.le_of_ble_eq_true rfl) rfl dX0_copy_61 (fun H locs hw => ?_)
  obtain ⟨f8, e_f8⟩ : ∃ z, z = va_up f7 dq (.inr (0, [.int e1, .int e2, .int e3, .int e4, .int e5, .int e6, .int e7, .int e8])) := ⟨_, rfl⟩
  rw [← e_f8] at hw
  have hf_dx : f8 dx = .inr (0, [.int e1, .int e2, .int e3, .int e4, .int e5, .int e6, .int e7, .int e8]) := (congrFun e_f8 dx).trans (z_up_ne (Ne.symm ne_dq_dx) hf_dx)
  have hf_dq : f8 dq = .inr (0, [.int e1, .int e2, .int e3, .int e4, .int e5, .int e6, .int e7, .int e8]) := (congrFun e_f8 dq).trans z_up_self
  have hfr : ∀ b ∈ L, b ≠ dq → f8 b = f b := fun b hb h0 => (congrFun e_f8 b).trans (z_up_ne h0 (hfr b hb h0))
  exact z_vret hx hb hr hlk (by decide) (by decide) hw (⟨hsub, hfr, hf_dq, trivial⟩) dX0_copy_64

set_option maxHeartbeats 2000000 in
set_option maxRecDepth 100000 in
theorem c_X2_copy (l : Launch) {D : va_G} {cy : Nat → ClassId} {L : List Nat} {f : Nat → va_E} {sz : Nat} {adK adV : Nat → Nat} {mo la sa mi da : Nat} {v0 v1 v2 v3 v4 v5 v6 : Int32} {gl gs gm : Nat → Int32} {gd : Nat → Option Nat} {dv : Nat → Nat} {xmo xla xsa xmi xda : Nat} {xv0 xv1 xv2 xv3 xv4 xv5 xv6 : Int32} {xgl xgs xgm : Nat → Int32} {xgd : Nat → Option Nat} {xdv : Nat → Nat} (hm_mo : mo ∈ L) (hm_la : la ∈ L) (hm_sa : sa ∈ L) (hm_mi : mi ∈ L) (hm_da : da ∈ L) (hm_xmo : xmo ∈ L) (hm_xla : xla ∈ L) (hm_xsa : xsa ∈ L) (hm_xmi : xmi ∈ L) (hm_xda : xda ∈ L) (hf_mo : f mo = .inr (2, [.int v0, .int v1, .int v2, .int v3, .int v4, .int v5, .int v6, .ref la, .ref sa, .ref mi, .ref da])) (hf_la : f la = .inl (cy 1, 5, .inl gl)) (hf_sa : f sa = .inl (cy 1, 4, .inl gs)) (hf_mi : f mi = .inl (cy 1, 36, .inl gm)) (hf_da : f da = .inl (cy 4, 13, .inr (.inr (.inr (.inr gd))))) (hf_xmo : f xmo = .inr (2, [.int xv0, .int xv1, .int xv2, .int xv3, .int xv4, .int xv5, .int xv6, .ref xla, .ref xsa, .ref xmi, .ref xda])) (hf_xla : f xla = .inl (cy 1, 5, .inl xgl)) (hf_xsa : f xsa = .inl (cy 1, 4, .inl xgs)) (hf_xmi : f xmi = .inl (cy 1, 36, .inl xgm)) (hf_xda : f xda = .inl (cy 4, 13, .inr (.inr (.inr (.inr xgd))))) (ne_mo_xmo : mo ≠ xmo) (ne_la_xla : la ≠ xla) (ne_sa_xsa : sa ≠ xsa) (ne_mi_xmi : mi ≠ xmi) (ne_da_xda : da ≠ xda) (hg_da : ∀ i : Nat, i < 13 → gd i = some (dv i)) (hd_da : z_Drv L f dv 13) (hg_xda : ∀ i : Nat, i < 13 → xgd i = some (xdv i)) (hd_xda : z_Drv L f xdv 13) (hdd : ∀ i : Nat, i < 13 → dv i ≠ xdv i) (hv5 : 0 ≤ xv5.toInt ∧ xv5.toInt ≤ 13) : Met l yX2_copy (z_ws yX2_copy cX2_copy 3 none) (z_R 2 0 0) (va_Pc [.ref mo, .ref xmo] (z_Pre D vwCl (z_KK D cy adK adV) L f sz)) (z_Qv D vwCl (fun u => L = u.1 ∧ (∀ b ∈ L, b ≠ mo → b ≠ la → b ≠ sa → b ≠ mi → (∀ i : Nat, i < 13 → b ≠ dv i) → u.2 b = f b) ∧ (∃ (h1 h2 h3 : Nat → Int32), (u.2 mo = .inr (2, [.int xv0, .int xv1, .int xv2, .int xv3, .int xv4, .int xv5, .int xv6, .ref la, .ref sa, .ref mi, .ref da])) ∧ (u.2 la = .inl (cy 1, 5, .inl h1)) ∧ (u.2 sa = .inl (cy 1, 4, .inl h2)) ∧ (u.2 mi = .inl (cy 1, 36, .inl h3)) ∧ (z_Drv u.1 u.2 dv 13) ∧ ((∀ j : Nat, j < 5 → h1 j = xgl j) ∧ (∀ j : Nat, j < 4 → h2 j = xgs j) ∧ ∀ j : Nat, j < 36 → h3 j = xgm j))) L sz) 0 0 (z_A L sz) := by
  refine z_met (cc := cX2_copy) (maxL := 3) (ret := none) (lv := [(0, .ref mo), (1, .ref xmo)]) (by decide) rfl (Nat.le_of_ble_eq_true rfl) rfl ?_
  intro p e s m below meth c ls hx hb hr hlk hml hown hnm hts hKK hA hw hl
  have hK := hKK.1.1
  have hown : s.vm.findClass RX2 = some m.cls := hown
  have hT : ∀ w ∈ lw_all, w.before ([.ref mo, .ref xmo] : List Value).toArray s = true := fun w h => hts w (z_cons w h)
  have hsub : L = L := rfl
  have hfr : ∀ b ∈ L, b ≠ mo → b ≠ la → b ≠ sa → b ≠ mi → (∀ i : Nat, i < 13 → b ≠ dv i) → f b = f b := fun _ _ _ _ _ _ _ => rfl
  refine lv_aload_n hx hb dX2_copy_0 rfl (lv_at hl 0 rfl) ?_
  refine lv_aload_n hx hb dX2_copy_1 rfl (lv_at hl 1 rfl) ?_
  refine z_get (C := RX2) (T := TX2) (N := 11) (ci := 2) (v := .int xv0) hx hb hT zin_X2 hown hK hw hm_xmo hf_xmo rfl 0 (by decide) (hT _ kw_204) rfl dX2_copy_2 ?_
  refine z_put (C := RX2) (T := TX2) (N := 11) (ci := 2) (v := .int xv0) (fs' := [.int xv0, .int v1, .int v2, .int v3, .int v4, .int v5, .int v6, .ref la, .ref sa, .ref mi, .ref da]) hx hb hT zin_X2 tyX2_ok nmX2 hown hK hw hm_mo hf_mo rfl 0 (by decide) (hT _ kw_204) rfl rfl rfl (Nat.le_of_ble_eq_true rfl) rfl dX2_copy_5 (fun H locs hw => ?_)
  obtain ⟨f1, e_f1⟩ : ∃ z, z = va_up f mo (.inr (2, [.int xv0, .int v1, .int v2, .int v3, .int v4, .int v5, .int v6, .ref la, .ref sa, .ref mi, .ref da])) := ⟨_, rfl⟩
  rw [← e_f1] at hw
  have hf_la : f1 la = .inl (cy 1, 5, .inl gl) := (congrFun e_f1 la).trans (z_up_ne (z_tne hf_la hf_mo (m := 140) (n := 2) rfl rfl (by decide)) hf_la)
  have hf_sa : f1 sa = .inl (cy 1, 4, .inl gs) := (congrFun e_f1 sa).trans (z_up_ne (z_tne hf_sa hf_mo (m := 132) (n := 2) rfl rfl (by decide)) hf_sa)
  have hf_mi : f1 mi = .inl (cy 1, 36, .inl gm) := (congrFun e_f1 mi).trans (z_up_ne (z_tne hf_mi hf_mo (m := 388) (n := 2) rfl rfl (by decide)) hf_mi)
  have hf_da : f1 da = .inl (cy 4, 13, .inr (.inr (.inr (.inr gd)))) := (congrFun e_f1 da).trans (z_up_ne (z_tne hf_da hf_mo (m := 206) (n := 2) rfl rfl (by decide)) hf_da)
  have hf_xmo : f1 xmo = .inr (2, [.int xv0, .int xv1, .int xv2, .int xv3, .int xv4, .int xv5, .int xv6, .ref xla, .ref xsa, .ref xmi, .ref xda]) := (congrFun e_f1 xmo).trans (z_up_ne (Ne.symm ne_mo_xmo) hf_xmo)
  have hf_xla : f1 xla = .inl (cy 1, 5, .inl xgl) := (congrFun e_f1 xla).trans (z_up_ne (z_tne hf_xla hf_mo (m := 140) (n := 2) rfl rfl (by decide)) hf_xla)
  have hf_xsa : f1 xsa = .inl (cy 1, 4, .inl xgs) := (congrFun e_f1 xsa).trans (z_up_ne (z_tne hf_xsa hf_mo (m := 132) (n := 2) rfl rfl (by decide)) hf_xsa)
  have hf_xmi : f1 xmi = .inl (cy 1, 36, .inl xgm) := (congrFun e_f1 xmi).trans (z_up_ne (z_tne hf_xmi hf_mo (m := 388) (n := 2) rfl rfl (by decide)) hf_xmi)
  have hf_xda : f1 xda = .inl (cy 4, 13, .inr (.inr (.inr (.inr xgd)))) := (congrFun e_f1 xda).trans (z_up_ne (z_tne hf_xda hf_mo (m := 206) (n := 2) rfl rfl (by decide)) hf_xda)
  have hd_da : z_Drv L f1 dv 13 := z_Drv_up hd_da e_f1 hf_mo (m := 2) rfl (by decide)
  have hd_xda : z_Drv L f1 xdv 13 := z_Drv_up hd_xda e_f1 hf_mo (m := 2) rfl (by decide)
  have hf_mo : f1 mo = .inr (2, [.int xv0, .int v1, .int v2, .int v3, .int v4, .int v5, .int v6, .ref la, .ref sa, .ref mi, .ref da]) := (congrFun e_f1 mo).trans z_up_self
  have hfr : ∀ b ∈ L, b ≠ mo → b ≠ la → b ≠ sa → b ≠ mi → (∀ i : Nat, i < 13 → b ≠ dv i) → f1 b = f b := fun b hb h0 h1 h2 h3 hp0 => (congrFun e_f1 b).trans (z_up_ne h0 (hfr b hb h0 h1 h2 h3 hp0))
  refine lv_aload_n hx hb dX2_copy_8 rfl (lv_at hl 0 rfl) ?_
  refine lv_aload_n hx hb dX2_copy_9 rfl (lv_at hl 1 rfl) ?_
  refine z_get (C := RX2) (T := TX2) (N := 11) (ci := 2) (v := .int xv1) hx hb hT zin_X2 hown hK hw hm_xmo hf_xmo rfl 1 (by decide) (hT _ kw_207) rfl dX2_copy_10 ?_
  refine z_put (C := RX2) (T := TX2) (N := 11) (ci := 2) (v := .int xv1) (fs' := [.int xv0, .int xv1, .int v2, .int v3, .int v4, .int v5, .int v6, .ref la, .ref sa, .ref mi, .ref da]) hx hb hT zin_X2 tyX2_ok nmX2 hown hK hw hm_mo hf_mo rfl 1 (by decide) (hT _ kw_207) rfl rfl rfl (Nat.le_of_ble_eq_true rfl) rfl dX2_copy_13 (fun H locs hw => ?_)
  obtain ⟨f2, e_f2⟩ : ∃ z, z = va_up f1 mo (.inr (2, [.int xv0, .int xv1, .int v2, .int v3, .int v4, .int v5, .int v6, .ref la, .ref sa, .ref mi, .ref da])) := ⟨_, rfl⟩
  rw [← e_f2] at hw
  have hf_la : f2 la = .inl (cy 1, 5, .inl gl) := (congrFun e_f2 la).trans (z_up_ne (z_tne hf_la hf_mo (m := 140) (n := 2) rfl rfl (by decide)) hf_la)
  have hf_sa : f2 sa = .inl (cy 1, 4, .inl gs) := (congrFun e_f2 sa).trans (z_up_ne (z_tne hf_sa hf_mo (m := 132) (n := 2) rfl rfl (by decide)) hf_sa)
  have hf_mi : f2 mi = .inl (cy 1, 36, .inl gm) := (congrFun e_f2 mi).trans (z_up_ne (z_tne hf_mi hf_mo (m := 388) (n := 2) rfl rfl (by decide)) hf_mi)
  have hf_da : f2 da = .inl (cy 4, 13, .inr (.inr (.inr (.inr gd)))) := (congrFun e_f2 da).trans (z_up_ne (z_tne hf_da hf_mo (m := 206) (n := 2) rfl rfl (by decide)) hf_da)
  have hf_xmo : f2 xmo = .inr (2, [.int xv0, .int xv1, .int xv2, .int xv3, .int xv4, .int xv5, .int xv6, .ref xla, .ref xsa, .ref xmi, .ref xda]) := (congrFun e_f2 xmo).trans (z_up_ne (Ne.symm ne_mo_xmo) hf_xmo)
  have hf_xla : f2 xla = .inl (cy 1, 5, .inl xgl) := (congrFun e_f2 xla).trans (z_up_ne (z_tne hf_xla hf_mo (m := 140) (n := 2) rfl rfl (by decide)) hf_xla)
  have hf_xsa : f2 xsa = .inl (cy 1, 4, .inl xgs) := (congrFun e_f2 xsa).trans (z_up_ne (z_tne hf_xsa hf_mo (m := 132) (n := 2) rfl rfl (by decide)) hf_xsa)
  have hf_xmi : f2 xmi = .inl (cy 1, 36, .inl xgm) := (congrFun e_f2 xmi).trans (z_up_ne (z_tne hf_xmi hf_mo (m := 388) (n := 2) rfl rfl (by decide)) hf_xmi)
  have hf_xda : f2 xda = .inl (cy 4, 13, .inr (.inr (.inr (.inr xgd)))) := (congrFun e_f2 xda).trans (z_up_ne (z_tne hf_xda hf_mo (m := 206) (n := 2) rfl rfl (by decide)) hf_xda)
  have hd_da : z_Drv L f2 dv 13 := z_Drv_up hd_da e_f2 hf_mo (m := 2) rfl (by decide)
  have hd_xda : z_Drv L f2 xdv 13 := z_Drv_up hd_xda e_f2 hf_mo (m := 2) rfl (by decide)
  have hf_mo : f2 mo = .inr (2, [.int xv0, .int xv1, .int v2, .int v3, .int v4, .int v5, .int v6, .ref la, .ref sa, .ref mi, .ref da]) := (congrFun e_f2 mo).trans z_up_self
  have hfr : ∀ b ∈ L, b ≠ mo → b ≠ la → b ≠ sa → b ≠ mi → (∀ i : Nat, i < 13 → b ≠ dv i) → f2 b = f b := fun b hb h0 h1 h2 h3 hp0 => (congrFun e_f2 b).trans (z_up_ne h0 (hfr b hb h0 h1 h2 h3 hp0))
  refine lv_aload_n hx hb dX2_copy_16 rfl (lv_at hl 0 rfl) ?_
  refine lv_aload_n hx hb dX2_copy_17 rfl (lv_at hl 1 rfl) ?_
  refine z_get (C := RX2) (T := TX2) (N := 11) (ci := 2) (v := .int xv2) hx hb hT zin_X2 hown hK hw hm_xmo hf_xmo rfl 2 (by decide) (hT _ kw_211) rfl dX2_copy_18 ?_
  refine z_put (C := RX2) (T := TX2) (N := 11) (ci := 2) (v := .int xv2) (fs' := [.int xv0, .int xv1, .int xv2, .int v3, .int v4, .int v5, .int v6, .ref la, .ref sa, .ref mi, .ref da]) hx hb hT zin_X2 tyX2_ok nmX2 hown hK hw hm_mo hf_mo rfl 2 (by decide) (hT _ kw_211) rfl rfl rfl (Nat.le_of_ble_eq_true rfl) rfl dX2_copy_21 (fun H locs hw => ?_)
  obtain ⟨f3, e_f3⟩ : ∃ z, z = va_up f2 mo (.inr (2, [.int xv0, .int xv1, .int xv2, .int v3, .int v4, .int v5, .int v6, .ref la, .ref sa, .ref mi, .ref da])) := ⟨_, rfl⟩
  rw [← e_f3] at hw
  have hf_la : f3 la = .inl (cy 1, 5, .inl gl) := (congrFun e_f3 la).trans (z_up_ne (z_tne hf_la hf_mo (m := 140) (n := 2) rfl rfl (by decide)) hf_la)
  have hf_sa : f3 sa = .inl (cy 1, 4, .inl gs) := (congrFun e_f3 sa).trans (z_up_ne (z_tne hf_sa hf_mo (m := 132) (n := 2) rfl rfl (by decide)) hf_sa)
  have hf_mi : f3 mi = .inl (cy 1, 36, .inl gm) := (congrFun e_f3 mi).trans (z_up_ne (z_tne hf_mi hf_mo (m := 388) (n := 2) rfl rfl (by decide)) hf_mi)
  have hf_da : f3 da = .inl (cy 4, 13, .inr (.inr (.inr (.inr gd)))) := (congrFun e_f3 da).trans (z_up_ne (z_tne hf_da hf_mo (m := 206) (n := 2) rfl rfl (by decide)) hf_da)
  have hf_xmo : f3 xmo = .inr (2, [.int xv0, .int xv1, .int xv2, .int xv3, .int xv4, .int xv5, .int xv6, .ref xla, .ref xsa, .ref xmi, .ref xda]) := (congrFun e_f3 xmo).trans (z_up_ne (Ne.symm ne_mo_xmo) hf_xmo)
  have hf_xla : f3 xla = .inl (cy 1, 5, .inl xgl) := (congrFun e_f3 xla).trans (z_up_ne (z_tne hf_xla hf_mo (m := 140) (n := 2) rfl rfl (by decide)) hf_xla)
  have hf_xsa : f3 xsa = .inl (cy 1, 4, .inl xgs) := (congrFun e_f3 xsa).trans (z_up_ne (z_tne hf_xsa hf_mo (m := 132) (n := 2) rfl rfl (by decide)) hf_xsa)
  have hf_xmi : f3 xmi = .inl (cy 1, 36, .inl xgm) := (congrFun e_f3 xmi).trans (z_up_ne (z_tne hf_xmi hf_mo (m := 388) (n := 2) rfl rfl (by decide)) hf_xmi)
  have hf_xda : f3 xda = .inl (cy 4, 13, .inr (.inr (.inr (.inr xgd)))) := (congrFun e_f3 xda).trans (z_up_ne (z_tne hf_xda hf_mo (m := 206) (n := 2) rfl rfl (by decide)) hf_xda)
  have hd_da : z_Drv L f3 dv 13 := z_Drv_up hd_da e_f3 hf_mo (m := 2) rfl (by decide)
  have hd_xda : z_Drv L f3 xdv 13 := z_Drv_up hd_xda e_f3 hf_mo (m := 2) rfl (by decide)
  have hf_mo : f3 mo = .inr (2, [.int xv0, .int xv1, .int xv2, .int v3, .int v4, .int v5, .int v6, .ref la, .ref sa, .ref mi, .ref da]) := (congrFun e_f3 mo).trans z_up_self
  have hfr : ∀ b ∈ L, b ≠ mo → b ≠ la → b ≠ sa → b ≠ mi → (∀ i : Nat, i < 13 → b ≠ dv i) → f3 b = f b := fun b hb h0 h1 h2 h3 hp0 => (congrFun e_f3 b).trans (z_up_ne h0 (hfr b hb h0 h1 h2 h3 hp0))
  refine lv_aload_n hx hb dX2_copy_24 rfl (lv_at hl 0 rfl) ?_
  refine lv_aload_n hx hb dX2_copy_25 rfl (lv_at hl 1 rfl) ?_
  refine z_get (C := RX2) (T := TX2) (N := 11) (ci := 2) (v := .int xv3) hx hb hT zin_X2 hown hK hw hm_xmo hf_xmo rfl 3 (by decide) (hT _ kw_215) rfl dX2_copy_26 ?_
  refine z_put (C := RX2) (T := TX2) (N := 11) (ci := 2) (v := .int xv3) (fs' := [.int xv0, .int xv1, .int xv2, .int xv3, .int v4, .int v5, .int v6, .ref la, .ref sa, .ref mi, .ref da]) hx hb hT zin_X2 tyX2_ok nmX2 hown hK hw hm_mo hf_mo rfl 3 (by decide) (hT _ kw_215) rfl rfl rfl (Nat.le_of_ble_eq_true rfl) rfl dX2_copy_29 (fun H locs hw => ?_)
  obtain ⟨f4, e_f4⟩ : ∃ z, z = va_up f3 mo (.inr (2, [.int xv0, .int xv1, .int xv2, .int xv3, .int v4, .int v5, .int v6, .ref la, .ref sa, .ref mi, .ref da])) := ⟨_, rfl⟩
  rw [← e_f4] at hw
  have hf_la : f4 la = .inl (cy 1, 5, .inl gl) := (congrFun e_f4 la).trans (z_up_ne (z_tne hf_la hf_mo (m := 140) (n := 2) rfl rfl (by decide)) hf_la)
  have hf_sa : f4 sa = .inl (cy 1, 4, .inl gs) := (congrFun e_f4 sa).trans (z_up_ne (z_tne hf_sa hf_mo (m := 132) (n := 2) rfl rfl (by decide)) hf_sa)
  have hf_mi : f4 mi = .inl (cy 1, 36, .inl gm) := (congrFun e_f4 mi).trans (z_up_ne (z_tne hf_mi hf_mo (m := 388) (n := 2) rfl rfl (by decide)) hf_mi)
  have hf_da : f4 da = .inl (cy 4, 13, .inr (.inr (.inr (.inr gd)))) := (congrFun e_f4 da).trans (z_up_ne (z_tne hf_da hf_mo (m := 206) (n := 2) rfl rfl (by decide)) hf_da)
  have hf_xmo : f4 xmo = .inr (2, [.int xv0, .int xv1, .int xv2, .int xv3, .int xv4, .int xv5, .int xv6, .ref xla, .ref xsa, .ref xmi, .ref xda]) := (congrFun e_f4 xmo).trans (z_up_ne (Ne.symm ne_mo_xmo) hf_xmo)
  have hf_xla : f4 xla = .inl (cy 1, 5, .inl xgl) := (congrFun e_f4 xla).trans (z_up_ne (z_tne hf_xla hf_mo (m := 140) (n := 2) rfl rfl (by decide)) hf_xla)
  have hf_xsa : f4 xsa = .inl (cy 1, 4, .inl xgs) := (congrFun e_f4 xsa).trans (z_up_ne (z_tne hf_xsa hf_mo (m := 132) (n := 2) rfl rfl (by decide)) hf_xsa)
  have hf_xmi : f4 xmi = .inl (cy 1, 36, .inl xgm) := (congrFun e_f4 xmi).trans (z_up_ne (z_tne hf_xmi hf_mo (m := 388) (n := 2) rfl rfl (by decide)) hf_xmi)
  have hf_xda : f4 xda = .inl (cy 4, 13, .inr (.inr (.inr (.inr xgd)))) := (congrFun e_f4 xda).trans (z_up_ne (z_tne hf_xda hf_mo (m := 206) (n := 2) rfl rfl (by decide)) hf_xda)
  have hd_da : z_Drv L f4 dv 13 := z_Drv_up hd_da e_f4 hf_mo (m := 2) rfl (by decide)
  have hd_xda : z_Drv L f4 xdv 13 := z_Drv_up hd_xda e_f4 hf_mo (m := 2) rfl (by decide)
  have hf_mo : f4 mo = .inr (2, [.int xv0, .int xv1, .int xv2, .int xv3, .int v4, .int v5, .int v6, .ref la, .ref sa, .ref mi, .ref da]) := (congrFun e_f4 mo).trans z_up_self
  have hfr : ∀ b ∈ L, b ≠ mo → b ≠ la → b ≠ sa → b ≠ mi → (∀ i : Nat, i < 13 → b ≠ dv i) → f4 b = f b := fun b hb h0 h1 h2 h3 hp0 => (congrFun e_f4 b).trans (z_up_ne h0 (hfr b hb h0 h1 h2 h3 hp0))
  refine lv_aload_n hx hb dX2_copy_32 rfl (lv_at hl 0 rfl) ?_
  refine lv_aload_n hx hb dX2_copy_33 rfl (lv_at hl 1 rfl) ?_
  refine z_get (C := RX2) (T := TX2) (N := 11) (ci := 2) (v := .int xv4) hx hb hT zin_X2 hown hK hw hm_xmo hf_xmo rfl 4 (by decide) (hT _ kw_218) rfl dX2_copy_34 ?_
  refine z_put (C := RX2) (T := TX2) (N := 11) (ci := 2) (v := .int xv4) (fs' := [.int xv0, .int xv1, .int xv2, .int xv3, .int xv4, .int v5, .int v6, .ref la, .ref sa, .ref mi, .ref da]) hx hb hT zin_X2 tyX2_ok nmX2 hown hK hw hm_mo hf_mo rfl 4 (by decide) (hT _ kw_218) rfl rfl rfl (Nat.le_of_ble_eq_true rfl) rfl dX2_copy_37 (fun H locs hw => ?_)
  obtain ⟨f5, e_f5⟩ : ∃ z, z = va_up f4 mo (.inr (2, [.int xv0, .int xv1, .int xv2, .int xv3, .int xv4, .int v5, .int v6, .ref la, .ref sa, .ref mi, .ref da])) := ⟨_, rfl⟩
  rw [← e_f5] at hw
  have hf_la : f5 la = .inl (cy 1, 5, .inl gl) := (congrFun e_f5 la).trans (z_up_ne (z_tne hf_la hf_mo (m := 140) (n := 2) rfl rfl (by decide)) hf_la)
  have hf_sa : f5 sa = .inl (cy 1, 4, .inl gs) := (congrFun e_f5 sa).trans (z_up_ne (z_tne hf_sa hf_mo (m := 132) (n := 2) rfl rfl (by decide)) hf_sa)
  have hf_mi : f5 mi = .inl (cy 1, 36, .inl gm) := (congrFun e_f5 mi).trans (z_up_ne (z_tne hf_mi hf_mo (m := 388) (n := 2) rfl rfl (by decide)) hf_mi)
  have hf_da : f5 da = .inl (cy 4, 13, .inr (.inr (.inr (.inr gd)))) := (congrFun e_f5 da).trans (z_up_ne (z_tne hf_da hf_mo (m := 206) (n := 2) rfl rfl (by decide)) hf_da)
  have hf_xmo : f5 xmo = .inr (2, [.int xv0, .int xv1, .int xv2, .int xv3, .int xv4, .int xv5, .int xv6, .ref xla, .ref xsa, .ref xmi, .ref xda]) := (congrFun e_f5 xmo).trans (z_up_ne (Ne.symm ne_mo_xmo) hf_xmo)
  have hf_xla : f5 xla = .inl (cy 1, 5, .inl xgl) := (congrFun e_f5 xla).trans (z_up_ne (z_tne hf_xla hf_mo (m := 140) (n := 2) rfl rfl (by decide)) hf_xla)
  have hf_xsa : f5 xsa = .inl (cy 1, 4, .inl xgs) := (congrFun e_f5 xsa).trans (z_up_ne (z_tne hf_xsa hf_mo (m := 132) (n := 2) rfl rfl (by decide)) hf_xsa)
  have hf_xmi : f5 xmi = .inl (cy 1, 36, .inl xgm) := (congrFun e_f5 xmi).trans (z_up_ne (z_tne hf_xmi hf_mo (m := 388) (n := 2) rfl rfl (by decide)) hf_xmi)
  have hf_xda : f5 xda = .inl (cy 4, 13, .inr (.inr (.inr (.inr xgd)))) := (congrFun e_f5 xda).trans (z_up_ne (z_tne hf_xda hf_mo (m := 206) (n := 2) rfl rfl (by decide)) hf_xda)
  have hd_da : z_Drv L f5 dv 13 := z_Drv_up hd_da e_f5 hf_mo (m := 2) rfl (by decide)
  have hd_xda : z_Drv L f5 xdv 13 := z_Drv_up hd_xda e_f5 hf_mo (m := 2) rfl (by decide)
  have hf_mo : f5 mo = .inr (2, [.int xv0, .int xv1, .int xv2, .int xv3, .int xv4, .int v5, .int v6, .ref la, .ref sa, .ref mi, .ref da]) := (congrFun e_f5 mo).trans z_up_self
  have hfr : ∀ b ∈ L, b ≠ mo → b ≠ la → b ≠ sa → b ≠ mi → (∀ i : Nat, i < 13 → b ≠ dv i) → f5 b = f b := fun b hb h0 h1 h2 h3 hp0 => (congrFun e_f5 b).trans (z_up_ne h0 (hfr b hb h0 h1 h2 h3 hp0))
  refine lv_aload_n hx hb dX2_copy_40 rfl (lv_at hl 0 rfl) ?_
  refine lv_aload_n hx hb dX2_copy_41 rfl (lv_at hl 1 rfl) ?_
  refine z_get (C := RX2) (T := TX2) (N := 11) (ci := 2) (v := .int xv5) hx hb hT zin_X2 hown hK hw hm_xmo hf_xmo rfl 5 (by decide) (hT _ kw_222) rfl dX2_copy_42 ?_
  refine z_put (C := RX2) (T := TX2) (N := 11) (ci := 2) (v := .int xv5) (fs' := [.int xv0, .int xv1, .int xv2, .int xv3, .int xv4, .int xv5, .int v6, .ref la, .ref sa, .ref mi, .ref da]) hx hb hT zin_X2 tyX2_ok nmX2 hown hK hw hm_mo hf_mo rfl 5 (by decide) (hT _ kw_222) rfl rfl rfl (Nat.le_of_ble_eq_true rfl) rfl dX2_copy_45 (fun H locs hw => ?_)
  obtain ⟨f6, e_f6⟩ : ∃ z, z = va_up f5 mo (.inr (2, [.int xv0, .int xv1, .int xv2, .int xv3, .int xv4, .int xv5, .int v6, .ref la, .ref sa, .ref mi, .ref da])) := ⟨_, rfl⟩
  rw [← e_f6] at hw
  have hf_la : f6 la = .inl (cy 1, 5, .inl gl) := (congrFun e_f6 la).trans (z_up_ne (z_tne hf_la hf_mo (m := 140) (n := 2) rfl rfl (by decide)) hf_la)
  have hf_sa : f6 sa = .inl (cy 1, 4, .inl gs) := (congrFun e_f6 sa).trans (z_up_ne (z_tne hf_sa hf_mo (m := 132) (n := 2) rfl rfl (by decide)) hf_sa)
  have hf_mi : f6 mi = .inl (cy 1, 36, .inl gm) := (congrFun e_f6 mi).trans (z_up_ne (z_tne hf_mi hf_mo (m := 388) (n := 2) rfl rfl (by decide)) hf_mi)
  have hf_da : f6 da = .inl (cy 4, 13, .inr (.inr (.inr (.inr gd)))) := (congrFun e_f6 da).trans (z_up_ne (z_tne hf_da hf_mo (m := 206) (n := 2) rfl rfl (by decide)) hf_da)
  have hf_xmo : f6 xmo = .inr (2, [.int xv0, .int xv1, .int xv2, .int xv3, .int xv4, .int xv5, .int xv6, .ref xla, .ref xsa, .ref xmi, .ref xda]) := (congrFun e_f6 xmo).trans (z_up_ne (Ne.symm ne_mo_xmo) hf_xmo)
  have hf_xla : f6 xla = .inl (cy 1, 5, .inl xgl) := (congrFun e_f6 xla).trans (z_up_ne (z_tne hf_xla hf_mo (m := 140) (n := 2) rfl rfl (by decide)) hf_xla)
  have hf_xsa : f6 xsa = .inl (cy 1, 4, .inl xgs) := (congrFun e_f6 xsa).trans (z_up_ne (z_tne hf_xsa hf_mo (m := 132) (n := 2) rfl rfl (by decide)) hf_xsa)
  have hf_xmi : f6 xmi = .inl (cy 1, 36, .inl xgm) := (congrFun e_f6 xmi).trans (z_up_ne (z_tne hf_xmi hf_mo (m := 388) (n := 2) rfl rfl (by decide)) hf_xmi)
  have hf_xda : f6 xda = .inl (cy 4, 13, .inr (.inr (.inr (.inr xgd)))) := (congrFun e_f6 xda).trans (z_up_ne (z_tne hf_xda hf_mo (m := 206) (n := 2) rfl rfl (by decide)) hf_xda)
  have hd_da : z_Drv L f6 dv 13 := z_Drv_up hd_da e_f6 hf_mo (m := 2) rfl (by decide)
  have hd_xda : z_Drv L f6 xdv 13 := z_Drv_up hd_xda e_f6 hf_mo (m := 2) rfl (by decide)
  have hf_mo : f6 mo = .inr (2, [.int xv0, .int xv1, .int xv2, .int xv3, .int xv4, .int xv5, .int v6, .ref la, .ref sa, .ref mi, .ref da]) := (congrFun e_f6 mo).trans z_up_self
  have hfr : ∀ b ∈ L, b ≠ mo → b ≠ la → b ≠ sa → b ≠ mi → (∀ i : Nat, i < 13 → b ≠ dv i) → f6 b = f b := fun b hb h0 h1 h2 h3 hp0 => (congrFun e_f6 b).trans (z_up_ne h0 (hfr b hb h0 h1 h2 h3 hp0))
  refine lv_aload_n hx hb dX2_copy_48 rfl (lv_at hl 0 rfl) ?_
  refine lv_aload_n hx hb dX2_copy_49 rfl (lv_at hl 1 rfl) ?_
  refine z_get (C := RX2) (T := TX2) (N := 11) (ci := 2) (v := .int xv6) hx hb hT zin_X2 hown hK hw hm_xmo hf_xmo rfl 6 (by decide) (hT _ kw_227) rfl dX2_copy_50 ?_
  refine z_put (C := RX2) (T := TX2) (N := 11) (ci := 2) (v := .int xv6) (fs' := [.int xv0, .int xv1, .int xv2, .int xv3, .int xv4, .int xv5, .int xv6, .ref la, .ref sa, .ref mi, .ref da]) hx hb hT zin_X2 tyX2_ok nmX2 hown hK hw hm_mo hf_mo rfl 6 (by decide) (hT _ kw_227) rfl rfl rfl (Nat.le_of_ble_eq_true rfl) rfl dX2_copy_53 (fun H locs hw => ?_)
  obtain ⟨f7, e_f7⟩ : ∃ z, z = va_up f6 mo (.inr (2, [.int xv0, .int xv1, .int xv2, .int xv3, .int xv4, .int xv5, .int xv6, .ref la, .ref sa, .ref mi, .ref da])) := ⟨_, rfl⟩
  rw [← e_f7] at hw
  have hf_la : f7 la = .inl (cy 1, 5, .inl gl) := (congrFun e_f7 la).trans (z_up_ne (z_tne hf_la hf_mo (m := 140) (n := 2) rfl rfl (by decide)) hf_la)
  have hf_sa : f7 sa = .inl (cy 1, 4, .inl gs) := (congrFun e_f7 sa).trans (z_up_ne (z_tne hf_sa hf_mo (m := 132) (n := 2) rfl rfl (by decide)) hf_sa)
  have hf_mi : f7 mi = .inl (cy 1, 36, .inl gm) := (congrFun e_f7 mi).trans (z_up_ne (z_tne hf_mi hf_mo (m := 388) (n := 2) rfl rfl (by decide)) hf_mi)
  have hf_da : f7 da = .inl (cy 4, 13, .inr (.inr (.inr (.inr gd)))) := (congrFun e_f7 da).trans (z_up_ne (z_tne hf_da hf_mo (m := 206) (n := 2) rfl rfl (by decide)) hf_da)
  have hf_xmo : f7 xmo = .inr (2, [.int xv0, .int xv1, .int xv2, .int xv3, .int xv4, .int xv5, .int xv6, .ref xla, .ref xsa, .ref xmi, .ref xda]) := (congrFun e_f7 xmo).trans (z_up_ne (Ne.symm ne_mo_xmo) hf_xmo)
  have hf_xla : f7 xla = .inl (cy 1, 5, .inl xgl) := (congrFun e_f7 xla).trans (z_up_ne (z_tne hf_xla hf_mo (m := 140) (n := 2) rfl rfl (by decide)) hf_xla)
  have hf_xsa : f7 xsa = .inl (cy 1, 4, .inl xgs) := (congrFun e_f7 xsa).trans (z_up_ne (z_tne hf_xsa hf_mo (m := 132) (n := 2) rfl rfl (by decide)) hf_xsa)
  have hf_xmi : f7 xmi = .inl (cy 1, 36, .inl xgm) := (congrFun e_f7 xmi).trans (z_up_ne (z_tne hf_xmi hf_mo (m := 388) (n := 2) rfl rfl (by decide)) hf_xmi)
  have hf_xda : f7 xda = .inl (cy 4, 13, .inr (.inr (.inr (.inr xgd)))) := (congrFun e_f7 xda).trans (z_up_ne (z_tne hf_xda hf_mo (m := 206) (n := 2) rfl rfl (by decide)) hf_xda)
  have hd_da : z_Drv L f7 dv 13 := z_Drv_up hd_da e_f7 hf_mo (m := 2) rfl (by decide)
  have hd_xda : z_Drv L f7 xdv 13 := z_Drv_up hd_xda e_f7 hf_mo (m := 2) rfl (by decide)
  have hf_mo : f7 mo = .inr (2, [.int xv0, .int xv1, .int xv2, .int xv3, .int xv4, .int xv5, .int xv6, .ref la, .ref sa, .ref mi, .ref da]) := (congrFun e_f7 mo).trans z_up_self
  have hfr : ∀ b ∈ L, b ≠ mo → b ≠ la → b ≠ sa → b ≠ mi → (∀ i : Nat, i < 13 → b ≠ dv i) → f7 b = f b := fun b hb h0 h1 h2 h3 hp0 => (congrFun e_f7 b).trans (z_up_ne h0 (hfr b hb h0 h1 h2 h3 hp0))
  refine lv_aload_n hx hb dX2_copy_56 rfl (lv_at hl 1 rfl) ?_
  refine z_get (C := RX2) (T := TX2) (N := 11) (ci := 2) (v := .ref xla) hx hb hT zin_X2 hown hK hw hm_xmo hf_xmo rfl 7 (by decide) (hT _ kw_230) rfl dX2_copy_57 ?_
  refine lv_iconst (v := 0) hx hb dX2_copy_60 (by decide) ?_
  refine lv_aload_n hx hb dX2_copy_61 rfl (lv_at hl 0 rfl) ?_
  refine z_get (C := RX2) (T := TX2) (N := 11) (ci := 2) (v := .ref la) hx hb hT zin_X2 hown hK hw hm_mo hf_mo rfl 7 (by decide) (hT _ kw_230) rfl dX2_copy_62 ?_
  refine lv_iconst (v := 0) hx hb dX2_copy_65 (by decide) ?_
  refine lv_iconst (v := 5) hx hb dX2_copy_66 (by decide) ?_
  refine z_copyi (t0 := 1) hx hb (by rw [hml]; exact hl.1.symm) hown (hT _ kc_lX2) (hT _ kc_n) (hT _ kc_s) (hT _ kc_i) hK hw (ha0 := hm_xla) (he0 := hf_xla) (ha1 := hm_la) (he1 := hf_la) (ht := rfl) (h1 := by decide) (h2 := by decide) (h3 := by decide) (h4 := by decide) (h5 := by decide) (hframes := Nat.le_of_ble_eq_true rfl) (hlocals := Nat.le_of_ble_eq_true rfl) (hdg := dX2_copy_67) (kk := fun H locs hw => ?_)
  obtain ⟨f8, e_f8⟩ : ∃ z, z = va_up f7 la (.inl (cy 1, 5, .inl (va_cpy xgl gl (0 : Int32).toNatClampNeg (0 : Int32).toNatClampNeg (5 : Int32).toNatClampNeg))) := ⟨_, rfl⟩
  rw [← e_f8] at hw
  have hf_mo : f8 mo = .inr (2, [.int xv0, .int xv1, .int xv2, .int xv3, .int xv4, .int xv5, .int xv6, .ref la, .ref sa, .ref mi, .ref da]) := (congrFun e_f8 mo).trans (z_up_ne (z_tne hf_mo hf_la (m := 2) (n := 140) rfl rfl (by decide)) hf_mo)
  have hf_sa : f8 sa = .inl (cy 1, 4, .inl gs) := (congrFun e_f8 sa).trans (z_up_ne (z_tne hf_sa hf_la (m := 132) (n := 140) rfl rfl (by decide)) hf_sa)
  have hf_mi : f8 mi = .inl (cy 1, 36, .inl gm) := (congrFun e_f8 mi).trans (z_up_ne (z_tne hf_mi hf_la (m := 388) (n := 140) rfl rfl (by decide)) hf_mi)
  have hf_da : f8 da = .inl (cy 4, 13, .inr (.inr (.inr (.inr gd)))) := (congrFun e_f8 da).trans (z_up_ne (z_tne hf_da hf_la (m := 206) (n := 140) rfl rfl (by decide)) hf_da)
  have hf_xmo : f8 xmo = .inr (2, [.int xv0, .int xv1, .int xv2, .int xv3, .int xv4, .int xv5, .int xv6, .ref xla, .ref xsa, .ref xmi, .ref xda]) := (congrFun e_f8 xmo).trans (z_up_ne (z_tne hf_xmo hf_la (m := 2) (n := 140) rfl rfl (by decide)) hf_xmo)
  have hf_xla : f8 xla = .inl (cy 1, 5, .inl xgl) := (congrFun e_f8 xla).trans (z_up_ne (Ne.symm ne_la_xla) hf_xla)
  have hf_xsa : f8 xsa = .inl (cy 1, 4, .inl xgs) := (congrFun e_f8 xsa).trans (z_up_ne (z_tne hf_xsa hf_la (m := 132) (n := 140) rfl rfl (by decide)) hf_xsa)
  have hf_xmi : f8 xmi = .inl (cy 1, 36, .inl xgm) := (congrFun e_f8 xmi).trans (z_up_ne (z_tne hf_xmi hf_la (m := 388) (n := 140) rfl rfl (by decide)) hf_xmi)
  have hf_xda : f8 xda = .inl (cy 4, 13, .inr (.inr (.inr (.inr xgd)))) := (congrFun e_f8 xda).trans (z_up_ne (z_tne hf_xda hf_la (m := 206) (n := 140) rfl rfl (by decide)) hf_xda)
  have hd_da : z_Drv L f8 dv 13 := z_Drv_up hd_da e_f8 hf_la (m := 140) rfl (by decide)
  have hd_xda : z_Drv L f8 xdv 13 := z_Drv_up hd_xda e_f8 hf_la (m := 140) rfl (by decide)
  have hf_la : f8 la = .inl (cy 1, 5, .inl (va_cpy xgl gl (0 : Int32).toNatClampNeg (0 : Int32).toNatClampNeg (5 : Int32).toNatClampNeg)) := (congrFun e_f8 la).trans z_up_self
  have hfr : ∀ b ∈ L, b ≠ mo → b ≠ la → b ≠ sa → b ≠ mi → (∀ i : Nat, i < 13 → b ≠ dv i) → f8 b = f b := fun b hb h0 h1 h2 h3 hp0 => (congrFun e_f8 b).trans (z_up_ne h1 (hfr b hb h0 h1 h2 h3 hp0))
  obtain ⟨g9, e_g9⟩ : ∃ z, z = (va_cpy xgl gl (0 : Int32).toNatClampNeg (0 : Int32).toNatClampNeg (5 : Int32).toNatClampNeg) := ⟨_, rfl⟩
  rw [← e_g9] at hf_la
  refine lv_aload_n hx hb dX2_copy_70 rfl (lv_at hl 1 rfl) ?_
  refine z_get (C := RX2) (T := TX2) (N := 11) (ci := 2) (v := .ref xsa) hx hb hT zin_X2 hown hK hw hm_xmo hf_xmo rfl 8 (by decide) (hT _ kw_236) rfl dX2_copy_71 ?_
  refine lv_iconst (v := 0) hx hb dX2_copy_74 (by decide) ?_
  refine lv_aload_n hx hb dX2_copy_75 rfl (lv_at hl 0 rfl) ?_
  refine z_get (C := RX2) (T := TX2) (N := 11) (ci := 2) (v := .ref sa) hx hb hT zin_X2 hown hK hw hm_mo hf_mo rfl 8 (by decide) (hT _ kw_236) rfl dX2_copy_76 ?_
  refine lv_iconst (v := 0) hx hb dX2_copy_79 (by decide) ?_
  refine lv_iconst (v := 4) hx hb dX2_copy_80 (by decide) ?_
  refine z_copyi (t0 := 1) hx hb (by rw [hml]; exact hl.1.symm) hown (hT _ kc_lX2) (hT _ kc_n) (hT _ kc_s) (hT _ kc_i) hK hw (ha0 := hm_xsa) (he0 := hf_xsa) (ha1 := hm_sa) (he1 := hf_sa) (ht := rfl) (h1 := by decide) (h2 := by decide) (h3 := by decide) (h4 := by decide) (h5 := by decide) (hframes := Nat.le_of_ble_eq_true rfl) (hlocals := Nat.le_of_ble_eq_true rfl) (hdg := dX2_copy_81) (kk := fun H locs hw => ?_)
  obtain ⟨f10, e_f10⟩ : ∃ z, z = va_up f8 sa (.inl (cy 1, 4, .inl (va_cpy xgs gs (0 : Int32).toNatClampNeg (0 : Int32).toNatClampNeg (4 : Int32).toNatClampNeg))) := ⟨_, rfl⟩
  rw [← e_f10] at hw
  have hf_mo : f10 mo = .inr (2, [.int xv0, .int xv1, .int xv2, .int xv3, .int xv4, .int xv5, .int xv6, .ref la, .ref sa, .ref mi, .ref da]) := (congrFun e_f10 mo).trans (z_up_ne (z_tne hf_mo hf_sa (m := 2) (n := 132) rfl rfl (by decide)) hf_mo)
  have hf_la : f10 la = .inl (cy 1, 5, .inl g9) := (congrFun e_f10 la).trans (z_up_ne (z_tne hf_la hf_sa (m := 140) (n := 132) rfl rfl (by decide)) hf_la)
  have hf_mi : f10 mi = .inl (cy 1, 36, .inl gm) := (congrFun e_f10 mi).trans (z_up_ne (z_tne hf_mi hf_sa (m := 388) (n := 132) rfl rfl (by decide)) hf_mi)
  have hf_da : f10 da = .inl (cy 4, 13, .inr (.inr (.inr (.inr gd)))) := (congrFun e_f10 da).trans (z_up_ne (z_tne hf_da hf_sa (m := 206) (n := 132) rfl rfl (by decide)) hf_da)
  have hf_xmo : f10 xmo = .inr (2, [.int xv0, .int xv1, .int xv2, .int xv3, .int xv4, .int xv5, .int xv6, .ref xla, .ref xsa, .ref xmi, .ref xda]) := (congrFun e_f10 xmo).trans (z_up_ne (z_tne hf_xmo hf_sa (m := 2) (n := 132) rfl rfl (by decide)) hf_xmo)
  have hf_xla : f10 xla = .inl (cy 1, 5, .inl xgl) := (congrFun e_f10 xla).trans (z_up_ne (z_tne hf_xla hf_sa (m := 140) (n := 132) rfl rfl (by decide)) hf_xla)
  have hf_xsa : f10 xsa = .inl (cy 1, 4, .inl xgs) := (congrFun e_f10 xsa).trans (z_up_ne (Ne.symm ne_sa_xsa) hf_xsa)
  have hf_xmi : f10 xmi = .inl (cy 1, 36, .inl xgm) := (congrFun e_f10 xmi).trans (z_up_ne (z_tne hf_xmi hf_sa (m := 388) (n := 132) rfl rfl (by decide)) hf_xmi)
  have hf_xda : f10 xda = .inl (cy 4, 13, .inr (.inr (.inr (.inr xgd)))) := (congrFun e_f10 xda).trans (z_up_ne (z_tne hf_xda hf_sa (m := 206) (n := 132) rfl rfl (by decide)) hf_xda)
  have hd_da : z_Drv L f10 dv 13 := z_Drv_up hd_da e_f10 hf_sa (m := 132) rfl (by decide)
  have hd_xda : z_Drv L f10 xdv 13 := z_Drv_up hd_xda e_f10 hf_sa (m := 132) rfl (by decide)
  have hf_sa : f10 sa = .inl (cy 1, 4, .inl (va_cpy xgs gs (0 : Int32).toNatClampNeg (0 : Int32).toNatClampNeg (4 : Int32).toNatClampNeg)) := (congrFun e_f10 sa).trans z_up_self
  have hfr : ∀ b ∈ L, b ≠ mo → b ≠ la → b ≠ sa → b ≠ mi → (∀ i : Nat, i < 13 → b ≠ dv i) → f10 b = f b := fun b hb h0 h1 h2 h3 hp0 => (congrFun e_f10 b).trans (z_up_ne h2 (hfr b hb h0 h1 h2 h3 hp0))
  obtain ⟨g11, e_g11⟩ : ∃ z, z = (va_cpy xgs gs (0 : Int32).toNatClampNeg (0 : Int32).toNatClampNeg (4 : Int32).toNatClampNeg) := ⟨_, rfl⟩
  rw [← e_g11] at hf_sa
  refine lv_aload_n hx hb dX2_copy_84 rfl (lv_at hl 1 rfl) ?_
  refine z_get (C := RX2) (T := TX2) (N := 11) (ci := 2) (v := .ref xmi) hx hb hT zin_X2 hown hK hw hm_xmo hf_xmo rfl 9 (by decide) (hT _ kw_239) rfl dX2_copy_85 ?_
  refine lv_iconst (v := 0) hx hb dX2_copy_88 (by decide) ?_
  refine lv_aload_n hx hb dX2_copy_89 rfl (lv_at hl 0 rfl) ?_
  refine z_get (C := RX2) (T := TX2) (N := 11) (ci := 2) (v := .ref mi) hx hb hT zin_X2 hown hK hw hm_mo hf_mo rfl 9 (by decide) (hT _ kw_239) rfl dX2_copy_90 ?_
  refine lv_iconst (v := 0) hx hb dX2_copy_93 (by decide) ?_
  refine lv_bipush (v := 36) hx hb dX2_copy_94 (by decide) ?_
  refine z_copyi (t0 := 1) hx hb (by rw [hml]; exact hl.1.symm) hown (hT _ kc_lX2) (hT _ kc_n) (hT _ kc_s) (hT _ kc_i) hK hw (ha0 := hm_xmi) (he0 := hf_xmi) (ha1 := hm_mi) (he1 := hf_mi) (ht := rfl) (h1 := by decide) (h2 := by decide) (h3 := by decide) (h4 := by decide) (h5 := by decide) (hframes := Nat.le_of_ble_eq_true rfl) (hlocals := Nat.le_of_ble_eq_true rfl) (hdg := dX2_copy_96) (kk := fun H locs hw => ?_)
  obtain ⟨f12, e_f12⟩ : ∃ z, z = va_up f10 mi (.inl (cy 1, 36, .inl (va_cpy xgm gm (0 : Int32).toNatClampNeg (0 : Int32).toNatClampNeg (36 : Int32).toNatClampNeg))) := ⟨_, rfl⟩
  rw [← e_f12] at hw
  have hf_mo : f12 mo = .inr (2, [.int xv0, .int xv1, .int xv2, .int xv3, .int xv4, .int xv5, .int xv6, .ref la, .ref sa, .ref mi, .ref da]) := (congrFun e_f12 mo).trans (z_up_ne (z_tne hf_mo hf_mi (m := 2) (n := 388) rfl rfl (by decide)) hf_mo)
  have hf_la : f12 la = .inl (cy 1, 5, .inl g9) := (congrFun e_f12 la).trans (z_up_ne (z_tne hf_la hf_mi (m := 140) (n := 388) rfl rfl (by decide)) hf_la)
  have hf_sa : f12 sa = .inl (cy 1, 4, .inl g11) := (congrFun e_f12 sa).trans (z_up_ne (z_tne hf_sa hf_mi (m := 132) (n := 388) rfl rfl (by decide)) hf_sa)
  have hf_da : f12 da = .inl (cy 4, 13, .inr (.inr (.inr (.inr gd)))) := (congrFun e_f12 da).trans (z_up_ne (z_tne hf_da hf_mi (m := 206) (n := 388) rfl rfl (by decide)) hf_da)
  have hf_xmo : f12 xmo = .inr (2, [.int xv0, .int xv1, .int xv2, .int xv3, .int xv4, .int xv5, .int xv6, .ref xla, .ref xsa, .ref xmi, .ref xda]) := (congrFun e_f12 xmo).trans (z_up_ne (z_tne hf_xmo hf_mi (m := 2) (n := 388) rfl rfl (by decide)) hf_xmo)
  have hf_xla : f12 xla = .inl (cy 1, 5, .inl xgl) := (congrFun e_f12 xla).trans (z_up_ne (z_tne hf_xla hf_mi (m := 140) (n := 388) rfl rfl (by decide)) hf_xla)
  have hf_xsa : f12 xsa = .inl (cy 1, 4, .inl xgs) := (congrFun e_f12 xsa).trans (z_up_ne (z_tne hf_xsa hf_mi (m := 132) (n := 388) rfl rfl (by decide)) hf_xsa)
  have hf_xmi : f12 xmi = .inl (cy 1, 36, .inl xgm) := (congrFun e_f12 xmi).trans (z_up_ne (Ne.symm ne_mi_xmi) hf_xmi)
  have hf_xda : f12 xda = .inl (cy 4, 13, .inr (.inr (.inr (.inr xgd)))) := (congrFun e_f12 xda).trans (z_up_ne (z_tne hf_xda hf_mi (m := 206) (n := 388) rfl rfl (by decide)) hf_xda)
  have hd_da : z_Drv L f12 dv 13 := z_Drv_up hd_da e_f12 hf_mi (m := 388) rfl (by decide)
  have hd_xda : z_Drv L f12 xdv 13 := z_Drv_up hd_xda e_f12 hf_mi (m := 388) rfl (by decide)
  have hf_mi : f12 mi = .inl (cy 1, 36, .inl (va_cpy xgm gm (0 : Int32).toNatClampNeg (0 : Int32).toNatClampNeg (36 : Int32).toNatClampNeg)) := (congrFun e_f12 mi).trans z_up_self
  have hfr : ∀ b ∈ L, b ≠ mo → b ≠ la → b ≠ sa → b ≠ mi → (∀ i : Nat, i < 13 → b ≠ dv i) → f12 b = f b := fun b hb h0 h1 h2 h3 hp0 => (congrFun e_f12 b).trans (z_up_ne h3 (hfr b hb h0 h1 h2 h3 hp0))
  obtain ⟨g13, e_g13⟩ : ∃ z, z = (va_cpy xgm gm (0 : Int32).toNatClampNeg (0 : Int32).toNatClampNeg (36 : Int32).toNatClampNeg) := ⟨_, rfl⟩
  rw [← e_g13] at hf_mi
  refine lv_iconst (v := 0) hx hb dX2_copy_99 (by decide) ?_
  refine lv_istore_n (lv' := [(2, .int 0), (0, .ref mo), (1, .ref xmo)]) hx hb dX2_copy_100 rfl hl (by decide) rfl (fun ls hl => ?_)
  have hzk : (0 : Int32).toInt = 0 := by decide
  refine z_loop (fun n H locs ls => ∃ (K14 : Int32) (f15 : Nat → va_E), (n = (xv5.toInt - K14.toInt).toNat) ∧ (0 ≤ K14.toInt) ∧ (K14.toInt ≤ xv5.toInt) ∧ (z_H D vwCl (z_A L sz) s.heap L f15 H locs) ∧ (f15 mo = .inr (2, [.int xv0, .int xv1, .int xv2, .int xv3, .int xv4, .int xv5, .int xv6, .ref la, .ref sa, .ref mi, .ref da])) ∧ (f15 la = .inl (cy 1, 5, .inl g9)) ∧ (f15 sa = .inl (cy 1, 4, .inl g11)) ∧ (f15 mi = .inl (cy 1, 36, .inl g13)) ∧ (f15 da = .inl (cy 4, 13, .inr (.inr (.inr (.inr gd))))) ∧ (f15 xmo = .inr (2, [.int xv0, .int xv1, .int xv2, .int xv3, .int xv4, .int xv5, .int xv6, .ref xla, .ref xsa, .ref xmi, .ref xda])) ∧ (f15 xla = .inl (cy 1, 5, .inl xgl)) ∧ (f15 xsa = .inl (cy 1, 4, .inl xgs)) ∧ (f15 xmi = .inl (cy 1, 36, .inl xgm)) ∧ (f15 xda = .inl (cy 4, 13, .inr (.inr (.inr (.inr xgd))))) ∧ (∀ b ∈ L, b ≠ mo → b ≠ la → b ≠ sa → b ≠ mi → (∀ i : Nat, i < 13 → b ≠ dv i) → f15 b = f b) ∧ (z_Drv L f15 dv 13) ∧ (z_Drv L f15 xdv 13) ∧ (lv_has ls 3 [(2, .int K14), (0, .ref mo), (1, .ref xmo)])) _ ⟨0, f12, rfl, (by first | decide | omega), (by first | decide | omega), hw, hf_mo, hf_la, hf_sa, hf_mi, hf_da, hf_xmo, hf_xla, hf_xsa, hf_xmi, hf_xda, hfr, hd_da, hd_xda, (lv_sub hl [0, 1, 2] rfl)⟩ (fun n H locs ls hI ih_101 => ?_)
  obtain ⟨K14, f15, hn, hk0, hk1, hw, hf_mo, hf_la, hf_sa, hf_mi, hf_da, hf_xmo, hf_xla, hf_xsa, hf_xmi, hf_xda, hfr, hd_da, hd_xda, hl⟩ := hI
  refine lv_iload_n hx hb dX2_copy_101 rfl (lv_at hl 0 rfl) ?_
  refine lv_aload_n hx hb dX2_copy_102 rfl (lv_at hl 2 rfl) ?_
  refine z_get (C := RX2) (T := TX2) (N := 11) (ci := 2) (v := .int xv5) hx hb hT zin_X2 hown hK hw hm_xmo hf_xmo rfl 5 (by decide) (hT _ kw_222) rfl dX2_copy_103 ?_
  refine z_icmp_ge (tgt := 136) hx hb rfl rfl dX2_copy_106 (by decide) (fun c16 => ?_) (fun c16 => ?_)
  · skip
    exact z_vret hx hb hr hlk (by decide) (by decide) hw (⟨hsub, hfr, g9, g11, g13, hf_mo, hf_la, hf_sa, hf_mi, hd_da, z_cpy0 (by decide) e_g9, z_cpy0 (by decide) e_g11, z_cpy0 (by decide) e_g13⟩) dX2_copy_136
  · skip
    refine lv_iload_n hx hb dX2_copy_109 rfl (lv_at hl 0 rfl) ?_
    refine lv_bipush (v := 12) hx hb dX2_copy_110 (by decide) ?_
    refine z_icmp_gt (tgt := 136) hx hb rfl (show (12 : Int32).toInt = 12 by decide) dX2_copy_112 (by decide) (fun c17 => ?_) (fun c17 => ?_)
    · skip
      exact z_vret hx hb hr hlk (by decide) (by decide) hw (⟨hsub, hfr, g9, g11, g13, hf_mo, hf_la, hf_sa, hf_mi, hd_da, z_cpy0 (by decide) e_g9, z_cpy0 (by decide) e_g11, z_cpy0 (by decide) e_g13⟩) dX2_copy_136
    · skip
      refine lv_aload_n hx hb dX2_copy_115 rfl (lv_at hl 1 rfl) ?_
      refine z_get (C := RX2) (T := TX2) (N := 11) (ci := 2) (v := .ref da) hx hb hT zin_X2 hown hK hw hm_mo hf_mo rfl 10 (by decide) (hT _ kw_241) rfl dX2_copy_116 ?_
      refine lv_iload_n hx hb dX2_copy_119 rfl (lv_at hl 0 rfl) ?_
      obtain ⟨dq18, e_dq18⟩ : ∃ z, z = dv K14.toNatClampNeg := ⟨_, rfl⟩
      have hi_dq18 : K14.toNatClampNeg < 13 := z_clI rfl (by omega)
      refine z_aald (b := dq18) hx hb hK hw 4 hm_da hf_da rfl (z_ix rfl (by omega)) (by rw [e_dq18]; exact hg_da _ hi_dq18) dX2_copy_120 ?_
      obtain ⟨hm_dq18, do19, dg20, dd21, dh22, ds23, dl24, dp25, dm26, hf_dq18, hr_do19, hr_dg20, hr_dd21, hr_dh22, hr_ds23, hr_dl24, hr_dp25, hr_dm26⟩ := hd_da _ hi_dq18
      rw [← e_dq18] at hm_dq18 hf_dq18
      refine lv_aload_n hx hb dX2_copy_121 rfl (lv_at hl 2 rfl) ?_
      refine z_get (C := RX2) (T := TX2) (N := 11) (ci := 2) (v := .ref xda) hx hb hT zin_X2 hown hK hw hm_xmo hf_xmo rfl 10 (by decide) (hT _ kw_241) rfl dX2_copy_122 ?_
      refine lv_iload_n hx hb dX2_copy_125 rfl (lv_at hl 0 rfl) ?_
      obtain ⟨dq27, e_dq27⟩ : ∃ z, z = xdv K14.toNatClampNeg := ⟨_, rfl⟩
      have hi_dq27 : K14.toNatClampNeg < 13 := z_clI rfl (by omega)
      refine z_aald (b := dq27) hx hb hK hw 4 hm_xda hf_xda rfl (z_ix rfl (by omega)) (by rw [e_dq27]; exact hg_xda _ hi_dq27) dX2_copy_126 ?_
      obtain ⟨hm_dq27, do28, dg29, dd30, dh31, ds32, dl33, dp34, dm35, hf_dq27, hr_do28, hr_dg29, hr_dd30, hr_dh31, hr_ds32, hr_dl33, hr_dp34, hr_dm35⟩ := hd_xda _ hi_dq27
      rw [← e_dq27] at hm_dq27 hf_dq27
      have ne_dq18_dq27 : dq18 ≠ dq27 := by rw [e_dq18, e_dq27]; exact hdd _ hi_dq18
      refine z_callvV (cells := 0) (slots := 0) (b := dq18) (As := [.ref dq27]) (rest := []) (ci := 0) (q0 := (RX0, TX0, 8)) ⟨hx, hb, hml, hown, hT⟩ (c_X0_copy l hm_dq18 hm_dq27 hf_dq18 hf_dq27 ne_dq18_dq27) (cwV 1 hT (z_goodV (fun _ h => h) kw_697 kw_698 kw_699 kw_88 kw_700) rfl rfl rfl (by decide +kernel) ⟨by decide, by decide⟩) z_mv hKK hK hw hA hm_dq18 hf_dq18 rfl rfl rfl hl.1 rfl (Nat.le_of_ble_eq_true rfl) dX2_copy_127 ⟨by decide, by decide⟩ (fun u H locs hp hw => ?_)
      obtain ⟨L36, f37⟩ := u
      obtain ⟨hsb, hfm, ha_0, hp⟩ := hp
      have hsb : L = L36 := hsb
      subst hsb
      have hsb : ∀ b ∈ L, b ∈ L := fun _ h => h
      have hw : z_H D vwCl (z_A L sz) s.heap L f37 H locs := hw
      have hfr : ∀ b ∈ L, b ≠ mo → b ≠ la → b ≠ sa → b ≠ mi → (∀ i : Nat, i < 13 → b ≠ dv i) → f37 b = f b := fun b hb h0 h1 h2 h3 hp0 => (hfm b hb (by rw [e_dq18]; exact hp0 _ hi_dq18)).trans (hfr b hb h0 h1 h2 h3 hp0)
      have hd_da : z_Drv L f37 dv 13 := z_Drv_one hd_da hsb ha_0 ⟨_, _, _, _, _, _, _, _, rfl, by omega, by omega, by omega, by omega, by omega, by omega, by omega, by omega⟩ hfm
      have hd_xda : z_Drv L f37 xdv 13 := z_Drv_one hd_xda hsb ha_0 ⟨_, _, _, _, _, _, _, _, rfl, by omega, by omega, by omega, by omega, by omega, by omega, by omega, by omega⟩ hfm
      have hf_mo : f37 mo = .inr (2, [.int xv0, .int xv1, .int xv2, .int xv3, .int xv4, .int xv5, .int xv6, .ref la, .ref sa, .ref mi, .ref da]) := (hfm mo hm_mo (z_tne hf_mo hf_dq18 (m := 2) (n := 0) rfl rfl (by decide))).trans hf_mo
      have hf_la : f37 la = .inl (cy 1, 5, .inl g9) := (hfm la hm_la (z_tne hf_la hf_dq18 (m := 140) (n := 0) rfl rfl (by decide))).trans hf_la
      have hf_sa : f37 sa = .inl (cy 1, 4, .inl g11) := (hfm sa hm_sa (z_tne hf_sa hf_dq18 (m := 132) (n := 0) rfl rfl (by decide))).trans hf_sa
      have hf_mi : f37 mi = .inl (cy 1, 36, .inl g13) := (hfm mi hm_mi (z_tne hf_mi hf_dq18 (m := 388) (n := 0) rfl rfl (by decide))).trans hf_mi
      have hf_da : f37 da = .inl (cy 4, 13, .inr (.inr (.inr (.inr gd)))) := (hfm da hm_da (z_tne hf_da hf_dq18 (m := 206) (n := 0) rfl rfl (by decide))).trans hf_da
      have hf_xmo : f37 xmo = .inr (2, [.int xv0, .int xv1, .int xv2, .int xv3, .int xv4, .int xv5, .int xv6, .ref xla, .ref xsa, .ref xmi, .ref xda]) := (hfm xmo hm_xmo (z_tne hf_xmo hf_dq18 (m := 2) (n := 0) rfl rfl (by decide))).trans hf_xmo
      have hf_xla : f37 xla = .inl (cy 1, 5, .inl xgl) := (hfm xla hm_xla (z_tne hf_xla hf_dq18 (m := 140) (n := 0) rfl rfl (by decide))).trans hf_xla
      have hf_xsa : f37 xsa = .inl (cy 1, 4, .inl xgs) := (hfm xsa hm_xsa (z_tne hf_xsa hf_dq18 (m := 132) (n := 0) rfl rfl (by decide))).trans hf_xsa
      have hf_xmi : f37 xmi = .inl (cy 1, 36, .inl xgm) := (hfm xmi hm_xmi (z_tne hf_xmi hf_dq18 (m := 388) (n := 0) rfl rfl (by decide))).trans hf_xmi
      have hf_xda : f37 xda = .inl (cy 4, 13, .inr (.inr (.inr (.inr xgd)))) := (hfm xda hm_xda (z_tne hf_xda hf_dq18 (m := 206) (n := 0) rfl rfl (by decide))).trans hf_xda
      have hf_dq27 : f37 dq27 = .inr (0, [.int do28, .int dg29, .int dd30, .int dh31, .int ds32, .int dl33, .int dp34, .int dm35]) := (hfm dq27 hm_dq27 (Ne.symm ne_dq18_dq27)).trans hf_dq27
      have hf_dq18 : f37 dq18 = .inr (0, [.int do28, .int dg29, .int dd30, .int dh31, .int ds32, .int dl33, .int dp34, .int dm35]) := ha_0
      obtain ⟨k38, e_k38⟩ : ∃ z : Int32, z = K14 + 1 := ⟨_, rfl⟩
      refine lv_iinc (v := k38) (lv' := [(2, .int k38), (0, .ref mo), (1, .ref xmo)]) hx hb dX2_copy_130 hl (k := 0) rfl (by rw [e_k38]; rfl) (by decide) rfl (fun ls hl => ?_)
      have i_k38 : k38.toInt = (K14.toInt + 1) := z_add e_k38 rfl (by decide) (by omega)
      refine lv_goto (tgt := 101) hx hb dX2_copy_133 (by decide) ?_
      exact ih_101 _ (by omega) _ _ _ ⟨k38, f37, rfl, (by first | decide | omega), (by first | decide | omega), hw, hf_mo, hf_la, hf_sa, hf_mi, hf_da, hf_xmo, hf_xla, hf_xsa, hf_xmi, hf_xda, hfr, hd_da, hd_xda, (lv_sub hl [0, 1, 2] rfl)⟩
