set_option maxHeartbeats 2000000 in
set_option maxRecDepth 100000 in
theorem c_X2_copyN (l : Launch) {D : va_G} {cy : Nat → ClassId} {L : List Nat} {f : Nat → va_E} {sz : Nat} {adK adV : Nat → Nat} {mo la sa mi da : Nat} {v0 v1 v2 v3 v4 v5 v6 : Int32} {gl gs gm : Nat → Int32} {gd : Nat → Option Nat} {dv : Nat → Nat} {xmo xla xsa xmi xda : Nat} {xv0 xv1 xv2 xv3 xv4 xv5 xv6 : Int32} {xgl xgs xgm : Nat → Int32} {xgd : Nat → Option Nat} {xdv : Nat → Nat} (hm_mo : mo ∈ L) (hm_la : la ∈ L) (hm_sa : sa ∈ L) (hm_mi : mi ∈ L) (hm_da : da ∈ L) (hm_xmo : xmo ∈ L) (hm_xla : xla ∈ L) (hm_xsa : xsa ∈ L) (hm_xmi : xmi ∈ L) (hm_xda : xda ∈ L) (hf_mo : f mo = .inr (2, [.int v0, .int v1, .int v2, .int v3, .int v4, .int v5, .int v6, .ref la, .ref sa, .ref mi, .ref da])) (hf_la : f la = .inl (cy 1, 5, .inl gl)) (hf_sa : f sa = .inl (cy 1, 4, .inl gs)) (hf_mi : f mi = .inl (cy 1, 36, .inl gm)) (hf_da : f da = .inl (cy 4, 13, .inr (.inr (.inr (.inr gd))))) (hf_xmo : f xmo = .inr (2, [.int xv0, .int xv1, .int xv2, .int xv3, .int xv4, .int xv5, .int xv6, .ref xla, .ref xsa, .ref xmi, .ref xda])) (hf_xla : f xla = .inl (cy 1, 5, .inl xgl)) (hf_xsa : f xsa = .inl (cy 1, 4, .inl xgs)) (hf_xmi : f xmi = .inl (cy 1, 36, .inl xgm)) (hf_xda : f xda = .inl (cy 4, 13, .inr (.inr (.inr (.inr xgd))))) (ne_mo_xmo : mo ≠ xmo) (ne_la_xla : la ≠ xla) (ne_sa_xsa : sa ≠ xsa) (ne_mi_xmi : mi ≠ xmi) (ne_da_xda : da ≠ xda) (hg_da : ∀ i : Nat, i < 13 → gd i = some (dv i)) (hd_da : z_Drv L f dv 13) (hg_xda : ∀ i : Nat, i < 13 → xgd i = some (xdv i)) (hd_xda : z_Drv L f xdv 13) (hdd : ∀ i : Nat, i < 13 → dv i ≠ xdv i) (hv5 : 0 ≤ xv5.toInt ∧ xv5.toInt ≤ 13) : Met l yX2_copy (z_ws yX2_copy cX2_copy 3 none) (z_R 2 0 0) (va_Pc [.ref mo, .ref xmo] (z_Pre D vwCl (z_KK D cy adK adV) L f sz)) (z_Qv D vwCl (fun u => L = u.1 ∧ (∀ b ∈ L, b ≠ mo → b ≠ la → b ≠ sa → b ≠ mi → (∀ i : Nat, i < 13 → b ≠ dv i) → u.2 b = f b) ∧ ((u.2 mo = .inr (2, [.int xv0, .int xv1, .int xv2, .int xv3, .int xv4, .int xv5, .int xv6, .ref la, .ref sa, .ref mi, .ref da])) ∧ (u.2 la = .inl (cy 1, 5, .inl xgl)) ∧ (u.2 sa = .inl (cy 1, 4, .inl xgs)) ∧ (u.2 mi = .inl (cy 1, 36, .inl xgm)) ∧ (z_Drv u.1 u.2 dv 13) ∧ (True))) L sz) 0 0 (z_A L sz) := by
  refine z_met (cc := cX2_copy) (maxL := 3) (ret := none) (lv := [(0, .ref mo), (1, .ref xmo)]) (by decide) rfl (Nat.le_of_ble_eq_true rfl) rfl ?_
  intro p e s m below meth c ls hx hb hr hlk hml hown hnm hts hKK hA hw hl
  have hK := hKK.1.1
  have hown : s.vm.findClass RX2 = some m.cls := hown
  have hT : ∀ w ∈ lw_all, w.before ([.ref mo, .ref xmo] : List Value).toArray s = true := fun w h => hts w (z_cons w h)
  have hsub : L = L := rfl
  have hfr : ∀ b ∈ L, b ≠ mo → b ≠ la → b ≠ sa → b ≠ mi → (∀ i : Nat, i < 13 → b ≠ dv i) → f b = f b := fun _ _ _ _ _ _ _ => rfl
  refine lv_aload_n hx hb dX2_copy_0 rfl (lv_at hl 0 rfl) ?_
  refine lv_aload_n hx hb dX2_copy_1 rfl (lv_at hl 1 rfl) ?_
  refine z_get (C := RX2) (T := TX2) (N := 11) (ci := 2) (v := .int xv0) hx hb hT zin_X2 hown hK hw hm_xmo hf_xmo rfl 0 (by decide) (hT _ kw_204) rfl dX2_copy_2 ?_
  refine z_put (C := RX2) (T := TX2) (N := 11) (ci := 2) (v := .int xv0) (fs' := [.int xv0, .int v1, .int v2, .int v3, .int v4, .int v5, .int v6, .ref la, .ref sa, .ref mi, .ref da]) hx hb hT zin_X2 tyX2_ok nmX2 hown hK hw hm_mo hf_mo rfl 0 (by decide) (hT _ kw_204) rfl rfl rfl (Nat.le_of_ble_eq_true rfl) rfl dX2_copy_5 (fun H locs hw => ?_)
  obtain ⟨f1, e_f1⟩ : ∃ z, z = va_up f mo (.inr (2, [.int xv0, .int v1, .int v2, .int v3, .int v4, .int v5, .int v6, .ref la, .ref sa, .ref mi, .ref da])) := ⟨_, rfl⟩
  rw [← e_f1] at hw
  have hf_la : f1 la = .inl (cy 1, 5, .inl gl) := (congrFun e_f1 la).trans (z_up_ne (z_tne hf_la hf_mo (m := 140) (n := 2) rfl rfl (by decide)) hf_la)
  have hf_sa : f1 sa = .inl (cy 1, 4, .inl gs) := (congrFun e_f1 sa).trans (z_up_ne (z_tne hf_sa hf_mo (m := 132) (n := 2) rfl rfl (by decide)) hf_sa)
  have hf_mi : f1 mi = .inl (cy 1, 36, .inl gm) := (congrFun e_f1 mi).trans (z_up_ne (z_tne hf_mi hf_mo (m := 388) (n := 2) rfl rfl (by decide)) hf_mi)
  have hf_da : f1 da = .inl (cy 4, 13, .inr (.inr (.inr (.inr gd)))) := (congrFun e_f1 da).trans (z_up_ne (z_tne hf_da hf_mo (m := 206) (n := 2) rfl rfl (by decide)) hf_da)
  have hf_xmo : f1 xmo = .inr (2, [.int xv0, .int xv1, .int xv2, .int xv3, .int xv4, .int xv5, .int xv6, .ref xla, .ref xsa, .ref xmi, .ref xda]) := (congrFun e_f1 xmo).trans (z_up_ne (Ne.symm ne_mo_xmo) hf_xmo)
  have hf_xla : f1 xla = .inl (cy 1, 5, .inl xgl) := (congrFun e_f1 xla).trans (z_up_ne (z_tne hf_xla hf_mo (m := 140) (n := 2) rfl rfl (by decide)) hf_xla)
  have hf_xsa : f1 xsa = .inl (cy 1, 4, .inl xgs) := (congrFun e_f1 xsa).trans (z_up_ne (z_tne hf_xsa hf_mo (m := 132) (n := 2) rfl rfl (by decide)) hf_xsa)
  have hf_xmi : f1 xmi = .inl (cy 1, 36, .inl xgm) := (congrFun e_f1 xmi).trans (z_up_ne (z_tne hf_xmi hf_mo (m := 388) (n := 2) rfl rfl (by decide)) hf_xmi)
  have hf_xda : f1 xda = .inl (cy 4, 13, .inr (.inr (.inr (.inr xgd)))) := (congrFun e_f1 xda).trans (z_up_ne (z_tne hf_xda hf_mo (m := 206) (n := 2) rfl rfl (by decide)) hf_xda)
  have hd_da : z_Drv L f1 dv 13 := z_Drv_up hd_da e_f1 hf_mo (m := 2) rfl (by decide)
  have hd_xda : z_Drv L f1 xdv 13 := z_Drv_up hd_xda e_f1 hf_mo (m := 2) rfl (by decide)
  have hf_mo : f1 mo = .inr (2, [.int xv0, .int v1, .int v2, .int v3, .int v4, .int v5, .int v6, .ref la, .ref sa, .ref mi, .ref da]) := (congrFun e_f1 mo).trans z_up_self
  have hfr : ∀ b ∈ L, b ≠ mo → b ≠ la → b ≠ sa → b ≠ mi → (∀ i : Nat, i < 13 → b ≠ dv i) → f1 b = f b := fun b hb h0 h1 h2 h3 hp0 => (congrFun e_f1 b).trans (z_up_ne h0 (hfr b hb h0 h1 h2 h3 hp0))
  refine lv_aload_n hx hb dX2_copy_8 rfl (lv_at hl 0 rfl) ?_
  refine lv_aload_n hx hb dX2_copy_9 rfl (lv_at hl 1 rfl) ?_
  refine z_get (C := RX2) (T := TX2) (N := 11) (ci := 2) (v := .int xv1) hx hb hT zin_X2 hown hK hw hm_xmo hf_xmo rfl 1 (by decide) (hT _ kw_207) rfl dX2_copy_10 ?_
  refine z_put (C := RX2) (T := TX2) (N := 11) (ci := 2) (v := .int xv1) (fs' := [.int xv0, .int xv1, .int v2, .int v3, .int v4, .int v5, .int v6, .ref la, .ref sa, .ref mi, .ref da]) hx hb hT zin_X2 tyX2_ok nmX2 hown hK hw hm_mo hf_mo rfl 1 (by decide) (hT _ kw_207) rfl rfl rfl (Nat.le_of_ble_eq_true rfl) rfl dX2_copy_13 (fun H locs hw => ?_)
  obtain ⟨f2, e_f2⟩ : ∃ z, z = va_up f1 mo (.inr (2, [.int xv0, .int xv1, .int v2, .int v3, .int v4, .int v5, .int v6, .ref la, .ref sa, .ref mi, .ref da])) := ⟨_, rfl⟩
  rw [← e_f2] at hw
  have hf_la : f2 la = .inl (cy 1, 5, .inl gl) := (congrFun e_f2 la).trans (z_up_ne (z_tne hf_la hf_mo (m := 140) (n := 2) rfl rfl (by decide)) hf_la)
  have hf_sa : f2 sa = .inl (cy 1, 4, .inl gs) := (congrFun e_f2 sa).trans (z_up_ne (z_tne hf_sa hf_mo (m := 132) (n := 2) rfl rfl (by decide)) hf_sa)
  have hf_mi : f2 mi = .inl (cy 1, 36, .inl gm) := (congrFun e_f2 mi).trans (z_up_ne (z_tne hf_mi hf_mo (m := 388) (n := 2) rfl rfl (by decide)) hf_mi)
  have hf_da : f2 da = .inl (cy 4, 13, .inr (.inr (.inr (.inr gd)))) := (congrFun e_f2 da).trans (z_up_ne (z_tne hf_da hf_mo (m := 206) (n := 2) rfl rfl (by decide)) hf_da)
  have hf_xmo : f2 xmo = .inr (2, [.int xv0, .int xv1, .int xv2, .int xv3, .int xv4, .int xv5, .int xv6, .ref xla, .ref xsa, .ref xmi, .ref xda]) := (congrFun e_f2 xmo).trans (z_up_ne (Ne.symm ne_mo_xmo) hf_xmo)
  have hf_xla : f2 xla = .inl (cy 1, 5, .inl xgl) := (congrFun e_f2 xla).trans (z_up_ne (z_tne hf_xla hf_mo (m := 140) (n := 2) rfl rfl (by decide)) hf_xla)
  have hf_xsa : f2 xsa = .inl (cy 1, 4, .inl xgs) := (congrFun e_f2 xsa).trans (z_up_ne (z_tne hf_xsa hf_mo (m := 132) (n := 2) rfl rfl (by decide)) hf_xsa)
  have hf_xmi : f2 xmi = .inl (cy 1, 36, .inl xgm) := (congrFun e_f2 xmi).trans (z_up_ne (z_tne hf_xmi hf_mo (m := 388) (n := 2) rfl rfl (by decide)) hf_xmi)
  have hf_xda : f2 xda = .inl (cy 4, 13, .inr (.inr (.inr (.inr xgd)))) := (congrFun e_f2 xda).trans (z_up_ne (z_tne hf_xda hf_mo (m := 206) (n := 2) rfl rfl (by decide)) hf_xda)
  have hd_da : z_Drv L f2 dv 13 := z_Drv_up hd_da e_f2 hf_mo (m := 2) rfl (by decide)
  have hd_xda : z_Drv L f2 xdv 13 := z_Drv_up hd_xda e_f2 hf_mo (m := 2) rfl (by decide)
  have hf_mo : f2 mo = .inr (2, [.int xv0, .int xv1, .int v2, .int v3, .int v4, .int v5, .int v6, .ref la, .ref sa, .ref mi, .ref da]) := (congrFun e_f2 mo).trans z_up_self
  have hfr : ∀ b ∈ L, b ≠ mo → b ≠ la → b ≠ sa → b ≠ mi → (∀ i : Nat, i < 13 → b ≠ dv i) → f2 b = f b := fun b hb h0 h1 h2 h3 hp0 => (congrFun e_f2 b).trans (z_up_ne h0 (hfr b hb h0 h1 h2 h3 hp0))
  refine lv_aload_n hx hb dX2_copy_16 rfl (lv_at hl 0 rfl) ?_
  refine lv_aload_n hx hb dX2_copy_17 rfl (lv_at hl 1 rfl) ?_
  refine z_get (C := RX2) (T := TX2) (N := 11) (ci := 2) (v := .int xv2) hx hb hT zin_X2 hown hK hw hm_xmo hf_xmo rfl 2 (by decide) (hT _ kw_211) rfl dX2_copy_18 ?_
  refine z_put (C := RX2) (T := TX2) (N := 11) (ci := 2) (v := .int xv2) (fs' := [.int xv0, .int xv1, .int xv2, .int v3, .int v4, .int v5, .int v6, .ref la, .ref sa, .ref mi, .ref da]) hx hb hT zin_X2 tyX2_ok nmX2 hown hK hw hm_mo hf_mo rfl 2 (by decide) (hT _ kw_211) rfl rfl rfl (Nat.le_of_ble_eq_true rfl) rfl dX2_copy_21 (fun H locs hw => ?_)
  obtain ⟨f3, e_f3⟩ : ∃ z, z = va_up f2 mo (.inr (2, [.int xv0, .int xv1, .int xv2, .int v3, .int v4, .int v5, .int v6, .ref la, .ref sa, .ref mi, .ref da])) := ⟨_, rfl⟩
  rw [← e_f3] at hw
  have hf_la : f3 la = .inl (cy 1, 5, .inl gl) := (congrFun e_f3 la).trans (z_up_ne (z_tne hf_la hf_mo (m := 140) (n := 2) rfl rfl (by decide)) hf_la)
  have hf_sa : f3 sa = .inl (cy 1, 4, .inl gs) := (congrFun e_f3 sa).trans (z_up_ne (z_tne hf_sa hf_mo (m := 132) (n := 2) rfl rfl (by decide)) hf_sa)
  have hf_mi : f3 mi = .inl (cy 1, 36, .inl gm) := (congrFun e_f3 mi).trans (z_up_ne (z_tne hf_mi hf_mo (m := 388) (n := 2) rfl rfl (by decide)) hf_mi)
  have hf_da : f3 da = .inl (cy 4, 13, .inr (.inr (.inr (.inr gd)))) := (congrFun e_f3 da).trans (z_up_ne (z_tne hf_da hf_mo (m := 206) (n := 2) rfl rfl (by decide)) hf_da)
  have hf_xmo : f3 xmo = .inr (2, [.int xv0, .int xv1, .int xv2, .int xv3, .int xv4, .int xv5, .int xv6, .ref xla, .ref xsa, .ref xmi, .ref xda]) := (congrFun e_f3 xmo).trans (z_up_ne (Ne.symm ne_mo_xmo) hf_xmo)
  have hf_xla : f3 xla = .inl (cy 1, 5, .inl xgl) := (congrFun e_f3 xla).trans (z_up_ne (z_tne hf_xla hf_mo (m := 140) (n := 2) rfl rfl (by decide)) hf_xla)
  have hf_xsa : f3 xsa = .inl (cy 1, 4, .inl xgs) := (congrFun e_f3 xsa).trans (z_up_ne (z_tne hf_xsa hf_mo (m := 132) (n := 2) rfl rfl (by decide)) hf_xsa)
  have hf_xmi : f3 xmi = .inl (cy 1, 36, .inl xgm) := (congrFun e_f3 xmi).trans (z_up_ne (z_tne hf_xmi hf_mo (m := 388) (n := 2) rfl rfl (by decide)) hf_xmi)
  have hf_xda : f3 xda = .inl (cy 4, 13, .inr (.inr (.inr (.inr xgd)))) := (congrFun e_f3 xda).trans (z_up_ne (z_tne hf_xda hf_mo (m := 206) (n := 2) rfl rfl (by decide)) hf_xda)
  have hd_da : z_Drv L f3 dv 13 := z_Drv_up hd_da e_f3 hf_mo (m := 2) rfl (by decide)
  have hd_xda : z_Drv L f3 xdv 13 := z_Drv_up hd_xda e_f3 hf_mo (m := 2) rfl (by decide)
  have hf_mo : f3 mo = .inr (2, [.int xv0, .int xv1, .int xv2, .int v3, .int v4, .int v5, .int v6, .ref la, .ref sa, .ref mi, .ref da]) := (congrFun e_f3 mo).trans z_up_self
  have hfr : ∀ b ∈ L, b ≠ mo → b ≠ la → b ≠ sa → b ≠ mi → (∀ i : Nat, i < 13 → b ≠ dv i) → f3 b = f b := fun b hb h0 h1 h2 h3 hp0 => (congrFun e_f3 b).trans (z_up_ne h0 (hfr b hb h0 h1 h2 h3 hp0))
  refine lv_aload_n hx hb dX2_copy_24 rfl (lv_at hl 0 rfl) ?_
  refine lv_aload_n hx hb dX2_copy_25 rfl (lv_at hl 1 rfl) ?_
  refine z_get (C := RX2) (T := TX2) (N := 11) (ci := 2) (v := .int xv3) hx hb hT zin_X2 hown hK hw hm_xmo hf_xmo rfl 3 (by decide) (hT _ kw_215) rfl dX2_copy_26 ?_
  refine z_put (C := RX2) (T := TX2) (N := 11) (ci := 2) (v := .int xv3) (fs' := [.int xv0, .int xv1, .int xv2, .int xv3, .int v4, .int v5, .int v6, .ref la, .ref sa, .ref mi, .ref da]) hx hb hT zin_X2 tyX2_ok nmX2 hown hK hw hm_mo hf_mo rfl 3 (by decide) (hT _ kw_215) rfl rfl rfl (Nat.le_of_ble_eq_true rfl) rfl dX2_copy_29 (fun H locs hw => ?_)
  obtain ⟨f4, e_f4⟩ : ∃ z, z = va_up f3 mo (.inr (2, [.int xv0, .int xv1, .int xv2, .int xv3, .int v4, .int v5, .int v6, .ref la, .ref sa, .ref mi, .ref da])) := ⟨_, rfl⟩
  rw [← e_f4] at hw
  have hf_la : f4 la = .inl (cy 1, 5, .inl gl) := (congrFun e_f4 la).trans (z_up_ne (z_tne hf_la hf_mo (m := 140) (n := 2) rfl rfl (by decide)) hf_la)
  have hf_sa : f4 sa = .inl (cy 1, 4, .inl gs) := (congrFun e_f4 sa).trans (z_up_ne (z_tne hf_sa hf_mo (m := 132) (n := 2) rfl rfl (by decide)) hf_sa)
  have hf_mi : f4 mi = .inl (cy 1, 36, .inl gm) := (congrFun e_f4 mi).trans (z_up_ne (z_tne hf_mi hf_mo (m := 388) (n := 2) rfl rfl (by decide)) hf_mi)
  have hf_da : f4 da = .inl (cy 4, 13, .inr (.inr (.inr (.inr gd)))) := (congrFun e_f4 da).trans (z_up_ne (z_tne hf_da hf_mo (m := 206) (n := 2) rfl rfl (by decide)) hf_da)
  have hf_xmo : f4 xmo = .inr (2, [.int xv0, .int xv1, .int xv2, .int xv3, .int xv4, .int xv5, .int xv6, .ref xla, .ref xsa, .ref xmi, .ref xda]) := (congrFun e_f4 xmo).trans (z_up_ne (Ne.symm ne_mo_xmo) hf_xmo)
  have hf_xla : f4 xla = .inl (cy 1, 5, .inl xgl) := (congrFun e_f4 xla).trans (z_up_ne (z_tne hf_xla hf_mo (m := 140) (n := 2) rfl rfl (by decide)) hf_xla)
  have hf_xsa : f4 xsa = .inl (cy 1, 4, .inl xgs) := (congrFun e_f4 xsa).trans (z_up_ne (z_tne hf_xsa hf_mo (m := 132) (n := 2) rfl rfl (by decide)) hf_xsa)
  have hf_xmi : f4 xmi = .inl (cy 1, 36, .inl xgm) := (congrFun e_f4 xmi).trans (z_up_ne (z_tne hf_xmi hf_mo (m := 388) (n := 2) rfl rfl (by decide)) hf_xmi)
  have hf_xda : f4 xda = .inl (cy 4, 13, .inr (.inr (.inr (.inr xgd)))) := (congrFun e_f4 xda).trans (z_up_ne (z_tne hf_xda hf_mo (m := 206) (n := 2) rfl rfl (by decide)) hf_xda)
  have hd_da : z_Drv L f4 dv 13 := z_Drv_up hd_da e_f4 hf_mo (m := 2) rfl (by decide)
  have hd_xda : z_Drv L f4 xdv 13 := z_Drv_up hd_xda e_f4 hf_mo (m := 2) rfl (by decide)
  have hf_mo : f4 mo = .inr (2, [.int xv0, .int xv1, .int xv2, .int xv3, .int v4, .int v5, .int v6, .ref la, .ref sa, .ref mi, .ref da]) := (congrFun e_f4 mo).trans z_up_self
  have hfr : ∀ b ∈ L, b ≠ mo → b ≠ la → b ≠ sa → b ≠ mi → (∀ i : Nat, i < 13 → b ≠ dv i) → f4 b = f b := fun b hb h0 h1 h2 h3 hp0 => (congrFun e_f4 b).trans (z_up_ne h0 (hfr b hb h0 h1 h2 h3 hp0))
  refine lv_aload_n hx hb dX2_copy_32 rfl (lv_at hl 0 rfl) ?_
  refine lv_aload_n hx hb dX2_copy_33 rfl (lv_at hl 1 rfl) ?_
  refine z_get (C := RX2) (T := TX2) (N := 11) (ci := 2) (v := .int xv4) hx hb hT zin_X2 hown hK hw hm_xmo hf_xmo rfl 4 (by decide) (hT _ kw_218) rfl dX2_copy_34 ?_
  refine z_put (C := RX2) (T := TX2) (N := 11) (ci := 2) (v := .int xv4) (fs' := [.int xv0, .int xv1, .int xv2, .int xv3, .int xv4, .int v5, .int v6, .ref la, .ref sa, .ref mi, .ref da]) hx hb hT zin_X2 tyX2_ok nmX2 hown hK hw hm_mo hf_mo rfl 4 (by decide) (hT _ kw_218) rfl rfl rfl (Nat.le_of_ble_eq_true rfl) rfl dX2_copy_37 (fun H locs hw => ?_)
  obtain ⟨f5, e_f5⟩ : ∃ z, z = va_up f4 mo (.inr (2, [.int xv0, .int xv1, .int xv2, .int xv3, .int xv4, .int v5, .int v6, .ref la, .ref sa, .ref mi, .ref da])) := ⟨_, rfl⟩
  rw [← e_f5] at hw
  have hf_la : f5 la = .inl (cy 1, 5, .inl gl) := (congrFun e_f5 la).trans (z_up_ne (z_tne hf_la hf_mo (m := 140) (n := 2) rfl rfl (by decide)) hf_la)
  have hf_sa : f5 sa = .inl (cy 1, 4, .inl gs) := (congrFun e_f5 sa).trans (z_up_ne (z_tne hf_sa hf_mo (m := 132) (n := 2) rfl rfl (by decide)) hf_sa)
  have hf_mi : f5 mi = .inl (cy 1, 36, .inl gm) := (congrFun e_f5 mi).trans (z_up_ne (z_tne hf_mi hf_mo (m := 388) (n := 2) rfl rfl (by decide)) hf_mi)
  have hf_da : f5 da = .inl (cy 4, 13, .inr (.inr (.inr (.inr gd)))) := (congrFun e_f5 da).trans (z_up_ne (z_tne hf_da hf_mo (m := 206) (n := 2) rfl rfl (by decide)) hf_da)
  have hf_xmo : f5 xmo = .inr (2, [.int xv0, .int xv1, .int xv2, .int xv3, .int xv4, .int xv5, .int xv6, .ref xla, .ref xsa, .ref xmi, .ref xda]) := (congrFun e_f5 xmo).trans (z_up_ne (Ne.symm ne_mo_xmo) hf_xmo)
  have hf_xla : f5 xla = .inl (cy 1, 5, .inl xgl) := (congrFun e_f5 xla).trans (z_up_ne (z_tne hf_xla hf_mo (m := 140) (n := 2) rfl rfl (by decide)) hf_xla)
  have hf_xsa : f5 xsa = .inl (cy 1, 4, .inl xgs) := (congrFun e_f5 xsa).trans (z_up_ne (z_tne hf_xsa hf_mo (m := 132) (n := 2) rfl rfl (by decide)) hf_xsa)
  have hf_xmi : f5 xmi = .inl (cy 1, 36, .inl xgm) := (congrFun e_f5 xmi).trans (z_up_ne (z_tne hf_xmi hf_mo (m := 388) (n := 2) rfl rfl (by decide)) hf_xmi)
  have hf_xda : f5 xda = .inl (cy 4, 13, .inr (.inr (.inr (.inr xgd)))) := (congrFun e_f5 xda).trans (z_up_ne (z_tne hf_xda hf_mo (m := 206) (n := 2) rfl rfl (by decide)) hf_xda)
  have hd_da : z_Drv L f5 dv 13 := z_Drv_up hd_da e_f5 hf_mo (m := 2) rfl (by decide)
  have hd_xda : z_Drv L f5 xdv 13 := z_Drv_up hd_xda e_f5 hf_mo (m := 2) rfl (by decide)
  have hf_mo : f5 mo = .inr (2, [.int xv0, .int xv1, .int xv2, .int xv3, .int xv4, .int v5, .int v6, .ref la, .ref sa, .ref mi, .ref da]) := (congrFun e_f5 mo).trans z_up_self
  have hfr : ∀ b ∈ L, b ≠ mo → b ≠ la → b ≠ sa → b ≠ mi → (∀ i : Nat, i < 13 → b ≠ dv i) → f5 b = f b := fun b hb h0 h1 h2 h3 hp0 => (congrFun e_f5 b).trans (z_up_ne h0 (hfr b hb h0 h1 h2 h3 hp0))
  refine lv_aload_n hx hb dX2_copy_40 rfl (lv_at hl 0 rfl) ?_
  refine lv_aload_n hx hb dX2_copy_41 rfl (lv_at hl 1 rfl) ?_
  refine z_get (C := RX2) (T := TX2) (N := 11) (ci := 2) (v := .int xv5) hx hb hT zin_X2 hown hK hw hm_xmo hf_xmo rfl 5 (by decide) (hT _ kw_222) rfl dX2_copy_42 ?_
  refine z_put (C := RX2) (T := TX2) (N := 11) (ci := 2) (v := .int xv5) (fs' := [.int xv0, .int xv1, .int xv2, .int xv3, .int xv4, .int xv5, .int v6, .ref la, .ref sa, .ref mi, .ref da]) hx hb hT zin_X2 tyX2_ok nmX2 hown hK hw hm_mo hf_mo rfl 5 (by decide) (hT _ kw_222) rfl rfl rfl (Nat.le_of_ble_eq_true rfl) rfl dX2_copy_45 (fun H locs hw => ?_)
  obtain ⟨f6, e_f6⟩ : ∃ z, z = va_up f5 mo (.inr (2, [.int xv0, .int xv1, .int xv2, .int xv3, .int xv4, .int xv5, .int v6, .ref la, .ref sa, .ref mi, .ref da])) := ⟨_, rfl⟩
  rw [← e_f6] at hw
  have hf_la : f6 la = .inl (cy 1, 5, .inl gl) := (congrFun e_f6 la).trans (z_up_ne (z_tne hf_la hf_mo (m := 140) (n := 2) rfl rfl (by decide)) hf_la)
  have hf_sa : f6 sa = .inl (cy 1, 4, .inl gs) := (congrFun e_f6 sa).trans (z_up_ne (z_tne hf_sa hf_mo (m := 132) (n := 2) rfl rfl (by decide)) hf_sa)
  have hf_mi : f6 mi = .inl (cy 1, 36, .inl gm) := (congrFun e_f6 mi).trans (z_up_ne (z_tne hf_mi hf_mo (m := 388) (n := 2) rfl rfl (by decide)) hf_mi)
  have hf_da : f6 da = .inl (cy 4, 13, .inr (.inr (.inr (.inr gd)))) := (congrFun e_f6 da).trans (z_up_ne (z_tne hf_da hf_mo (m := 206) (n := 2) rfl rfl (by decide)) hf_da)
  have hf_xmo : f6 xmo = .inr (2, [.int xv0, .int xv1, .int xv2, .int xv3, .int xv4, .int xv5, .int xv6, .ref xla, .ref xsa, .ref xmi, .ref xda]) := (congrFun e_f6 xmo).trans (z_up_ne (Ne.symm ne_mo_xmo) hf_xmo)
  have hf_xla : f6 xla = .inl (cy 1, 5, .inl xgl) := (congrFun e_f6 xla).trans (z_up_ne (z_tne hf_xla hf_mo (m := 140) (n := 2) rfl rfl (by decide)) hf_xla)
  have hf_xsa : f6 xsa = .inl (cy 1, 4, .inl xgs) := (congrFun e_f6 xsa).trans (z_up_ne (z_tne hf_xsa hf_mo (m := 132) (n := 2) rfl rfl (by decide)) hf_xsa)
  have hf_xmi : f6 xmi = .inl (cy 1, 36, .inl xgm) := (congrFun e_f6 xmi).trans (z_up_ne (z_tne hf_xmi hf_mo (m := 388) (n := 2) rfl rfl (by decide)) hf_xmi)
  have hf_xda : f6 xda = .inl (cy 4, 13, .inr (.inr (.inr (.inr xgd)))) := (congrFun e_f6 xda).trans (z_up_ne (z_tne hf_xda hf_mo (m := 206) (n := 2) rfl rfl (by decide)) hf_xda)
  have hd_da : z_Drv L f6 dv 13 := z_Drv_up hd_da e_f6 hf_mo (m := 2) rfl (by decide)
  have hd_xda : z_Drv L f6 xdv 13 := z_Drv_up hd_xda e_f6 hf_mo (m := 2) rfl (by decide)
  have hf_mo : f6 mo = .inr (2, [.int xv0, .int xv1, .int xv2, .int xv3, .int xv4, .int xv5, .int v6, .ref la, .ref sa, .ref mi, .ref da]) := (congrFun e_f6 mo).trans z_up_self
  have hfr : ∀ b ∈ L, b ≠ mo → b ≠ la → b ≠ sa → b ≠ mi → (∀ i : Nat, i < 13 → b ≠ dv i) → f6 b = f b := fun b hb h0 h1 h2 h3 hp0 => (congrFun e_f6 b).trans (z_up_ne h0 (hfr b hb h0 h1 h2 h3 hp0))
  refine lv_aload_n hx hb dX2_copy_48 rfl (lv_at hl 0 rfl) ?_
  refine lv_aload_n hx hb dX2_copy_49 rfl (lv_at hl 1 rfl) ?_
  refine z_get (C := RX2) (T := TX2) (N := 11) (ci := 2) (v := .int xv6) hx hb hT zin_X2 hown hK hw hm_xmo hf_xmo rfl 6 (by decide) (hT _ kw_227) rfl dX2_copy_50 ?_
  refine z_put (C := RX2) (T := TX2) (N := 11) (ci := 2) (v := .int xv6) (fs' := [.int xv0, .int xv1, .int xv2, .int xv3, .int xv4, .int xv5, .int xv6, .ref la, .ref sa, .ref mi, .ref da]) hx hb hT zin_X2 tyX2_ok nmX2 hown hK hw hm_mo hf_mo rfl 6 (by decide) (hT _ kw_227) rfl rfl rfl (Nat.le_of_ble_eq_true rfl) rfl dX2_copy_53 (fun H locs hw => ?_)
  obtain ⟨f7, e_f7⟩ : ∃ z, z = va_up f6 mo (.inr (2, [.int xv0, .int xv1, .int xv2, .int xv3, .int xv4, .int xv5, .int xv6, .ref la, .ref sa, .ref mi, .ref da])) := ⟨_, rfl⟩
  rw [← e_f7] at hw
  have hf_la : f7 la = .inl (cy 1, 5, .inl gl) := (congrFun e_f7 la).trans (z_up_ne (z_tne hf_la hf_mo (m := 140) (n := 2) rfl rfl (by decide)) hf_la)
  have hf_sa : f7 sa = .inl (cy 1, 4, .inl gs) := (congrFun e_f7 sa).trans (z_up_ne (z_tne hf_sa hf_mo (m := 132) (n := 2) rfl rfl (by decide)) hf_sa)
  have hf_mi : f7 mi = .inl (cy 1, 36, .inl gm) := (congrFun e_f7 mi).trans (z_up_ne (z_tne hf_mi hf_mo (m := 388) (n := 2) rfl rfl (by decide)) hf_mi)
  have hf_da : f7 da = .inl (cy 4, 13, .inr (.inr (.inr (.inr gd)))) := (congrFun e_f7 da).trans (z_up_ne (z_tne hf_da hf_mo (m := 206) (n := 2) rfl rfl (by decide)) hf_da)
  have hf_xmo : f7 xmo = .inr (2, [.int xv0, .int xv1, .int xv2, .int xv3, .int xv4, .int xv5, .int xv6, .ref xla, .ref xsa, .ref xmi, .ref xda]) := (congrFun e_f7 xmo).trans (z_up_ne (Ne.symm ne_mo_xmo) hf_xmo)
  have hf_xla : f7 xla = .inl (cy 1, 5, .inl xgl) := (congrFun e_f7 xla).trans (z_up_ne (z_tne hf_xla hf_mo (m := 140) (n := 2) rfl rfl (by decide)) hf_xla)
  have hf_xsa : f7 xsa = .inl (cy 1, 4, .inl xgs) := (congrFun e_f7 xsa).trans (z_up_ne (z_tne hf_xsa hf_mo (m := 132) (n := 2) rfl rfl (by decide)) hf_xsa)
  have hf_xmi : f7 xmi = .inl (cy 1, 36, .inl xgm) := (congrFun e_f7 xmi).trans (z_up_ne (z_tne hf_xmi hf_mo (m := 388) (n := 2) rfl rfl (by decide)) hf_xmi)
  have hf_xda : f7 xda = .inl (cy 4, 13, .inr (.inr (.inr (.inr xgd)))) := (congrFun e_f7 xda).trans (z_up_ne (z_tne hf_xda hf_mo (m := 206) (n := 2) rfl rfl (by decide)) hf_xda)
  have hd_da : z_Drv L f7 dv 13 := z_Drv_up hd_da e_f7 hf_mo (m := 2) rfl (by decide)
  have hd_xda : z_Drv L f7 xdv 13 := z_Drv_up hd_xda e_f7 hf_mo (m := 2) rfl (by decide)
  have hf_mo : f7 mo = .inr (2, [.int xv0, .int xv1, .int xv2, .int xv3, .int xv4, .int xv5, .int xv6, .ref la, .ref sa, .ref mi, .ref da]) := (congrFun e_f7 mo).trans z_up_self
  have hfr : ∀ b ∈ L, b ≠ mo → b ≠ la → b ≠ sa → b ≠ mi → (∀ i : Nat, i < 13 → b ≠ dv i) → f7 b = f b := fun b hb h0 h1 h2 h3 hp0 => (congrFun e_f7 b).trans (z_up_ne h0 (hfr b hb h0 h1 h2 h3 hp0))
  refine lv_aload_n hx hb dX2_copy_56 rfl (lv_at hl 1 rfl) ?_
  refine z_get (C := RX2) (T := TX2) (N := 11) (ci := 2) (v := .ref xla) hx hb hT zin_X2 hown hK hw hm_xmo hf_xmo rfl 7 (by decide) (hT _ kw_230) rfl dX2_copy_57 ?_
  refine lv_iconst (v := 0) hx hb dX2_copy_60 (by decide) ?_
  refine lv_aload_n hx hb dX2_copy_61 rfl (lv_at hl 0 rfl) ?_
  refine z_get (C := RX2) (T := TX2) (N := 11) (ci := 2) (v := .ref la) hx hb hT zin_X2 hown hK hw hm_mo hf_mo rfl 7 (by decide) (hT _ kw_230) rfl dX2_copy_62 ?_
  refine lv_iconst (v := 0) hx hb dX2_copy_65 (by decide) ?_
  refine lv_iconst (v := 5) hx hb dX2_copy_66 (by decide) ?_
  refine z_copyi (t0 := 1) hx hb (by rw [hml]; exact hl.1.symm) hown (hT _ kc_lX2) (hT _ kc_n) (hT _ kc_s) (hT _ kc_i) hK hw (ha0 := hm_xla) (he0 := hf_xla) (ha1 := hm_la) (he1 := hf_la) (ht := rfl) (h1 := by decide) (h2 := by decide) (h3 := by decide) (h4 := by decide) (h5 := by decide) (hframes := Nat.le_of_ble_eq_true rfl) (hlocals := Nat.le_of_ble_eq_true rfl) (hdg := dX2_copy_67) (kk := fun H locs hw => ?_)
  obtain ⟨f8, e_f8⟩ : ∃ z, z = va_up f7 la (.inl (cy 1, 5, .inl (va_cpy xgl gl (0 : Int32).toNatClampNeg (0 : Int32).toNatClampNeg (5 : Int32).toNatClampNeg))) := ⟨_, rfl⟩
  rw [← e_f8] at hw
  have hf_mo : f8 mo = .inr (2, [.int xv0, .int xv1, .int xv2, .int xv3, .int xv4, .int xv5, .int xv6, .ref la, .ref sa, .ref mi, .ref da]) := (congrFun e_f8 mo).trans (z_up_ne (z_tne hf_mo hf_la (m := 2) (n := 140) rfl rfl (by decide)) hf_mo)
  have hf_sa : f8 sa = .inl (cy 1, 4, .inl gs) := (congrFun e_f8 sa).trans (z_up_ne (z_tne hf_sa hf_la (m := 132) (n := 140) rfl rfl (by decide)) hf_sa)
  have hf_mi : f8 mi = .inl (cy 1, 36, .inl gm) := (congrFun e_f8 mi).trans (z_up_ne (z_tne hf_mi hf_la (m := 388) (n := 140) rfl rfl (by decide)) hf_mi)
  have hf_da : f8 da = .inl (cy 4, 13, .inr (.inr (.inr (.inr gd)))) := (congrFun e_f8 da).trans (z_up_ne (z_tne hf_da hf_la (m := 206) (n := 140) rfl rfl (by decide)) hf_da)
  have hf_xmo : f8 xmo = .inr (2, [.int xv0, .int xv1, .int xv2, .int xv3, .int xv4, .int xv5, .int xv6, .ref xla, .ref xsa, .ref xmi, .ref xda]) := (congrFun e_f8 xmo).trans (z_up_ne (z_tne hf_xmo hf_la (m := 2) (n := 140) rfl rfl (by decide)) hf_xmo)
  have hf_xla : f8 xla = .inl (cy 1, 5, .inl xgl) := (congrFun e_f8 xla).trans (z_up_ne (Ne.symm ne_la_xla) hf_xla)
  have hf_xsa : f8 xsa = .inl (cy 1, 4, .inl xgs) := (congrFun e_f8 xsa).trans (z_up_ne (z_tne hf_xsa hf_la (m := 132) (n := 140) rfl rfl (by decide)) hf_xsa)
  have hf_xmi : f8 xmi = .inl (cy 1, 36, .inl xgm) := (congrFun e_f8 xmi).trans (z_up_ne (z_tne hf_xmi hf_la (m := 388) (n := 140) rfl rfl (by decide)) hf_xmi)
  have hf_xda : f8 xda = .inl (cy 4, 13, .inr (.inr (.inr (.inr xgd)))) := (congrFun e_f8 xda).trans (z_up_ne (z_tne hf_xda hf_la (m := 206) (n := 140) rfl rfl (by decide)) hf_xda)
  have hd_da : z_Drv L f8 dv 13 := z_Drv_up hd_da e_f8 hf_la (m := 140) rfl (by decide)
  have hd_xda : z_Drv L f8 xdv 13 := z_Drv_up hd_xda e_f8 hf_la (m := 140) rfl (by decide)
  have hf_la : f8 la = .inl (cy 1, 5, .inl (va_cpy xgl gl (0 : Int32).toNatClampNeg (0 : Int32).toNatClampNeg (5 : Int32).toNatClampNeg)) := (congrFun e_f8 la).trans z_up_self
  have hfr : ∀ b ∈ L, b ≠ mo → b ≠ la → b ≠ sa → b ≠ mi → (∀ i : Nat, i < 13 → b ≠ dv i) → f8 b = f b := fun b hb h0 h1 h2 h3 hp0 => (congrFun e_f8 b).trans (z_up_ne h1 (hfr b hb h0 h1 h2 h3 hp0))
  obtain ⟨g9, e_g9⟩ : ∃ z, z = (va_cpy xgl gl (0 : Int32).toNatClampNeg (0 : Int32).toNatClampNeg (5 : Int32).toNatClampNeg) := ⟨_, rfl⟩
  rw [← e_g9] at hf_la
  refine lv_aload_n hx hb dX2_copy_70 rfl (lv_at hl 1 rfl) ?_
  refine z_get (C := RX2) (T := TX2) (N := 11) (ci := 2) (v := .ref xsa) hx hb hT zin_X2 hown hK hw hm_xmo hf_xmo rfl 8 (by decide) (hT _ kw_236) rfl dX2_copy_71 ?_
  refine lv_iconst (v := 0) hx hb dX2_copy_74 (by decide) ?_
  refine lv_aload_n hx hb dX2_copy_75 rfl (lv_at hl 0 rfl) ?_
  refine z_get (C := RX2) (T := TX2) (N := 11) (ci := 2) (v := .ref sa) hx hb hT zin_X2 hown hK hw hm_mo hf_mo rfl 8 (by decide) (hT _ kw_236) rfl dX2_copy_76 ?_
  refine lv_iconst (v := 0) hx hb dX2_copy_79 (by decide) ?_
  refine lv_iconst (v := 4) hx hb dX2_copy_80 (by decide) ?_
  refine z_copyi (t0 := 1) hx hb (by rw [hml]; exact hl.1.symm) hown (hT _ kc_lX2) (hT _ kc_n) (hT _ kc_s) (hT _ kc_i) hK hw (ha0 := hm_xsa) (he0 := hf_xsa) (ha1 := hm_sa) (he1 := hf_sa) (ht := rfl) (h1 := by decide) (h2 := by decide) (h3 := by decide) (h4 := by decide) (h5 := by decide) (hframes := Nat.le_of_ble_eq_true rfl) (hlocals := Nat.le_of_ble_eq_true rfl) (hdg := dX2_copy_81) (kk := fun H locs hw => ?_)
  obtain ⟨f10, e_f10⟩ : ∃ z, z = va_up f8 sa (.inl (cy 1, 4, .inl (va_cpy xgs gs (0 : Int32).toNatClampNeg (0 : Int32).toNatClampNeg (4 : Int32).toNatClampNeg))) := ⟨_, rfl⟩
  rw [← e_f10] at hw
  have hf_mo : f10 mo = .inr (2, [.int xv0, .int xv1, .int xv2, .int xv3, .int xv4, .int xv5, .int xv6, .ref la, .ref sa, .ref mi, .ref da]) := (congrFun e_f10 mo).trans (z_up_ne (z_tne hf_mo hf_sa (m := 2) (n := 132) rfl rfl (by decide)) hf_mo)
  have hf_la : f10 la = .inl (cy 1, 5, .inl g9) := (congrFun e_f10 la).trans (z_up_ne (z_tne hf_la hf_sa (m := 140) (n := 132) rfl rfl (by decide)) hf_la)
  have hf_mi : f10 mi = .inl (cy 1, 36, .inl gm) := (congrFun e_f10 mi).trans (z_up_ne (z_tne hf_mi hf_sa (m := 388) (n := 132) rfl rfl (by decide)) hf_mi)
  have hf_da : f10 da = .inl (cy 4, 13, .inr (.inr (.inr (.inr gd)))) := (congrFun e_f10 da).trans (z_up_ne (z_tne hf_da hf_sa (m := 206) (n := 132) rfl rfl (by decide)) hf_da)
  have hf_xmo : f10 xmo = .inr (2, [.int xv0, .int xv1, .int xv2, .int xv3, .int xv4, .int xv5, .int xv6, .ref xla, .ref xsa, .ref xmi, .ref xda]) := (congrFun e_f10 xmo).trans (z_up_ne (z_tne hf_xmo hf_sa (m := 2) (n := 132) rfl rfl (by decide)) hf_xmo)
  have hf_xla : f10 xla = .inl (cy 1, 5, .inl xgl) := (congrFun e_f10 xla).trans (z_up_ne (z_tne hf_xla hf_sa (m := 140) (n := 132) rfl rfl (by decide)) hf_xla)
  have hf_xsa : f10 xsa = .inl (cy 1, 4, .inl xgs) := (congrFun e_f10 xsa).trans (z_up_ne (Ne.symm ne_sa_xsa) hf_xsa)
  have hf_xmi : f10 xmi = .inl (cy 1, 36, .inl xgm) := (congrFun e_f10 xmi).trans (z_up_ne (z_tne hf_xmi hf_sa (m := 388) (n := 132) rfl rfl (by decide)) hf_xmi)
  have hf_xda : f10 xda = .inl (cy 4, 13, .inr (.inr (.inr (.inr xgd)))) := (congrFun e_f10 xda).trans (z_up_ne (z_tne hf_xda hf_sa (m := 206) (n := 132) rfl rfl (by decide)) hf_xda)
  have hd_da : z_Drv L f10 dv 13 := z_Drv_up hd_da e_f10 hf_sa (m := 132) rfl (by decide)
  have hd_xda : z_Drv L f10 xdv 13 := z_Drv_up hd_xda e_f10 hf_sa (m := 132) rfl (by decide)
  have hf_sa : f10 sa = .inl (cy 1, 4, .inl (va_cpy xgs gs (0 : Int32).toNatClampNeg (0 : Int32).toNatClampNeg (4 : Int32).toNatClampNeg)) := (congrFun e_f10 sa).trans z_up_self
  have hfr : ∀ b ∈ L, b ≠ mo → b ≠ la → b ≠ sa → b ≠ mi → (∀ i : Nat, i < 13 → b ≠ dv i) → f10 b = f b := fun b hb h0 h1 h2 h3 hp0 => (congrFun e_f10 b).trans (z_up_ne h2 (hfr b hb h0 h1 h2 h3 hp0))
  obtain ⟨g11, e_g11⟩ : ∃ z, z = (va_cpy xgs gs (0 : Int32).toNatClampNeg (0 : Int32).toNatClampNeg (4 : Int32).toNatClampNeg) := ⟨_, rfl⟩
  rw [← e_g11] at hf_sa
  refine lv_aload_n hx hb dX2_copy_84 rfl (lv_at hl 1 rfl) ?_
  refine z_get (C := RX2) (T := TX2) (N := 11) (ci := 2) (v := .ref xmi) hx hb hT zin_X2 hown hK hw hm_xmo hf_xmo rfl 9 (by decide) (hT _ kw_239) rfl dX2_copy_85 ?_
  refine lv_iconst (v := 0) hx hb dX2_copy_88 (by decide) ?_
  refine lv_aload_n hx hb dX2_copy_89 rfl (lv_at hl 0 rfl) ?_
  refine z_get (C := RX2) (T := TX2) (N := 11) (ci := 2) (v := .ref mi) hx hb hT zin_X2 hown hK hw hm_mo hf_mo rfl 9 (by decide) (hT _ kw_239) rfl dX2_copy_90 ?_
  refine lv_iconst (v := 0) hx hb dX2_copy_93 (by decide) ?_
  refine lv_bipush (v := 36) hx hb dX2_copy_94 (by decide) ?_
  refine z_copyi (t0 := 1) hx hb (by rw [hml]; exact hl.1.symm) hown (hT _ kc_lX2) (hT _ kc_n) (hT _ kc_s) (hT _ kc_i) hK hw (ha0 := hm_xmi) (he0 := hf_xmi) (ha1 := hm_mi) (he1 := hf_mi) (ht := rfl) (h1 := by decide) (h2 := by decide) (h3 := by decide) (h4 := by decide) (h5 := by decide) (hframes := Nat.le_of_ble_eq_true rfl) (hlocals := Nat.le_of_ble_eq_true rfl) (hdg := dX2_copy_96) (kk := fun H locs hw => ?_)
  obtain ⟨f12, e_f12⟩ : ∃ z, z = va_up f10 mi (.inl (cy 1, 36, .inl (va_cpy xgm gm (0 : Int32).toNatClampNeg (0 : Int32).toNatClampNeg (36 : Int32).toNatClampNeg))) := ⟨_, rfl⟩
  rw [← e_f12] at hw
  have hf_mo : f12 mo = .inr (2, [.int xv0, .int xv1, .int xv2, .int xv3, .int xv4, .int xv5, .int xv6, .ref la, .ref sa, .ref mi, .ref da]) := (congrFun e_f12 mo).trans (z_up_ne (z_tne hf_mo hf_mi (m := 2) (n := 388) rfl rfl (by decide)) hf_mo)
  have hf_la : f12 la = .inl (cy 1, 5, .inl g9) := (congrFun e_f12 la).trans (z_up_ne (z_tne hf_la hf_mi (m := 140) (n := 388) rfl rfl (by decide)) hf_la)
  have hf_sa : f12 sa = .inl (cy 1, 4, .inl g11) := (congrFun e_f12 sa).trans (z_up_ne (z_tne hf_sa hf_mi (m := 132) (n := 388) rfl rfl (by decide)) hf_sa)
  have hf_da : f12 da = .inl (cy 4, 13, .inr (.inr (.inr (.inr gd)))) := (congrFun e_f12 da).trans (z_up_ne (z_tne hf_da hf_mi (m := 206) (n := 388) rfl rfl (by decide)) hf_da)
  have hf_xmo : f12 xmo = .inr (2, [.int xv0, .int xv1, .int xv2, .int xv3, .int xv4, .int xv5, .int xv6, .ref xla, .ref xsa, .ref xmi, .ref xda]) := (congrFun e_f12 xmo).trans (z_up_ne (z_tne hf_xmo hf_mi (m := 2) (n := 388) rfl rfl (by decide)) hf_xmo)
  have hf_xla : f12 xla = .inl (cy 1, 5, .inl xgl) := (congrFun e_f12 xla).trans (z_up_ne (z_tne hf_xla hf_mi (m := 140) (n := 388) rfl rfl (by decide)) hf_xla)
  have hf_xsa : f12 xsa = .inl (cy 1, 4, .inl xgs) := (congrFun e_f12 xsa).trans (z_up_ne (z_tne hf_xsa hf_mi (m := 132) (n := 388) rfl rfl (by decide)) hf_xsa)
  have hf_xmi : f12 xmi = .inl (cy 1, 36, .inl xgm) := (congrFun e_f12 xmi).trans (z_up_ne (Ne.symm ne_mi_xmi) hf_xmi)
  have hf_xda : f12 xda = .inl (cy 4, 13, .inr (.inr (.inr (.inr xgd)))) := (congrFun e_f12 xda).trans (z_up_ne (z_tne hf_xda hf_mi (m := 206) (n := 388) rfl rfl (by decide)) hf_xda)
  have hd_da : z_Drv L f12 dv 13 := z_Drv_up hd_da e_f12 hf_mi (m := 388) rfl (by decide)
  have hd_xda : z_Drv L f12 xdv 13 := z_Drv_up hd_xda e_f12 hf_mi (m := 388) rfl (by decide)
  have hf_mi : f12 mi = .inl (cy 1, 36, .inl (va_cpy xgm gm (0 : Int32).toNatClampNeg (0 : Int32).toNatClampNeg (36 : Int32).toNatClampNeg)) := (congrFun e_f12 mi).trans z_up_self
  have hfr : ∀ b ∈ L, b ≠ mo → b ≠ la → b ≠ sa → b ≠ mi → (∀ i : Nat, i < 13 → b ≠ dv i) → f12 b = f b := fun b hb h0 h1 h2 h3 hp0 => (congrFun e_f12 b).trans (z_up_ne h3 (hfr b hb h0 h1 h2 h3 hp0))
  obtain ⟨g13, e_g13⟩ : ∃ z, z = (va_cpy xgm gm (0 : Int32).toNatClampNeg (0 : Int32).toNatClampNeg (36 : Int32).toNatClampNeg) := ⟨_, rfl⟩
  rw [← e_g13] at hf_mi
  refine lv_iconst (v := 0) hx hb dX2_copy_99 (by decide) ?_
  refine lv_istore_n (lv' := [(2, .int 0), (0, .ref mo), (1, .ref xmo)]) hx hb dX2_copy_100 rfl hl (by decide) rfl (fun ls hl => ?_)
  have hzk : (0 : Int32).toInt = 0 := by decide
  refine z_loop (fun n H locs ls => ∃ (K14 : Int32) (f15 : Nat → va_E), (n = (xv5.toInt - K14.toInt).toNat) ∧ (0 ≤ K14.toInt) ∧ (K14.toInt ≤ xv5.toInt) ∧ (z_H D vwCl (z_A L sz) s.heap L f15 H locs) ∧ (f15 mo = .inr (2, [.int xv0, .int xv1, .int xv2, .int xv3, .int xv4, .int xv5, .int xv6, .ref la, .ref sa, .ref mi, .ref da])) ∧ (f15 la = .inl (cy 1, 5, .inl g9)) ∧ (f15 sa = .inl (cy 1, 4, .inl g11)) ∧ (f15 mi = .inl (cy 1, 36, .inl g13)) ∧ (f15 da = .inl (cy 4, 13, .inr (.inr (.inr (.inr gd))))) ∧ (f15 xmo = .inr (2, [.int xv0, .int xv1, .int xv2, .int xv3, .int xv4, .int xv5, .int xv6, .ref xla, .ref xsa, .ref xmi, .ref xda])) ∧ (f15 xla = .inl (cy 1, 5, .inl xgl)) ∧ (f15 xsa = .inl (cy 1, 4, .inl xgs)) ∧ (f15 xmi = .inl (cy 1, 36, .inl xgm)) ∧ (f15 xda = .inl (cy 4, 13, .inr (.inr (.inr (.inr xgd))))) ∧ (∀ b ∈ L, b ≠ mo → b ≠ la → b ≠ sa → b ≠ mi → (∀ i : Nat, i < 13 → b ≠ dv i) → f15 b = f b) ∧ (z_Drv L f15 dv 13) ∧ (z_Drv L f15 xdv 13) ∧ (lv_has ls 3 [(2, .int K14), (0, .ref mo), (1, .ref xmo)])) _ ⟨0, f12, rfl, (by first | decide | omega), (by first | decide | omega), hw, hf_mo, hf_la, hf_sa, hf_mi, hf_da, hf_xmo, hf_xla, hf_xsa, hf_xmi, hf_xda, hfr, hd_da, hd_xda, (lv_sub hl [0, 1, 2] rfl)⟩ (fun n H locs ls hI ih_101 => ?_)
  obtain ⟨K14, f15, hn, hk0, hk1, hw, hf_mo, hf_la, hf_sa, hf_mi, hf_da, hf_xmo, hf_xla, hf_xsa, hf_xmi, hf_xda, hfr, hd_da, hd_xda, hl⟩ := hI
  refine lv_iload_n hx hb dX2_copy_101 rfl (lv_at hl 0 rfl) ?_
  refine lv_aload_n hx hb dX2_copy_102 rfl (lv_at hl 2 rfl) ?_
  refine z_get (C := RX2) (T := TX2) (N := 11) (ci := 2) (v := .int xv5) hx hb hT zin_X2 hown hK hw hm_xmo hf_xmo rfl 5 (by decide) (hT _ kw_222) rfl dX2_copy_103 ?_
  refine z_icmp_ge (tgt := 136) hx hb rfl rfl dX2_copy_106 (by decide) (fun c16 => ?_) (fun c16 => ?_)
  · skip
    have hw := z_nrm hw hm_la hf_la (fun j hj => (z_cpy0 (by decide) e_g9 j hj).symm)
    obtain ⟨f17, e_f17⟩ : ∃ z, z = va_up f15 la (.inl (cy 1, 5, .inl xgl)) := ⟨_, rfl⟩
    rw [← e_f17] at hw
    have hf_mo : f17 mo = .inr (2, [.int xv0, .int xv1, .int xv2, .int xv3, .int xv4, .int xv5, .int xv6, .ref la, .ref sa, .ref mi, .ref da]) := (congrFun e_f17 mo).trans (z_up_ne (z_tne hf_mo hf_la (m := 2) (n := 140) rfl rfl (by decide)) hf_mo)
    have hf_sa : f17 sa = .inl (cy 1, 4, .inl g11) := (congrFun e_f17 sa).trans (z_up_ne (z_tne hf_sa hf_la (m := 132) (n := 140) rfl rfl (by decide)) hf_sa)
    have hf_mi : f17 mi = .inl (cy 1, 36, .inl g13) := (congrFun e_f17 mi).trans (z_up_ne (z_tne hf_mi hf_la (m := 388) (n := 140) rfl rfl (by decide)) hf_mi)
    have hf_da : f17 da = .inl (cy 4, 13, .inr (.inr (.inr (.inr gd)))) := (congrFun e_f17 da).trans (z_up_ne (z_tne hf_da hf_la (m := 206) (n := 140) rfl rfl (by decide)) hf_da)
    have hf_xmo : f17 xmo = .inr (2, [.int xv0, .int xv1, .int xv2, .int xv3, .int xv4, .int xv5, .int xv6, .ref xla, .ref xsa, .ref xmi, .ref xda]) := (congrFun e_f17 xmo).trans (z_up_ne (z_tne hf_xmo hf_la (m := 2) (n := 140) rfl rfl (by decide)) hf_xmo)
    have hf_xla : f17 xla = .inl (cy 1, 5, .inl xgl) := (congrFun e_f17 xla).trans (z_up_ne (Ne.symm ne_la_xla) hf_xla)
    have hf_xsa : f17 xsa = .inl (cy 1, 4, .inl xgs) := (congrFun e_f17 xsa).trans (z_up_ne (z_tne hf_xsa hf_la (m := 132) (n := 140) rfl rfl (by decide)) hf_xsa)
    have hf_xmi : f17 xmi = .inl (cy 1, 36, .inl xgm) := (congrFun e_f17 xmi).trans (z_up_ne (z_tne hf_xmi hf_la (m := 388) (n := 140) rfl rfl (by decide)) hf_xmi)
    have hf_xda : f17 xda = .inl (cy 4, 13, .inr (.inr (.inr (.inr xgd)))) := (congrFun e_f17 xda).trans (z_up_ne (z_tne hf_xda hf_la (m := 206) (n := 140) rfl rfl (by decide)) hf_xda)
    have hd_da : z_Drv L f17 dv 13 := z_Drv_up hd_da e_f17 hf_la (m := 140) rfl (by decide)
    have hd_xda : z_Drv L f17 xdv 13 := z_Drv_up hd_xda e_f17 hf_la (m := 140) rfl (by decide)
    have hf_la : f17 la = .inl (cy 1, 5, .inl xgl) := (congrFun e_f17 la).trans z_up_self
    have hfr : ∀ b ∈ L, b ≠ mo → b ≠ la → b ≠ sa → b ≠ mi → (∀ i : Nat, i < 13 → b ≠ dv i) → f17 b = f b := fun b hb h0 h1 h2 h3 hp0 => (congrFun e_f17 b).trans (z_up_ne h1 (hfr b hb h0 h1 h2 h3 hp0))
    have hw := z_nrm hw hm_sa hf_sa (fun j hj => (z_cpy0 (by decide) e_g11 j hj).symm)
    obtain ⟨f18, e_f18⟩ : ∃ z, z = va_up f17 sa (.inl (cy 1, 4, .inl xgs)) := ⟨_, rfl⟩
    rw [← e_f18] at hw
    have hf_mo : f18 mo = .inr (2, [.int xv0, .int xv1, .int xv2, .int xv3, .int xv4, .int xv5, .int xv6, .ref la, .ref sa, .ref mi, .ref da]) := (congrFun e_f18 mo).trans (z_up_ne (z_tne hf_mo hf_sa (m := 2) (n := 132) rfl rfl (by decide)) hf_mo)
    have hf_la : f18 la = .inl (cy 1, 5, .inl xgl) := (congrFun e_f18 la).trans (z_up_ne (z_tne hf_la hf_sa (m := 140) (n := 132) rfl rfl (by decide)) hf_la)
    have hf_mi : f18 mi = .inl (cy 1, 36, .inl g13) := (congrFun e_f18 mi).trans (z_up_ne (z_tne hf_mi hf_sa (m := 388) (n := 132) rfl rfl (by decide)) hf_mi)
    have hf_da : f18 da = .inl (cy 4, 13, .inr (.inr (.inr (.inr gd)))) := (congrFun e_f18 da).trans (z_up_ne (z_tne hf_da hf_sa (m := 206) (n := 132) rfl rfl (by decide)) hf_da)
    have hf_xmo : f18 xmo = .inr (2, [.int xv0, .int xv1, .int xv2, .int xv3, .int xv4, .int xv5, .int xv6, .ref xla, .ref xsa, .ref xmi, .ref xda]) := (congrFun e_f18 xmo).trans (z_up_ne (z_tne hf_xmo hf_sa (m := 2) (n := 132) rfl rfl (by decide)) hf_xmo)
    have hf_xla : f18 xla = .inl (cy 1, 5, .inl xgl) := (congrFun e_f18 xla).trans (z_up_ne (z_tne hf_xla hf_sa (m := 140) (n := 132) rfl rfl (by decide)) hf_xla)
    have hf_xsa : f18 xsa = .inl (cy 1, 4, .inl xgs) := (congrFun e_f18 xsa).trans (z_up_ne (Ne.symm ne_sa_xsa) hf_xsa)
    have hf_xmi : f18 xmi = .inl (cy 1, 36, .inl xgm) := (congrFun e_f18 xmi).trans (z_up_ne (z_tne hf_xmi hf_sa (m := 388) (n := 132) rfl rfl (by decide)) hf_xmi)
    have hf_xda : f18 xda = .inl (cy 4, 13, .inr (.inr (.inr (.inr xgd)))) := (congrFun e_f18 xda).trans (z_up_ne (z_tne hf_xda hf_sa (m := 206) (n := 132) rfl rfl (by decide)) hf_xda)
    have hd_da : z_Drv L f18 dv 13 := z_Drv_up hd_da e_f18 hf_sa (m := 132) rfl (by decide)
    have hd_xda : z_Drv L f18 xdv 13 := z_Drv_up hd_xda e_f18 hf_sa (m := 132) rfl (by decide)
    have hf_sa : f18 sa = .inl (cy 1, 4, .inl xgs) := (congrFun e_f18 sa).trans z_up_self
    have hfr : ∀ b ∈ L, b ≠ mo → b ≠ la → b ≠ sa → b ≠ mi → (∀ i : Nat, i < 13 → b ≠ dv i) → f18 b = f b := fun b hb h0 h1 h2 h3 hp0 => (congrFun e_f18 b).trans (z_up_ne h2 (hfr b hb h0 h1 h2 h3 hp0))
    have hw := z_nrm hw hm_mi hf_mi (fun j hj => (z_cpy0 (by decide) e_g13 j hj).symm)
    obtain ⟨f19, e_f19⟩ : ∃ z, z = va_up f18 mi (.inl (cy 1, 36, .inl xgm)) := ⟨_, rfl⟩
    rw [← e_f19] at hw
    have hf_mo : f19 mo = .inr (2, [.int xv0, .int xv1, .int xv2, .int xv3, .int xv4, .int xv5, .int xv6, .ref la, .ref sa, .ref mi, .ref da]) := (congrFun e_f19 mo).trans (z_up_ne (z_tne hf_mo hf_mi (m := 2) (n := 388) rfl rfl (by decide)) hf_mo)
    have hf_la : f19 la = .inl (cy 1, 5, .inl xgl) := (congrFun e_f19 la).trans (z_up_ne (z_tne hf_la hf_mi (m := 140) (n := 388) rfl rfl (by decide)) hf_la)
    have hf_sa : f19 sa = .inl (cy 1, 4, .inl xgs) := (congrFun e_f19 sa).trans (z_up_ne (z_tne hf_sa hf_mi (m := 132) (n := 388) rfl rfl (by decide)) hf_sa)
    have hf_da : f19 da = .inl (cy 4, 13, .inr (.inr (.inr (.inr gd)))) := (congrFun e_f19 da).trans (z_up_ne (z_tne hf_da hf_mi (m := 206) (n := 388) rfl rfl (by decide)) hf_da)
    have hf_xmo : f19 xmo = .inr (2, [.int xv0, .int xv1, .int xv2, .int xv3, .int xv4, .int xv5, .int xv6, .ref xla, .ref xsa, .ref xmi, .ref xda]) := (congrFun e_f19 xmo).trans (z_up_ne (z_tne hf_xmo hf_mi (m := 2) (n := 388) rfl rfl (by decide)) hf_xmo)
    have hf_xla : f19 xla = .inl (cy 1, 5, .inl xgl) := (congrFun e_f19 xla).trans (z_up_ne (z_tne hf_xla hf_mi (m := 140) (n := 388) rfl rfl (by decide)) hf_xla)
    have hf_xsa : f19 xsa = .inl (cy 1, 4, .inl xgs) := (congrFun e_f19 xsa).trans (z_up_ne (z_tne hf_xsa hf_mi (m := 132) (n := 388) rfl rfl (by decide)) hf_xsa)
    have hf_xmi : f19 xmi = .inl (cy 1, 36, .inl xgm) := (congrFun e_f19 xmi).trans (z_up_ne (Ne.symm ne_mi_xmi) hf_xmi)
    have hf_xda : f19 xda = .inl (cy 4, 13, .inr (.inr (.inr (.inr xgd)))) := (congrFun e_f19 xda).trans (z_up_ne (z_tne hf_xda hf_mi (m := 206) (n := 388) rfl rfl (by decide)) hf_xda)
    have hd_da : z_Drv L f19 dv 13 := z_Drv_up hd_da e_f19 hf_mi (m := 388) rfl (by decide)
    have hd_xda : z_Drv L f19 xdv 13 := z_Drv_up hd_xda e_f19 hf_mi (m := 388) rfl (by decide)
    have hf_mi : f19 mi = .inl (cy 1, 36, .inl xgm) := (congrFun e_f19 mi).trans z_up_self
    have hfr : ∀ b ∈ L, b ≠ mo → b ≠ la → b ≠ sa → b ≠ mi → (∀ i : Nat, i < 13 → b ≠ dv i) → f19 b = f b := fun b hb h0 h1 h2 h3 hp0 => (congrFun e_f19 b).trans (z_up_ne h3 (hfr b hb h0 h1 h2 h3 hp0))
    exact z_vret hx hb hr hlk (by decide) (by decide) hw (⟨hsub, hfr, hf_mo, hf_la, hf_sa, hf_mi, hd_da, trivial⟩) dX2_copy_136
  · skip
    refine lv_iload_n hx hb dX2_copy_109 rfl (lv_at hl 0 rfl) ?_
    refine lv_bipush (v := 12) hx hb dX2_copy_110 (by decide) ?_
    refine z_icmp_gt (tgt := 136) hx hb rfl (show (12 : Int32).toInt = 12 by decide) dX2_copy_112 (by decide) (fun c20 => ?_) (fun c20 => ?_)
    · skip
      have hw := z_nrm hw hm_la hf_la (fun j hj => (z_cpy0 (by decide) e_g9 j hj).symm)
      obtain ⟨f21, e_f21⟩ : ∃ z, z = va_up f15 la (.inl (cy 1, 5, .inl xgl)) := ⟨_, rfl⟩
      rw [← e_f21] at hw
      have hf_mo : f21 mo = .inr (2, [.int xv0, .int xv1, .int xv2, .int xv3, .int xv4, .int xv5, .int xv6, .ref la, .ref sa, .ref mi, .ref da]) := (congrFun e_f21 mo).trans (z_up_ne (z_tne hf_mo hf_la (m := 2) (n := 140) rfl rfl (by decide)) hf_mo)
      have hf_sa : f21 sa = .inl (cy 1, 4, .inl g11) := (congrFun e_f21 sa).trans (z_up_ne (z_tne hf_sa hf_la (m := 132) (n := 140) rfl rfl (by decide)) hf_sa)
      have hf_mi : f21 mi = .inl (cy 1, 36, .inl g13) := (congrFun e_f21 mi).trans (z_up_ne (z_tne hf_mi hf_la (m := 388) (n := 140) rfl rfl (by decide)) hf_mi)
      have hf_da : f21 da = .inl (cy 4, 13, .inr (.inr (.inr (.inr gd)))) := (congrFun e_f21 da).trans (z_up_ne (z_tne hf_da hf_la (m := 206) (n := 140) rfl rfl (by decide)) hf_da)
      have hf_xmo : f21 xmo = .inr (2, [.int xv0, .int xv1, .int xv2, .int xv3, .int xv4, .int xv5, .int xv6, .ref xla, .ref xsa, .ref xmi, .ref xda]) := (congrFun e_f21 xmo).trans (z_up_ne (z_tne hf_xmo hf_la (m := 2) (n := 140) rfl rfl (by decide)) hf_xmo)
      have hf_xla : f21 xla = .inl (cy 1, 5, .inl xgl) := (congrFun e_f21 xla).trans (z_up_ne (Ne.symm ne_la_xla) hf_xla)
      have hf_xsa : f21 xsa = .inl (cy 1, 4, .inl xgs) := (congrFun e_f21 xsa).trans (z_up_ne (z_tne hf_xsa hf_la (m := 132) (n := 140) rfl rfl (by decide)) hf_xsa)
      have hf_xmi : f21 xmi = .inl (cy 1, 36, .inl xgm) := (congrFun e_f21 xmi).trans (z_up_ne (z_tne hf_xmi hf_la (m := 388) (n := 140) rfl rfl (by decide)) hf_xmi)
      have hf_xda : f21 xda = .inl (cy 4, 13, .inr (.inr (.inr (.inr xgd)))) := (congrFun e_f21 xda).trans (z_up_ne (z_tne hf_xda hf_la (m := 206) (n := 140) rfl rfl (by decide)) hf_xda)
      have hd_da : z_Drv L f21 dv 13 := z_Drv_up hd_da e_f21 hf_la (m := 140) rfl (by decide)
      have hd_xda : z_Drv L f21 xdv 13 := z_Drv_up hd_xda e_f21 hf_la (m := 140) rfl (by decide)
      have hf_la : f21 la = .inl (cy 1, 5, .inl xgl) := (congrFun e_f21 la).trans z_up_self
      have hfr : ∀ b ∈ L, b ≠ mo → b ≠ la → b ≠ sa → b ≠ mi → (∀ i : Nat, i < 13 → b ≠ dv i) → f21 b = f b := fun b hb h0 h1 h2 h3 hp0 => (congrFun e_f21 b).trans (z_up_ne h1 (hfr b hb h0 h1 h2 h3 hp0))
      have hw := z_nrm hw hm_sa hf_sa (fun j hj => (z_cpy0 (by decide) e_g11 j hj).symm)
      obtain ⟨f22, e_f22⟩ : ∃ z, z = va_up f21 sa (.inl (cy 1, 4, .inl xgs)) := ⟨_, rfl⟩
      rw [← e_f22] at hw
      have hf_mo : f22 mo = .inr (2, [.int xv0, .int xv1, .int xv2, .int xv3, .int xv4, .int xv5, .int xv6, .ref la, .ref sa, .ref mi, .ref da]) := (congrFun e_f22 mo).trans (z_up_ne (z_tne hf_mo hf_sa (m := 2) (n := 132) rfl rfl (by decide)) hf_mo)
      have hf_la : f22 la = .inl (cy 1, 5, .inl xgl) := (congrFun e_f22 la).trans (z_up_ne (z_tne hf_la hf_sa (m := 140) (n := 132) rfl rfl (by decide)) hf_la)
      have hf_mi : f22 mi = .inl (cy 1, 36, .inl g13) := (congrFun e_f22 mi).trans (z_up_ne (z_tne hf_mi hf_sa (m := 388) (n := 132) rfl rfl (by decide)) hf_mi)
      have hf_da : f22 da = .inl (cy 4, 13, .inr (.inr (.inr (.inr gd)))) := (congrFun e_f22 da).trans (z_up_ne (z_tne hf_da hf_sa (m := 206) (n := 132) rfl rfl (by decide)) hf_da)
      have hf_xmo : f22 xmo = .inr (2, [.int xv0, .int xv1, .int xv2, .int xv3, .int xv4, .int xv5, .int xv6, .ref xla, .ref xsa, .ref xmi, .ref xda]) := (congrFun e_f22 xmo).trans (z_up_ne (z_tne hf_xmo hf_sa (m := 2) (n := 132) rfl rfl (by decide)) hf_xmo)
      have hf_xla : f22 xla = .inl (cy 1, 5, .inl xgl) := (congrFun e_f22 xla).trans (z_up_ne (z_tne hf_xla hf_sa (m := 140) (n := 132) rfl rfl (by decide)) hf_xla)
      have hf_xsa : f22 xsa = .inl (cy 1, 4, .inl xgs) := (congrFun e_f22 xsa).trans (z_up_ne (Ne.symm ne_sa_xsa) hf_xsa)
      have hf_xmi : f22 xmi = .inl (cy 1, 36, .inl xgm) := (congrFun e_f22 xmi).trans (z_up_ne (z_tne hf_xmi hf_sa (m := 388) (n := 132) rfl rfl (by decide)) hf_xmi)
      have hf_xda : f22 xda = .inl (cy 4, 13, .inr (.inr (.inr (.inr xgd)))) := (congrFun e_f22 xda).trans (z_up_ne (z_tne hf_xda hf_sa (m := 206) (n := 132) rfl rfl (by decide)) hf_xda)
      have hd_da : z_Drv L f22 dv 13 := z_Drv_up hd_da e_f22 hf_sa (m := 132) rfl (by decide)
      have hd_xda : z_Drv L f22 xdv 13 := z_Drv_up hd_xda e_f22 hf_sa (m := 132) rfl (by decide)
      have hf_sa : f22 sa = .inl (cy 1, 4, .inl xgs) := (congrFun e_f22 sa).trans z_up_self
      have hfr : ∀ b ∈ L, b ≠ mo → b ≠ la → b ≠ sa → b ≠ mi → (∀ i : Nat, i < 13 → b ≠ dv i) → f22 b = f b := fun b hb h0 h1 h2 h3 hp0 => (congrFun e_f22 b).trans (z_up_ne h2 (hfr b hb h0 h1 h2 h3 hp0))
      have hw := z_nrm hw hm_mi hf_mi (fun j hj => (z_cpy0 (by decide) e_g13 j hj).symm)
      obtain ⟨f23, e_f23⟩ : ∃ z, z = va_up f22 mi (.inl (cy 1, 36, .inl xgm)) := ⟨_, rfl⟩
      rw [← e_f23] at hw
      have hf_mo : f23 mo = .inr (2, [.int xv0, .int xv1, .int xv2, .int xv3, .int xv4, .int xv5, .int xv6, .ref la, .ref sa, .ref mi, .ref da]) := (congrFun e_f23 mo).trans (z_up_ne (z_tne hf_mo hf_mi (m := 2) (n := 388) rfl rfl (by decide)) hf_mo)
      have hf_la : f23 la = .inl (cy 1, 5, .inl xgl) := (congrFun e_f23 la).trans (z_up_ne (z_tne hf_la hf_mi (m := 140) (n := 388) rfl rfl (by decide)) hf_la)
      have hf_sa : f23 sa = .inl (cy 1, 4, .inl xgs) := (congrFun e_f23 sa).trans (z_up_ne (z_tne hf_sa hf_mi (m := 132) (n := 388) rfl rfl (by decide)) hf_sa)
      have hf_da : f23 da = .inl (cy 4, 13, .inr (.inr (.inr (.inr gd)))) := (congrFun e_f23 da).trans (z_up_ne (z_tne hf_da hf_mi (m := 206) (n := 388) rfl rfl (by decide)) hf_da)
      have hf_xmo : f23 xmo = .inr (2, [.int xv0, .int xv1, .int xv2, .int xv3, .int xv4, .int xv5, .int xv6, .ref xla, .ref xsa, .ref xmi, .ref xda]) := (congrFun e_f23 xmo).trans (z_up_ne (z_tne hf_xmo hf_mi (m := 2) (n := 388) rfl rfl (by decide)) hf_xmo)
      have hf_xla : f23 xla = .inl (cy 1, 5, .inl xgl) := (congrFun e_f23 xla).trans (z_up_ne (z_tne hf_xla hf_mi (m := 140) (n := 388) rfl rfl (by decide)) hf_xla)
      have hf_xsa : f23 xsa = .inl (cy 1, 4, .inl xgs) := (congrFun e_f23 xsa).trans (z_up_ne (z_tne hf_xsa hf_mi (m := 132) (n := 388) rfl rfl (by decide)) hf_xsa)
      have hf_xmi : f23 xmi = .inl (cy 1, 36, .inl xgm) := (congrFun e_f23 xmi).trans (z_up_ne (Ne.symm ne_mi_xmi) hf_xmi)
      have hf_xda : f23 xda = .inl (cy 4, 13, .inr (.inr (.inr (.inr xgd)))) := (congrFun e_f23 xda).trans (z_up_ne (z_tne hf_xda hf_mi (m := 206) (n := 388) rfl rfl (by decide)) hf_xda)
      have hd_da : z_Drv L f23 dv 13 := z_Drv_up hd_da e_f23 hf_mi (m := 388) rfl (by decide)
      have hd_xda : z_Drv L f23 xdv 13 := z_Drv_up hd_xda e_f23 hf_mi (m := 388) rfl (by decide)
      have hf_mi : f23 mi = .inl (cy 1, 36, .inl xgm) := (congrFun e_f23 mi).trans z_up_self
      have hfr : ∀ b ∈ L, b ≠ mo → b ≠ la → b ≠ sa → b ≠ mi → (∀ i : Nat, i < 13 → b ≠ dv i) → f23 b = f b := fun b hb h0 h1 h2 h3 hp0 => (congrFun e_f23 b).trans (z_up_ne h3 (hfr b hb h0 h1 h2 h3 hp0))
      exact z_vret hx hb hr hlk (by decide) (by decide) hw (⟨hsub, hfr, hf_mo, hf_la, hf_sa, hf_mi, hd_da, trivial⟩) dX2_copy_136
    · skip
      refine lv_aload_n hx hb dX2_copy_115 rfl (lv_at hl 1 rfl) ?_
      refine z_get (C := RX2) (T := TX2) (N := 11) (ci := 2) (v := .ref da) hx hb hT zin_X2 hown hK hw hm_mo hf_mo rfl 10 (by decide) (hT _ kw_241) rfl dX2_copy_116 ?_
      refine lv_iload_n hx hb dX2_copy_119 rfl (lv_at hl 0 rfl) ?_
      obtain ⟨dq24, e_dq24⟩ : ∃ z, z = dv K14.toNatClampNeg := ⟨_, rfl⟩
      have hi_dq24 : K14.toNatClampNeg < 13 := z_clI rfl (by omega)
      refine z_aald (b := dq24) hx hb hK hw 4 hm_da hf_da rfl (z_ix rfl (by omega)) (by rw [e_dq24]; exact hg_da _ hi_dq24) dX2_copy_120 ?_
      obtain ⟨hm_dq24, do25, dg26, dd27, dh28, ds29, dl30, dp31, dm32, hf_dq24, hr_do25, hr_dg26, hr_dd27, hr_dh28, hr_ds29, hr_dl30, hr_dp31, hr_dm32⟩ := hd_da _ hi_dq24
      rw [← e_dq24] at hm_dq24 hf_dq24
      refine lv_aload_n hx hb dX2_copy_121 rfl (lv_at hl 2 rfl) ?_
      refine z_get (C := RX2) (T := TX2) (N := 11) (ci := 2) (v := .ref xda) hx hb hT zin_X2 hown hK hw hm_xmo hf_xmo rfl 10 (by decide) (hT _ kw_241) rfl dX2_copy_122 ?_
      refine lv_iload_n hx hb dX2_copy_125 rfl (lv_at hl 0 rfl) ?_
      obtain ⟨dq33, e_dq33⟩ : ∃ z, z = xdv K14.toNatClampNeg := ⟨_, rfl⟩
      have hi_dq33 : K14.toNatClampNeg < 13 := z_clI rfl (by omega)
      refine z_aald (b := dq33) hx hb hK hw 4 hm_xda hf_xda rfl (z_ix rfl (by omega)) (by rw [e_dq33]; exact hg_xda _ hi_dq33) dX2_copy_126 ?_
      obtain ⟨hm_dq33, do34, dg35, dd36, dh37, ds38, dl39, dp40, dm41, hf_dq33, hr_do34, hr_dg35, hr_dd36, hr_dh37, hr_ds38, hr_dl39, hr_dp40, hr_dm41⟩ := hd_xda _ hi_dq33
      rw [← e_dq33] at hm_dq33 hf_dq33
      have ne_dq24_dq33 : dq24 ≠ dq33 := by rw [e_dq24, e_dq33]; exact hdd _ hi_dq24
      refine z_callvV (cells := 0) (slots := 0) (b := dq24) (As := [.ref dq33]) (rest := []) (ci := 0) (q0 := (RX0, TX0, 8)) ⟨hx, hb, hml, hown, hT⟩ (c_X0_copy l hm_dq24 hm_dq33 hf_dq24 hf_dq33 ne_dq24_dq33) (cwV 1 hT (z_goodV (fun _ h => h) kw_697 kw_698 kw_699 kw_88 kw_700) rfl rfl rfl (by decide +kernel) ⟨by decide, by decide⟩) z_mv hKK hK hw hA hm_dq24 hf_dq24 rfl rfl rfl hl.1 rfl (Nat.le_of_ble_eq_true rfl) dX2_copy_127 ⟨by decide, by decide⟩ (fun u H locs hp hw => ?_)
      obtain ⟨L42, f43⟩ := u
      obtain ⟨hsb, hfm, ha_0, hp⟩ := hp
      have hsb : L = L42 := hsb
      subst hsb
      have hsb : ∀ b ∈ L, b ∈ L := fun _ h => h
      have hw : z_H D vwCl (z_A L sz) s.heap L f43 H locs := hw
      have hfr : ∀ b ∈ L, b ≠ mo → b ≠ la → b ≠ sa → b ≠ mi → (∀ i : Nat, i < 13 → b ≠ dv i) → f43 b = f b := fun b hb h0 h1 h2 h3 hp0 => (hfm b hb (by rw [e_dq24]; exact hp0 _ hi_dq24)).trans (hfr b hb h0 h1 h2 h3 hp0)
      have hd_da : z_Drv L f43 dv 13 := z_Drv_one hd_da hsb ha_0 ⟨_, _, _, _, _, _, _, _, rfl, by first | omega | decide, by first | omega | decide, by first | omega | decide, by first | omega | decide, by first | omega | decide, by first | omega | decide, by first | omega | decide, by first | omega | decide⟩ hfm
      have hd_xda : z_Drv L f43 xdv 13 := z_Drv_one hd_xda hsb ha_0 ⟨_, _, _, _, _, _, _, _, rfl, by first | omega | decide, by first | omega | decide, by first | omega | decide, by first | omega | decide, by first | omega | decide, by first | omega | decide, by first | omega | decide, by first | omega | decide⟩ hfm
      have hf_mo : f43 mo = .inr (2, [.int xv0, .int xv1, .int xv2, .int xv3, .int xv4, .int xv5, .int xv6, .ref la, .ref sa, .ref mi, .ref da]) := (hfm mo hm_mo (z_tne hf_mo hf_dq24 (m := 2) (n := 0) rfl rfl (by decide))).trans hf_mo
      have hf_la : f43 la = .inl (cy 1, 5, .inl g9) := (hfm la hm_la (z_tne hf_la hf_dq24 (m := 140) (n := 0) rfl rfl (by decide))).trans hf_la
      have hf_sa : f43 sa = .inl (cy 1, 4, .inl g11) := (hfm sa hm_sa (z_tne hf_sa hf_dq24 (m := 132) (n := 0) rfl rfl (by decide))).trans hf_sa
      have hf_mi : f43 mi = .inl (cy 1, 36, .inl g13) := (hfm mi hm_mi (z_tne hf_mi hf_dq24 (m := 388) (n := 0) rfl rfl (by decide))).trans hf_mi
      have hf_da : f43 da = .inl (cy 4, 13, .inr (.inr (.inr (.inr gd)))) := (hfm da hm_da (z_tne hf_da hf_dq24 (m := 206) (n := 0) rfl rfl (by decide))).trans hf_da
      have hf_xmo : f43 xmo = .inr (2, [.int xv0, .int xv1, .int xv2, .int xv3, .int xv4, .int xv5, .int xv6, .ref xla, .ref xsa, .ref xmi, .ref xda]) := (hfm xmo hm_xmo (z_tne hf_xmo hf_dq24 (m := 2) (n := 0) rfl rfl (by decide))).trans hf_xmo
      have hf_xla : f43 xla = .inl (cy 1, 5, .inl xgl) := (hfm xla hm_xla (z_tne hf_xla hf_dq24 (m := 140) (n := 0) rfl rfl (by decide))).trans hf_xla
      have hf_xsa : f43 xsa = .inl (cy 1, 4, .inl xgs) := (hfm xsa hm_xsa (z_tne hf_xsa hf_dq24 (m := 132) (n := 0) rfl rfl (by decide))).trans hf_xsa
      have hf_xmi : f43 xmi = .inl (cy 1, 36, .inl xgm) := (hfm xmi hm_xmi (z_tne hf_xmi hf_dq24 (m := 388) (n := 0) rfl rfl (by decide))).trans hf_xmi
      have hf_xda : f43 xda = .inl (cy 4, 13, .inr (.inr (.inr (.inr xgd)))) := (hfm xda hm_xda (z_tne hf_xda hf_dq24 (m := 206) (n := 0) rfl rfl (by decide))).trans hf_xda
      have hf_dq33 : f43 dq33 = .inr (0, [.int do34, .int dg35, .int dd36, .int dh37, .int ds38, .int dl39, .int dp40, .int dm41]) := (hfm dq33 hm_dq33 (Ne.symm ne_dq24_dq33)).trans hf_dq33
      have hf_dq24 : f43 dq24 = .inr (0, [.int do34, .int dg35, .int dd36, .int dh37, .int ds38, .int dl39, .int dp40, .int dm41]) := ha_0
      obtain ⟨k44, e_k44⟩ : ∃ z : Int32, z = K14 + 1 := ⟨_, rfl⟩
      refine lv_iinc (v := k44) (lv' := [(2, .int k44), (0, .ref mo), (1, .ref xmo)]) hx hb dX2_copy_130 hl (k := 0) rfl (by rw [e_k44]; rfl) (by decide) rfl (fun ls hl => ?_)
      have i_k44 : k44.toInt = (K14.toInt + 1) := z_add e_k44 rfl (by decide) (by omega)
      refine lv_goto (tgt := 101) hx hb dX2_copy_133 (by decide) ?_
      exact ih_101 _ (by omega) _ _ _ ⟨k44, f43, rfl, (by first | decide | omega), (by first | decide | omega), hw, hf_mo, hf_la, hf_sa, hf_mi, hf_da, hf_xmo, hf_xla, hf_xsa, hf_xmi, hf_xda, hfr, hd_da, hd_xda, (lv_sub hl [0, 1, 2] rfl)⟩

set_option maxHeartbeats 2000000 in
set_option maxRecDepth 100000 in
theorem c_X2_copyD (l : Launch) {D : va_G} {cy : Nat → ClassId} {L : List Nat} {f : Nat → va_E} {sz : Nat} {adK adV : Nat → Nat} {mo la sa mi da : Nat} {v0 v1 v2 v3 v4 v5 v6 : Int32} {gl gs gm : Nat → Int32} {gd : Nat → Option Nat} {dv : Nat → Nat} {xmo xla xsa xmi xda : Nat} {xv0 xv1 xv2 xv3 xv4 xv5 xv6 : Int32} {xgl xgs xgm : Nat → Int32} {xgd : Nat → Option Nat} {xdv : Nat → Nat} (hm_mo : mo ∈ L) (hm_la : la ∈ L) (hm_sa : sa ∈ L) (hm_mi : mi ∈ L) (hm_da : da ∈ L) (hm_xmo : xmo ∈ L) (hm_xla : xla ∈ L) (hm_xsa : xsa ∈ L) (hm_xmi : xmi ∈ L) (hm_xda : xda ∈ L) (hf_mo : f mo = .inr (2, [.int v0, .int v1, .int v2, .int v3, .int v4, .int v5, .int v6, .ref la, .ref sa, .ref mi, .ref da])) (hf_la : f la = .inl (cy 1, 5, .inl gl)) (hf_sa : f sa = .inl (cy 1, 4, .inl gs)) (hf_mi : f mi = .inl (cy 1, 36, .inl gm)) (hf_da : f da = .inl (cy 4, 13, .inr (.inr (.inr (.inr gd))))) (hf_xmo : f xmo = .inr (2, [.int xv0, .int xv1, .int xv2, .int xv3, .int xv4, .int xv5, .int xv6, .ref xla, .ref xsa, .ref xmi, .ref xda])) (hf_xla : f xla = .inl (cy 1, 5, .inl xgl)) (hf_xsa : f xsa = .inl (cy 1, 4, .inl xgs)) (hf_xmi : f xmi = .inl (cy 1, 36, .inl xgm)) (hf_xda : f xda = .inl (cy 4, 13, .inr (.inr (.inr (.inr xgd))))) (ne_mo_xmo : mo ≠ xmo) (ne_la_xla : la ≠ xla) (ne_sa_xsa : sa ≠ xsa) (ne_mi_xmi : mi ≠ xmi) (ne_da_xda : da ≠ xda) (hg_da : ∀ i : Nat, i < 13 → gd i = some (dv i)) (hd_da : z_Drv L f dv 13) (hg_xda : ∀ i : Nat, i < 13 → xgd i = some (xdv i)) (hd_xda : z_Drv L f xdv (xv5.toInt.toNat)) (hdd : ∀ i : Nat, i < 13 → dv i ≠ xdv i) (hv5 : 0 ≤ xv5.toInt ∧ xv5.toInt ≤ 13) : Met l yX2_copy (z_ws yX2_copy cX2_copy 3 none) (z_R 2 0 0) (va_Pc [.ref mo, .ref xmo] (z_Pre D vwCl (z_KK D cy adK adV) L f sz)) (z_Qv D vwCl (fun u => L = u.1 ∧ (∀ b ∈ L, b ≠ mo → b ≠ la → b ≠ sa → b ≠ mi → (∀ i : Nat, i < 13 → b ≠ dv i) → u.2 b = f b) ∧ ((u.2 mo = .inr (2, [.int xv0, .int xv1, .int xv2, .int xv3, .int xv4, .int xv5, .int xv6, .ref la, .ref sa, .ref mi, .ref da])) ∧ (u.2 la = .inl (cy 1, 5, .inl xgl)) ∧ (u.2 sa = .inl (cy 1, 4, .inl xgs)) ∧ (u.2 mi = .inl (cy 1, 36, .inl xgm)) ∧ (z_Drv u.1 u.2 dv 13) ∧ (True))) L sz) 0 0 (z_A L sz) := by
  refine z_met (cc := cX2_copy) (maxL := 3) (ret := none) (lv := [(0, .ref mo), (1, .ref xmo)]) (by decide) rfl (Nat.le_of_ble_eq_true rfl) rfl ?_
  intro p e s m below meth c ls hx hb hr hlk hml hown hnm hts hKK hA hw hl
  have hK := hKK.1.1
  have hown : s.vm.findClass RX2 = some m.cls := hown
  have hT : ∀ w ∈ lw_all, w.before ([.ref mo, .ref xmo] : List Value).toArray s = true := fun w h => hts w (z_cons w h)
  have hsub : L = L := rfl
  have hfr : ∀ b ∈ L, b ≠ mo → b ≠ la → b ≠ sa → b ≠ mi → (∀ i : Nat, i < 13 → b ≠ dv i) → f b = f b := fun _ _ _ _ _ _ _ => rfl
  refine lv_aload_n hx hb dX2_copy_0 rfl (lv_at hl 0 rfl) ?_
  refine lv_aload_n hx hb dX2_copy_1 rfl (lv_at hl 1 rfl) ?_
  refine z_get (C := RX2) (T := TX2) (N := 11) (ci := 2) (v := .int xv0) hx hb hT zin_X2 hown hK hw hm_xmo hf_xmo rfl 0 (by decide) (hT _ kw_204) rfl dX2_copy_2 ?_
  refine z_put (C := RX2) (T := TX2) (N := 11) (ci := 2) (v := .int xv0) (fs' := [.int xv0, .int v1, .int v2, .int v3, .int v4, .int v5, .int v6, .ref la, .ref sa, .ref mi, .ref da]) hx hb hT zin_X2 tyX2_ok nmX2 hown hK hw hm_mo hf_mo rfl 0 (by decide) (hT _ kw_204) rfl rfl rfl (Nat.le_of_ble_eq_true rfl) rfl dX2_copy_5 (fun H locs hw => ?_)
  obtain ⟨f1, e_f1⟩ : ∃ z, z = va_up f mo (.inr (2, [.int xv0, .int v1, .int v2, .int v3, .int v4, .int v5, .int v6, .ref la, .ref sa, .ref mi, .ref da])) := ⟨_, rfl⟩
  rw [← e_f1] at hw
  have hf_la : f1 la = .inl (cy 1, 5, .inl gl) := (congrFun e_f1 la).trans (z_up_ne (z_tne hf_la hf_mo (m := 140) (n := 2) rfl rfl (by decide)) hf_la)
  have hf_sa : f1 sa = .inl (cy 1, 4, .inl gs) := (congrFun e_f1 sa).trans (z_up_ne (z_tne hf_sa hf_mo (m := 132) (n := 2) rfl rfl (by decide)) hf_sa)
  have hf_mi : f1 mi = .inl (cy 1, 36, .inl gm) := (congrFun e_f1 mi).trans (z_up_ne (z_tne hf_mi hf_mo (m := 388) (n := 2) rfl rfl (by decide)) hf_mi)
  have hf_da : f1 da = .inl (cy 4, 13, .inr (.inr (.inr (.inr gd)))) := (congrFun e_f1 da).trans (z_up_ne (z_tne hf_da hf_mo (m := 206) (n := 2) rfl rfl (by decide)) hf_da)
  have hf_xmo : f1 xmo = .inr (2, [.int xv0, .int xv1, .int xv2, .int xv3, .int xv4, .int xv5, .int xv6, .ref xla, .ref xsa, .ref xmi, .ref xda]) := (congrFun e_f1 xmo).trans (z_up_ne (Ne.symm ne_mo_xmo) hf_xmo)
  have hf_xla : f1 xla = .inl (cy 1, 5, .inl xgl) := (congrFun e_f1 xla).trans (z_up_ne (z_tne hf_xla hf_mo (m := 140) (n := 2) rfl rfl (by decide)) hf_xla)
  have hf_xsa : f1 xsa = .inl (cy 1, 4, .inl xgs) := (congrFun e_f1 xsa).trans (z_up_ne (z_tne hf_xsa hf_mo (m := 132) (n := 2) rfl rfl (by decide)) hf_xsa)
  have hf_xmi : f1 xmi = .inl (cy 1, 36, .inl xgm) := (congrFun e_f1 xmi).trans (z_up_ne (z_tne hf_xmi hf_mo (m := 388) (n := 2) rfl rfl (by decide)) hf_xmi)
  have hf_xda : f1 xda = .inl (cy 4, 13, .inr (.inr (.inr (.inr xgd)))) := (congrFun e_f1 xda).trans (z_up_ne (z_tne hf_xda hf_mo (m := 206) (n := 2) rfl rfl (by decide)) hf_xda)
  have hd_da : z_Drv L f1 dv 13 := z_Drv_up hd_da e_f1 hf_mo (m := 2) rfl (by decide)
  have hd_xda : z_Drv L f1 xdv (xv5.toInt.toNat) := z_Drv_up hd_xda e_f1 hf_mo (m := 2) rfl (by decide)
  have hf_mo : f1 mo = .inr (2, [.int xv0, .int v1, .int v2, .int v3, .int v4, .int v5, .int v6, .ref la, .ref sa, .ref mi, .ref da]) := (congrFun e_f1 mo).trans z_up_self
  have hfr : ∀ b ∈ L, b ≠ mo → b ≠ la → b ≠ sa → b ≠ mi → (∀ i : Nat, i < 13 → b ≠ dv i) → f1 b = f b := fun b hb h0 h1 h2 h3 hp0 => (congrFun e_f1 b).trans (z_up_ne h0 (hfr b hb h0 h1 h2 h3 hp0))
  refine lv_aload_n hx hb dX2_copy_8 rfl (lv_at hl 0 rfl) ?_
  refine lv_aload_n hx hb dX2_copy_9 rfl (lv_at hl 1 rfl) ?_
  refine z_get (C := RX2) (T := TX2) (N := 11) (ci := 2) (v := .int xv1) hx hb hT zin_X2 hown hK hw hm_xmo hf_xmo rfl 1 (by decide) (hT _ kw_207) rfl dX2_copy_10 ?_
  refine z_put (C := RX2) (T := TX2) (N := 11) (ci := 2) (v := .int xv1) (fs' := [.int xv0, .int xv1, .int v2, .int v3, .int v4, .int v5, .int v6, .ref la, .ref sa, .ref mi, .ref da]) hx hb hT zin_X2 tyX2_ok nmX2 hown hK hw hm_mo hf_mo rfl 1 (by decide) (hT _ kw_207) rfl rfl rfl (Nat.le_of_ble_eq_true rfl) rfl dX2_copy_13 (fun H locs hw => ?_)
  obtain ⟨f2, e_f2⟩ : ∃ z, z = va_up f1 mo (.inr (2, [.int xv0, .int xv1, .int v2, .int v3, .int v4, .int v5, .int v6, .ref la, .ref sa, .ref mi, .ref da])) := ⟨_, rfl⟩
  rw [← e_f2] at hw
  have hf_la : f2 la = .inl (cy 1, 5, .inl gl) := (congrFun e_f2 la).trans (z_up_ne (z_tne hf_la hf_mo (m := 140) (n := 2) rfl rfl (by decide)) hf_la)
  have hf_sa : f2 sa = .inl (cy 1, 4, .inl gs) := (congrFun e_f2 sa).trans (z_up_ne (z_tne hf_sa hf_mo (m := 132) (n := 2) rfl rfl (by decide)) hf_sa)
  have hf_mi : f2 mi = .inl (cy 1, 36, .inl gm) := (congrFun e_f2 mi).trans (z_up_ne (z_tne hf_mi hf_mo (m := 388) (n := 2) rfl rfl (by decide)) hf_mi)
  have hf_da : f2 da = .inl (cy 4, 13, .inr (.inr (.inr (.inr gd)))) := (congrFun e_f2 da).trans (z_up_ne (z_tne hf_da hf_mo (m := 206) (n := 2) rfl rfl (by decide)) hf_da)
  have hf_xmo : f2 xmo = .inr (2, [.int xv0, .int xv1, .int xv2, .int xv3, .int xv4, .int xv5, .int xv6, .ref xla, .ref xsa, .ref xmi, .ref xda]) := (congrFun e_f2 xmo).trans (z_up_ne (Ne.symm ne_mo_xmo) hf_xmo)
  have hf_xla : f2 xla = .inl (cy 1, 5, .inl xgl) := (congrFun e_f2 xla).trans (z_up_ne (z_tne hf_xla hf_mo (m := 140) (n := 2) rfl rfl (by decide)) hf_xla)
  have hf_xsa : f2 xsa = .inl (cy 1, 4, .inl xgs) := (congrFun e_f2 xsa).trans (z_up_ne (z_tne hf_xsa hf_mo (m := 132) (n := 2) rfl rfl (by decide)) hf_xsa)
  have hf_xmi : f2 xmi = .inl (cy 1, 36, .inl xgm) := (congrFun e_f2 xmi).trans (z_up_ne (z_tne hf_xmi hf_mo (m := 388) (n := 2) rfl rfl (by decide)) hf_xmi)
  have hf_xda : f2 xda = .inl (cy 4, 13, .inr (.inr (.inr (.inr xgd)))) := (congrFun e_f2 xda).trans (z_up_ne (z_tne hf_xda hf_mo (m := 206) (n := 2) rfl rfl (by decide)) hf_xda)
  have hd_da : z_Drv L f2 dv 13 := z_Drv_up hd_da e_f2 hf_mo (m := 2) rfl (by decide)
  have hd_xda : z_Drv L f2 xdv (xv5.toInt.toNat) := z_Drv_up hd_xda e_f2 hf_mo (m := 2) rfl (by decide)
  have hf_mo : f2 mo = .inr (2, [.int xv0, .int xv1, .int v2, .int v3, .int v4, .int v5, .int v6, .ref la, .ref sa, .ref mi, .ref da]) := (congrFun e_f2 mo).trans z_up_self
  have hfr : ∀ b ∈ L, b ≠ mo → b ≠ la → b ≠ sa → b ≠ mi → (∀ i : Nat, i < 13 → b ≠ dv i) → f2 b = f b := fun b hb h0 h1 h2 h3 hp0 => (congrFun e_f2 b).trans (z_up_ne h0 (hfr b hb h0 h1 h2 h3 hp0))
  refine lv_aload_n hx hb dX2_copy_16 rfl (lv_at hl 0 rfl) ?_
  refine lv_aload_n hx hb dX2_copy_17 rfl (lv_at hl 1 rfl) ?_
  refine z_get (C := RX2) (T := TX2) (N := 11) (ci := 2) (v := .int xv2) hx hb hT zin_X2 hown hK hw hm_xmo hf_xmo rfl 2 (by decide) (hT _ kw_211) rfl dX2_copy_18 ?_
  refine z_put (C := RX2) (T := TX2) (N := 11) (ci := 2) (v := .int xv2) (fs' := [.int xv0, .int xv1, .int xv2, .int v3, .int v4, .int v5, .int v6, .ref la, .ref sa, .ref mi, .ref da]) hx hb hT zin_X2 tyX2_ok nmX2 hown hK hw hm_mo hf_mo rfl 2 (by decide) (hT _ kw_211) rfl rfl rfl (Nat.le_of_ble_eq_true rfl) rfl dX2_copy_21 (fun H locs hw => ?_)
  obtain ⟨f3, e_f3⟩ : ∃ z, z = va_up f2 mo (.inr (2, [.int xv0, .int xv1, .int xv2, .int v3, .int v4, .int v5, .int v6, .ref la, .ref sa, .ref mi, .ref da])) := ⟨_, rfl⟩
  rw [← e_f3] at hw
  have hf_la : f3 la = .inl (cy 1, 5, .inl gl) := (congrFun e_f3 la).trans (z_up_ne (z_tne hf_la hf_mo (m := 140) (n := 2) rfl rfl (by decide)) hf_la)
  have hf_sa : f3 sa = .inl (cy 1, 4, .inl gs) := (congrFun e_f3 sa).trans (z_up_ne (z_tne hf_sa hf_mo (m := 132) (n := 2) rfl rfl (by decide)) hf_sa)
  have hf_mi : f3 mi = .inl (cy 1, 36, .inl gm) := (congrFun e_f3 mi).trans (z_up_ne (z_tne hf_mi hf_mo (m := 388) (n := 2) rfl rfl (by decide)) hf_mi)
  have hf_da : f3 da = .inl (cy 4, 13, .inr (.inr (.inr (.inr gd)))) := (congrFun e_f3 da).trans (z_up_ne (z_tne hf_da hf_mo (m := 206) (n := 2) rfl rfl (by decide)) hf_da)
  have hf_xmo : f3 xmo = .inr (2, [.int xv0, .int xv1, .int xv2, .int xv3, .int xv4, .int xv5, .int xv6, .ref xla, .ref xsa, .ref xmi, .ref xda]) := (congrFun e_f3 xmo).trans (z_up_ne (Ne.symm ne_mo_xmo) hf_xmo)
  have hf_xla : f3 xla = .inl (cy 1, 5, .inl xgl) := (congrFun e_f3 xla).trans (z_up_ne (z_tne hf_xla hf_mo (m := 140) (n := 2) rfl rfl (by decide)) hf_xla)
  have hf_xsa : f3 xsa = .inl (cy 1, 4, .inl xgs) := (congrFun e_f3 xsa).trans (z_up_ne (z_tne hf_xsa hf_mo (m := 132) (n := 2) rfl rfl (by decide)) hf_xsa)
  have hf_xmi : f3 xmi = .inl (cy 1, 36, .inl xgm) := (congrFun e_f3 xmi).trans (z_up_ne (z_tne hf_xmi hf_mo (m := 388) (n := 2) rfl rfl (by decide)) hf_xmi)
  have hf_xda : f3 xda = .inl (cy 4, 13, .inr (.inr (.inr (.inr xgd)))) := (congrFun e_f3 xda).trans (z_up_ne (z_tne hf_xda hf_mo (m := 206) (n := 2) rfl rfl (by decide)) hf_xda)
  have hd_da : z_Drv L f3 dv 13 := z_Drv_up hd_da e_f3 hf_mo (m := 2) rfl (by decide)
  have hd_xda : z_Drv L f3 xdv (xv5.toInt.toNat) := z_Drv_up hd_xda e_f3 hf_mo (m := 2) rfl (by decide)
  have hf_mo : f3 mo = .inr (2, [.int xv0, .int xv1, .int xv2, .int v3, .int v4, .int v5, .int v6, .ref la, .ref sa, .ref mi, .ref da]) := (congrFun e_f3 mo).trans z_up_self
  have hfr : ∀ b ∈ L, b ≠ mo → b ≠ la → b ≠ sa → b ≠ mi → (∀ i : Nat, i < 13 → b ≠ dv i) → f3 b = f b := fun b hb h0 h1 h2 h3 hp0 => (congrFun e_f3 b).trans (z_up_ne h0 (hfr b hb h0 h1 h2 h3 hp0))
  refine lv_aload_n hx hb dX2_copy_24 rfl (lv_at hl 0 rfl) ?_
  refine lv_aload_n hx hb dX2_copy_25 rfl (lv_at hl 1 rfl) ?_
  refine z_get (C := RX2) (T := TX2) (N := 11) (ci := 2) (v := .int xv3) hx hb hT zin_X2 hown hK hw hm_xmo hf_xmo rfl 3 (by decide) (hT _ kw_215) rfl dX2_copy_26 ?_
  refine z_put (C := RX2) (T := TX2) (N := 11) (ci := 2) (v := .int xv3) (fs' := [.int xv0, .int xv1, .int xv2, .int xv3, .int v4, .int v5, .int v6, .ref la, .ref sa, .ref mi, .ref da]) hx hb hT zin_X2 tyX2_ok nmX2 hown hK hw hm_mo hf_mo rfl 3 (by decide) (hT _ kw_215) rfl rfl rfl (Nat.le_of_ble_eq_true rfl) rfl dX2_copy_29 (fun H locs hw => ?_)
  obtain ⟨f4, e_f4⟩ : ∃ z, z = va_up f3 mo (.inr (2, [.int xv0, .int xv1, .int xv2, .int xv3, .int v4, .int v5, .int v6, .ref la, .ref sa, .ref mi, .ref da])) := ⟨_, rfl⟩
  rw [← e_f4] at hw
  have hf_la : f4 la = .inl (cy 1, 5, .inl gl) := (congrFun e_f4 la).trans (z_up_ne (z_tne hf_la hf_mo (m := 140) (n := 2) rfl rfl (by decide)) hf_la)
  have hf_sa : f4 sa = .inl (cy 1, 4, .inl gs) := (congrFun e_f4 sa).trans (z_up_ne (z_tne hf_sa hf_mo (m := 132) (n := 2) rfl rfl (by decide)) hf_sa)
  have hf_mi : f4 mi = .inl (cy 1, 36, .inl gm) := (congrFun e_f4 mi).trans (z_up_ne (z_tne hf_mi hf_mo (m := 388) (n := 2) rfl rfl (by decide)) hf_mi)
  have hf_da : f4 da = .inl (cy 4, 13, .inr (.inr (.inr (.inr gd)))) := (congrFun e_f4 da).trans (z_up_ne (z_tne hf_da hf_mo (m := 206) (n := 2) rfl rfl (by decide)) hf_da)
  have hf_xmo : f4 xmo = .inr (2, [.int xv0, .int xv1, .int xv2, .int xv3, .int xv4, .int xv5, .int xv6, .ref xla, .ref xsa, .ref xmi, .ref xda]) := (congrFun e_f4 xmo).trans (z_up_ne (Ne.symm ne_mo_xmo) hf_xmo)
  have hf_xla : f4 xla = .inl (cy 1, 5, .inl xgl) := (congrFun e_f4 xla).trans (z_up_ne (z_tne hf_xla hf_mo (m := 140) (n := 2) rfl rfl (by decide)) hf_xla)
  have hf_xsa : f4 xsa = .inl (cy 1, 4, .inl xgs) := (congrFun e_f4 xsa).trans (z_up_ne (z_tne hf_xsa hf_mo (m := 132) (n := 2) rfl rfl (by decide)) hf_xsa)
  have hf_xmi : f4 xmi = .inl (cy 1, 36, .inl xgm) := (congrFun e_f4 xmi).trans (z_up_ne (z_tne hf_xmi hf_mo (m := 388) (n := 2) rfl rfl (by decide)) hf_xmi)
  have hf_xda : f4 xda = .inl (cy 4, 13, .inr (.inr (.inr (.inr xgd)))) := (congrFun e_f4 xda).trans (z_up_ne (z_tne hf_xda hf_mo (m := 206) (n := 2) rfl rfl (by decide)) hf_xda)
  have hd_da : z_Drv L f4 dv 13 := z_Drv_up hd_da e_f4 hf_mo (m := 2) rfl (by decide)
  have hd_xda : z_Drv L f4 xdv (xv5.toInt.toNat) := z_Drv_up hd_xda e_f4 hf_mo (m := 2) rfl (by decide)
  have hf_mo : f4 mo = .inr (2, [.int xv0, .int xv1, .int xv2, .int xv3, .int v4, .int v5, .int v6, .ref la, .ref sa, .ref mi, .ref da]) := (congrFun e_f4 mo).trans z_up_self
  have hfr : ∀ b ∈ L, b ≠ mo → b ≠ la → b ≠ sa → b ≠ mi → (∀ i : Nat, i < 13 → b ≠ dv i) → f4 b = f b := fun b hb h0 h1 h2 h3 hp0 => (congrFun e_f4 b).trans (z_up_ne h0 (hfr b hb h0 h1 h2 h3 hp0))
  refine lv_aload_n hx hb dX2_copy_32 rfl (lv_at hl 0 rfl) ?_
  refine lv_aload_n hx hb dX2_copy_33 rfl (lv_at hl 1 rfl) ?_
  refine z_get (C := RX2) (T := TX2) (N := 11) (ci := 2) (v := .int xv4) hx hb hT zin_X2 hown hK hw hm_xmo hf_xmo rfl 4 (by decide) (hT _ kw_218) rfl dX2_copy_34 ?_
  refine z_put (C := RX2) (T := TX2) (N := 11) (ci := 2) (v := .int xv4) (fs' := [.int xv0, .int xv1, .int xv2, .int xv3, .int xv4, .int v5, .int v6, .ref la, .ref sa, .ref mi, .ref da]) hx hb hT zin_X2 tyX2_ok nmX2 hown hK hw hm_mo hf_mo rfl 4 (by decide) (hT _ kw_218) rfl rfl rfl (Nat.le_of_ble_eq_true rfl) rfl dX2_copy_37 (fun H locs hw => ?_)
  obtain ⟨f5, e_f5⟩ : ∃ z, z = va_up f4 mo (.inr (2, [.int xv0, .int xv1, .int xv2, .int xv3, .int xv4, .int v5, .int v6, .ref la, .ref sa, .ref mi, .ref da])) := ⟨_, rfl⟩
  rw [← e_f5] at hw
  have hf_la : f5 la = .inl (cy 1, 5, .inl gl) := (congrFun e_f5 la).trans (z_up_ne (z_tne hf_la hf_mo (m := 140) (n := 2) rfl rfl (by decide)) hf_la)
  have hf_sa : f5 sa = .inl (cy 1, 4, .inl gs) := (congrFun e_f5 sa).trans (z_up_ne (z_tne hf_sa hf_mo (m := 132) (n := 2) rfl rfl (by decide)) hf_sa)
  have hf_mi : f5 mi = .inl (cy 1, 36, .inl gm) := (congrFun e_f5 mi).trans (z_up_ne (z_tne hf_mi hf_mo (m := 388) (n := 2) rfl rfl (by decide)) hf_mi)
  have hf_da : f5 da = .inl (cy 4, 13, .inr (.inr (.inr (.inr gd)))) := (congrFun e_f5 da).trans (z_up_ne (z_tne hf_da hf_mo (m := 206) (n := 2) rfl rfl (by decide)) hf_da)
  have hf_xmo : f5 xmo = .inr (2, [.int xv0, .int xv1, .int xv2, .int xv3, .int xv4, .int xv5, .int xv6, .ref xla, .ref xsa, .ref xmi, .ref xda]) := (congrFun e_f5 xmo).trans (z_up_ne (Ne.symm ne_mo_xmo) hf_xmo)
  have hf_xla : f5 xla = .inl (cy 1, 5, .inl xgl) := (congrFun e_f5 xla).trans (z_up_ne (z_tne hf_xla hf_mo (m := 140) (n := 2) rfl rfl (by decide)) hf_xla)
  have hf_xsa : f5 xsa = .inl (cy 1, 4, .inl xgs) := (congrFun e_f5 xsa).trans (z_up_ne (z_tne hf_xsa hf_mo (m := 132) (n := 2) rfl rfl (by decide)) hf_xsa)
  have hf_xmi : f5 xmi = .inl (cy 1, 36, .inl xgm) := (congrFun e_f5 xmi).trans (z_up_ne (z_tne hf_xmi hf_mo (m := 388) (n := 2) rfl rfl (by decide)) hf_xmi)
  have hf_xda : f5 xda = .inl (cy 4, 13, .inr (.inr (.inr (.inr xgd)))) := (congrFun e_f5 xda).trans (z_up_ne (z_tne hf_xda hf_mo (m := 206) (n := 2) rfl rfl (by decide)) hf_xda)
  have hd_da : z_Drv L f5 dv 13 := z_Drv_up hd_da e_f5 hf_mo (m := 2) rfl (by decide)
  have hd_xda : z_Drv L f5 xdv (xv5.toInt.toNat) := z_Drv_up hd_xda e_f5 hf_mo (m := 2) rfl (by decide)
  have hf_mo : f5 mo = .inr (2, [.int xv0, .int xv1, .int xv2, .int xv3, .int xv4, .int v5, .int v6, .ref la, .ref sa, .ref mi, .ref da]) := (congrFun e_f5 mo).trans z_up_self
  have hfr : ∀ b ∈ L, b ≠ mo → b ≠ la → b ≠ sa → b ≠ mi → (∀ i : Nat, i < 13 → b ≠ dv i) → f5 b = f b := fun b hb h0 h1 h2 h3 hp0 => (congrFun e_f5 b).trans (z_up_ne h0 (hfr b hb h0 h1 h2 h3 hp0))
  refine lv_aload_n hx hb dX2_copy_40 rfl (lv_at hl 0 rfl) ?_
  refine lv_aload_n hx hb dX2_copy_41 rfl (lv_at hl 1 rfl) ?_
  refine z_get (C := RX2) (T := TX2) (N := 11) (ci := 2) (v := .int xv5) hx hb hT zin_X2 hown hK hw hm_xmo hf_xmo rfl 5 (by decide) (hT _ kw_222) rfl dX2_copy_42 ?_
  refine z_put (C := RX2) (T := TX2) (N := 11) (ci := 2) (v := .int xv5) (fs' := [.int xv0, .int xv1, .int xv2, .int xv3, .int xv4, .int xv5, .int v6, .ref la, .ref sa, .ref mi, .ref da]) hx hb hT zin_X2 tyX2_ok nmX2 hown hK hw hm_mo hf_mo rfl 5 (by decide) (hT _ kw_222) rfl rfl rfl (Nat.le_of_ble_eq_true rfl) rfl dX2_copy_45 (fun H locs hw => ?_)
  obtain ⟨f6, e_f6⟩ : ∃ z, z = va_up f5 mo (.inr (2, [.int xv0, .int xv1, .int xv2, .int xv3, .int xv4, .int xv5, .int v6, .ref la, .ref sa, .ref mi, .ref da])) := ⟨_, rfl⟩
  rw [← e_f6] at hw
  have hf_la : f6 la = .inl (cy 1, 5, .inl gl) := (congrFun e_f6 la).trans (z_up_ne (z_tne hf_la hf_mo (m := 140) (n := 2) rfl rfl (by decide)) hf_la)
  have hf_sa : f6 sa = .inl (cy 1, 4, .inl gs) := (congrFun e_f6 sa).trans (z_up_ne (z_tne hf_sa hf_mo (m := 132) (n := 2) rfl rfl (by decide)) hf_sa)
  have hf_mi : f6 mi = .inl (cy 1, 36, .inl gm) := (congrFun e_f6 mi).trans (z_up_ne (z_tne hf_mi hf_mo (m := 388) (n := 2) rfl rfl (by decide)) hf_mi)
  have hf_da : f6 da = .inl (cy 4, 13, .inr (.inr (.inr (.inr gd)))) := (congrFun e_f6 da).trans (z_up_ne (z_tne hf_da hf_mo (m := 206) (n := 2) rfl rfl (by decide)) hf_da)
  have hf_xmo : f6 xmo = .inr (2, [.int xv0, .int xv1, .int xv2, .int xv3, .int xv4, .int xv5, .int xv6, .ref xla, .ref xsa, .ref xmi, .ref xda]) := (congrFun e_f6 xmo).trans (z_up_ne (Ne.symm ne_mo_xmo) hf_xmo)
  have hf_xla : f6 xla = .inl (cy 1, 5, .inl xgl) := (congrFun e_f6 xla).trans (z_up_ne (z_tne hf_xla hf_mo (m := 140) (n := 2) rfl rfl (by decide)) hf_xla)
  have hf_xsa : f6 xsa = .inl (cy 1, 4, .inl xgs) := (congrFun e_f6 xsa).trans (z_up_ne (z_tne hf_xsa hf_mo (m := 132) (n := 2) rfl rfl (by decide)) hf_xsa)
  have hf_xmi : f6 xmi = .inl (cy 1, 36, .inl xgm) := (congrFun e_f6 xmi).trans (z_up_ne (z_tne hf_xmi hf_mo (m := 388) (n := 2) rfl rfl (by decide)) hf_xmi)
  have hf_xda : f6 xda = .inl (cy 4, 13, .inr (.inr (.inr (.inr xgd)))) := (congrFun e_f6 xda).trans (z_up_ne (z_tne hf_xda hf_mo (m := 206) (n := 2) rfl rfl (by decide)) hf_xda)
  have hd_da : z_Drv L f6 dv 13 := z_Drv_up hd_da e_f6 hf_mo (m := 2) rfl (by decide)
  have hd_xda : z_Drv L f6 xdv (xv5.toInt.toNat) := z_Drv_up hd_xda e_f6 hf_mo (m := 2) rfl (by decide)
  have hf_mo : f6 mo = .inr (2, [.int xv0, .int xv1, .int xv2, .int xv3, .int xv4, .int xv5, .int v6, .ref la, .ref sa, .ref mi, .ref da]) := (congrFun e_f6 mo).trans z_up_self
  have hfr : ∀ b ∈ L, b ≠ mo → b ≠ la → b ≠ sa → b ≠ mi → (∀ i : Nat, i < 13 → b ≠ dv i) → f6 b = f b := fun b hb h0 h1 h2 h3 hp0 => (congrFun e_f6 b).trans (z_up_ne h0 (hfr b hb h0 h1 h2 h3 hp0))
  refine lv_aload_n hx hb dX2_copy_48 rfl (lv_at hl 0 rfl) ?_
  refine lv_aload_n hx hb dX2_copy_49 rfl (lv_at hl 1 rfl) ?_
  refine z_get (C := RX2) (T := TX2) (N := 11) (ci := 2) (v := .int xv6) hx hb hT zin_X2 hown hK hw hm_xmo hf_xmo rfl 6 (by decide) (hT _ kw_227) rfl dX2_copy_50 ?_
  refine z_put (C := RX2) (T := TX2) (N := 11) (ci := 2) (v := .int xv6) (fs' := [.int xv0, .int xv1, .int xv2, .int xv3, .int xv4, .int xv5, .int xv6, .ref la, .ref sa, .ref mi, .ref da]) hx hb hT zin_X2 tyX2_ok nmX2 hown hK hw hm_mo hf_mo rfl 6 (by decide) (hT _ kw_227) rfl rfl rfl (Nat.le_of_ble_eq_true rfl) rfl dX2_copy_53 (fun H locs hw => ?_)
  obtain ⟨f7, e_f7⟩ : ∃ z, z = va_up f6 mo (.inr (2, [.int xv0, .int xv1, .int xv2, .int xv3, .int xv4, .int xv5, .int xv6, .ref la, .ref sa, .ref mi, .ref da])) := ⟨_, rfl⟩
  rw [← e_f7] at hw
  have hf_la : f7 la = .inl (cy 1, 5, .inl gl) := (congrFun e_f7 la).trans (z_up_ne (z_tne hf_la hf_mo (m := 140) (n := 2) rfl rfl (by decide)) hf_la)
  have hf_sa : f7 sa = .inl (cy 1, 4, .inl gs) := (congrFun e_f7 sa).trans (z_up_ne (z_tne hf_sa hf_mo (m := 132) (n := 2) rfl rfl (by decide)) hf_sa)
  have hf_mi : f7 mi = .inl (cy 1, 36, .inl gm) := (congrFun e_f7 mi).trans (z_up_ne (z_tne hf_mi hf_mo (m := 388) (n := 2) rfl rfl (by decide)) hf_mi)
  have hf_da : f7 da = .inl (cy 4, 13, .inr (.inr (.inr (.inr gd)))) := (congrFun e_f7 da).trans (z_up_ne (z_tne hf_da hf_mo (m := 206) (n := 2) rfl rfl (by decide)) hf_da)
  have hf_xmo : f7 xmo = .inr (2, [.int xv0, .int xv1, .int xv2, .int xv3, .int xv4, .int xv5, .int xv6, .ref xla, .ref xsa, .ref xmi, .ref xda]) := (congrFun e_f7 xmo).trans (z_up_ne (Ne.symm ne_mo_xmo) hf_xmo)
  have hf_xla : f7 xla = .inl (cy 1, 5, .inl xgl) := (congrFun e_f7 xla).trans (z_up_ne (z_tne hf_xla hf_mo (m := 140) (n := 2) rfl rfl (by decide)) hf_xla)
  have hf_xsa : f7 xsa = .inl (cy 1, 4, .inl xgs) := (congrFun e_f7 xsa).trans (z_up_ne (z_tne hf_xsa hf_mo (m := 132) (n := 2) rfl rfl (by decide)) hf_xsa)
  have hf_xmi : f7 xmi = .inl (cy 1, 36, .inl xgm) := (congrFun e_f7 xmi).trans (z_up_ne (z_tne hf_xmi hf_mo (m := 388) (n := 2) rfl rfl (by decide)) hf_xmi)
  have hf_xda : f7 xda = .inl (cy 4, 13, .inr (.inr (.inr (.inr xgd)))) := (congrFun e_f7 xda).trans (z_up_ne (z_tne hf_xda hf_mo (m := 206) (n := 2) rfl rfl (by decide)) hf_xda)
  have hd_da : z_Drv L f7 dv 13 := z_Drv_up hd_da e_f7 hf_mo (m := 2) rfl (by decide)
  have hd_xda : z_Drv L f7 xdv (xv5.toInt.toNat) := z_Drv_up hd_xda e_f7 hf_mo (m := 2) rfl (by decide)
  have hf_mo : f7 mo = .inr (2, [.int xv0, .int xv1, .int xv2, .int xv3, .int xv4, .int xv5, .int xv6, .ref la, .ref sa, .ref mi, .ref da]) := (congrFun e_f7 mo).trans z_up_self
  have hfr : ∀ b ∈ L, b ≠ mo → b ≠ la → b ≠ sa → b ≠ mi → (∀ i : Nat, i < 13 → b ≠ dv i) → f7 b = f b := fun b hb h0 h1 h2 h3 hp0 => (congrFun e_f7 b).trans (z_up_ne h0 (hfr b hb h0 h1 h2 h3 hp0))
  refine lv_aload_n hx hb dX2_copy_56 rfl (lv_at hl 1 rfl) ?_
  refine z_get (C := RX2) (T := TX2) (N := 11) (ci := 2) (v := .ref xla) hx hb hT zin_X2 hown hK hw hm_xmo hf_xmo rfl 7 (by decide) (hT _ kw_230) rfl dX2_copy_57 ?_
  refine lv_iconst (v := 0) hx hb dX2_copy_60 (by decide) ?_
  refine lv_aload_n hx hb dX2_copy_61 rfl (lv_at hl 0 rfl) ?_
  refine z_get (C := RX2) (T := TX2) (N := 11) (ci := 2) (v := .ref la) hx hb hT zin_X2 hown hK hw hm_mo hf_mo rfl 7 (by decide) (hT _ kw_230) rfl dX2_copy_62 ?_
  refine lv_iconst (v := 0) hx hb dX2_copy_65 (by decide) ?_
  refine lv_iconst (v := 5) hx hb dX2_copy_66 (by decide) ?_
  refine z_copyi (t0 := 1) hx hb (by rw [hml]; exact hl.1.symm) hown (hT _ kc_lX2) (hT _ kc_n) (hT _ kc_s) (hT _ kc_i) hK hw (ha0 := hm_xla) (he0 := hf_xla) (ha1 := hm_la) (he1 := hf_la) (ht := rfl) (h1 := by decide) (h2 := by decide) (h3 := by decide) (h4 := by decide) (h5 := by decide) (hframes := Nat.le_of_ble_eq_true rfl) (hlocals := Nat.le_of_ble_eq_true rfl) (hdg := dX2_copy_67) (kk := fun H locs hw => ?_)
  obtain ⟨f8, e_f8⟩ : ∃ z, z = va_up f7 la (.inl (cy 1, 5, .inl (va_cpy xgl gl (0 : Int32).toNatClampNeg (0 : Int32).toNatClampNeg (5 : Int32).toNatClampNeg))) := ⟨_, rfl⟩
  rw [← e_f8] at hw
  have hf_mo : f8 mo = .inr (2, [.int xv0, .int xv1, .int xv2, .int xv3, .int xv4, .int xv5, .int xv6, .ref la, .ref sa, .ref mi, .ref da]) := (congrFun e_f8 mo).trans (z_up_ne (z_tne hf_mo hf_la (m := 2) (n := 140) rfl rfl (by decide)) hf_mo)
  have hf_sa : f8 sa = .inl (cy 1, 4, .inl gs) := (congrFun e_f8 sa).trans (z_up_ne (z_tne hf_sa hf_la (m := 132) (n := 140) rfl rfl (by decide)) hf_sa)
  have hf_mi : f8 mi = .inl (cy 1, 36, .inl gm) := (congrFun e_f8 mi).trans (z_up_ne (z_tne hf_mi hf_la (m := 388) (n := 140) rfl rfl (by decide)) hf_mi)
  have hf_da : f8 da = .inl (cy 4, 13, .inr (.inr (.inr (.inr gd)))) := (congrFun e_f8 da).trans (z_up_ne (z_tne hf_da hf_la (m := 206) (n := 140) rfl rfl (by decide)) hf_da)
  have hf_xmo : f8 xmo = .inr (2, [.int xv0, .int xv1, .int xv2, .int xv3, .int xv4, .int xv5, .int xv6, .ref xla, .ref xsa, .ref xmi, .ref xda]) := (congrFun e_f8 xmo).trans (z_up_ne (z_tne hf_xmo hf_la (m := 2) (n := 140) rfl rfl (by decide)) hf_xmo)
  have hf_xla : f8 xla = .inl (cy 1, 5, .inl xgl) := (congrFun e_f8 xla).trans (z_up_ne (Ne.symm ne_la_xla) hf_xla)
  have hf_xsa : f8 xsa = .inl (cy 1, 4, .inl xgs) := (congrFun e_f8 xsa).trans (z_up_ne (z_tne hf_xsa hf_la (m := 132) (n := 140) rfl rfl (by decide)) hf_xsa)
  have hf_xmi : f8 xmi = .inl (cy 1, 36, .inl xgm) := (congrFun e_f8 xmi).trans (z_up_ne (z_tne hf_xmi hf_la (m := 388) (n := 140) rfl rfl (by decide)) hf_xmi)
  have hf_xda : f8 xda = .inl (cy 4, 13, .inr (.inr (.inr (.inr xgd)))) := (congrFun e_f8 xda).trans (z_up_ne (z_tne hf_xda hf_la (m := 206) (n := 140) rfl rfl (by decide)) hf_xda)
  have hd_da : z_Drv L f8 dv 13 := z_Drv_up hd_da e_f8 hf_la (m := 140) rfl (by decide)
  have hd_xda : z_Drv L f8 xdv (xv5.toInt.toNat) := z_Drv_up hd_xda e_f8 hf_la (m := 140) rfl (by decide)
  have hf_la : f8 la = .inl (cy 1, 5, .inl (va_cpy xgl gl (0 : Int32).toNatClampNeg (0 : Int32).toNatClampNeg (5 : Int32).toNatClampNeg)) := (congrFun e_f8 la).trans z_up_self
  have hfr : ∀ b ∈ L, b ≠ mo → b ≠ la → b ≠ sa → b ≠ mi → (∀ i : Nat, i < 13 → b ≠ dv i) → f8 b = f b := fun b hb h0 h1 h2 h3 hp0 => (congrFun e_f8 b).trans (z_up_ne h1 (hfr b hb h0 h1 h2 h3 hp0))
  obtain ⟨g9, e_g9⟩ : ∃ z, z = (va_cpy xgl gl (0 : Int32).toNatClampNeg (0 : Int32).toNatClampNeg (5 : Int32).toNatClampNeg) := ⟨_, rfl⟩
  rw [← e_g9] at hf_la
  refine lv_aload_n hx hb dX2_copy_70 rfl (lv_at hl 1 rfl) ?_
  refine z_get (C := RX2) (T := TX2) (N := 11) (ci := 2) (v := .ref xsa) hx hb hT zin_X2 hown hK hw hm_xmo hf_xmo rfl 8 (by decide) (hT _ kw_236) rfl dX2_copy_71 ?_
  refine lv_iconst (v := 0) hx hb dX2_copy_74 (by decide) ?_
  refine lv_aload_n hx hb dX2_copy_75 rfl (lv_at hl 0 rfl) ?_
  refine z_get (C := RX2) (T := TX2) (N := 11) (ci := 2) (v := .ref sa) hx hb hT zin_X2 hown hK hw hm_mo hf_mo rfl 8 (by decide) (hT _ kw_236) rfl dX2_copy_76 ?_
  refine lv_iconst (v := 0) hx hb dX2_copy_79 (by decide) ?_
  refine lv_iconst (v := 4) hx hb dX2_copy_80 (by decide) ?_
  refine z_copyi (t0 := 1) hx hb (by rw [hml]; exact hl.1.symm) hown (hT _ kc_lX2) (hT _ kc_n) (hT _ kc_s) (hT _ kc_i) hK hw (ha0 := hm_xsa) (he0 := hf_xsa) (ha1 := hm_sa) (he1 := hf_sa) (ht := rfl) (h1 := by decide) (h2 := by decide) (h3 := by decide) (h4 := by decide) (h5 := by decide) (hframes := Nat.le_of_ble_eq_true rfl) (hlocals := Nat.le_of_ble_eq_true rfl) (hdg := dX2_copy_81) (kk := fun H locs hw => ?_)
  obtain ⟨f10, e_f10⟩ : ∃ z, z = va_up f8 sa (.inl (cy 1, 4, .inl (va_cpy xgs gs (0 : Int32).toNatClampNeg (0 : Int32).toNatClampNeg (4 : Int32).toNatClampNeg))) := ⟨_, rfl⟩
  rw [← e_f10] at hw
  have hf_mo : f10 mo = .inr (2, [.int xv0, .int xv1, .int xv2, .int xv3, .int xv4, .int xv5, .int xv6, .ref la, .ref sa, .ref mi, .ref da]) := (congrFun e_f10 mo).trans (z_up_ne (z_tne hf_mo hf_sa (m := 2) (n := 132) rfl rfl (by decide)) hf_mo)
  have hf_la : f10 la = .inl (cy 1, 5, .inl g9) := (congrFun e_f10 la).trans (z_up_ne (z_tne hf_la hf_sa (m := 140) (n := 132) rfl rfl (by decide)) hf_la)
  have hf_mi : f10 mi = .inl (cy 1, 36, .inl gm) := (congrFun e_f10 mi).trans (z_up_ne (z_tne hf_mi hf_sa (m := 388) (n := 132) rfl rfl (by decide)) hf_mi)
  have hf_da : f10 da = .inl (cy 4, 13, .inr (.inr (.inr (.inr gd)))) := (congrFun e_f10 da).trans (z_up_ne (z_tne hf_da hf_sa (m := 206) (n := 132) rfl rfl (by decide)) hf_da)
  have hf_xmo : f10 xmo = .inr (2, [.int xv0, .int xv1, .int xv2, .int xv3, .int xv4, .int xv5, .int xv6, .ref xla, .ref xsa, .ref xmi, .ref xda]) := (congrFun e_f10 xmo).trans (z_up_ne (z_tne hf_xmo hf_sa (m := 2) (n := 132) rfl rfl (by decide)) hf_xmo)
  have hf_xla : f10 xla = .inl (cy 1, 5, .inl xgl) := (congrFun e_f10 xla).trans (z_up_ne (z_tne hf_xla hf_sa (m := 140) (n := 132) rfl rfl (by decide)) hf_xla)
  have hf_xsa : f10 xsa = .inl (cy 1, 4, .inl xgs) := (congrFun e_f10 xsa).trans (z_up_ne (Ne.symm ne_sa_xsa) hf_xsa)
  have hf_xmi : f10 xmi = .inl (cy 1, 36, .inl xgm) := (congrFun e_f10 xmi).trans (z_up_ne (z_tne hf_xmi hf_sa (m := 388) (n := 132) rfl rfl (by decide)) hf_xmi)
  have hf_xda : f10 xda = .inl (cy 4, 13, .inr (.inr (.inr (.inr xgd)))) := (congrFun e_f10 xda).trans (z_up_ne (z_tne hf_xda hf_sa (m := 206) (n := 132) rfl rfl (by decide)) hf_xda)
  have hd_da : z_Drv L f10 dv 13 := z_Drv_up hd_da e_f10 hf_sa (m := 132) rfl (by decide)
  have hd_xda : z_Drv L f10 xdv (xv5.toInt.toNat) := z_Drv_up hd_xda e_f10 hf_sa (m := 132) rfl (by decide)
  have hf_sa : f10 sa = .inl (cy 1, 4, .inl (va_cpy xgs gs (0 : Int32).toNatClampNeg (0 : Int32).toNatClampNeg (4 : Int32).toNatClampNeg)) := (congrFun e_f10 sa).trans z_up_self
  have hfr : ∀ b ∈ L, b ≠ mo → b ≠ la → b ≠ sa → b ≠ mi → (∀ i : Nat, i < 13 → b ≠ dv i) → f10 b = f b := fun b hb h0 h1 h2 h3 hp0 => (congrFun e_f10 b).trans (z_up_ne h2 (hfr b hb h0 h1 h2 h3 hp0))
  obtain ⟨g11, e_g11⟩ : ∃ z, z = (va_cpy xgs gs (0 : Int32).toNatClampNeg (0 : Int32).toNatClampNeg (4 : Int32).toNatClampNeg) := ⟨_, rfl⟩
  rw [← e_g11] at hf_sa
  refine lv_aload_n hx hb dX2_copy_84 rfl (lv_at hl 1 rfl) ?_
  refine z_get (C := RX2) (T := TX2) (N := 11) (ci := 2) (v := .ref xmi) hx hb hT zin_X2 hown hK hw hm_xmo hf_xmo rfl 9 (by decide) (hT _ kw_239) rfl dX2_copy_85 ?_
  refine lv_iconst (v := 0) hx hb dX2_copy_88 (by decide) ?_
  refine lv_aload_n hx hb dX2_copy_89 rfl (lv_at hl 0 rfl) ?_
  refine z_get (C := RX2) (T := TX2) (N := 11) (ci := 2) (v := .ref mi) hx hb hT zin_X2 hown hK hw hm_mo hf_mo rfl 9 (by decide) (hT _ kw_239) rfl dX2_copy_90 ?_
  refine lv_iconst (v := 0) hx hb dX2_copy_93 (by decide) ?_
  refine lv_bipush (v := 36) hx hb dX2_copy_94 (by decide) ?_
  refine z_copyi (t0 := 1) hx hb (by rw [hml]; exact hl.1.symm) hown (hT _ kc_lX2) (hT _ kc_n) (hT _ kc_s) (hT _ kc_i) hK hw (ha0 := hm_xmi) (he0 := hf_xmi) (ha1 := hm_mi) (he1 := hf_mi) (ht := rfl) (h1 := by decide) (h2 := by decide) (h3 := by decide) (h4 := by decide) (h5 := by decide) (hframes := Nat.le_of_ble_eq_true rfl) (hlocals := Nat.le_of_ble_eq_true rfl) (hdg := dX2_copy_96) (kk := fun H locs hw => ?_)
  obtain ⟨f12, e_f12⟩ : ∃ z, z = va_up f10 mi (.inl (cy 1, 36, .inl (va_cpy xgm gm (0 : Int32).toNatClampNeg (0 : Int32).toNatClampNeg (36 : Int32).toNatClampNeg))) := ⟨_, rfl⟩
  rw [← e_f12] at hw
  have hf_mo : f12 mo = .inr (2, [.int xv0, .int xv1, .int xv2, .int xv3, .int xv4, .int xv5, .int xv6, .ref la, .ref sa, .ref mi, .ref da]) := (congrFun e_f12 mo).trans (z_up_ne (z_tne hf_mo hf_mi (m := 2) (n := 388) rfl rfl (by decide)) hf_mo)
  have hf_la : f12 la = .inl (cy 1, 5, .inl g9) := (congrFun e_f12 la).trans (z_up_ne (z_tne hf_la hf_mi (m := 140) (n := 388) rfl rfl (by decide)) hf_la)
  have hf_sa : f12 sa = .inl (cy 1, 4, .inl g11) := (congrFun e_f12 sa).trans (z_up_ne (z_tne hf_sa hf_mi (m := 132) (n := 388) rfl rfl (by decide)) hf_sa)
  have hf_da : f12 da = .inl (cy 4, 13, .inr (.inr (.inr (.inr gd)))) := (congrFun e_f12 da).trans (z_up_ne (z_tne hf_da hf_mi (m := 206) (n := 388) rfl rfl (by decide)) hf_da)
  have hf_xmo : f12 xmo = .inr (2, [.int xv0, .int xv1, .int xv2, .int xv3, .int xv4, .int xv5, .int xv6, .ref xla, .ref xsa, .ref xmi, .ref xda]) := (congrFun e_f12 xmo).trans (z_up_ne (z_tne hf_xmo hf_mi (m := 2) (n := 388) rfl rfl (by decide)) hf_xmo)
  have hf_xla : f12 xla = .inl (cy 1, 5, .inl xgl) := (congrFun e_f12 xla).trans (z_up_ne (z_tne hf_xla hf_mi (m := 140) (n := 388) rfl rfl (by decide)) hf_xla)
  have hf_xsa : f12 xsa = .inl (cy 1, 4, .inl xgs) := (congrFun e_f12 xsa).trans (z_up_ne (z_tne hf_xsa hf_mi (m := 132) (n := 388) rfl rfl (by decide)) hf_xsa)
  have hf_xmi : f12 xmi = .inl (cy 1, 36, .inl xgm) := (congrFun e_f12 xmi).trans (z_up_ne (Ne.symm ne_mi_xmi) hf_xmi)
  have hf_xda : f12 xda = .inl (cy 4, 13, .inr (.inr (.inr (.inr xgd)))) := (congrFun e_f12 xda).trans (z_up_ne (z_tne hf_xda hf_mi (m := 206) (n := 388) rfl rfl (by decide)) hf_xda)
  have hd_da : z_Drv L f12 dv 13 := z_Drv_up hd_da e_f12 hf_mi (m := 388) rfl (by decide)
  have hd_xda : z_Drv L f12 xdv (xv5.toInt.toNat) := z_Drv_up hd_xda e_f12 hf_mi (m := 388) rfl (by decide)
  have hf_mi : f12 mi = .inl (cy 1, 36, .inl (va_cpy xgm gm (0 : Int32).toNatClampNeg (0 : Int32).toNatClampNeg (36 : Int32).toNatClampNeg)) := (congrFun e_f12 mi).trans z_up_self
  have hfr : ∀ b ∈ L, b ≠ mo → b ≠ la → b ≠ sa → b ≠ mi → (∀ i : Nat, i < 13 → b ≠ dv i) → f12 b = f b := fun b hb h0 h1 h2 h3 hp0 => (congrFun e_f12 b).trans (z_up_ne h3 (hfr b hb h0 h1 h2 h3 hp0))
  obtain ⟨g13, e_g13⟩ : ∃ z, z = (va_cpy xgm gm (0 : Int32).toNatClampNeg (0 : Int32).toNatClampNeg (36 : Int32).toNatClampNeg) := ⟨_, rfl⟩
  rw [← e_g13] at hf_mi
  refine lv_iconst (v := 0) hx hb dX2_copy_99 (by decide) ?_
  refine lv_istore_n (lv' := [(2, .int 0), (0, .ref mo), (1, .ref xmo)]) hx hb dX2_copy_100 rfl hl (by decide) rfl (fun ls hl => ?_)
  have hzk : (0 : Int32).toInt = 0 := by decide
  refine z_loop (fun n H locs ls => ∃ (K14 : Int32) (f15 : Nat → va_E), (n = (xv5.toInt - K14.toInt).toNat) ∧ (0 ≤ K14.toInt) ∧ (K14.toInt ≤ xv5.toInt) ∧ (z_H D vwCl (z_A L sz) s.heap L f15 H locs) ∧ (f15 mo = .inr (2, [.int xv0, .int xv1, .int xv2, .int xv3, .int xv4, .int xv5, .int xv6, .ref la, .ref sa, .ref mi, .ref da])) ∧ (f15 la = .inl (cy 1, 5, .inl g9)) ∧ (f15 sa = .inl (cy 1, 4, .inl g11)) ∧ (f15 mi = .inl (cy 1, 36, .inl g13)) ∧ (f15 da = .inl (cy 4, 13, .inr (.inr (.inr (.inr gd))))) ∧ (f15 xmo = .inr (2, [.int xv0, .int xv1, .int xv2, .int xv3, .int xv4, .int xv5, .int xv6, .ref xla, .ref xsa, .ref xmi, .ref xda])) ∧ (f15 xla = .inl (cy 1, 5, .inl xgl)) ∧ (f15 xsa = .inl (cy 1, 4, .inl xgs)) ∧ (f15 xmi = .inl (cy 1, 36, .inl xgm)) ∧ (f15 xda = .inl (cy 4, 13, .inr (.inr (.inr (.inr xgd))))) ∧ (∀ b ∈ L, b ≠ mo → b ≠ la → b ≠ sa → b ≠ mi → (∀ i : Nat, i < 13 → b ≠ dv i) → f15 b = f b) ∧ (z_Drv L f15 dv 13) ∧ (z_Drv L f15 xdv (xv5.toInt.toNat)) ∧ (lv_has ls 3 [(2, .int K14), (0, .ref mo), (1, .ref xmo)])) _ ⟨0, f12, rfl, (by first | decide | omega), (by first | decide | omega), hw, hf_mo, hf_la, hf_sa, hf_mi, hf_da, hf_xmo, hf_xla, hf_xsa, hf_xmi, hf_xda, hfr, hd_da, hd_xda, (lv_sub hl [0, 1, 2] rfl)⟩ (fun n H locs ls hI ih_101 => ?_)
  obtain ⟨K14, f15, hn, hk0, hk1, hw, hf_mo, hf_la, hf_sa, hf_mi, hf_da, hf_xmo, hf_xla, hf_xsa, hf_xmi, hf_xda, hfr, hd_da, hd_xda, hl⟩ := hI
  refine lv_iload_n hx hb dX2_copy_101 rfl (lv_at hl 0 rfl) ?_
  refine lv_aload_n hx hb dX2_copy_102 rfl (lv_at hl 2 rfl) ?_
  refine z_get (C := RX2) (T := TX2) (N := 11) (ci := 2) (v := .int xv5) hx hb hT zin_X2 hown hK hw hm_xmo hf_xmo rfl 5 (by decide) (hT _ kw_222) rfl dX2_copy_103 ?_
  refine z_icmp_ge (tgt := 136) hx hb rfl rfl dX2_copy_106 (by decide) (fun c16 => ?_) (fun c16 => ?_)
  · skip
    have hw := z_nrm hw hm_la hf_la (fun j hj => (z_cpy0 (by decide) e_g9 j hj).symm)
    obtain ⟨f17, e_f17⟩ : ∃ z, z = va_up f15 la (.inl (cy 1, 5, .inl xgl)) := ⟨_, rfl⟩
    rw [← e_f17] at hw
    have hf_mo : f17 mo = .inr (2, [.int xv0, .int xv1, .int xv2, .int xv3, .int xv4, .int xv5, .int xv6, .ref la, .ref sa, .ref mi, .ref da]) := (congrFun e_f17 mo).trans (z_up_ne (z_tne hf_mo hf_la (m := 2) (n := 140) rfl rfl (by decide)) hf_mo)
    have hf_sa : f17 sa = .inl (cy 1, 4, .inl g11) := (congrFun e_f17 sa).trans (z_up_ne (z_tne hf_sa hf_la (m := 132) (n := 140) rfl rfl (by decide)) hf_sa)
    have hf_mi : f17 mi = .inl (cy 1, 36, .inl g13) := (congrFun e_f17 mi).trans (z_up_ne (z_tne hf_mi hf_la (m := 388) (n := 140) rfl rfl (by decide)) hf_mi)
    have hf_da : f17 da = .inl (cy 4, 13, .inr (.inr (.inr (.inr gd)))) := (congrFun e_f17 da).trans (z_up_ne (z_tne hf_da hf_la (m := 206) (n := 140) rfl rfl (by decide)) hf_da)
    have hf_xmo : f17 xmo = .inr (2, [.int xv0, .int xv1, .int xv2, .int xv3, .int xv4, .int xv5, .int xv6, .ref xla, .ref xsa, .ref xmi, .ref xda]) := (congrFun e_f17 xmo).trans (z_up_ne (z_tne hf_xmo hf_la (m := 2) (n := 140) rfl rfl (by decide)) hf_xmo)
    have hf_xla : f17 xla = .inl (cy 1, 5, .inl xgl) := (congrFun e_f17 xla).trans (z_up_ne (Ne.symm ne_la_xla) hf_xla)
    have hf_xsa : f17 xsa = .inl (cy 1, 4, .inl xgs) := (congrFun e_f17 xsa).trans (z_up_ne (z_tne hf_xsa hf_la (m := 132) (n := 140) rfl rfl (by decide)) hf_xsa)
    have hf_xmi : f17 xmi = .inl (cy 1, 36, .inl xgm) := (congrFun e_f17 xmi).trans (z_up_ne (z_tne hf_xmi hf_la (m := 388) (n := 140) rfl rfl (by decide)) hf_xmi)
    have hf_xda : f17 xda = .inl (cy 4, 13, .inr (.inr (.inr (.inr xgd)))) := (congrFun e_f17 xda).trans (z_up_ne (z_tne hf_xda hf_la (m := 206) (n := 140) rfl rfl (by decide)) hf_xda)
    have hd_da : z_Drv L f17 dv 13 := z_Drv_up hd_da e_f17 hf_la (m := 140) rfl (by decide)
    have hd_xda : z_Drv L f17 xdv (xv5.toInt.toNat) := z_Drv_up hd_xda e_f17 hf_la (m := 140) rfl (by decide)
    have hf_la : f17 la = .inl (cy 1, 5, .inl xgl) := (congrFun e_f17 la).trans z_up_self
    have hfr : ∀ b ∈ L, b ≠ mo → b ≠ la → b ≠ sa → b ≠ mi → (∀ i : Nat, i < 13 → b ≠ dv i) → f17 b = f b := fun b hb h0 h1 h2 h3 hp0 => (congrFun e_f17 b).trans (z_up_ne h1 (hfr b hb h0 h1 h2 h3 hp0))
    have hw := z_nrm hw hm_sa hf_sa (fun j hj => (z_cpy0 (by decide) e_g11 j hj).symm)
    obtain ⟨f18, e_f18⟩ : ∃ z, z = va_up f17 sa (.inl (cy 1, 4, .inl xgs)) := ⟨_, rfl⟩
    rw [← e_f18] at hw
    have hf_mo : f18 mo = .inr (2, [.int xv0, .int xv1, .int xv2, .int xv3, .int xv4, .int xv5, .int xv6, .ref la, .ref sa, .ref mi, .ref da]) := (congrFun e_f18 mo).trans (z_up_ne (z_tne hf_mo hf_sa (m := 2) (n := 132) rfl rfl (by decide)) hf_mo)
    have hf_la : f18 la = .inl (cy 1, 5, .inl xgl) := (congrFun e_f18 la).trans (z_up_ne (z_tne hf_la hf_sa (m := 140) (n := 132) rfl rfl (by decide)) hf_la)
    have hf_mi : f18 mi = .inl (cy 1, 36, .inl g13) := (congrFun e_f18 mi).trans (z_up_ne (z_tne hf_mi hf_sa (m := 388) (n := 132) rfl rfl (by decide)) hf_mi)
    have hf_da : f18 da = .inl (cy 4, 13, .inr (.inr (.inr (.inr gd)))) := (congrFun e_f18 da).trans (z_up_ne (z_tne hf_da hf_sa (m := 206) (n := 132) rfl rfl (by decide)) hf_da)
    have hf_xmo : f18 xmo = .inr (2, [.int xv0, .int xv1, .int xv2, .int xv3, .int xv4, .int xv5, .int xv6, .ref xla, .ref xsa, .ref xmi, .ref xda]) := (congrFun e_f18 xmo).trans (z_up_ne (z_tne hf_xmo hf_sa (m := 2) (n := 132) rfl rfl (by decide)) hf_xmo)
    have hf_xla : f18 xla = .inl (cy 1, 5, .inl xgl) := (congrFun e_f18 xla).trans (z_up_ne (z_tne hf_xla hf_sa (m := 140) (n := 132) rfl rfl (by decide)) hf_xla)
    have hf_xsa : f18 xsa = .inl (cy 1, 4, .inl xgs) := (congrFun e_f18 xsa).trans (z_up_ne (Ne.symm ne_sa_xsa) hf_xsa)
    have hf_xmi : f18 xmi = .inl (cy 1, 36, .inl xgm) := (congrFun e_f18 xmi).trans (z_up_ne (z_tne hf_xmi hf_sa (m := 388) (n := 132) rfl rfl (by decide)) hf_xmi)
    have hf_xda : f18 xda = .inl (cy 4, 13, .inr (.inr (.inr (.inr xgd)))) := (congrFun e_f18 xda).trans (z_up_ne (z_tne hf_xda hf_sa (m := 206) (n := 132) rfl rfl (by decide)) hf_xda)
    have hd_da : z_Drv L f18 dv 13 := z_Drv_up hd_da e_f18 hf_sa (m := 132) rfl (by decide)
    have hd_xda : z_Drv L f18 xdv (xv5.toInt.toNat) := z_Drv_up hd_xda e_f18 hf_sa (m := 132) rfl (by decide)
    have hf_sa : f18 sa = .inl (cy 1, 4, .inl xgs) := (congrFun e_f18 sa).trans z_up_self
    have hfr : ∀ b ∈ L, b ≠ mo → b ≠ la → b ≠ sa → b ≠ mi → (∀ i : Nat, i < 13 → b ≠ dv i) → f18 b = f b := fun b hb h0 h1 h2 h3 hp0 => (congrFun e_f18 b).trans (z_up_ne h2 (hfr b hb h0 h1 h2 h3 hp0))
    have hw := z_nrm hw hm_mi hf_mi (fun j hj => (z_cpy0 (by decide) e_g13 j hj).symm)
    obtain ⟨f19, e_f19⟩ : ∃ z, z = va_up f18 mi (.inl (cy 1, 36, .inl xgm)) := ⟨_, rfl⟩
    rw [← e_f19] at hw
    have hf_mo : f19 mo = .inr (2, [.int xv0, .int xv1, .int xv2, .int xv3, .int xv4, .int xv5, .int xv6, .ref la, .ref sa, .ref mi, .ref da]) := (congrFun e_f19 mo).trans (z_up_ne (z_tne hf_mo hf_mi (m := 2) (n := 388) rfl rfl (by decide)) hf_mo)
    have hf_la : f19 la = .inl (cy 1, 5, .inl xgl) := (congrFun e_f19 la).trans (z_up_ne (z_tne hf_la hf_mi (m := 140) (n := 388) rfl rfl (by decide)) hf_la)
    have hf_sa : f19 sa = .inl (cy 1, 4, .inl xgs) := (congrFun e_f19 sa).trans (z_up_ne (z_tne hf_sa hf_mi (m := 132) (n := 388) rfl rfl (by decide)) hf_sa)
    have hf_da : f19 da = .inl (cy 4, 13, .inr (.inr (.inr (.inr gd)))) := (congrFun e_f19 da).trans (z_up_ne (z_tne hf_da hf_mi (m := 206) (n := 388) rfl rfl (by decide)) hf_da)
    have hf_xmo : f19 xmo = .inr (2, [.int xv0, .int xv1, .int xv2, .int xv3, .int xv4, .int xv5, .int xv6, .ref xla, .ref xsa, .ref xmi, .ref xda]) := (congrFun e_f19 xmo).trans (z_up_ne (z_tne hf_xmo hf_mi (m := 2) (n := 388) rfl rfl (by decide)) hf_xmo)
    have hf_xla : f19 xla = .inl (cy 1, 5, .inl xgl) := (congrFun e_f19 xla).trans (z_up_ne (z_tne hf_xla hf_mi (m := 140) (n := 388) rfl rfl (by decide)) hf_xla)
    have hf_xsa : f19 xsa = .inl (cy 1, 4, .inl xgs) := (congrFun e_f19 xsa).trans (z_up_ne (z_tne hf_xsa hf_mi (m := 132) (n := 388) rfl rfl (by decide)) hf_xsa)
    have hf_xmi : f19 xmi = .inl (cy 1, 36, .inl xgm) := (congrFun e_f19 xmi).trans (z_up_ne (Ne.symm ne_mi_xmi) hf_xmi)
    have hf_xda : f19 xda = .inl (cy 4, 13, .inr (.inr (.inr (.inr xgd)))) := (congrFun e_f19 xda).trans (z_up_ne (z_tne hf_xda hf_mi (m := 206) (n := 388) rfl rfl (by decide)) hf_xda)
    have hd_da : z_Drv L f19 dv 13 := z_Drv_up hd_da e_f19 hf_mi (m := 388) rfl (by decide)
    have hd_xda : z_Drv L f19 xdv (xv5.toInt.toNat) := z_Drv_up hd_xda e_f19 hf_mi (m := 388) rfl (by decide)
    have hf_mi : f19 mi = .inl (cy 1, 36, .inl xgm) := (congrFun e_f19 mi).trans z_up_self
    have hfr : ∀ b ∈ L, b ≠ mo → b ≠ la → b ≠ sa → b ≠ mi → (∀ i : Nat, i < 13 → b ≠ dv i) → f19 b = f b := fun b hb h0 h1 h2 h3 hp0 => (congrFun e_f19 b).trans (z_up_ne h3 (hfr b hb h0 h1 h2 h3 hp0))
    exact z_vret hx hb hr hlk (by decide) (by decide) hw (⟨hsub, hfr, hf_mo, hf_la, hf_sa, hf_mi, hd_da, trivial⟩) dX2_copy_136
  · skip
    refine lv_iload_n hx hb dX2_copy_109 rfl (lv_at hl 0 rfl) ?_
    refine lv_bipush (v := 12) hx hb dX2_copy_110 (by decide) ?_
    refine z_icmp_gt (tgt := 136) hx hb rfl (show (12 : Int32).toInt = 12 by decide) dX2_copy_112 (by decide) (fun c20 => ?_) (fun c20 => ?_)
    · skip
      have hw := z_nrm hw hm_la hf_la (fun j hj => (z_cpy0 (by decide) e_g9 j hj).symm)
      obtain ⟨f21, e_f21⟩ : ∃ z, z = va_up f15 la (.inl (cy 1, 5, .inl xgl)) := ⟨_, rfl⟩
      rw [← e_f21] at hw
      have hf_mo : f21 mo = .inr (2, [.int xv0, .int xv1, .int xv2, .int xv3, .int xv4, .int xv5, .int xv6, .ref la, .ref sa, .ref mi, .ref da]) := (congrFun e_f21 mo).trans (z_up_ne (z_tne hf_mo hf_la (m := 2) (n := 140) rfl rfl (by decide)) hf_mo)
      have hf_sa : f21 sa = .inl (cy 1, 4, .inl g11) := (congrFun e_f21 sa).trans (z_up_ne (z_tne hf_sa hf_la (m := 132) (n := 140) rfl rfl (by decide)) hf_sa)
      have hf_mi : f21 mi = .inl (cy 1, 36, .inl g13) := (congrFun e_f21 mi).trans (z_up_ne (z_tne hf_mi hf_la (m := 388) (n := 140) rfl rfl (by decide)) hf_mi)
      have hf_da : f21 da = .inl (cy 4, 13, .inr (.inr (.inr (.inr gd)))) := (congrFun e_f21 da).trans (z_up_ne (z_tne hf_da hf_la (m := 206) (n := 140) rfl rfl (by decide)) hf_da)
      have hf_xmo : f21 xmo = .inr (2, [.int xv0, .int xv1, .int xv2, .int xv3, .int xv4, .int xv5, .int xv6, .ref xla, .ref xsa, .ref xmi, .ref xda]) := (congrFun e_f21 xmo).trans (z_up_ne (z_tne hf_xmo hf_la (m := 2) (n := 140) rfl rfl (by decide)) hf_xmo)
      have hf_xla : f21 xla = .inl (cy 1, 5, .inl xgl) := (congrFun e_f21 xla).trans (z_up_ne (Ne.symm ne_la_xla) hf_xla)
      have hf_xsa : f21 xsa = .inl (cy 1, 4, .inl xgs) := (congrFun e_f21 xsa).trans (z_up_ne (z_tne hf_xsa hf_la (m := 132) (n := 140) rfl rfl (by decide)) hf_xsa)
      have hf_xmi : f21 xmi = .inl (cy 1, 36, .inl xgm) := (congrFun e_f21 xmi).trans (z_up_ne (z_tne hf_xmi hf_la (m := 388) (n := 140) rfl rfl (by decide)) hf_xmi)
      have hf_xda : f21 xda = .inl (cy 4, 13, .inr (.inr (.inr (.inr xgd)))) := (congrFun e_f21 xda).trans (z_up_ne (z_tne hf_xda hf_la (m := 206) (n := 140) rfl rfl (by decide)) hf_xda)
      have hd_da : z_Drv L f21 dv 13 := z_Drv_up hd_da e_f21 hf_la (m := 140) rfl (by decide)
      have hd_xda : z_Drv L f21 xdv (xv5.toInt.toNat) := z_Drv_up hd_xda e_f21 hf_la (m := 140) rfl (by decide)
      have hf_la : f21 la = .inl (cy 1, 5, .inl xgl) := (congrFun e_f21 la).trans z_up_self
      have hfr : ∀ b ∈ L, b ≠ mo → b ≠ la → b ≠ sa → b ≠ mi → (∀ i : Nat, i < 13 → b ≠ dv i) → f21 b = f b := fun b hb h0 h1 h2 h3 hp0 => (congrFun e_f21 b).trans (z_up_ne h1 (hfr b hb h0 h1 h2 h3 hp0))
      have hw := z_nrm hw hm_sa hf_sa (fun j hj => (z_cpy0 (by decide) e_g11 j hj).symm)
      obtain ⟨f22, e_f22⟩ : ∃ z, z = va_up f21 sa (.inl (cy 1, 4, .inl xgs)) := ⟨_, rfl⟩
      rw [← e_f22] at hw
      have hf_mo : f22 mo = .inr (2, [.int xv0, .int xv1, .int xv2, .int xv3, .int xv4, .int xv5, .int xv6, .ref la, .ref sa, .ref mi, .ref da]) := (congrFun e_f22 mo).trans (z_up_ne (z_tne hf_mo hf_sa (m := 2) (n := 132) rfl rfl (by decide)) hf_mo)
      have hf_la : f22 la = .inl (cy 1, 5, .inl xgl) := (congrFun e_f22 la).trans (z_up_ne (z_tne hf_la hf_sa (m := 140) (n := 132) rfl rfl (by decide)) hf_la)
      have hf_mi : f22 mi = .inl (cy 1, 36, .inl g13) := (congrFun e_f22 mi).trans (z_up_ne (z_tne hf_mi hf_sa (m := 388) (n := 132) rfl rfl (by decide)) hf_mi)
      have hf_da : f22 da = .inl (cy 4, 13, .inr (.inr (.inr (.inr gd)))) := (congrFun e_f22 da).trans (z_up_ne (z_tne hf_da hf_sa (m := 206) (n := 132) rfl rfl (by decide)) hf_da)
      have hf_xmo : f22 xmo = .inr (2, [.int xv0, .int xv1, .int xv2, .int xv3, .int xv4, .int xv5, .int xv6, .ref xla, .ref xsa, .ref xmi, .ref xda]) := (congrFun e_f22 xmo).trans (z_up_ne (z_tne hf_xmo hf_sa (m := 2) (n := 132) rfl rfl (by decide)) hf_xmo)
      have hf_xla : f22 xla = .inl (cy 1, 5, .inl xgl) := (congrFun e_f22 xla).trans (z_up_ne (z_tne hf_xla hf_sa (m := 140) (n := 132) rfl rfl (by decide)) hf_xla)
      have hf_xsa : f22 xsa = .inl (cy 1, 4, .inl xgs) := (congrFun e_f22 xsa).trans (z_up_ne (Ne.symm ne_sa_xsa) hf_xsa)
      have hf_xmi : f22 xmi = .inl (cy 1, 36, .inl xgm) := (congrFun e_f22 xmi).trans (z_up_ne (z_tne hf_xmi hf_sa (m := 388) (n := 132) rfl rfl (by decide)) hf_xmi)
      have hf_xda : f22 xda = .inl (cy 4, 13, .inr (.inr (.inr (.inr xgd)))) := (congrFun e_f22 xda).trans (z_up_ne (z_tne hf_xda hf_sa (m := 206) (n := 132) rfl rfl (by decide)) hf_xda)
      have hd_da : z_Drv L f22 dv 13 := z_Drv_up hd_da e_f22 hf_sa (m := 132) rfl (by decide)
      have hd_xda : z_Drv L f22 xdv (xv5.toInt.toNat) := z_Drv_up hd_xda e_f22 hf_sa (m := 132) rfl (by decide)
      have hf_sa : f22 sa = .inl (cy 1, 4, .inl xgs) := (congrFun e_f22 sa).trans z_up_self
      have hfr : ∀ b ∈ L, b ≠ mo → b ≠ la → b ≠ sa → b ≠ mi → (∀ i : Nat, i < 13 → b ≠ dv i) → f22 b = f b := fun b hb h0 h1 h2 h3 hp0 => (congrFun e_f22 b).trans (z_up_ne h2 (hfr b hb h0 h1 h2 h3 hp0))
      have hw := z_nrm hw hm_mi hf_mi (fun j hj => (z_cpy0 (by decide) e_g13 j hj).symm)
      obtain ⟨f23, e_f23⟩ : ∃ z, z = va_up f22 mi (.inl (cy 1, 36, .inl xgm)) := ⟨_, rfl⟩
      rw [← e_f23] at hw
      have hf_mo : f23 mo = .inr (2, [.int xv0, .int xv1, .int xv2, .int xv3, .int xv4, .int xv5, .int xv6, .ref la, .ref sa, .ref mi, .ref da]) := (congrFun e_f23 mo).trans (z_up_ne (z_tne hf_mo hf_mi (m := 2) (n := 388) rfl rfl (by decide)) hf_mo)
      have hf_la : f23 la = .inl (cy 1, 5, .inl xgl) := (congrFun e_f23 la).trans (z_up_ne (z_tne hf_la hf_mi (m := 140) (n := 388) rfl rfl (by decide)) hf_la)
      have hf_sa : f23 sa = .inl (cy 1, 4, .inl xgs) := (congrFun e_f23 sa).trans (z_up_ne (z_tne hf_sa hf_mi (m := 132) (n := 388) rfl rfl (by decide)) hf_sa)
      have hf_da : f23 da = .inl (cy 4, 13, .inr (.inr (.inr (.inr gd)))) := (congrFun e_f23 da).trans (z_up_ne (z_tne hf_da hf_mi (m := 206) (n := 388) rfl rfl (by decide)) hf_da)
      have hf_xmo : f23 xmo = .inr (2, [.int xv0, .int xv1, .int xv2, .int xv3, .int xv4, .int xv5, .int xv6, .ref xla, .ref xsa, .ref xmi, .ref xda]) := (congrFun e_f23 xmo).trans (z_up_ne (z_tne hf_xmo hf_mi (m := 2) (n := 388) rfl rfl (by decide)) hf_xmo)
      have hf_xla : f23 xla = .inl (cy 1, 5, .inl xgl) := (congrFun e_f23 xla).trans (z_up_ne (z_tne hf_xla hf_mi (m := 140) (n := 388) rfl rfl (by decide)) hf_xla)
      have hf_xsa : f23 xsa = .inl (cy 1, 4, .inl xgs) := (congrFun e_f23 xsa).trans (z_up_ne (z_tne hf_xsa hf_mi (m := 132) (n := 388) rfl rfl (by decide)) hf_xsa)
      have hf_xmi : f23 xmi = .inl (cy 1, 36, .inl xgm) := (congrFun e_f23 xmi).trans (z_up_ne (Ne.symm ne_mi_xmi) hf_xmi)
      have hf_xda : f23 xda = .inl (cy 4, 13, .inr (.inr (.inr (.inr xgd)))) := (congrFun e_f23 xda).trans (z_up_ne (z_tne hf_xda hf_mi (m := 206) (n := 388) rfl rfl (by decide)) hf_xda)
      have hd_da : z_Drv L f23 dv 13 := z_Drv_up hd_da e_f23 hf_mi (m := 388) rfl (by decide)
      have hd_xda : z_Drv L f23 xdv (xv5.toInt.toNat) := z_Drv_up hd_xda e_f23 hf_mi (m := 388) rfl (by decide)
      have hf_mi : f23 mi = .inl (cy 1, 36, .inl xgm) := (congrFun e_f23 mi).trans z_up_self
      have hfr : ∀ b ∈ L, b ≠ mo → b ≠ la → b ≠ sa → b ≠ mi → (∀ i : Nat, i < 13 → b ≠ dv i) → f23 b = f b := fun b hb h0 h1 h2 h3 hp0 => (congrFun e_f23 b).trans (z_up_ne h3 (hfr b hb h0 h1 h2 h3 hp0))
      exact z_vret hx hb hr hlk (by decide) (by decide) hw (⟨hsub, hfr, hf_mo, hf_la, hf_sa, hf_mi, hd_da, trivial⟩) dX2_copy_136
    · skip
      refine lv_aload_n hx hb dX2_copy_115 rfl (lv_at hl 1 rfl) ?_
      refine z_get (C := RX2) (T := TX2) (N := 11) (ci := 2) (v := .ref da) hx hb hT zin_X2 hown hK hw hm_mo hf_mo rfl 10 (by decide) (hT _ kw_241) rfl dX2_copy_116 ?_
      refine lv_iload_n hx hb dX2_copy_119 rfl (lv_at hl 0 rfl) ?_
      obtain ⟨dq24, e_dq24⟩ : ∃ z, z = dv K14.toNatClampNeg := ⟨_, rfl⟩
      have hi_dq24 : K14.toNatClampNeg < 13 := z_clI rfl (by omega)
      refine z_aald (b := dq24) hx hb hK hw 4 hm_da hf_da rfl (z_ix rfl (by omega)) (by rw [e_dq24]; exact hg_da _ hi_dq24) dX2_copy_120 ?_
      obtain ⟨hm_dq24, do25, dg26, dd27, dh28, ds29, dl30, dp31, dm32, hf_dq24, hr_do25, hr_dg26, hr_dd27, hr_dh28, hr_ds29, hr_dl30, hr_dp31, hr_dm32⟩ := hd_da _ hi_dq24
      rw [← e_dq24] at hm_dq24 hf_dq24
      refine lv_aload_n hx hb dX2_copy_121 rfl (lv_at hl 2 rfl) ?_
      refine z_get (C := RX2) (T := TX2) (N := 11) (ci := 2) (v := .ref xda) hx hb hT zin_X2 hown hK hw hm_xmo hf_xmo rfl 10 (by decide) (hT _ kw_241) rfl dX2_copy_122 ?_
      refine lv_iload_n hx hb dX2_copy_125 rfl (lv_at hl 0 rfl) ?_
      obtain ⟨dq33, e_dq33⟩ : ∃ z, z = xdv K14.toNatClampNeg := ⟨_, rfl⟩
      have hi_dq33 : K14.toNatClampNeg < 13 := z_clI rfl (by omega)
      have hj_dq33 : K14.toNatClampNeg < (xv5.toInt.toNat) := z_clI rfl (by omega)
      refine z_aald (b := dq33) hx hb hK hw 4 hm_xda hf_xda rfl (z_ix rfl (by omega)) (by rw [e_dq33]; exact hg_xda _ hi_dq33) dX2_copy_126 ?_
      obtain ⟨hm_dq33, do34, dg35, dd36, dh37, ds38, dl39, dp40, dm41, hf_dq33, hr_do34, hr_dg35, hr_dd36, hr_dh37, hr_ds38, hr_dl39, hr_dp40, hr_dm41⟩ := hd_xda _ hj_dq33
      rw [← e_dq33] at hm_dq33 hf_dq33
      have ne_dq24_dq33 : dq24 ≠ dq33 := by rw [e_dq24, e_dq33]; exact hdd _ hi_dq24
      refine z_callvV (cells := 0) (slots := 0) (b := dq24) (As := [.ref dq33]) (rest := []) (ci := 0) (q0 := (RX0, TX0, 8)) ⟨hx, hb, hml, hown, hT⟩ (c_X0_copy l hm_dq24 hm_dq33 hf_dq24 hf_dq33 ne_dq24_dq33) (cwV 1 hT (z_goodV (fun _ h => h) kw_697 kw_698 kw_699 kw_88 kw_700) rfl rfl rfl (by decide +kernel) ⟨by decide, by decide⟩) z_mv hKK hK hw hA hm_dq24 hf_dq24 rfl rfl rfl hl.1 rfl (Nat.le_of_ble_eq_true rfl) dX2_copy_127 ⟨by decide, by decide⟩ (fun u H locs hp hw => ?_)
      obtain ⟨L42, f43⟩ := u
      obtain ⟨hsb, hfm, ha_0, hp⟩ := hp
      have hsb : L = L42 := hsb
      subst hsb
      have hsb : ∀ b ∈ L, b ∈ L := fun _ h => h
      have hw : z_H D vwCl (z_A L sz) s.heap L f43 H locs := hw
      have hfr : ∀ b ∈ L, b ≠ mo → b ≠ la → b ≠ sa → b ≠ mi → (∀ i : Nat, i < 13 → b ≠ dv i) → f43 b = f b := fun b hb h0 h1 h2 h3 hp0 => (hfm b hb (by rw [e_dq24]; exact hp0 _ hi_dq24)).trans (hfr b hb h0 h1 h2 h3 hp0)
      have hd_da : z_Drv L f43 dv 13 := z_Drv_one hd_da hsb ha_0 ⟨_, _, _, _, _, _, _, _, rfl, by first | omega | decide, by first | omega | decide, by first | omega | decide, by first | omega | decide, by first | omega | decide, by first | omega | decide, by first | omega | decide, by first | omega | decide⟩ hfm
      have hd_xda : z_Drv L f43 xdv (xv5.toInt.toNat) := z_Drv_one hd_xda hsb ha_0 ⟨_, _, _, _, _, _, _, _, rfl, by first | omega | decide, by first | omega | decide, by first | omega | decide, by first | omega | decide, by first | omega | decide, by first | omega | decide, by first | omega | decide, by first | omega | decide⟩ hfm
      have hf_mo : f43 mo = .inr (2, [.int xv0, .int xv1, .int xv2, .int xv3, .int xv4, .int xv5, .int xv6, .ref la, .ref sa, .ref mi, .ref da]) := (hfm mo hm_mo (z_tne hf_mo hf_dq24 (m := 2) (n := 0) rfl rfl (by decide))).trans hf_mo
      have hf_la : f43 la = .inl (cy 1, 5, .inl g9) := (hfm la hm_la (z_tne hf_la hf_dq24 (m := 140) (n := 0) rfl rfl (by decide))).trans hf_la
      have hf_sa : f43 sa = .inl (cy 1, 4, .inl g11) := (hfm sa hm_sa (z_tne hf_sa hf_dq24 (m := 132) (n := 0) rfl rfl (by decide))).trans hf_sa
      have hf_mi : f43 mi = .inl (cy 1, 36, .inl g13) := (hfm mi hm_mi (z_tne hf_mi hf_dq24 (m := 388) (n := 0) rfl rfl (by decide))).trans hf_mi
      have hf_da : f43 da = .inl (cy 4, 13, .inr (.inr (.inr (.inr gd)))) := (hfm da hm_da (z_tne hf_da hf_dq24 (m := 206) (n := 0) rfl rfl (by decide))).trans hf_da
      have hf_xmo : f43 xmo = .inr (2, [.int xv0, .int xv1, .int xv2, .int xv3, .int xv4, .int xv5, .int xv6, .ref xla, .ref xsa, .ref xmi, .ref xda]) := (hfm xmo hm_xmo (z_tne hf_xmo hf_dq24 (m := 2) (n := 0) rfl rfl (by decide))).trans hf_xmo
      have hf_xla : f43 xla = .inl (cy 1, 5, .inl xgl) := (hfm xla hm_xla (z_tne hf_xla hf_dq24 (m := 140) (n := 0) rfl rfl (by decide))).trans hf_xla
      have hf_xsa : f43 xsa = .inl (cy 1, 4, .inl xgs) := (hfm xsa hm_xsa (z_tne hf_xsa hf_dq24 (m := 132) (n := 0) rfl rfl (by decide))).trans hf_xsa
      have hf_xmi : f43 xmi = .inl (cy 1, 36, .inl xgm) := (hfm xmi hm_xmi (z_tne hf_xmi hf_dq24 (m := 388) (n := 0) rfl rfl (by decide))).trans hf_xmi
      have hf_xda : f43 xda = .inl (cy 4, 13, .inr (.inr (.inr (.inr xgd)))) := (hfm xda hm_xda (z_tne hf_xda hf_dq24 (m := 206) (n := 0) rfl rfl (by decide))).trans hf_xda
      have hf_dq33 : f43 dq33 = .inr (0, [.int do34, .int dg35, .int dd36, .int dh37, .int ds38, .int dl39, .int dp40, .int dm41]) := (hfm dq33 hm_dq33 (Ne.symm ne_dq24_dq33)).trans hf_dq33
      have hf_dq24 : f43 dq24 = .inr (0, [.int do34, .int dg35, .int dd36, .int dh37, .int ds38, .int dl39, .int dp40, .int dm41]) := ha_0
      obtain ⟨k44, e_k44⟩ : ∃ z : Int32, z = K14 + 1 := ⟨_, rfl⟩
      refine lv_iinc (v := k44) (lv' := [(2, .int k44), (0, .ref mo), (1, .ref xmo)]) hx hb dX2_copy_130 hl (k := 0) rfl (by rw [e_k44]; rfl) (by decide) rfl (fun ls hl => ?_)
      have i_k44 : k44.toInt = (K14.toInt + 1) := z_add e_k44 rfl (by decide) (by omega)
      refine lv_goto (tgt := 101) hx hb dX2_copy_133 (by decide) ?_
      exact ih_101 _ (by omega) _ _ _ ⟨k44, f43, rfl, (by first | decide | omega), (by first | decide | omega), hw, hf_mo, hf_la, hf_sa, hf_mi, hf_da, hf_xmo, hf_xla, hf_xsa, hf_xmi, hf_xda, hfr, hd_da, hd_xda, (lv_sub hl [0, 1, 2] rfl)⟩

set_option maxHeartbeats 2000000 in
set_option maxRecDepth 100000 in
theorem c_X4_thinkN (l : Launch) {D : va_G} {cy : Nat → ClassId} {L : List Nat} {f : Nat → va_E} {sz : Nat} {adK adV : Nat → Nat} {wk : Nat} {pl ot : Nat} {p3 p4 p5 p6 p7 p8 p9 p10 p11 : Int32}  {mo la sa mi da : Nat} {v0 v1 v2 v3 v4 v5 v6 : Int32} {gl gs gm : Nat → Int32} {gd : Nat → Option Nat} {dv : Nat → Nat} {xmo xla xsa xmi xda : Nat} {xv0 xv1 xv2 xv3 xv4 xv5 xv6 : Int32} {xgl xgs xgm : Nat → Int32} {xgd : Nat → Option Nat} {xdv : Nat → Nat} (hm_pl : pl ∈ L) (hm_mo : mo ∈ L) (hm_la : la ∈ L) (hm_sa : sa ∈ L) (hm_mi : mi ∈ L) (hm_da : da ∈ L) (hm_xmo : xmo ∈ L) (hm_xla : xla ∈ L) (hm_xsa : xsa ∈ L) (hm_xmi : xmi ∈ L) (hm_xda : xda ∈ L) (hf_pl : f pl = .inr (4, [.ref mo, .ref wk, .ref ot, .int p3, .int p4, .int p5, .int p6, .int p7, .int p8, .int p9, .int p10, .int p11])) (hf_mo : f mo = .inr (2, [.int v0, .int v1, .int v2, .int v3, .int v4, .int v5, .int v6, .ref la, .ref sa, .ref mi, .ref da])) (hf_la : f la = .inl (cy 1, 5, .inl gl)) (hf_sa : f sa = .inl (cy 1, 4, .inl gs)) (hf_mi : f mi = .inl (cy 1, 36, .inl gm)) (hf_da : f da = .inl (cy 4, 13, .inr (.inr (.inr (.inr gd))))) (hf_xmo : f xmo = .inr (2, [.int xv0, .int xv1, .int xv2, .int xv3, .int xv4, .int xv5, .int xv6, .ref xla, .ref xsa, .ref xmi, .ref xda])) (hf_xla : f xla = .inl (cy 1, 5, .inl xgl)) (hf_xsa : f xsa = .inl (cy 1, 4, .inl xgs)) (hf_xmi : f xmi = .inl (cy 1, 36, .inl xgm)) (hf_xda : f xda = .inl (cy 4, 13, .inr (.inr (.inr (.inr xgd))))) (ne_mo_xmo : mo ≠ xmo) (ne_la_xla : la ≠ xla) (ne_sa_xsa : sa ≠ xsa) (ne_mi_xmi : mi ≠ xmi) (ne_da_xda : da ≠ xda) (hg_da : ∀ i : Nat, i < 13 → gd i = some (dv i)) (hd_da : z_Drv L f dv 13) (hg_xda : ∀ i : Nat, i < 13 → xgd i = some (xdv i)) (hd_xda : z_Drv L f xdv 13) (hdd : ∀ i : Nat, i < 13 → dv i ≠ xdv i) (hv5 : 0 ≤ xv5.toInt ∧ xv5.toInt ≤ 13) : Met l yX4_think (z_ws yX4_think cX4_think 2 none) (z_R 3 0 0) (va_Pc [.ref pl, .ref xmo] (z_Pre D vwCl (z_KK D cy adK adV) L f sz)) (z_Qv D vwCl (fun u => L = u.1 ∧ (∀ b ∈ L, b ≠ mo → b ≠ la → b ≠ sa → b ≠ mi → (∀ i : Nat, i < 13 → b ≠ dv i) → u.2 b = f b) ∧ ((u.2 mo = .inr (2, [.int xv0, .int xv1, .int xv2, .int xv3, .int xv4, .int xv5, .int xv6, .ref la, .ref sa, .ref mi, .ref da])) ∧ (u.2 la = .inl (cy 1, 5, .inl xgl)) ∧ (u.2 sa = .inl (cy 1, 4, .inl xgs)) ∧ (u.2 mi = .inl (cy 1, 36, .inl xgm)) ∧ (z_Drv u.1 u.2 dv 13) ∧ (True))) L sz) 0 0 (z_A L sz) := by
  refine z_met (cc := cX4_think) (maxL := 2) (ret := none) (lv := [(0, .ref pl), (1, .ref xmo)]) (by decide) rfl (Nat.le_of_ble_eq_true rfl) rfl ?_
  intro p e s m below meth c ls hx hb hr hlk hml hown hnm hts hKK hA hw hl
  have hK := hKK.1.1
  have hown : s.vm.findClass RX4 = some m.cls := hown
  have hT : ∀ w ∈ lw_all, w.before ([.ref pl, .ref xmo] : List Value).toArray s = true := fun w h => hts w (z_cons w h)
  have hsub : L = L := rfl
  have hfr : ∀ b ∈ L, b ≠ mo → b ≠ la → b ≠ sa → b ≠ mi → (∀ i : Nat, i < 13 → b ≠ dv i) → f b = f b := fun _ _ _ _ _ _ _ => rfl
  refine lv_aload_n hx hb dX4_think_0 rfl (lv_at hl 0 rfl) ?_
  refine z_get (C := RX4) (T := TX4) (N := 12) (ci := 4) (v := .ref mo) hx hb hT zin_X4 hown hK hw hm_pl hf_pl rfl 0 (by decide) (hT _ kw_384) rfl dX4_think_1 ?_
  refine lv_aload_n hx hb dX4_think_4 rfl (lv_at hl 1 rfl) ?_
  refine z_callvV (cells := 0) (slots := 0) (b := mo) (As := [.ref xmo]) (rest := []) (ci := 2) (q0 := (RX2, TX2, 11)) ⟨hx, hb, hml, hown, hT⟩ (c_X2_copyN l hm_mo hm_la hm_sa hm_mi hm_da hm_xmo hm_xla hm_xsa hm_xmi hm_xda hf_mo hf_la hf_sa hf_mi hf_da hf_xmo hf_xla hf_xsa hf_xmi hf_xda ne_mo_xmo ne_la_xla ne_sa_xsa ne_mi_xmi ne_da_xda hg_da hd_da hg_xda hd_xda hdd (by first | omega | decide | assumption)) (cwV 1 hT (z_goodV (fun _ h => h) kw_903 kw_691 kw_692 kw_87 kw_693) rfl rfl rfl (by decide +kernel) ⟨by decide, by decide⟩) z_mv hKK hK hw hA hm_mo hf_mo rfl rfl rfl hl.1 rfl (Nat.le_of_ble_eq_true rfl) dX4_think_5 ⟨by decide, by decide⟩ (fun u H locs hp hw => ?_)
  obtain ⟨L1, f2⟩ := u
  obtain ⟨hsb, hfm, ha_0, ha_1, ha_2, ha_3, hv_da, hp⟩ := hp
  have hsb : L = L1 := hsb
  subst hsb
  have hsb : ∀ b ∈ L, b ∈ L := fun _ h => h
  have hw : z_H D vwCl (z_A L sz) s.heap L f2 H locs := hw
  have hdo_da := hd_da
  have hfr : ∀ b ∈ L, b ≠ mo → b ≠ la → b ≠ sa → b ≠ mi → (∀ i : Nat, i < 13 → b ≠ dv i) → f2 b = f b := fun b hb h0 h1 h2 h3 hp0 => (hfm b hb h0 h1 h2 h3 hp0).trans (hfr b hb h0 h1 h2 h3 hp0)
  have hd_da : z_Drv L f2 dv 13 := hv_da
  have hd_xda : z_Drv L f2 xdv 13 := z_Drv_fr2 hd_xda hv_da hsb (fun b hb ht hq => hfm b hb (z_t0 ht hf_mo (m := 2) rfl (by decide)) (z_t0 ht hf_la (m := 140) rfl (by decide)) (z_t0 ht hf_sa (m := 132) rfl (by decide)) (z_t0 ht hf_mi (m := 388) rfl (by decide)) hq)
  have hf_pl : f2 pl = .inr (4, [.ref mo, .ref wk, .ref ot, .int p3, .int p4, .int p5, .int p6, .int p7, .int p8, .int p9, .int p10, .int p11]) := (hfm pl hm_pl (z_tne hf_pl hf_mo (m := 4) (n := 2) rfl rfl (by decide)) (z_tne hf_pl hf_la (m := 4) (n := 140) rfl rfl (by decide)) (z_tne hf_pl hf_sa (m := 4) (n := 132) rfl rfl (by decide)) (z_tne hf_pl hf_mi (m := 4) (n := 388) rfl rfl (by decide)) (z_Drv_ne hdo_da hf_pl (m := 4) rfl (by decide))).trans hf_pl
  have hf_da : f2 da = .inl (cy 4, 13, .inr (.inr (.inr (.inr gd)))) := (hfm da hm_da (z_tne hf_da hf_mo (m := 206) (n := 2) rfl rfl (by decide)) (z_tne hf_da hf_la (m := 206) (n := 140) rfl rfl (by decide)) (z_tne hf_da hf_sa (m := 206) (n := 132) rfl rfl (by decide)) (z_tne hf_da hf_mi (m := 206) (n := 388) rfl rfl (by decide)) (z_Drv_ne hdo_da hf_da (m := 206) rfl (by decide))).trans hf_da
  have hf_xmo : f2 xmo = .inr (2, [.int xv0, .int xv1, .int xv2, .int xv3, .int xv4, .int xv5, .int xv6, .ref xla, .ref xsa, .ref xmi, .ref xda]) := (hfm xmo hm_xmo (Ne.symm ne_mo_xmo) (z_tne hf_xmo hf_la (m := 2) (n := 140) rfl rfl (by decide)) (z_tne hf_xmo hf_sa (m := 2) (n := 132) rfl rfl (by decide)) (z_tne hf_xmo hf_mi (m := 2) (n := 388) rfl rfl (by decide)) (z_Drv_ne hdo_da hf_xmo (m := 2) rfl (by decide))).trans hf_xmo
  have hf_xla : f2 xla = .inl (cy 1, 5, .inl xgl) := (hfm xla hm_xla (z_tne hf_xla hf_mo (m := 140) (n := 2) rfl rfl (by decide)) (Ne.symm ne_la_xla) (z_tne hf_xla hf_sa (m := 140) (n := 132) rfl rfl (by decide)) (z_tne hf_xla hf_mi (m := 140) (n := 388) rfl rfl (by decide)) (z_Drv_ne hdo_da hf_xla (m := 140) rfl (by decide))).trans hf_xla
  have hf_xsa : f2 xsa = .inl (cy 1, 4, .inl xgs) := (hfm xsa hm_xsa (z_tne hf_xsa hf_mo (m := 132) (n := 2) rfl rfl (by decide)) (z_tne hf_xsa hf_la (m := 132) (n := 140) rfl rfl (by decide)) (Ne.symm ne_sa_xsa) (z_tne hf_xsa hf_mi (m := 132) (n := 388) rfl rfl (by decide)) (z_Drv_ne hdo_da hf_xsa (m := 132) rfl (by decide))).trans hf_xsa
  have hf_xmi : f2 xmi = .inl (cy 1, 36, .inl xgm) := (hfm xmi hm_xmi (z_tne hf_xmi hf_mo (m := 388) (n := 2) rfl rfl (by decide)) (z_tne hf_xmi hf_la (m := 388) (n := 140) rfl rfl (by decide)) (z_tne hf_xmi hf_sa (m := 388) (n := 132) rfl rfl (by decide)) (Ne.symm ne_mi_xmi) (z_Drv_ne hdo_da hf_xmi (m := 388) rfl (by decide))).trans hf_xmi
  have hf_xda : f2 xda = .inl (cy 4, 13, .inr (.inr (.inr (.inr xgd)))) := (hfm xda hm_xda (z_tne hf_xda hf_mo (m := 206) (n := 2) rfl rfl (by decide)) (z_tne hf_xda hf_la (m := 206) (n := 140) rfl rfl (by decide)) (z_tne hf_xda hf_sa (m := 206) (n := 132) rfl rfl (by decide)) (z_tne hf_xda hf_mi (m := 206) (n := 388) rfl rfl (by decide)) (z_Drv_ne hdo_da hf_xda (m := 206) rfl (by decide))).trans hf_xda
  have hf_mo : f2 mo = .inr (2, [.int xv0, .int xv1, .int xv2, .int xv3, .int xv4, .int xv5, .int xv6, .ref la, .ref sa, .ref mi, .ref da]) := ha_0
  have hf_la : f2 la = .inl (cy 1, 5, .inl xgl) := ha_1
  have hf_sa : f2 sa = .inl (cy 1, 4, .inl xgs) := ha_2
  have hf_mi : f2 mi = .inl (cy 1, 36, .inl xgm) := ha_3
  exact z_vret hx hb hr hlk (by decide) (by decide) hw (⟨hsub, hfr, hf_mo, hf_la, hf_sa, hf_mi, hd_da, trivial⟩) dX4_think_8
