set_option maxHeartbeats 2000000 in
set_option maxRecDepth 100000 in
theorem c_X10_isByte (l : Launch) {D : va_G} {cy : Nat → ClassId} {L : List Nat} {f : Nat → va_E} {sz : Nat} {me mw mn mc mv mt ml mh mj ms mg md mk z29 z31 z32 z33 z34 z35 z37 z39 z43 z44 z45 z46 z47 z49 z50 z51 : Nat} {t8 t9 t10 t13 : Int32} {t11 : Int64} {xb xc : Int32} (hm_me : me ∈ L) (hf_me : f me = .inr (10, [.int 0, .ref mw, .ref mn, .ref mc, .ref mv, .ref mt, .int 0, .int 0, .int t8, .int t9, .int t10, .long t11, .int 0, .int t13, .int 0, .int (-1), .ref ml, .ref mh, .ref mj, .ref ms, .ref mg, .ref md, .int 0, .ref mk, .int (-1), .int 0, .long 0, .int 0, .int 0, .ref z29, .int 0, .ref z31, .ref z32, .ref z33, .ref z34, .ref z35, .int 0, .ref z37, .int 0, .ref z39, .int 0, .int 0, .int 0, .ref z43, .ref z44, .ref z45, .ref z46, .ref z47, .int 0, .ref z49, .ref z50, .ref z51, .int 0, .int 0])) : Met l yX10_isByte (z_ws yX10_isByte cX10_isByte 4 (some .boolean)) (z_R 2 0 0) (va_Pc [.ref me, .int 0, .int xb, .int xc] (z_Pre D vwCl (z_K D cy) L f sz)) (z_Qi D vwCl (fun r u => u = (L, f) ∧ (r = 0)) L sz) 0 0 (z_A L sz) := by
  refine z_met (cc := cX10_isByte) (maxL := 4) (ret := (some .boolean)) (lv := [(0, .ref me), (1, .int 0), (2, .int xb), (3, .int xc)]) (by decide) rfl (Nat.le_of_ble_eq_true rfl) rfl ?_
  intro p e s m below meth c ls hx hb hr hlk hml hown hnm hts hKK hA hw hl
  have hK := hKK.1
  have hown : s.vm.findClass RX10 = some m.cls := hown
  have hT : ∀ w ∈ lw_all, w.before ([.ref me, .int 0, .int xb, .int xc] : List Value).toArray s = true := fun w h => hts w (z_cons w h)
  refine lv_iload_n hx hb dX10_isByte_0 rfl (lv_at hl 1 rfl) ?_
  refine lv_aload_n hx hb dX10_isByte_1 rfl (lv_at hl 0 rfl) ?_
  refine z_get (C := RX10) (T := TX10) (N := 54) (ci := 10) (v := .int 0) hx hb hT zin_X10 hown hK hw hm_me hf_me rfl 6 (by decide) (hT _ kw_1174) rfl dX10_isByte_2 ?_
  refine z_icmp_ge (tgt := 32) hx hb (show (0 : Int32).toInt = 0 by decide) (show (0 : Int32).toInt = 0 by decide) dX10_isByte_5 (by decide) (fun _ => ?_) (fun h => absurd h (by decide))
  refine lv_iconst (v := 0) hx hb dX10_isByte_32 (by decide) ?_
  exact z_zret hx hb hr rfl hlk (by decide) (by decide) hw (⟨rfl, rfl⟩) dX10_isByte_33

set_option maxHeartbeats 2000000 in
set_option maxRecDepth 100000 in
theorem c_X10_next (l : Launch) {D : va_G} {cy : Nat → ClassId} {L : List Nat} {f : Nat → va_E} {sz : Nat} {me mw mn mc mv mt ml mh mj ms mg md mk z29 z31 z32 z33 z34 z35 z37 z39 z43 z44 z45 z46 z47 z49 z50 z51 : Nat} {t8 t9 t10 : Int32} {t11 : Int64} (hm_me : me ∈ L) (hf_me : f me = .inr (10, [.int 0, .ref mw, .ref mn, .ref mc, .ref mv, .ref mt, .int 0, .int 0, .int t8, .int t9, .int t10, .long t11, .int 0, .int (-1), .int 0, .int (-1), .ref ml, .ref mh, .ref mj, .ref ms, .ref mg, .ref md, .int 0, .ref mk, .int (-1), .int 0, .long 0, .int 0, .int 0, .ref z29, .int 0, .ref z31, .ref z32, .ref z33, .ref z34, .ref z35, .int 0, .ref z37, .int 0, .ref z39, .int 0, .int 0, .int 0, .ref z43, .ref z44, .ref z45, .ref z46, .ref z47, .int 0, .ref z49, .ref z50, .ref z51, .int 0, .int 0])) : Met l yX10_next (z_ws yX10_next cX10_next 2 none) (z_R 3 0 0) (va_Pc [.ref me] (z_Pre D vwCl (z_K D cy) L f sz)) (z_Qv D vwCl (fun u => (∀ b ∈ L, b ∈ u.1) ∧ (∀ b ∈ L, b ≠ me → u.2 b = f b) ∧ ((u.2 me = .inr (10, [.int 0, .ref mw, .ref mn, .ref mc, .ref mv, .ref mt, .int 0, .int 0, .int 0, .int 0, .int 0, .long 0, .int 0, .int (-1), .int 0, .int (-1), .ref ml, .ref mh, .ref mj, .ref ms, .ref mg, .ref md, .int 0, .ref mk, .int (-1), .int 0, .long 0, .int 0, .int 0, .ref z29, .int 0, .ref z31, .ref z32, .ref z33, .ref z34, .ref z35, .int 0, .ref z37, .int 0, .ref z39, .int 0, .int 0, .int 0, .ref z43, .ref z44, .ref z45, .ref z46, .ref z47, .int 0, .ref z49, .ref z50, .ref z51, .int 0, .int 0])) ∧ (True))) L sz) 0 0 (z_A L sz) := by
  refine z_met (cc := cX10_next) (maxL := 2) (ret := none) (lv := [(0, .ref me)]) (by decide) rfl (Nat.le_of_ble_eq_true rfl) rfl ?_
  intro p e s m below meth c ls hx hb hr hlk hml hown hnm hts hKK hA hw hl
  have hK := hKK.1
  have hown : s.vm.findClass RX10 = some m.cls := hown
  have hT : ∀ w ∈ lw_all, w.before ([.ref me] : List Value).toArray s = true := fun w h => hts w (z_cons w h)
  have hsub : ∀ b ∈ L, b ∈ L := fun _ h => h
  have hfr : ∀ b ∈ L, b ≠ me → f b = f b := fun _ _ _ => rfl
  refine lv_aload_n hx hb dX10_next_0 rfl (lv_at hl 0 rfl) ?_
  refine lv_aload_n hx hb dX10_next_1 rfl (lv_at hl 0 rfl) ?_
  refine z_get (C := RX10) (T := TX10) (N := 54) (ci := 10) (v := .int 0) hx hb hT zin_X10 hown hK hw hm_me hf_me rfl 7 (by decide) (hT _ kw_1175) rfl dX10_next_2 ?_
  refine lv_bipush (v := 32) hx hb dX10_next_5 (by decide) ?_
  refine lv_bipush (v := 32) hx hb dX10_next_7 (by decide) ?_
  have hz1 := (show (0 : Int32).toInt = 0 by decide)
  have hz2 := (show (32 : Int32).toInt = 32 by decide)
  have hz3 := (show (32 : Int32).toInt = 32 by decide)
  refine z_calliV (cells := 0) (slots := 0) (b := me) (As := [.int 0, .int 32, .int 32]) (rest := []) (ci := 10) (q0 := (RX10, TX10, 54)) ⟨hx, hb, hml, hown, hT⟩ (c_X10_isByte l hm_me hf_me) (cwV 3 hT (z_goodV (fun _ h => h) kw_1385 kw_1387 kw_35 kw_96 kw_1388) rfl rfl rfl (by decide +kernel) ⟨by decide, by decide⟩) z_mv hKK hK hw hA hm_me hf_me rfl rfl rfl hl.1 rfl (Nat.le_of_ble_eq_true rfl) dX10_next_9 ⟨by decide, by decide⟩ (fun r4 u H locs hp hw => ?_)
  obtain ⟨rfl, hp⟩ := hp
  have hw : z_H D vwCl (z_A L sz) s.heap L f H locs := hw
  obtain rfl := hp
  refine z_if_ne (tgt := 30) hx hb (show (0 : Int32).toInt = 0 by decide) dX10_next_12 (by decide) (fun h => absurd h (by decide)) (fun _ => ?_)
  refine lv_aload_n hx hb dX10_next_15 rfl (lv_at hl 0 rfl) ?_
  refine lv_aload_n hx hb dX10_next_16 rfl (lv_at hl 0 rfl) ?_
  refine z_get (C := RX10) (T := TX10) (N := 54) (ci := 10) (v := .int 0) hx hb hT zin_X10 hown hK hw hm_me hf_me rfl 7 (by decide) (hT _ kw_1175) rfl dX10_next_17 ?_
  refine lv_bipush (v := 10) hx hb dX10_next_20 (by decide) ?_
  refine lv_bipush (v := 10) hx hb dX10_next_22 (by decide) ?_
  have hz5 := (show (0 : Int32).toInt = 0 by decide)
  have hz6 := (show (10 : Int32).toInt = 10 by decide)
  have hz7 := (show (10 : Int32).toInt = 10 by decide)
  refine z_calliV (cells := 0) (slots := 0) (b := me) (As := [.int 0, .int 10, .int 10]) (rest := []) (ci := 10) (q0 := (RX10, TX10, 54)) ⟨hx, hb, hml, hown, hT⟩ (c_X10_isByte l hm_me hf_me) (cwV 3 hT (z_goodV (fun _ h => h) kw_1385 kw_1387 kw_35 kw_96 kw_1388) rfl rfl rfl (by decide +kernel) ⟨by decide, by decide⟩) z_mv hKK hK hw hA hm_me hf_me rfl rfl rfl hl.1 rfl (Nat.le_of_ble_eq_true rfl) dX10_next_24 ⟨by decide, by decide⟩ (fun r8 u H locs hp hw => ?_)
  obtain ⟨rfl, hp⟩ := hp
  have hw : z_H D vwCl (z_A L sz) s.heap L f H locs := hw
  obtain rfl := hp
  refine z_if_eq (tgt := 43) hx hb (show (0 : Int32).toInt = 0 by decide) dX10_next_27 (by decide) (fun _ => ?_) (fun h => absurd h (by decide))
  refine lv_aload_n hx hb dX10_next_43 rfl (lv_at hl 0 rfl) ?_
  refine lv_aload_n hx hb dX10_next_44 rfl (lv_at hl 0 rfl) ?_
  refine z_get (C := RX10) (T := TX10) (N := 54) (ci := 10) (v := .int 0) hx hb hT zin_X10 hown hK hw hm_me hf_me rfl 7 (by decide) (hT _ kw_1175) rfl dX10_next_45 ?_
  refine z_put (C := RX10) (T := TX10) (N := 54) (ci := 10) (v := .int 0) (fs' := [.int 0, .ref mw, .ref mn, .ref mc, .ref mv, .ref mt, .int 0, .int 0, .int t8, .int 0, .int t10, .long t11, .int 0, .int (-1), .int 0, .int (-1), .ref ml, .ref mh, .ref mj, .ref ms, .ref mg, .ref md, .int 0, .ref mk, .int (-1), .int 0, .long 0, .int 0, .int 0, .ref z29, .int 0, .ref z31, .ref z32, .ref z33, .ref z34, .ref z35, .int 0, .ref z37, .int 0, .ref z39, .int 0, .int 0, .int 0, .ref z43, .ref z44, .ref z45, .ref z46, .ref z47, .int 0, .ref z49, .ref z50, .ref z51, .int 0, .int 0]) hx hb hT zin_X10 tyX10_ok nmX10 hown hK hw hm_me hf_me rfl 9 (by decide) (hT _ kw_1177) rfl rfl rfl (Nat.le_of_ble_eq_true rfl) rfl dX10_next_48 (fun H locs hw => ?_)
  obtain ⟨f9, e_f9⟩ : ∃ z, z = va_up f me (.inr (10, [.int 0, .ref mw, .ref mn, .ref mc, .ref mv, .ref mt, .int 0, .int 0, .int t8, .int 0, .int t10, .long t11, .int 0, .int (-1), .int 0, .int (-1), .ref ml, .ref mh, .ref mj, .ref ms, .ref mg, .ref md, .int 0, .ref mk, .int (-1), .int 0, .long 0, .int 0, .int 0, .ref z29, .int 0, .ref z31, .ref z32, .ref z33, .ref z34, .ref z35, .int 0, .ref z37, .int 0, .ref z39, .int 0, .int 0, .int 0, .ref z43, .ref z44, .ref z45, .ref z46, .ref z47, .int 0, .ref z49, .ref z50, .ref z51, .int 0, .int 0])) := ⟨_, rfl⟩
  rw [← e_f9] at hw
  have hf_me : f9 me = .inr (10, [.int 0, .ref mw, .ref mn, .ref mc, .ref mv, .ref mt, .int 0, .int 0, .int t8, .int 0, .int t10, .long t11, .int 0, .int (-1), .int 0, .int (-1), .ref ml, .ref mh, .ref mj, .ref ms, .ref mg, .ref md, .int 0, .ref mk, .int (-1), .int 0, .long 0, .int 0, .int 0, .ref z29, .int 0, .ref z31, .ref z32, .ref z33, .ref z34, .ref z35, .int 0, .ref z37, .int 0, .ref z39, .int 0, .int 0, .int 0, .ref z43, .ref z44, .ref z45, .ref z46, .ref z47, .int 0, .ref z49, .ref z50, .ref z51, .int 0, .int 0]) := (congrFun e_f9 me).trans z_up_self
  have hfr : ∀ b ∈ L, b ≠ me → f9 b = f b := fun b hb h0 => (congrFun e_f9 b).trans (z_up_ne h0 (hfr b hb h0))
  refine lv_aload_n hx hb dX10_next_51 rfl (lv_at hl 0 rfl) ?_
  refine lv_iconst (v := 0) hx hb dX10_next_52 (by decide) ?_
  refine z_put (C := RX10) (T := TX10) (N := 54) (ci := 10) (v := .int 0) (fs' := [.int 0, .ref mw, .ref mn, .ref mc, .ref mv, .ref mt, .int 0, .int 0, .int t8, .int 0, .int 0, .long t11, .int 0, .int (-1), .int 0, .int (-1), .ref ml, .ref mh, .ref mj, .ref ms, .ref mg, .ref md, .int 0, .ref mk, .int (-1), .int 0, .long 0, .int 0, .int 0, .ref z29, .int 0, .ref z31, .ref z32, .ref z33, .ref z34, .ref z35, .int 0, .ref z37, .int 0, .ref z39, .int 0, .int 0, .int 0, .ref z43, .ref z44, .ref z45, .ref z46, .ref z47, .int 0, .ref z49, .ref z50, .ref z51, .int 0, .int 0]) hx hb hT zin_X10 tyX10_ok nmX10 hown hK hw hm_me hf_me rfl 10 (by decide) (hT _ kw_1178) rfl rfl rfl (Nat.le_of_ble_eq_true rfl) rfl dX10_next_53 (fun H locs hw => ?_)
  obtain ⟨f10, e_f10⟩ : ∃ z, z = va_up f9 me (.inr (10, [.int 0, .ref mw, .ref mn, .ref mc, .ref mv, .ref mt, .int 0, .int 0, .int t8, .int 0, .int 0, .long t11, .int 0, .int (-1), .int 0, .int (-1), .ref ml, .ref mh, .ref mj, .ref ms, .ref mg, .ref md, .int 0, .ref mk, .int (-1), .int 0, .long 0, .int 0, .int 0, .ref z29, .int 0, .ref z31, .ref z32, .ref z33, .ref z34, .ref z35, .int 0, .ref z37, .int 0, .ref z39, .int 0, .int 0, .int 0, .ref z43, .ref z44, .ref z45, .ref z46, .ref z47, .int 0, .ref z49, .ref z50, .ref z51, .int 0, .int 0])) := ⟨_, rfl⟩
  rw [← e_f10] at hw
  have hf_me : f10 me = .inr (10, [.int 0, .ref mw, .ref mn, .ref mc, .ref mv, .ref mt, .int 0, .int 0, .int t8, .int 0, .int 0, .long t11, .int 0, .int (-1), .int 0, .int (-1), .ref ml, .ref mh, .ref mj, .ref ms, .ref mg, .ref md, .int 0, .ref mk, .int (-1), .int 0, .long 0, .int 0, .int 0, .ref z29, .int 0, .ref z31, .ref z32, .ref z33, .ref z34, .ref z35, .int 0, .ref z37, .int 0, .ref z39, .int 0, .int 0, .int 0, .ref z43, .ref z44, .ref z45, .ref z46, .ref z47, .int 0, .ref z49, .ref z50, .ref z51, .int 0, .int 0]) := (congrFun e_f10 me).trans z_up_self
  have hfr : ∀ b ∈ L, b ≠ me → f10 b = f b := fun b hb h0 => (congrFun e_f10 b).trans (z_up_ne h0 (hfr b hb h0))
  refine lv_aload_n hx hb dX10_next_56 rfl (lv_at hl 0 rfl) ?_
  refine lv_lconst (v := 0) hx hb dX10_next_57 (by decide) ?_
  refine z_put (C := RX10) (T := TX10) (N := 54) (ci := 10) (v := .long 0) (fs' := [.int 0, .ref mw, .ref mn, .ref mc, .ref mv, .ref mt, .int 0, .int 0, .int t8, .int 0, .int 0, .long 0, .int 0, .int (-1), .int 0, .int (-1), .ref ml, .ref mh, .ref mj, .ref ms, .ref mg, .ref md, .int 0, .ref mk, .int (-1), .int 0, .long 0, .int 0, .int 0, .ref z29, .int 0, .ref z31, .ref z32, .ref z33, .ref z34, .ref z35, .int 0, .ref z37, .int 0, .ref z39, .int 0, .int 0, .int 0, .ref z43, .ref z44, .ref z45, .ref z46, .ref z47, .int 0, .ref z49, .ref z50, .ref z51, .int 0, .int 0]) hx hb hT zin_X10 tyX10_ok nmX10 hown hK hw hm_me hf_me rfl 11 (by decide) (hT _ kw_1179) rfl rfl rfl (Nat.le_of_ble_eq_true rfl) rfl dX10_next_58 (fun H locs hw => ?_)
  obtain ⟨f11, e_f11⟩ : ∃ z, z = va_up f10 me (.inr (10, [.int 0, .ref mw, .ref mn, .ref mc, .ref mv, .ref mt, .int 0, .int 0, .int t8, .int 0, .int 0, .long 0, .int 0, .int (-1), .int 0, .int (-1), .ref ml, .ref mh, .ref mj, .ref ms, .ref mg, .ref md, .int 0, .ref mk, .int (-1), .int 0, .long 0, .int 0, .int 0, .ref z29, .int 0, .ref z31, .ref z32, .ref z33, .ref z34, .ref z35, .int 0, .ref z37, .int 0, .ref z39, .int 0, .int 0, .int 0, .ref z43, .ref z44, .ref z45, .ref z46, .ref z47, .int 0, .ref z49, .ref z50, .ref z51, .int 0, .int 0])) := ⟨_, rfl⟩
  rw [← e_f11] at hw
  have hf_me : f11 me = .inr (10, [.int 0, .ref mw, .ref mn, .ref mc, .ref mv, .ref mt, .int 0, .int 0, .int t8, .int 0, .int 0, .long 0, .int 0, .int (-1), .int 0, .int (-1), .ref ml, .ref mh, .ref mj, .ref ms, .ref mg, .ref md, .int 0, .ref mk, .int (-1), .int 0, .long 0, .int 0, .int 0, .ref z29, .int 0, .ref z31, .ref z32, .ref z33, .ref z34, .ref z35, .int 0, .ref z37, .int 0, .ref z39, .int 0, .int 0, .int 0, .ref z43, .ref z44, .ref z45, .ref z46, .ref z47, .int 0, .ref z49, .ref z50, .ref z51, .int 0, .int 0]) := (congrFun e_f11 me).trans z_up_self
  have hfr : ∀ b ∈ L, b ≠ me → f11 b = f b := fun b hb h0 => (congrFun e_f11 b).trans (z_up_ne h0 (hfr b hb h0))
  refine lv_aload_n hx hb dX10_next_61 rfl (lv_at hl 0 rfl) ?_
  refine z_get (C := RX10) (T := TX10) (N := 54) (ci := 10) (v := .int 0) hx hb hT zin_X10 hown hK hw hm_me hf_me rfl 7 (by decide) (hT _ kw_1175) rfl dX10_next_62 ?_
  refine lv_aload_n hx hb dX10_next_65 rfl (lv_at hl 0 rfl) ?_
  refine z_get (C := RX10) (T := TX10) (N := 54) (ci := 10) (v := .int 0) hx hb hT zin_X10 hown hK hw hm_me hf_me rfl 6 (by decide) (hT _ kw_1174) rfl dX10_next_66 ?_
  refine z_icmp_ne (tgt := 80) hx hb (show (0 : Int32).toInt = 0 by decide) (show (0 : Int32).toInt = 0 by decide) dX10_next_69 (by decide) (fun h => absurd h (by decide)) (fun _ => ?_)
  refine lv_aload_n hx hb dX10_next_72 rfl (lv_at hl 0 rfl) ?_
  refine lv_iconst (v := 0) hx hb dX10_next_73 (by decide) ?_
  refine z_put (C := RX10) (T := TX10) (N := 54) (ci := 10) (v := .int 0) (fs' := [.int 0, .ref mw, .ref mn, .ref mc, .ref mv, .ref mt, .int 0, .int 0, .int 0, .int 0, .int 0, .long 0, .int 0, .int (-1), .int 0, .int (-1), .ref ml, .ref mh, .ref mj, .ref ms, .ref mg, .ref md, .int 0, .ref mk, .int (-1), .int 0, .long 0, .int 0, .int 0, .ref z29, .int 0, .ref z31, .ref z32, .ref z33, .ref z34, .ref z35, .int 0, .ref z37, .int 0, .ref z39, .int 0, .int 0, .int 0, .ref z43, .ref z44, .ref z45, .ref z46, .ref z47, .int 0, .ref z49, .ref z50, .ref z51, .int 0, .int 0]) hx hb hT zin_X10 tyX10_ok nmX10 hown hK hw hm_me hf_me rfl 8 (by decide) (hT _ kw_1176) rfl rfl rfl (Nat.le_of_ble_eq_true rfl) rfl dX10_next_74 (fun H locs hw => ?_)
  obtain ⟨f12, e_f12⟩ : ∃ z, z = va_up f11 me (.inr (10, [.int 0, .ref mw, .ref mn, .ref mc, .ref mv, .ref mt, .int 0, .int 0, .int 0, .int 0, .int 0, .long 0, .int 0, .int (-1), .int 0, .int (-1), .ref ml, .ref mh, .ref mj, .ref ms, .ref mg, .ref md, .int 0, .ref mk, .int (-1), .int 0, .long 0, .int 0, .int 0, .ref z29, .int 0, .ref z31, .ref z32, .ref z33, .ref z34, .ref z35, .int 0, .ref z37, .int 0, .ref z39, .int 0, .int 0, .int 0, .ref z43, .ref z44, .ref z45, .ref z46, .ref z47, .int 0, .ref z49, .ref z50, .ref z51, .int 0, .int 0])) := ⟨_, rfl⟩
  rw [← e_f12] at hw
  have hf_me : f12 me = .inr (10, [.int 0, .ref mw, .ref mn, .ref mc, .ref mv, .ref mt, .int 0, .int 0, .int 0, .int 0, .int 0, .long 0, .int 0, .int (-1), .int 0, .int (-1), .ref ml, .ref mh, .ref mj, .ref ms, .ref mg, .ref md, .int 0, .ref mk, .int (-1), .int 0, .long 0, .int 0, .int 0, .ref z29, .int 0, .ref z31, .ref z32, .ref z33, .ref z34, .ref z35, .int 0, .ref z37, .int 0, .ref z39, .int 0, .int 0, .int 0, .ref z43, .ref z44, .ref z45, .ref z46, .ref z47, .int 0, .ref z49, .ref z50, .ref z51, .int 0, .int 0]) := (congrFun e_f12 me).trans z_up_self
  have hfr : ∀ b ∈ L, b ≠ me → f12 b = f b := fun b hb h0 => (congrFun e_f12 b).trans (z_up_ne h0 (hfr b hb h0))
  refine lv_goto (tgt := 307) hx hb dX10_next_77 (by decide) ?_
  exact z_vret hx hb hr hlk (by decide) (by decide) hw (⟨hsub, hfr, hf_me, trivial⟩) dX10_next_307

set_option maxHeartbeats 2000000 in
set_option maxRecDepth 100000 in
theorem c_X10_begins (l : Launch) {D : va_G} {cy : Nat → ClassId} {L : List Nat} {f : Nat → va_E} {sz : Nat} {me mw mn mc mv mt ml mh mj ms mg md mk z29 z31 z32 z33 z34 z35 z37 z39 z43 z44 z45 z46 z47 z49 z50 z51 : Nat} (hm_me : me ∈ L) (hf_me : f me = .inr (10, [.int 0, .ref mw, .ref mn, .ref mc, .ref mv, .ref mt, .int 0, .int 0, .int 0, .int 0, .int 0, .long 0, .int 0, .int 0, .int 0, .int (-1), .ref ml, .ref mh, .ref mj, .ref ms, .ref mg, .ref md, .int 0, .ref mk, .int (-1), .int 0, .long 0, .int 0, .int 0, .ref z29, .int 0, .ref z31, .ref z32, .ref z33, .ref z34, .ref z35, .int 0, .ref z37, .int 0, .ref z39, .int 0, .int 0, .int 0, .ref z43, .ref z44, .ref z45, .ref z46, .ref z47, .int 0, .ref z49, .ref z50, .ref z51, .int 0, .int 0])) : Met l yX10_begins (z_ws yX10_begins cX10_begins 1 none) (z_R 4 0 0) (va_Pc [.ref me] (z_Pre D vwCl (z_K D cy) L f sz)) (z_Qv D vwCl (fun u => (∀ b ∈ L, b ∈ u.1) ∧ (∀ b ∈ L, b ≠ me → u.2 b = f b) ∧ ((u.2 me = .inr (10, [.int 0, .ref mw, .ref mn, .ref mc, .ref mv, .ref mt, .int 0, .int 0, .int 0, .int 0, .int 0, .long 0, .int 0, .int (-1), .int 0, .int (-1), .ref ml, .ref mh, .ref mj, .ref ms, .ref mg, .ref md, .int 0, .ref mk, .int (-1), .int 0, .long 0, .int 0, .int 0, .ref z29, .int 0, .ref z31, .ref z32, .ref z33, .ref z34, .ref z35, .int 0, .ref z37, .int 0, .ref z39, .int 0, .int 0, .int 0, .ref z43, .ref z44, .ref z45, .ref z46, .ref z47, .int 0, .ref z49, .ref z50, .ref z51, .int 0, .int 0])) ∧ (True))) L sz) 0 0 (z_A L sz) := by
  refine z_met (cc := cX10_begins) (maxL := 1) (ret := none) (lv := [(0, .ref me)]) (by decide) rfl (Nat.le_of_ble_eq_true rfl) rfl ?_
  intro p e s m below meth c ls hx hb hr hlk hml hown hnm hts hKK hA hw hl
  have hK := hKK.1
  have hown : s.vm.findClass RX10 = some m.cls := hown
  have hT : ∀ w ∈ lw_all, w.before ([.ref me] : List Value).toArray s = true := fun w h => hts w (z_cons w h)
  have hsub : ∀ b ∈ L, b ∈ L := fun _ h => h
  have hfr : ∀ b ∈ L, b ≠ me → f b = f b := fun _ _ _ => rfl
  refine lv_aload_n hx hb dX10_begins_0 rfl (lv_at hl 0 rfl) ?_
  refine lv_iconst (v := 0) hx hb dX10_begins_1 (by decide) ?_
  refine z_put (C := RX10) (T := TX10) (N := 54) (ci := 10) (v := .int 0) (fs' := [.int 0, .ref mw, .ref mn, .ref mc, .ref mv, .ref mt, .int 0, .int 0, .int 0, .int 0, .int 0, .long 0, .int 0, .int 0, .int 0, .int (-1), .ref ml, .ref mh, .ref mj, .ref ms, .ref mg, .ref md, .int 0, .ref mk, .int (-1), .int 0, .long 0, .int 0, .int 0, .ref z29, .int 0, .ref z31, .ref z32, .ref z33, .ref z34, .ref z35, .int 0, .ref z37, .int 0, .ref z39, .int 0, .int 0, .int 0, .ref z43, .ref z44, .ref z45, .ref z46, .ref z47, .int 0, .ref z49, .ref z50, .ref z51, .int 0, .int 0]) hx hb hT zin_X10 tyX10_ok nmX10 hown hK hw hm_me hf_me rfl 12 (by decide) (hT _ kw_1180) rfl rfl rfl (Nat.le_of_ble_eq_true rfl) rfl dX10_begins_2 (fun H locs hw => ?_)
  obtain ⟨f1, e_f1⟩ : ∃ z, z = va_up f me (.inr (10, [.int 0, .ref mw, .ref mn, .ref mc, .ref mv, .ref mt, .int 0, .int 0, .int 0, .int 0, .int 0, .long 0, .int 0, .int 0, .int 0, .int (-1), .ref ml, .ref mh, .ref mj, .ref ms, .ref mg, .ref md, .int 0, .ref mk, .int (-1), .int 0, .long 0, .int 0, .int 0, .ref z29, .int 0, .ref z31, .ref z32, .ref z33, .ref z34, .ref z35, .int 0, .ref z37, .int 0, .ref z39, .int 0, .int 0, .int 0, .ref z43, .ref z44, .ref z45, .ref z46, .ref z47, .int 0, .ref z49, .ref z50, .ref z51, .int 0, .int 0])) := ⟨_, rfl⟩
  rw [← e_f1] at hw
  have hf_me : f1 me = .inr (10, [.int 0, .ref mw, .ref mn, .ref mc, .ref mv, .ref mt, .int 0, .int 0, .int 0, .int 0, .int 0, .long 0, .int 0, .int 0, .int 0, .int (-1), .ref ml, .ref mh, .ref mj, .ref ms, .ref mg, .ref md, .int 0, .ref mk, .int (-1), .int 0, .long 0, .int 0, .int 0, .ref z29, .int 0, .ref z31, .ref z32, .ref z33, .ref z34, .ref z35, .int 0, .ref z37, .int 0, .ref z39, .int 0, .int 0, .int 0, .ref z43, .ref z44, .ref z45, .ref z46, .ref z47, .int 0, .ref z49, .ref z50, .ref z51, .int 0, .int 0]) := (congrFun e_f1 me).trans z_up_self
  have hfr : ∀ b ∈ L, b ≠ me → f1 b = f b := fun b hb h0 => (congrFun e_f1 b).trans (z_up_ne h0 (hfr b hb h0))
  refine lv_aload_n hx hb dX10_begins_5 rfl (lv_at hl 0 rfl) ?_
  refine lv_iconst (v := (-1)) hx hb dX10_begins_6 (by decide) ?_
  refine z_put (C := RX10) (T := TX10) (N := 54) (ci := 10) (v := .int (-1)) (fs' := [.int 0, .ref mw, .ref mn, .ref mc, .ref mv, .ref mt, .int 0, .int 0, .int 0, .int 0, .int 0, .long 0, .int 0, .int (-1), .int 0, .int (-1), .ref ml, .ref mh, .ref mj, .ref ms, .ref mg, .ref md, .int 0, .ref mk, .int (-1), .int 0, .long 0, .int 0, .int 0, .ref z29, .int 0, .ref z31, .ref z32, .ref z33, .ref z34, .ref z35, .int 0, .ref z37, .int 0, .ref z39, .int 0, .int 0, .int 0, .ref z43, .ref z44, .ref z45, .ref z46, .ref z47, .int 0, .ref z49, .ref z50, .ref z51, .int 0, .int 0]) hx hb hT zin_X10 tyX10_ok nmX10 hown hK hw hm_me hf_me rfl 13 (by decide) (hT _ kw_1181) rfl rfl rfl (Nat.le_of_ble_eq_true rfl) rfl dX10_begins_7 (fun H locs hw => ?_)
  obtain ⟨f2, e_f2⟩ : ∃ z, z = va_up f1 me (.inr (10, [.int 0, .ref mw, .ref mn, .ref mc, .ref mv, .ref mt, .int 0, .int 0, .int 0, .int 0, .int 0, .long 0, .int 0, .int (-1), .int 0, .int (-1), .ref ml, .ref mh, .ref mj, .ref ms, .ref mg, .ref md, .int 0, .ref mk, .int (-1), .int 0, .long 0, .int 0, .int 0, .ref z29, .int 0, .ref z31, .ref z32, .ref z33, .ref z34, .ref z35, .int 0, .ref z37, .int 0, .ref z39, .int 0, .int 0, .int 0, .ref z43, .ref z44, .ref z45, .ref z46, .ref z47, .int 0, .ref z49, .ref z50, .ref z51, .int 0, .int 0])) := ⟨_, rfl⟩
  rw [← e_f2] at hw
  have hf_me : f2 me = .inr (10, [.int 0, .ref mw, .ref mn, .ref mc, .ref mv, .ref mt, .int 0, .int 0, .int 0, .int 0, .int 0, .long 0, .int 0, .int (-1), .int 0, .int (-1), .ref ml, .ref mh, .ref mj, .ref ms, .ref mg, .ref md, .int 0, .ref mk, .int (-1), .int 0, .long 0, .int 0, .int 0, .ref z29, .int 0, .ref z31, .ref z32, .ref z33, .ref z34, .ref z35, .int 0, .ref z37, .int 0, .ref z39, .int 0, .int 0, .int 0, .ref z43, .ref z44, .ref z45, .ref z46, .ref z47, .int 0, .ref z49, .ref z50, .ref z51, .int 0, .int 0]) := (congrFun e_f2 me).trans z_up_self
  have hfr : ∀ b ∈ L, b ≠ me → f2 b = f b := fun b hb h0 => (congrFun e_f2 b).trans (z_up_ne h0 (hfr b hb h0))
  refine lv_aload_n hx hb dX10_begins_10 rfl (lv_at hl 0 rfl) ?_
  refine lv_iconst (v := 0) hx hb dX10_begins_11 (by decide) ?_
  refine z_put (C := RX10) (T := TX10) (N := 54) (ci := 10) (v := .int 0) (fs' := [.int 0, .ref mw, .ref mn, .ref mc, .ref mv, .ref mt, .int 0, .int 0, .int 0, .int 0, .int 0, .long 0, .int 0, .int (-1), .int 0, .int (-1), .ref ml, .ref mh, .ref mj, .ref ms, .ref mg, .ref md, .int 0, .ref mk, .int (-1), .int 0, .long 0, .int 0, .int 0, .ref z29, .int 0, .ref z31, .ref z32, .ref z33, .ref z34, .ref z35, .int 0, .ref z37, .int 0, .ref z39, .int 0, .int 0, .int 0, .ref z43, .ref z44, .ref z45, .ref z46, .ref z47, .int 0, .ref z49, .ref z50, .ref z51, .int 0, .int 0]) hx hb hT zin_X10 tyX10_ok nmX10 hown hK hw hm_me hf_me rfl 7 (by decide) (hT _ kw_1175) rfl rfl rfl (Nat.le_of_ble_eq_true rfl) rfl dX10_begins_12 (fun H locs hw => ?_)
  obtain ⟨f3, e_f3⟩ : ∃ z, z = va_up f2 me (.inr (10, [.int 0, .ref mw, .ref mn, .ref mc, .ref mv, .ref mt, .int 0, .int 0, .int 0, .int 0, .int 0, .long 0, .int 0, .int (-1), .int 0, .int (-1), .ref ml, .ref mh, .ref mj, .ref ms, .ref mg, .ref md, .int 0, .ref mk, .int (-1), .int 0, .long 0, .int 0, .int 0, .ref z29, .int 0, .ref z31, .ref z32, .ref z33, .ref z34, .ref z35, .int 0, .ref z37, .int 0, .ref z39, .int 0, .int 0, .int 0, .ref z43, .ref z44, .ref z45, .ref z46, .ref z47, .int 0, .ref z49, .ref z50, .ref z51, .int 0, .int 0])) := ⟨_, rfl⟩
  rw [← e_f3] at hw
  have hf_me : f3 me = .inr (10, [.int 0, .ref mw, .ref mn, .ref mc, .ref mv, .ref mt, .int 0, .int 0, .int 0, .int 0, .int 0, .long 0, .int 0, .int (-1), .int 0, .int (-1), .ref ml, .ref mh, .ref mj, .ref ms, .ref mg, .ref md, .int 0, .ref mk, .int (-1), .int 0, .long 0, .int 0, .int 0, .ref z29, .int 0, .ref z31, .ref z32, .ref z33, .ref z34, .ref z35, .int 0, .ref z37, .int 0, .ref z39, .int 0, .int 0, .int 0, .ref z43, .ref z44, .ref z45, .ref z46, .ref z47, .int 0, .ref z49, .ref z50, .ref z51, .int 0, .int 0]) := (congrFun e_f3 me).trans z_up_self
  have hfr : ∀ b ∈ L, b ≠ me → f3 b = f b := fun b hb h0 => (congrFun e_f3 b).trans (z_up_ne h0 (hfr b hb h0))
  refine lv_aload_n hx hb dX10_begins_15 rfl (lv_at hl 0 rfl) ?_
  refine z_callvV (cells := 0) (slots := 0) (b := me) (As := []) (rest := []) (ci := 10) (q0 := (RX10, TX10, 54)) ⟨hx, hb, hml, hown, hT⟩ (c_X10_next l hm_me hf_me) (cwV 0 hT (z_goodV (fun _ h => h) kw_1381 kw_1383 kw_34 kw_96 kw_1384) rfl rfl rfl (by decide +kernel) ⟨by decide, by decide⟩) z_mv hKK hK hw hA hm_me hf_me rfl rfl rfl hl.1 rfl (Nat.le_of_ble_eq_true rfl) dX10_begins_16 ⟨by decide, by decide⟩ (fun u H locs hp hw => ?_)
  obtain ⟨L4, f5⟩ := u
  obtain ⟨hsb, hfm, ha_0, hp⟩ := hp
  have hw : z_H D vwCl (z_A L sz) s.heap L4 f5 H locs := hw
  have hfr : ∀ b ∈ L, b ≠ me → f5 b = f b := fun b hb h0 => (hfm b (hsub b hb) h0).trans (hfr b hb h0)
  have hsub : ∀ b ∈ L, b ∈ L4 := fun b h => hsb b (hsub b h)
  have hm_me : me ∈ L4 := hsb _ hm_me
  have hf_me : f5 me = .inr (10, [.int 0, .ref mw, .ref mn, .ref mc, .ref mv, .ref mt, .int 0, .int 0, .int 0, .int 0, .int 0, .long 0, .int 0, .int (-1), .int 0, .int (-1), .ref ml, .ref mh, .ref mj, .ref ms, .ref mg, .ref md, .int 0, .ref mk, .int (-1), .int 0, .long 0, .int 0, .int 0, .ref z29, .int 0, .ref z31, .ref z32, .ref z33, .ref z34, .ref z35, .int 0, .ref z37, .int 0, .ref z39, .int 0, .int 0, .int 0, .ref z43, .ref z44, .ref z45, .ref z46, .ref z47, .int 0, .ref z49, .ref z50, .ref z51, .int 0, .int 0]) := ha_0
  exact z_vret hx hb hr hlk (by decide) (by decide) hw (⟨hsub, hfr, hf_me, trivial⟩) dX10_begins_19

set_option maxHeartbeats 2000000 in
set_option maxRecDepth 100000 in
theorem c_X10_isOver (l : Launch) {D : va_G} {cy : Nat → ClassId} {L : List Nat} {f : Nat → va_E} {sz : Nat} {me mw mn mc mv mt ml mh mj ms mg md mk z29 z31 z32 z33 z34 z35 z37 z39 z43 z44 z45 z46 z47 z49 z50 z51 : Nat} (hm_me : me ∈ L) (hf_me : f me = .inr (10, [.int 0, .ref mw, .ref mn, .ref mc, .ref mv, .ref mt, .int 0, .int 0, .int 0, .int 0, .int 0, .long 0, .int 0, .int (-1), .int 0, .int (-1), .ref ml, .ref mh, .ref mj, .ref ms, .ref mg, .ref md, .int 0, .ref mk, .int (-1), .int 0, .long 0, .int 0, .int 0, .ref z29, .int 0, .ref z31, .ref z32, .ref z33, .ref z34, .ref z35, .int 0, .ref z37, .int 0, .ref z39, .int 0, .int 0, .int 0, .ref z43, .ref z44, .ref z45, .ref z46, .ref z47, .int 0, .ref z49, .ref z50, .ref z51, .int 0, .int 0])) : Met l yX10_isOver (z_ws yX10_isOver cX10_isOver 1 none) (z_R 1 0 0) (va_Pc [.ref me] (z_Pre D vwCl (z_K D cy) L f sz)) (z_Qv D vwCl (fun u => (∀ b ∈ L, b ∈ u.1) ∧ (∀ b ∈ L, b ≠ me → u.2 b = f b) ∧ ((u.2 me = .inr (10, [.int 0, .ref mw, .ref mn, .ref mc, .ref mv, .ref mt, .int 0, .int 0, .int 0, .int 0, .int 0, .long 0, .int 0, .int (-1), .int 0, .int (-1), .ref ml, .ref mh, .ref mj, .ref ms, .ref mg, .ref md, .int 0, .ref mk, .int (-1), .int 0, .long 0, .int 0, .int 0, .ref z29, .int 0, .ref z31, .ref z32, .ref z33, .ref z34, .ref z35, .int 0, .ref z37, .int 0, .ref z39, .int 0, .int 0, .int 0, .ref z43, .ref z44, .ref z45, .ref z46, .ref z47, .int 0, .ref z49, .ref z50, .ref z51, .int 0, .int 0])) ∧ (True))) L sz) 0 0 (z_A L sz) := by
  refine z_met (cc := cX10_isOver) (maxL := 1) (ret := none) (lv := [(0, .ref me)]) (by decide) rfl (Nat.le_of_ble_eq_true rfl) rfl ?_
  intro p e s m below meth c ls hx hb hr hlk hml hown hnm hts hKK hA hw hl
  have hK := hKK.1
  have hown : s.vm.findClass RX10 = some m.cls := hown
  have hT : ∀ w ∈ lw_all, w.before ([.ref me] : List Value).toArray s = true := fun w h => hts w (z_cons w h)
  have hsub : ∀ b ∈ L, b ∈ L := fun _ h => h
  have hfr : ∀ b ∈ L, b ≠ me → f b = f b := fun _ _ _ => rfl
  refine lv_aload_n hx hb dX10_isOver_0 rfl (lv_at hl 0 rfl) ?_
  refine lv_iconst (v := 0) hx hb dX10_isOver_1 (by decide) ?_
  refine z_put (C := RX10) (T := TX10) (N := 54) (ci := 10) (v := .int 0) (fs' := [.int 0, .ref mw, .ref mn, .ref mc, .ref mv, .ref mt, .int 0, .int 0, .int 0, .int 0, .int 0, .long 0, .int 0, .int (-1), .int 0, .int (-1), .ref ml, .ref mh, .ref mj, .ref ms, .ref mg, .ref md, .int 0, .ref mk, .int (-1), .int 0, .long 0, .int 0, .int 0, .ref z29, .int 0, .ref z31, .ref z32, .ref z33, .ref z34, .ref z35, .int 0, .ref z37, .int 0, .ref z39, .int 0, .int 0, .int 0, .ref z43, .ref z44, .ref z45, .ref z46, .ref z47, .int 0, .ref z49, .ref z50, .ref z51, .int 0, .int 0]) hx hb hT zin_X10 tyX10_ok nmX10 hown hK hw hm_me hf_me rfl 6 (by decide) (hT _ kw_1174) rfl rfl rfl (Nat.le_of_ble_eq_true rfl) rfl dX10_isOver_2 (fun H locs hw => ?_)
  obtain ⟨f1, e_f1⟩ : ∃ z, z = va_up f me (.inr (10, [.int 0, .ref mw, .ref mn, .ref mc, .ref mv, .ref mt, .int 0, .int 0, .int 0, .int 0, .int 0, .long 0, .int 0, .int (-1), .int 0, .int (-1), .ref ml, .ref mh, .ref mj, .ref ms, .ref mg, .ref md, .int 0, .ref mk, .int (-1), .int 0, .long 0, .int 0, .int 0, .ref z29, .int 0, .ref z31, .ref z32, .ref z33, .ref z34, .ref z35, .int 0, .ref z37, .int 0, .ref z39, .int 0, .int 0, .int 0, .ref z43, .ref z44, .ref z45, .ref z46, .ref z47, .int 0, .ref z49, .ref z50, .ref z51, .int 0, .int 0])) := ⟨_, rfl⟩
  rw [← e_f1] at hw
  have hf_me : f1 me = .inr (10, [.int 0, .ref mw, .ref mn, .ref mc, .ref mv, .ref mt, .int 0, .int 0, .int 0, .int 0, .int 0, .long 0, .int 0, .int (-1), .int 0, .int (-1), .ref ml, .ref mh, .ref mj, .ref ms, .ref mg, .ref md, .int 0, .ref mk, .int (-1), .int 0, .long 0, .int 0, .int 0, .ref z29, .int 0, .ref z31, .ref z32, .ref z33, .ref z34, .ref z35, .int 0, .ref z37, .int 0, .ref z39, .int 0, .int 0, .int 0, .ref z43, .ref z44, .ref z45, .ref z46, .ref z47, .int 0, .ref z49, .ref z50, .ref z51, .int 0, .int 0]) := (congrFun e_f1 me).trans z_up_self
  have hfr : ∀ b ∈ L, b ≠ me → f1 b = f b := fun b hb h0 => (congrFun e_f1 b).trans (z_up_ne h0 (hfr b hb h0))
  refine lv_aload_n hx hb dX10_isOver_5 rfl (lv_at hl 0 rfl) ?_
  refine lv_aload_n hx hb dX10_isOver_6 rfl (lv_at hl 0 rfl) ?_
  refine z_get (C := RX10) (T := TX10) (N := 54) (ci := 10) (v := .int 0) hx hb hT zin_X10 hown hK hw hm_me hf_me rfl 12 (by decide) (hT _ kw_1180) rfl dX10_isOver_7 ?_
  refine z_put (C := RX10) (T := TX10) (N := 54) (ci := 10) (v := .int 0) (fs' := [.int 0, .ref mw, .ref mn, .ref mc, .ref mv, .ref mt, .int 0, .int 0, .int 0, .int 0, .int 0, .long 0, .int 0, .int (-1), .int 0, .int (-1), .ref ml, .ref mh, .ref mj, .ref ms, .ref mg, .ref md, .int 0, .ref mk, .int (-1), .int 0, .long 0, .int 0, .int 0, .ref z29, .int 0, .ref z31, .ref z32, .ref z33, .ref z34, .ref z35, .int 0, .ref z37, .int 0, .ref z39, .int 0, .int 0, .int 0, .ref z43, .ref z44, .ref z45, .ref z46, .ref z47, .int 0, .ref z49, .ref z50, .ref z51, .int 0, .int 0]) hx hb hT zin_X10 tyX10_ok nmX10 hown hK hw hm_me hf_me rfl 14 (by decide) (hT _ kw_1182) rfl rfl rfl (Nat.le_of_ble_eq_true rfl) rfl dX10_isOver_10 (fun H locs hw => ?_)
  obtain ⟨f2, e_f2⟩ : ∃ z, z = va_up f1 me (.inr (10, [.int 0, .ref mw, .ref mn, .ref mc, .ref mv, .ref mt, .int 0, .int 0, .int 0, .int 0, .int 0, .long 0, .int 0, .int (-1), .int 0, .int (-1), .ref ml, .ref mh, .ref mj, .ref ms, .ref mg, .ref md, .int 0, .ref mk, .int (-1), .int 0, .long 0, .int 0, .int 0, .ref z29, .int 0, .ref z31, .ref z32, .ref z33, .ref z34, .ref z35, .int 0, .ref z37, .int 0, .ref z39, .int 0, .int 0, .int 0, .ref z43, .ref z44, .ref z45, .ref z46, .ref z47, .int 0, .ref z49, .ref z50, .ref z51, .int 0, .int 0])) := ⟨_, rfl⟩
  rw [← e_f2] at hw
  have hf_me : f2 me = .inr (10, [.int 0, .ref mw, .ref mn, .ref mc, .ref mv, .ref mt, .int 0, .int 0, .int 0, .int 0, .int 0, .long 0, .int 0, .int (-1), .int 0, .int (-1), .ref ml, .ref mh, .ref mj, .ref ms, .ref mg, .ref md, .int 0, .ref mk, .int (-1), .int 0, .long 0, .int 0, .int 0, .ref z29, .int 0, .ref z31, .ref z32, .ref z33, .ref z34, .ref z35, .int 0, .ref z37, .int 0, .ref z39, .int 0, .int 0, .int 0, .ref z43, .ref z44, .ref z45, .ref z46, .ref z47, .int 0, .ref z49, .ref z50, .ref z51, .int 0, .int 0]) := (congrFun e_f2 me).trans z_up_self
  have hfr : ∀ b ∈ L, b ≠ me → f2 b = f b := fun b hb h0 => (congrFun e_f2 b).trans (z_up_ne h0 (hfr b hb h0))
  refine lv_aload_n hx hb dX10_isOver_13 rfl (lv_at hl 0 rfl) ?_
  refine lv_aload_n hx hb dX10_isOver_14 rfl (lv_at hl 0 rfl) ?_
  refine z_get (C := RX10) (T := TX10) (N := 54) (ci := 10) (v := .int 0) hx hb hT zin_X10 hown hK hw hm_me hf_me rfl 12 (by decide) (hT _ kw_1180) rfl dX10_isOver_15 ?_
  refine z_if_ne (tgt := 25) hx hb (show (0 : Int32).toInt = 0 by decide) dX10_isOver_18 (by decide) (fun h => absurd h (by decide)) (fun _ => ?_)
  refine lv_iconst (v := (-1)) hx hb dX10_isOver_21 (by decide) ?_
  refine lv_goto (tgt := 29) hx hb dX10_isOver_22 (by decide) ?_
  refine z_put (C := RX10) (T := TX10) (N := 54) (ci := 10) (v := .int (-1)) (fs' := [.int 0, .ref mw, .ref mn, .ref mc, .ref mv, .ref mt, .int 0, .int 0, .int 0, .int 0, .int 0, .long 0, .int 0, .int (-1), .int 0, .int (-1), .ref ml, .ref mh, .ref mj, .ref ms, .ref mg, .ref md, .int 0, .ref mk, .int (-1), .int 0, .long 0, .int 0, .int 0, .ref z29, .int 0, .ref z31, .ref z32, .ref z33, .ref z34, .ref z35, .int 0, .ref z37, .int 0, .ref z39, .int 0, .int 0, .int 0, .ref z43, .ref z44, .ref z45, .ref z46, .ref z47, .int 0, .ref z49, .ref z50, .ref z51, .int 0, .int 0]) hx hb hT zin_X10 tyX10_ok nmX10 hown hK hw hm_me hf_me rfl 15 (by decide) (hT _ kw_1183) rfl rfl rfl (Nat.le_of_ble_eq_true rfl) rfl dX10_isOver_29 (fun H locs hw => ?_)
  obtain ⟨f3, e_f3⟩ : ∃ z, z = va_up f2 me (.inr (10, [.int 0, .ref mw, .ref mn, .ref mc, .ref mv, .ref mt, .int 0, .int 0, .int 0, .int 0, .int 0, .long 0, .int 0, .int (-1), .int 0, .int (-1), .ref ml, .ref mh, .ref mj, .ref ms, .ref mg, .ref md, .int 0, .ref mk, .int (-1), .int 0, .long 0, .int 0, .int 0, .ref z29, .int 0, .ref z31, .ref z32, .ref z33, .ref z34, .ref z35, .int 0, .ref z37, .int 0, .ref z39, .int 0, .int 0, .int 0, .ref z43, .ref z44, .ref z45, .ref z46, .ref z47, .int 0, .ref z49, .ref z50, .ref z51, .int 0, .int 0])) := ⟨_, rfl⟩
  rw [← e_f3] at hw
  have hf_me : f3 me = .inr (10, [.int 0, .ref mw, .ref mn, .ref mc, .ref mv, .ref mt, .int 0, .int 0, .int 0, .int 0, .int 0, .long 0, .int 0, .int (-1), .int 0, .int (-1), .ref ml, .ref mh, .ref mj, .ref ms, .ref mg, .ref md, .int 0, .ref mk, .int (-1), .int 0, .long 0, .int 0, .int 0, .ref z29, .int 0, .ref z31, .ref z32, .ref z33, .ref z34, .ref z35, .int 0, .ref z37, .int 0, .ref z39, .int 0, .int 0, .int 0, .ref z43, .ref z44, .ref z45, .ref z46, .ref z47, .int 0, .ref z49, .ref z50, .ref z51, .int 0, .int 0]) := (congrFun e_f3 me).trans z_up_self
  have hfr : ∀ b ∈ L, b ≠ me → f3 b = f b := fun b hb h0 => (congrFun e_f3 b).trans (z_up_ne h0 (hfr b hb h0))
  exact z_vret hx hb hr hlk (by decide) (by decide) hw (⟨hsub, hfr, hf_me, trivial⟩) dX10_isOver_32

set_option maxHeartbeats 2000000 in
set_option maxRecDepth 100000 in
theorem c_X10_clears (l : Launch) {D : va_G} {cy : Nat → ClassId} {L : List Nat} {f : Nat → va_E} {sz : Nat} {me mw mn mc mv mt ml mh mj ms mg md mk z29 z31 z32 z33 z34 z35 z37 z39 z43 z44 z45 z46 z47 z49 z50 z51 : Nat} (hm_me : me ∈ L) (hm_ml : ml ∈ L) (hm_mh : mh ∈ L) (hm_mj : mj ∈ L) (hm_ms : ms ∈ L) (hm_mg : mg ∈ L) (hf_me : f me = .inr (10, [.int 0, .ref mw, .ref mn, .ref mc, .ref mv, .ref mt, .int 0, .int 0, .int 0, .int 0, .int 0, .long 0, .int 0, .int 0, .int 0, .int (-1), .ref ml, .ref mh, .ref mj, .ref ms, .ref mg, .ref md, .int 0, .ref mk, .int (-1), .int 0, .long 0, .int 0, .int 0, .ref z29, .int 0, .ref z31, .ref z32, .ref z33, .ref z34, .ref z35, .int 0, .ref z37, .int 0, .ref z39, .int 0, .int 0, .int 0, .ref z43, .ref z44, .ref z45, .ref z46, .ref z47, .int 0, .ref z49, .ref z50, .ref z51, .int 0, .int 0])) (hf_ml : f ml = .inl (cy 1, 5, .inl (fun _ => 0))) (hf_mh : f mh = .inl (cy 1, 30, .inl (fun _ => 0))) (hf_mj : f mj = .inl (cy 1, 25, .inl (fun _ => 0))) (hf_ms : f ms = .inl (cy 1, 20, .inl (fun _ => 0))) (hf_mg : f mg = .inl (cy 1, 180, .inl (fun _ => 0))) : Met l yX10_clears (z_ws yX10_clears cX10_clears 2 none) (z_R 1 0 0) (va_Pc [.ref me] (z_Pre D vwCl (z_K D cy) L f sz)) (z_Qv D vwCl (fun u => (∀ b ∈ L, b ∈ u.1) ∧ (∀ b ∈ L, b ≠ me → b ≠ ml → b ≠ mh → b ≠ mj → b ≠ ms → b ≠ mg → u.2 b = f b) ∧ (∃ (k1 k2 k3 k4 k5 : Nat → Int32), (u.2 me = .inr (10, [.int 0, .ref mw, .ref mn, .ref mc, .ref mv, .ref mt, .int 0, .int 0, .int 0, .int 0, .int 0, .long 0, .int 0, .int 0, .int 0, .int (-1), .ref ml, .ref mh, .ref mj, .ref ms, .ref mg, .ref md, .int 0, .ref mk, .int (-1), .int 0, .long 0, .int 0, .int 0, .ref z29, .int 0, .ref z31, .ref z32, .ref z33, .ref z34, .ref z35, .int 0, .ref z37, .int 0, .ref z39, .int 0, .int 0, .int 0, .ref z43, .ref z44, .ref z45, .ref z46, .ref z47, .int 0, .ref z49, .ref z50, .ref z51, .int 0, .int 0])) ∧ (u.2 ml = .inl (cy 1, 5, .inl k1)) ∧ (u.2 mh = .inl (cy 1, 30, .inl k2)) ∧ (u.2 mj = .inl (cy 1, 25, .inl k3)) ∧ (u.2 ms = .inl (cy 1, 20, .inl k4)) ∧ (u.2 mg = .inl (cy 1, 180, .inl k5)) ∧ (∀ j : Nat, k1 j = 0))) L sz) 0 0 (z_A L sz) := by
  refine z_met (cc := cX10_clears) (maxL := 2) (ret := none) (lv := [(0, .ref me)]) (by decide) rfl (Nat.le_of_ble_eq_true rfl) rfl ?_
  intro p e s m below meth c ls hx hb hr hlk hml hown hnm hts hKK hA hw hl
  have hK := hKK.1
  have hown : s.vm.findClass RX10 = some m.cls := hown
  have hT : ∀ w ∈ lw_all, w.before ([.ref me] : List Value).toArray s = true := fun w h => hts w (z_cons w h)
  have hsub : ∀ b ∈ L, b ∈ L := fun _ h => h
  have hfr : ∀ b ∈ L, b ≠ me → b ≠ ml → b ≠ mh → b ≠ mj → b ≠ ms → b ≠ mg → f b = f b := fun _ _ _ _ _ _ _ _ => rfl
  refine lv_aload_n hx hb dX10_clears_0 rfl (lv_at hl 0 rfl) ?_
  refine z_get (C := RX10) (T := TX10) (N := 54) (ci := 10) (v := .ref ml) hx hb hT zin_X10 hown hK hw hm_me hf_me rfl 16 (by decide) (hT _ kw_1184) rfl dX10_clears_1 ?_
  refine lv_iconst (v := 4) hx hb dX10_clears_4 (by decide) ?_
  refine lv_iconst (v := 0) hx hb dX10_clears_5 (by decide) ?_
  refine z_iast hx hb hK hw 1 hm_ml hf_ml rfl (z_ix (show (4 : Int32).toInt = 4 by decide) (by decide)) dX10_clears_6 (fun H locs hw => ?_)
  obtain ⟨f2, e_f2⟩ : ∃ z, z = va_up f ml (.inl (cy 1, 5, .inl (upd (fun _ => 0) (4 : Int32).toNatClampNeg 0))) := ⟨_, rfl⟩
  rw [← e_f2] at hw
  have hf_me : f2 me = .inr (10, [.int 0, .ref mw, .ref mn, .ref mc, .ref mv, .ref mt, .int 0, .int 0, .int 0, .int 0, .int 0, .long 0, .int 0, .int 0, .int 0, .int (-1), .ref ml, .ref mh, .ref mj, .ref ms, .ref mg, .ref md, .int 0, .ref mk, .int (-1), .int 0, .long 0, .int 0, .int 0, .ref z29, .int 0, .ref z31, .ref z32, .ref z33, .ref z34, .ref z35, .int 0, .ref z37, .int 0, .ref z39, .int 0, .int 0, .int 0, .ref z43, .ref z44, .ref z45, .ref z46, .ref z47, .int 0, .ref z49, .ref z50, .ref z51, .int 0, .int 0]) := (congrFun e_f2 me).trans (z_up_ne (z_tne hf_me hf_ml (m := 10) (n := 140) rfl rfl (by decide)) hf_me)
  have hf_mh : f2 mh = .inl (cy 1, 30, .inl (fun _ => 0)) := (congrFun e_f2 mh).trans (z_up_ne (z_tne hf_mh hf_ml (m := 340) (n := 140) rfl rfl (by decide)) hf_mh)
  have hf_mj : f2 mj = .inl (cy 1, 25, .inl (fun _ => 0)) := (congrFun e_f2 mj).trans (z_up_ne (z_tne hf_mj hf_ml (m := 300) (n := 140) rfl rfl (by decide)) hf_mj)
  have hf_ms : f2 ms = .inl (cy 1, 20, .inl (fun _ => 0)) := (congrFun e_f2 ms).trans (z_up_ne (z_tne hf_ms hf_ml (m := 260) (n := 140) rfl rfl (by decide)) hf_ms)
  have hf_mg : f2 mg = .inl (cy 1, 180, .inl (fun _ => 0)) := (congrFun e_f2 mg).trans (z_up_ne (z_tne hf_mg hf_ml (m := 1540) (n := 140) rfl rfl (by decide)) hf_mg)
  have hf_ml : f2 ml = .inl (cy 1, 5, .inl (upd (fun _ => 0) (4 : Int32).toNatClampNeg 0)) := (congrFun e_f2 ml).trans z_up_self
  have hfr : ∀ b ∈ L, b ≠ me → b ≠ ml → b ≠ mh → b ≠ mj → b ≠ ms → b ≠ mg → f2 b = f b := fun b hb h0 h1 h2 h3 h4 h5 => (congrFun e_f2 b).trans (z_up_ne h1 (hfr b hb h0 h1 h2 h3 h4 h5))
  obtain ⟨g1, e_g1⟩ : ∃ z, z = (upd (fun _ => 0) (4 : Int32).toNatClampNeg 0) := ⟨_, rfl⟩
  rw [← e_g1] at hf_ml
  have hl0 : ∀ j : Nat, g1 j = 0 := fun j => by rw [e_g1]; unfold upd; split <;> rfl
  refine lv_iconst (v := 0) hx hb dX10_clears_7 (by decide) ?_
  refine lv_istore_n (lv' := [(1, .int 0), (0, .ref me)]) hx hb dX10_clears_8 rfl hl (by decide) rfl (fun ls hl => ?_)
  have hzk : (0 : Int32).toInt = 0 := by decide
  refine z_loop (fun n H locs ls => ∃ (K3 : Int32) (G5 : Nat → Int32) (f4 : Nat → va_E), (n = (6 - K3.toInt).toNat) ∧ (0 ≤ K3.toInt) ∧ (K3.toInt ≤ 6) ∧ (z_H D vwCl (z_A L sz) s.heap L f4 H locs) ∧ (f4 me = .inr (10, [.int 0, .ref mw, .ref mn, .ref mc, .ref mv, .ref mt, .int 0, .int 0, .int 0, .int 0, .int 0, .long 0, .int 0, .int 0, .int 0, .int (-1), .ref ml, .ref mh, .ref mj, .ref ms, .ref mg, .ref md, .int 0, .ref mk, .int (-1), .int 0, .long 0, .int 0, .int 0, .ref z29, .int 0, .ref z31, .ref z32, .ref z33, .ref z34, .ref z35, .int 0, .ref z37, .int 0, .ref z39, .int 0, .int 0, .int 0, .ref z43, .ref z44, .ref z45, .ref z46, .ref z47, .int 0, .ref z49, .ref z50, .ref z51, .int 0, .int 0])) ∧ (f4 ml = .inl (cy 1, 5, .inl g1)) ∧ (f4 mh = .inl (cy 1, 30, .inl G5)) ∧ (f4 mj = .inl (cy 1, 25, .inl (fun _ => 0))) ∧ (f4 ms = .inl (cy 1, 20, .inl (fun _ => 0))) ∧ (f4 mg = .inl (cy 1, 180, .inl (fun _ => 0))) ∧ (∀ b ∈ L, b ≠ me → b ≠ ml → b ≠ mh → b ≠ mj → b ≠ ms → b ≠ mg → f4 b = f b) ∧ (lv_has ls 2 [(1, .int K3), (0, .ref me)])) _ ⟨0, (fun _ => 0), f2, rfl, (by first | decide | omega), (by first | decide | omega), hw, hf_me, hf_ml, hf_mh, hf_mj, hf_ms, hf_mg, hfr, (lv_sub hl [0, 1] rfl)⟩ (fun n H locs ls hI ih => ?_)
  obtain ⟨K3, G5, f4, hn, hk0, hk1, hw, hf_me, hf_ml, hf_mh, hf_mj, hf_ms, hf_mg, hfr, hl⟩ := hI
  refine lv_iload_n hx hb dX10_clears_9 rfl (lv_at hl 0 rfl) ?_
  refine lv_bipush (v := 6) hx hb dX10_clears_10 (by decide) ?_
  refine z_icmp_ge (tgt := 40) hx hb rfl (show (6 : Int32).toInt = 6 by decide) dX10_clears_12 (by decide) (fun c6 => ?_) (fun c6 => ?_)
  · skip
    refine lv_iconst (v := 0) hx hb dX10_clears_40 (by decide) ?_
    refine lv_istore_n (lv' := [(1, .int 0), (0, .ref me)]) hx hb dX10_clears_41 rfl hl (by decide) rfl (fun ls hl => ?_)
    have hzk : (0 : Int32).toInt = 0 := by decide
    refine z_loop (fun n H locs ls => ∃ (K7 : Int32) (G9 : Nat → Int32) (f8 : Nat → va_E), (n = (5 - K7.toInt).toNat) ∧ (0 ≤ K7.toInt) ∧ (K7.toInt ≤ 5) ∧ (z_H D vwCl (z_A L sz) s.heap L f8 H locs) ∧ (f8 me = .inr (10, [.int 0, .ref mw, .ref mn, .ref mc, .ref mv, .ref mt, .int 0, .int 0, .int 0, .int 0, .int 0, .long 0, .int 0, .int 0, .int 0, .int (-1), .ref ml, .ref mh, .ref mj, .ref ms, .ref mg, .ref md, .int 0, .ref mk, .int (-1), .int 0, .long 0, .int 0, .int 0, .ref z29, .int 0, .ref z31, .ref z32, .ref z33, .ref z34, .ref z35, .int 0, .ref z37, .int 0, .ref z39, .int 0, .int 0, .int 0, .ref z43, .ref z44, .ref z45, .ref z46, .ref z47, .int 0, .ref z49, .ref z50, .ref z51, .int 0, .int 0])) ∧ (f8 ml = .inl (cy 1, 5, .inl g1)) ∧ (f8 mh = .inl (cy 1, 30, .inl G5)) ∧ (f8 mj = .inl (cy 1, 25, .inl G9)) ∧ (f8 ms = .inl (cy 1, 20, .inl (fun _ => 0))) ∧ (f8 mg = .inl (cy 1, 180, .inl (fun _ => 0))) ∧ (∀ b ∈ L, b ≠ me → b ≠ ml → b ≠ mh → b ≠ mj → b ≠ ms → b ≠ mg → f8 b = f b) ∧ (lv_has ls 2 [(1, .int K7), (0, .ref me)])) _ ⟨0, (fun _ => 0), f4, rfl, (by first | decide | omega), (by first | decide | omega), hw, hf_me, hf_ml, hf_mh, hf_mj, hf_ms, hf_mg, hfr, (lv_sub hl [0, 1] rfl)⟩ (fun n H locs ls hI ih => ?_)
    obtain ⟨K7, G9, f8, hn, hk0, hk1, hw, hf_me, hf_ml, hf_mh, hf_mj, hf_ms, hf_mg, hfr, hl⟩ := hI
    refine lv_iload_n hx hb dX10_clears_42 rfl (lv_at hl 0 rfl) ?_
    refine lv_iconst (v := 5) hx hb dX10_clears_43 (by decide) ?_
    refine z_icmp_ge (tgt := 63) hx hb rfl (show (5 : Int32).toInt = 5 by decide) dX10_clears_44 (by decide) (fun c10 => ?_) (fun c10 => ?_)
    · skip
      refine lv_iconst (v := 0) hx hb dX10_clears_63 (by decide) ?_
      refine lv_istore_n (lv' := [(1, .int 0), (0, .ref me)]) hx hb dX10_clears_64 rfl hl (by decide) rfl (fun ls hl => ?_)
      have hzk : (0 : Int32).toInt = 0 := by decide
      refine z_loop (fun n H locs ls => ∃ (K11 : Int32) (G13 : Nat → Int32) (f12 : Nat → va_E), (n = (4 - K11.toInt).toNat) ∧ (0 ≤ K11.toInt) ∧ (K11.toInt ≤ 4) ∧ (z_H D vwCl (z_A L sz) s.heap L f12 H locs) ∧ (f12 me = .inr (10, [.int 0, .ref mw, .ref mn, .ref mc, .ref mv, .ref mt, .int 0, .int 0, .int 0, .int 0, .int 0, .long 0, .int 0, .int 0, .int 0, .int (-1), .ref ml, .ref mh, .ref mj, .ref ms, .ref mg, .ref md, .int 0, .ref mk, .int (-1), .int 0, .long 0, .int 0, .int 0, .ref z29, .int 0, .ref z31, .ref z32, .ref z33, .ref z34, .ref z35, .int 0, .ref z37, .int 0, .ref z39, .int 0, .int 0, .int 0, .ref z43, .ref z44, .ref z45, .ref z46, .ref z47, .int 0, .ref z49, .ref z50, .ref z51, .int 0, .int 0])) ∧ (f12 ml = .inl (cy 1, 5, .inl g1)) ∧ (f12 mh = .inl (cy 1, 30, .inl G5)) ∧ (f12 mj = .inl (cy 1, 25, .inl G9)) ∧ (f12 ms = .inl (cy 1, 20, .inl G13)) ∧ (f12 mg = .inl (cy 1, 180, .inl (fun _ => 0))) ∧ (∀ b ∈ L, b ≠ me → b ≠ ml → b ≠ mh → b ≠ mj → b ≠ ms → b ≠ mg → f12 b = f b) ∧ (lv_has ls 2 [(1, .int K11), (0, .ref me)])) _ ⟨0, (fun _ => 0), f8, rfl, (by first | decide | omega), (by first | decide | omega), hw, hf_me, hf_ml, hf_mh, hf_mj, hf_ms, hf_mg, hfr, (lv_sub hl [0, 1] rfl)⟩ (fun n H locs ls hI ih => ?_)
      obtain ⟨K11, G13, f12, hn, hk0, hk1, hw, hf_me, hf_ml, hf_mh, hf_mj, hf_ms, hf_mg, hfr, hl⟩ := hI
      refine lv_iload_n hx hb dX10_clears_65 rfl (lv_at hl 0 rfl) ?_
      refine lv_iconst (v := 4) hx hb dX10_clears_66 (by decide) ?_
      refine z_icmp_ge (tgt := 86) hx hb rfl (show (4 : Int32).toInt = 4 by decide) dX10_clears_67 (by decide) (fun c14 => ?_) (fun c14 => ?_)
      · skip
        refine lv_iconst (v := 0) hx hb dX10_clears_86 (by decide) ?_
        refine lv_istore_n (lv' := [(1, .int 0), (0, .ref me)]) hx hb dX10_clears_87 rfl hl (by decide) rfl (fun ls hl => ?_)
        have hzk : (0 : Int32).toInt = 0 := by decide
        refine z_loop (fun n H locs ls => ∃ (K15 : Int32) (G17 : Nat → Int32) (f16 : Nat → va_E), (n = (36 - K15.toInt).toNat) ∧ (0 ≤ K15.toInt) ∧ (K15.toInt ≤ 36) ∧ (z_H D vwCl (z_A L sz) s.heap L f16 H locs) ∧ (f16 me = .inr (10, [.int 0, .ref mw, .ref mn, .ref mc, .ref mv, .ref mt, .int 0, .int 0, .int 0, .int 0, .int 0, .long 0, .int 0, .int 0, .int 0, .int (-1), .ref ml, .ref mh, .ref mj, .ref ms, .ref mg, .ref md, .int 0, .ref mk, .int (-1), .int 0, .long 0, .int 0, .int 0, .ref z29, .int 0, .ref z31, .ref z32, .ref z33, .ref z34, .ref z35, .int 0, .ref z37, .int 0, .ref z39, .int 0, .int 0, .int 0, .ref z43, .ref z44, .ref z45, .ref z46, .ref z47, .int 0, .ref z49, .ref z50, .ref z51, .int 0, .int 0])) ∧ (f16 ml = .inl (cy 1, 5, .inl g1)) ∧ (f16 mh = .inl (cy 1, 30, .inl G5)) ∧ (f16 mj = .inl (cy 1, 25, .inl G9)) ∧ (f16 ms = .inl (cy 1, 20, .inl G13)) ∧ (f16 mg = .inl (cy 1, 180, .inl G17)) ∧ (∀ b ∈ L, b ≠ me → b ≠ ml → b ≠ mh → b ≠ mj → b ≠ ms → b ≠ mg → f16 b = f b) ∧ (lv_has ls 2 [(1, .int K15), (0, .ref me)])) _ ⟨0, (fun _ => 0), f12, rfl, (by first | decide | omega), (by first | decide | omega), hw, hf_me, hf_ml, hf_mh, hf_mj, hf_ms, hf_mg, hfr, (lv_sub hl [0, 1] rfl)⟩ (fun n H locs ls hI ih => ?_)
        obtain ⟨K15, G17, f16, hn, hk0, hk1, hw, hf_me, hf_ml, hf_mh, hf_mj, hf_ms, hf_mg, hfr, hl⟩ := hI
        refine lv_iload_n hx hb dX10_clears_88 rfl (lv_at hl 0 rfl) ?_
        refine lv_bipush (v := 36) hx hb dX10_clears_89 (by decide) ?_
        refine z_icmp_ge (tgt := 111) hx hb rfl (show (36 : Int32).toInt = 36 by decide) dX10_clears_91 (by decide) (fun c18 => ?_) (fun c18 => ?_)
        · skip
          refine lv_aload_n hx hb dX10_clears_111 rfl (lv_at hl 1 rfl) ?_
          refine lv_iconst (v := 0) hx hb dX10_clears_112 (by decide) ?_
          refine z_put (C := RX10) (T := TX10) (N := 54) (ci := 10) (v := .int 0) (fs' := [.int 0, .ref mw, .ref mn, .ref mc, .ref mv, .ref mt, .int 0, .int 0, .int 0, .int 0, .int 0, .long 0, .int 0, .int 0, .int 0, .int (-1), .ref ml, .ref mh, .ref mj, .ref ms, .ref mg, .ref md, .int 0, .ref mk, .int (-1), .int 0, .long 0, .int 0, .int 0, .ref z29, .int 0, .ref z31, .ref z32, .ref z33, .ref z34, .ref z35, .int 0, .ref z37, .int 0, .ref z39, .int 0, .int 0, .int 0, .ref z43, .ref z44, .ref z45, .ref z46, .ref z47, .int 0, .ref z49, .ref z50, .ref z51, .int 0, .int 0]) hx hb hT zin_X10 tyX10_ok nmX10 hown hK hw hm_me hf_me rfl 22 (by decide) (hT _ kw_1190) rfl rfl rfl (Nat.le_of_ble_eq_true rfl) rfl dX10_clears_113 (fun H locs hw => ?_)
          obtain ⟨f19, e_f19⟩ : ∃ z, z = va_up f16 me (.inr (10, [.int 0, .ref mw, .ref mn, .ref mc, .ref mv, .ref mt, .int 0, .int 0, .int 0, .int 0, .int 0, .long 0, .int 0, .int 0, .int 0, .int (-1), .ref ml, .ref mh, .ref mj, .ref ms, .ref mg, .ref md, .int 0, .ref mk, .int (-1), .int 0, .long 0, .int 0, .int 0, .ref z29, .int 0, .ref z31, .ref z32, .ref z33, .ref z34, .ref z35, .int 0, .ref z37, .int 0, .ref z39, .int 0, .int 0, .int 0, .ref z43, .ref z44, .ref z45, .ref z46, .ref z47, .int 0, .ref z49, .ref z50, .ref z51, .int 0, .int 0])) := ⟨_, rfl⟩
          rw [← e_f19] at hw
          have hf_ml : f19 ml = .inl (cy 1, 5, .inl g1) := (congrFun e_f19 ml).trans (z_up_ne (z_tne hf_ml hf_me (m := 140) (n := 10) rfl rfl (by decide)) hf_ml)
          have hf_mh : f19 mh = .inl (cy 1, 30, .inl G5) := (congrFun e_f19 mh).trans (z_up_ne (z_tne hf_mh hf_me (m := 340) (n := 10) rfl rfl (by decide)) hf_mh)
          have hf_mj : f19 mj = .inl (cy 1, 25, .inl G9) := (congrFun e_f19 mj).trans (z_up_ne (z_tne hf_mj hf_me (m := 300) (n := 10) rfl rfl (by decide)) hf_mj)
          have hf_ms : f19 ms = .inl (cy 1, 20, .inl G13) := (congrFun e_f19 ms).trans (z_up_ne (z_tne hf_ms hf_me (m := 260) (n := 10) rfl rfl (by decide)) hf_ms)
          have hf_mg : f19 mg = .inl (cy 1, 180, .inl G17) := (congrFun e_f19 mg).trans (z_up_ne (z_tne hf_mg hf_me (m := 1540) (n := 10) rfl rfl (by decide)) hf_mg)
          have hf_me : f19 me = .inr (10, [.int 0, .ref mw, .ref mn, .ref mc, .ref mv, .ref mt, .int 0, .int 0, .int 0, .int 0, .int 0, .long 0, .int 0, .int 0, .int 0, .int (-1), .ref ml, .ref mh, .ref mj, .ref ms, .ref mg, .ref md, .int 0, .ref mk, .int (-1), .int 0, .long 0, .int 0, .int 0, .ref z29, .int 0, .ref z31, .ref z32, .ref z33, .ref z34, .ref z35, .int 0, .ref z37, .int 0, .ref z39, .int 0, .int 0, .int 0, .ref z43, .ref z44, .ref z45, .ref z46, .ref z47, .int 0, .ref z49, .ref z50, .ref z51, .int 0, .int 0]) := (congrFun e_f19 me).trans z_up_self
          have hfr : ∀ b ∈ L, b ≠ me → b ≠ ml → b ≠ mh → b ≠ mj → b ≠ ms → b ≠ mg → f19 b = f b := fun b hb h0 h1 h2 h3 h4 h5 => (congrFun e_f19 b).trans (z_up_ne h0 (hfr b hb h0 h1 h2 h3 h4 h5))
          exact z_vret hx hb hr hlk (by decide) (by decide) hw (⟨hsub, hfr, g1, G5, G9, G13, G17, hf_me, hf_ml, hf_mh, hf_mj, hf_ms, hf_mg, hl0⟩) dX10_clears_116
        · skip
          refine lv_aload_n hx hb dX10_clears_94 rfl (lv_at hl 1 rfl) ?_
          refine z_get (C := RX10) (T := TX10) (N := 54) (ci := 10) (v := .ref mg) hx hb hT zin_X10 hown hK hw hm_me hf_me rfl 20 (by decide) (hT _ kw_1188) rfl dX10_clears_95 ?_
          refine lv_sipush (v := 144) hx hb dX10_clears_98 (by decide) ?_
          refine lv_iload_n hx hb dX10_clears_101 rfl (lv_at hl 0 rfl) ?_
          refine lv_iadd hx hb dX10_clears_102 ?_
          refine lv_topi (fun w20 e_w20 => ?_)
          have i_w20 : w20.toInt = (144 + K15.toInt) := z_add e_w20 (show (144 : Int32).toInt = 144 by decide) rfl (by omega)
          refine lv_iconst (v := 0) hx hb dX10_clears_103 (by decide) ?_
          refine z_iast hx hb hK hw 1 hm_mg hf_mg rfl (z_ix i_w20 (by omega)) dX10_clears_104 (fun H locs hw => ?_)
          obtain ⟨f22, e_f22⟩ : ∃ z, z = va_up f16 mg (.inl (cy 1, 180, .inl (upd G17 w20.toNatClampNeg 0))) := ⟨_, rfl⟩
          rw [← e_f22] at hw
          have hf_me : f22 me = .inr (10, [.int 0, .ref mw, .ref mn, .ref mc, .ref mv, .ref mt, .int 0, .int 0, .int 0, .int 0, .int 0, .long 0, .int 0, .int 0, .int 0, .int (-1), .ref ml, .ref mh, .ref mj, .ref ms, .ref mg, .ref md, .int 0, .ref mk, .int (-1), .int 0, .long 0, .int 0, .int 0, .ref z29, .int 0, .ref z31, .ref z32, .ref z33, .ref z34, .ref z35, .int 0, .ref z37, .int 0, .ref z39, .int 0, .int 0, .int 0, .ref z43, .ref z44, .ref z45, .ref z46, .ref z47, .int 0, .ref z49, .ref z50, .ref z51, .int 0, .int 0]) := (congrFun e_f22 me).trans (z_up_ne (z_tne hf_me hf_mg (m := 10) (n := 1540) rfl rfl (by decide)) hf_me)
          have hf_ml : f22 ml = .inl (cy 1, 5, .inl g1) := (congrFun e_f22 ml).trans (z_up_ne (z_tne hf_ml hf_mg (m := 140) (n := 1540) rfl rfl (by decide)) hf_ml)
          have hf_mh : f22 mh = .inl (cy 1, 30, .inl G5) := (congrFun e_f22 mh).trans (z_up_ne (z_tne hf_mh hf_mg (m := 340) (n := 1540) rfl rfl (by decide)) hf_mh)
          have hf_mj : f22 mj = .inl (cy 1, 25, .inl G9) := (congrFun e_f22 mj).trans (z_up_ne (z_tne hf_mj hf_mg (m := 300) (n := 1540) rfl rfl (by decide)) hf_mj)
          have hf_ms : f22 ms = .inl (cy 1, 20, .inl G13) := (congrFun e_f22 ms).trans (z_up_ne (z_tne hf_ms hf_mg (m := 260) (n := 1540) rfl rfl (by decide)) hf_ms)
          have hf_mg : f22 mg = .inl (cy 1, 180, .inl (upd G17 w20.toNatClampNeg 0)) := (congrFun e_f22 mg).trans z_up_self
          have hfr : ∀ b ∈ L, b ≠ me → b ≠ ml → b ≠ mh → b ≠ mj → b ≠ ms → b ≠ mg → f22 b = f b := fun b hb h0 h1 h2 h3 h4 h5 => (congrFun e_f22 b).trans (z_up_ne h5 (hfr b hb h0 h1 h2 h3 h4 h5))
          obtain ⟨g21, e_g21⟩ : ∃ z, z = (upd G17 w20.toNatClampNeg 0) := ⟨_, rfl⟩
          rw [← e_g21] at hf_mg
          obtain ⟨k23, e_k23⟩ : ∃ z : Int32, z = K15 + 1 := ⟨_, rfl⟩
          refine lv_iinc (v := k23) (lv' := [(1, .int k23), (0, .ref me)]) hx hb dX10_clears_105 hl (k := 0) rfl (by rw [e_k23]; rfl) (by decide) rfl (fun ls hl => ?_)
          have i_k23 : k23.toInt = (K15.toInt + 1) := z_add e_k23 rfl (by decide) (by omega)
          refine lv_goto (tgt := 88) hx hb dX10_clears_108 (by decide) ?_
          exact ih _ (by omega) _ _ _ ⟨k23, g21, f22, rfl, (by first | decide | omega), (by first | decide | omega), hw, hf_me, hf_ml, hf_mh, hf_mj, hf_ms, hf_mg, hfr, (lv_sub hl [0, 1] rfl)⟩
      · skip
        refine lv_aload_n hx hb dX10_clears_70 rfl (lv_at hl 1 rfl) ?_
        refine z_get (C := RX10) (T := TX10) (N := 54) (ci := 10) (v := .ref ms) hx hb hT zin_X10 hown hK hw hm_me hf_me rfl 19 (by decide) (hT _ kw_1187) rfl dX10_clears_71 ?_
        refine lv_bipush (v := 16) hx hb dX10_clears_74 (by decide) ?_
        refine lv_iload_n hx hb dX10_clears_76 rfl (lv_at hl 0 rfl) ?_
        refine lv_iadd hx hb dX10_clears_77 ?_
        refine lv_topi (fun w24 e_w24 => ?_)
        have i_w24 : w24.toInt = (16 + K11.toInt) := z_add e_w24 (show (16 : Int32).toInt = 16 by decide) rfl (by omega)
        refine lv_iconst (v := 0) hx hb dX10_clears_78 (by decide) ?_
        refine z_iast hx hb hK hw 1 hm_ms hf_ms rfl (z_ix i_w24 (by omega)) dX10_clears_79 (fun H locs hw => ?_)
        obtain ⟨f26, e_f26⟩ : ∃ z, z = va_up f12 ms (.inl (cy 1, 20, .inl (upd G13 w24.toNatClampNeg 0))) := ⟨_, rfl⟩
        rw [← e_f26] at hw
        have hf_me : f26 me = .inr (10, [.int 0, .ref mw, .ref mn, .ref mc, .ref mv, .ref mt, .int 0, .int 0, .int 0, .int 0, .int 0, .long 0, .int 0, .int 0, .int 0, .int (-1), .ref ml, .ref mh, .ref mj, .ref ms, .ref mg, .ref md, .int 0, .ref mk, .int (-1), .int 0, .long 0, .int 0, .int 0, .ref z29, .int 0, .ref z31, .ref z32, .ref z33, .ref z34, .ref z35, .int 0, .ref z37, .int 0, .ref z39, .int 0, .int 0, .int 0, .ref z43, .ref z44, .ref z45, .ref z46, .ref z47, .int 0, .ref z49, .ref z50, .ref z51, .int 0, .int 0]) := (congrFun e_f26 me).trans (z_up_ne (z_tne hf_me hf_ms (m := 10) (n := 260) rfl rfl (by decide)) hf_me)
        have hf_ml : f26 ml = .inl (cy 1, 5, .inl g1) := (congrFun e_f26 ml).trans (z_up_ne (z_tne hf_ml hf_ms (m := 140) (n := 260) rfl rfl (by decide)) hf_ml)
        have hf_mh : f26 mh = .inl (cy 1, 30, .inl G5) := (congrFun e_f26 mh).trans (z_up_ne (z_tne hf_mh hf_ms (m := 340) (n := 260) rfl rfl (by decide)) hf_mh)
        have hf_mj : f26 mj = .inl (cy 1, 25, .inl G9) := (congrFun e_f26 mj).trans (z_up_ne (z_tne hf_mj hf_ms (m := 300) (n := 260) rfl rfl (by decide)) hf_mj)
        have hf_mg : f26 mg = .inl (cy 1, 180, .inl (fun _ => 0)) := (congrFun e_f26 mg).trans (z_up_ne (z_tne hf_mg hf_ms (m := 1540) (n := 260) rfl rfl (by decide)) hf_mg)
        have hf_ms : f26 ms = .inl (cy 1, 20, .inl (upd G13 w24.toNatClampNeg 0)) := (congrFun e_f26 ms).trans z_up_self
        have hfr : ∀ b ∈ L, b ≠ me → b ≠ ml → b ≠ mh → b ≠ mj → b ≠ ms → b ≠ mg → f26 b = f b := fun b hb h0 h1 h2 h3 h4 h5 => (congrFun e_f26 b).trans (z_up_ne h4 (hfr b hb h0 h1 h2 h3 h4 h5))
        obtain ⟨g25, e_g25⟩ : ∃ z, z = (upd G13 w24.toNatClampNeg 0) := ⟨_, rfl⟩
        rw [← e_g25] at hf_ms
        obtain ⟨k27, e_k27⟩ : ∃ z : Int32, z = K11 + 1 := ⟨_, rfl⟩
        refine lv_iinc (v := k27) (lv' := [(1, .int k27), (0, .ref me)]) hx hb dX10_clears_80 hl (k := 0) rfl (by rw [e_k27]; rfl) (by decide) rfl (fun ls hl => ?_)
        have i_k27 : k27.toInt = (K11.toInt + 1) := z_add e_k27 rfl (by decide) (by omega)
        refine lv_goto (tgt := 65) hx hb dX10_clears_83 (by decide) ?_
        exact ih _ (by omega) _ _ _ ⟨k27, g25, f26, rfl, (by first | decide | omega), (by first | decide | omega), hw, hf_me, hf_ml, hf_mh, hf_mj, hf_ms, hf_mg, hfr, (lv_sub hl [0, 1] rfl)⟩
    · skip
      refine lv_aload_n hx hb dX10_clears_47 rfl (lv_at hl 1 rfl) ?_
      refine z_get (C := RX10) (T := TX10) (N := 54) (ci := 10) (v := .ref mj) hx hb hT zin_X10 hown hK hw hm_me hf_me rfl 18 (by decide) (hT _ kw_1186) rfl dX10_clears_48 ?_
      refine lv_bipush (v := 20) hx hb dX10_clears_51 (by decide) ?_
      refine lv_iload_n hx hb dX10_clears_53 rfl (lv_at hl 0 rfl) ?_
      refine lv_iadd hx hb dX10_clears_54 ?_
      refine lv_topi (fun w28 e_w28 => ?_)
      have i_w28 : w28.toInt = (20 + K7.toInt) := z_add e_w28 (show (20 : Int32).toInt = 20 by decide) rfl (by omega)
      refine lv_iconst (v := 0) hx hb dX10_clears_55 (by decide) ?_
      refine z_iast hx hb hK hw 1 hm_mj hf_mj rfl (z_ix i_w28 (by omega)) dX10_clears_56 (fun H locs hw => ?_)
      obtain ⟨f30, e_f30⟩ : ∃ z, z = va_up f8 mj (.inl (cy 1, 25, .inl (upd G9 w28.toNatClampNeg 0))) := ⟨_, rfl⟩
      rw [← e_f30] at hw
      have hf_me : f30 me = .inr (10, [.int 0, .ref mw, .ref mn, .ref mc, .ref mv, .ref mt, .int 0, .int 0, .int 0, .int 0, .int 0, .long 0, .int 0, .int 0, .int 0, .int (-1), .ref ml, .ref mh, .ref mj, .ref ms, .ref mg, .ref md, .int 0, .ref mk, .int (-1), .int 0, .long 0, .int 0, .int 0, .ref z29, .int 0, .ref z31, .ref z32, .ref z33, .ref z34, .ref z35, .int 0, .ref z37, .int 0, .ref z39, .int 0, .int 0, .int 0, .ref z43, .ref z44, .ref z45, .ref z46, .ref z47, .int 0, .ref z49, .ref z50, .ref z51, .int 0, .int 0]) := (congrFun e_f30 me).trans (z_up_ne (z_tne hf_me hf_mj (m := 10) (n := 300) rfl rfl (by decide)) hf_me)
      have hf_ml : f30 ml = .inl (cy 1, 5, .inl g1) := (congrFun e_f30 ml).trans (z_up_ne (z_tne hf_ml hf_mj (m := 140) (n := 300) rfl rfl (by decide)) hf_ml)
      have hf_mh : f30 mh = .inl (cy 1, 30, .inl G5) := (congrFun e_f30 mh).trans (z_up_ne (z_tne hf_mh hf_mj (m := 340) (n := 300) rfl rfl (by decide)) hf_mh)
      have hf_ms : f30 ms = .inl (cy 1, 20, .inl (fun _ => 0)) := (congrFun e_f30 ms).trans (z_up_ne (z_tne hf_ms hf_mj (m := 260) (n := 300) rfl rfl (by decide)) hf_ms)
      have hf_mg : f30 mg = .inl (cy 1, 180, .inl (fun _ => 0)) := (congrFun e_f30 mg).trans (z_up_ne (z_tne hf_mg hf_mj (m := 1540) (n := 300) rfl rfl (by decide)) hf_mg)
      have hf_mj : f30 mj = .inl (cy 1, 25, .inl (upd G9 w28.toNatClampNeg 0)) := (congrFun e_f30 mj).trans z_up_self
      have hfr : ∀ b ∈ L, b ≠ me → b ≠ ml → b ≠ mh → b ≠ mj → b ≠ ms → b ≠ mg → f30 b = f b := fun b hb h0 h1 h2 h3 h4 h5 => (congrFun e_f30 b).trans (z_up_ne h3 (hfr b hb h0 h1 h2 h3 h4 h5))
      obtain ⟨g29, e_g29⟩ : ∃ z, z = (upd G9 w28.toNatClampNeg 0) := ⟨_, rfl⟩
      rw [← e_g29] at hf_mj
      obtain ⟨k31, e_k31⟩ : ∃ z : Int32, z = K7 + 1 := ⟨_, rfl⟩
      refine lv_iinc (v := k31) (lv' := [(1, .int k31), (0, .ref me)]) hx hb dX10_clears_57 hl (k := 0) rfl (by rw [e_k31]; rfl) (by decide) rfl (fun ls hl => ?_)
      have i_k31 : k31.toInt = (K7.toInt + 1) := z_add e_k31 rfl (by decide) (by omega)
      refine lv_goto (tgt := 42) hx hb dX10_clears_60 (by decide) ?_
      exact ih _ (by omega) _ _ _ ⟨k31, g29, f30, rfl, (by first | decide | omega), (by first | decide | omega), hw, hf_me, hf_ml, hf_mh, hf_mj, hf_ms, hf_mg, hfr, (lv_sub hl [0, 1] rfl)⟩
  · skip
    refine lv_aload_n hx hb dX10_clears_15 rfl (lv_at hl 1 rfl) ?_
    refine z_get (C := RX10) (T := TX10) (N := 54) (ci := 10) (v := .ref mh) hx hb hT zin_X10 hown hK hw hm_me hf_me rfl 17 (by decide) (hT _ kw_1185) rfl dX10_clears_16 ?_
    refine lv_bipush (v := 24) hx hb dX10_clears_19 (by decide) ?_
    refine lv_iload_n hx hb dX10_clears_21 rfl (lv_at hl 0 rfl) ?_
    refine lv_iadd hx hb dX10_clears_22 ?_
    refine lv_topi (fun w32 e_w32 => ?_)
    have i_w32 : w32.toInt = (24 + K3.toInt) := z_add e_w32 (show (24 : Int32).toInt = 24 by decide) rfl (by omega)
    refine lv_iload_n hx hb dX10_clears_23 rfl (lv_at hl 0 rfl) ?_
    refine lv_iconst (v := 2) hx hb dX10_clears_24 (by decide) ?_
    refine z_icmp_ne (tgt := 32) hx hb rfl (show (2 : Int32).toInt = 2 by decide) dX10_clears_25 (by decide) (fun c33 => ?_) (fun c33 => ?_)
    · skip
      refine lv_iconst (v := 0) hx hb dX10_clears_32 (by decide) ?_
      refine z_iast hx hb hK hw 1 hm_mh hf_mh rfl (z_ix i_w32 (by omega)) dX10_clears_33 (fun H locs hw => ?_)
      obtain ⟨f35, e_f35⟩ : ∃ z, z = va_up f4 mh (.inl (cy 1, 30, .inl (upd G5 w32.toNatClampNeg 0))) := ⟨_, rfl⟩
      rw [← e_f35] at hw
      have hf_me : f35 me = .inr (10, [.int 0, .ref mw, .ref mn, .ref mc, .ref mv, .ref mt, .int 0, .int 0, .int 0, .int 0, .int 0, .long 0, .int 0, .int 0, .int 0, .int (-1), .ref ml, .ref mh, .ref mj, .ref ms, .ref mg, .ref md, .int 0, .ref mk, .int (-1), .int 0, .long 0, .int 0, .int 0, .ref z29, .int 0, .ref z31, .ref z32, .ref z33, .ref z34, .ref z35, .int 0, .ref z37, .int 0, .ref z39, .int 0, .int 0, .int 0, .ref z43, .ref z44, .ref z45, .ref z46, .ref z47, .int 0, .ref z49, .ref z50, .ref z51, .int 0, .int 0]) := (congrFun e_f35 me).trans (z_up_ne (z_tne hf_me hf_mh (m := 10) (n := 340) rfl rfl (by decide)) hf_me)
      have hf_ml : f35 ml = .inl (cy 1, 5, .inl g1) := (congrFun e_f35 ml).trans (z_up_ne (z_tne hf_ml hf_mh (m := 140) (n := 340) rfl rfl (by decide)) hf_ml)
      have hf_mj : f35 mj = .inl (cy 1, 25, .inl (fun _ => 0)) := (congrFun e_f35 mj).trans (z_up_ne (z_tne hf_mj hf_mh (m := 300) (n := 340) rfl rfl (by decide)) hf_mj)
      have hf_ms : f35 ms = .inl (cy 1, 20, .inl (fun _ => 0)) := (congrFun e_f35 ms).trans (z_up_ne (z_tne hf_ms hf_mh (m := 260) (n := 340) rfl rfl (by decide)) hf_ms)
      have hf_mg : f35 mg = .inl (cy 1, 180, .inl (fun _ => 0)) := (congrFun e_f35 mg).trans (z_up_ne (z_tne hf_mg hf_mh (m := 1540) (n := 340) rfl rfl (by decide)) hf_mg)
      have hf_mh : f35 mh = .inl (cy 1, 30, .inl (upd G5 w32.toNatClampNeg 0)) := (congrFun e_f35 mh).trans z_up_self
      have hfr : ∀ b ∈ L, b ≠ me → b ≠ ml → b ≠ mh → b ≠ mj → b ≠ ms → b ≠ mg → f35 b = f b := fun b hb h0 h1 h2 h3 h4 h5 => (congrFun e_f35 b).trans (z_up_ne h2 (hfr b hb h0 h1 h2 h3 h4 h5))
      obtain ⟨g34, e_g34⟩ : ∃ z, z = (upd G5 w32.toNatClampNeg 0) := ⟨_, rfl⟩
      rw [← e_g34] at hf_mh
      obtain ⟨k36, e_k36⟩ : ∃ z : Int32, z = K3 + 1 := ⟨_, rfl⟩
      refine lv_iinc (v := k36) (lv' := [(1, .int k36), (0, .ref me)]) hx hb dX10_clears_34 hl (k := 0) rfl (by rw [e_k36]; rfl) (by decide) rfl (fun ls hl => ?_)
      have i_k36 : k36.toInt = (K3.toInt + 1) := z_add e_k36 rfl (by decide) (by omega)
      refine lv_goto (tgt := 9) hx hb dX10_clears_37 (by decide) ?_
      exact ih _ (by omega) _ _ _ ⟨k36, g34, f35, rfl, (by first | decide | omega), (by first | decide | omega), hw, hf_me, hf_ml, hf_mh, hf_mj, hf_ms, hf_mg, hfr, (lv_sub hl [0, 1] rfl)⟩
    · skip
      refine lv_iconst (v := 1) hx hb dX10_clears_28 (by decide) ?_
      refine lv_goto (tgt := 33) hx hb dX10_clears_29 (by decide) ?_
      refine z_iast hx hb hK hw 1 hm_mh hf_mh rfl (z_ix i_w32 (by omega)) dX10_clears_33 (fun H locs hw => ?_)
      obtain ⟨f38, e_f38⟩ : ∃ z, z = va_up f4 mh (.inl (cy 1, 30, .inl (upd G5 w32.toNatClampNeg 1))) := ⟨_, rfl⟩
      rw [← e_f38] at hw
      have hf_me : f38 me = .inr (10, [.int 0, .ref mw, .ref mn, .ref mc, .ref mv, .ref mt, .int 0, .int 0, .int 0, .int 0, .int 0, .long 0, .int 0, .int 0, .int 0, .int (-1), .ref ml, .ref mh, .ref mj, .ref ms, .ref mg, .ref md, .int 0, .ref mk, .int (-1), .int 0, .long 0, .int 0, .int 0, .ref z29, .int 0, .ref z31, .ref z32, .ref z33, .ref z34, .ref z35, .int 0, .ref z37, .int 0, .ref z39, .int 0, .int 0, .int 0, .ref z43, .ref z44, .ref z45, .ref z46, .ref z47, .int 0, .ref z49, .ref z50, .ref z51, .int 0, .int 0]) := (congrFun e_f38 me).trans (z_up_ne (z_tne hf_me hf_mh (m := 10) (n := 340) rfl rfl (by decide)) hf_me)
      have hf_ml : f38 ml = .inl (cy 1, 5, .inl g1) := (congrFun e_f38 ml).trans (z_up_ne (z_tne hf_ml hf_mh (m := 140) (n := 340) rfl rfl (by decide)) hf_ml)
      have hf_mj : f38 mj = .inl (cy 1, 25, .inl (fun _ => 0)) := (congrFun e_f38 mj).trans (z_up_ne (z_tne hf_mj hf_mh (m := 300) (n := 340) rfl rfl (by decide)) hf_mj)
      have hf_ms : f38 ms = .inl (cy 1, 20, .inl (fun _ => 0)) := (congrFun e_f38 ms).trans (z_up_ne (z_tne hf_ms hf_mh (m := 260) (n := 340) rfl rfl (by decide)) hf_ms)
      have hf_mg : f38 mg = .inl (cy 1, 180, .inl (fun _ => 0)) := (congrFun e_f38 mg).trans (z_up_ne (z_tne hf_mg hf_mh (m := 1540) (n := 340) rfl rfl (by decide)) hf_mg)
      have hf_mh : f38 mh = .inl (cy 1, 30, .inl (upd G5 w32.toNatClampNeg 1)) := (congrFun e_f38 mh).trans z_up_self
      have hfr : ∀ b ∈ L, b ≠ me → b ≠ ml → b ≠ mh → b ≠ mj → b ≠ ms → b ≠ mg → f38 b = f b := fun b hb h0 h1 h2 h3 h4 h5 => (congrFun e_f38 b).trans (z_up_ne h2 (hfr b hb h0 h1 h2 h3 h4 h5))
      obtain ⟨g37, e_g37⟩ : ∃ z, z = (upd G5 w32.toNatClampNeg 1) := ⟨_, rfl⟩
      rw [← e_g37] at hf_mh
      obtain ⟨k39, e_k39⟩ : ∃ z : Int32, z = K3 + 1 := ⟨_, rfl⟩
      refine lv_iinc (v := k39) (lv' := [(1, .int k39), (0, .ref me)]) hx hb dX10_clears_34 hl (k := 0) rfl (by rw [e_k39]; rfl) (by decide) rfl (fun ls hl => ?_)
      have i_k39 : k39.toInt = (K3.toInt + 1) := z_add e_k39 rfl (by decide) (by omega)
      refine lv_goto (tgt := 9) hx hb dX10_clears_37 (by decide) ?_
      exact ih _ (by omega) _ _ _ ⟨k39, g37, f38, rfl, (by first | decide | omega), (by first | decide | omega), hw, hf_me, hf_ml, hf_mh, hf_mj, hf_ms, hf_mg, hfr, (lv_sub hl [0, 1] rfl)⟩

set_option maxHeartbeats 2000000 in
set_option maxRecDepth 100000 in
theorem c_X10_copyRow (l : Launch) {D : va_G} {cy : Nat → ClassId} {L : List Nat} {f : Nat → va_E} {sz : Nat} {a nn : Nat} {g : Nat → Int32} {xb xc xd : Int32} (hm_a : a ∈ L) (hf_a : f a = .inl (cy 1, nn, .inl g)) (hnn : nn < 2147483648) (hb0 : 0 ≤ xb.toInt) (hc0 : 0 ≤ xb.toInt * xc.toInt ∧ xb.toInt * xc.toInt + xb.toInt ≤ nn) (hd0 : 0 ≤ xb.toInt * xd.toInt ∧ xb.toInt * xd.toInt + xb.toInt ≤ nn) : Met l yX10_copyRow (z_ws yX10_copyRow cX10_copyRow 5 none) (z_R 1 0 0) (va_Pc [.ref a, .int xb, .int xc, .int xd] (z_Pre D vwCl (z_K D cy) L f sz)) (z_Qv D vwCl (fun u => (∀ b ∈ L, b ∈ u.1) ∧ (∀ b ∈ L, b ≠ a → u.2 b = f b) ∧ (∃ (g2 : Nat → Int32), (u.2 a = .inl (cy 1, nn, .inl g2)) ∧ ((∀ j : Nat, g j = 0) → ∀ j : Nat, g2 j = 0))) L sz) 0 0 (z_A L sz) := by
  refine z_met (cc := cX10_copyRow) (maxL := 5) (ret := none) (lv := [(0, .ref a), (1, .int xb), (2, .int xc), (3, .int xd)]) (by decide) rfl (Nat.le_of_ble_eq_true rfl) rfl ?_
  intro p e s m below meth c ls hx hb hr hlk hml hown hnm hts hKK hA hw hl
  have hK := hKK.1
  have hown : s.vm.findClass RX10 = some m.cls := hown
  have hT : ∀ w ∈ lw_all, w.before ([.ref a, .int xb, .int xc, .int xd] : List Value).toArray s = true := fun w h => hts w (z_cons w h)
  have hsub : ∀ b ∈ L, b ∈ L := fun _ h => h
  have hfr : ∀ b ∈ L, b ≠ a → f b = f b := fun _ _ _ => rfl
  refine lv_iconst (v := 0) hx hb dX10_copyRow_0 (by decide) ?_
  refine lv_istore (lv' := [(4, .int 0), (0, .ref a), (1, .int xb), (2, .int xc), (3, .int xd)]) hx hb dX10_copyRow_1 hl (by decide) rfl (fun ls hl => ?_)
  have hzk : (0 : Int32).toInt = 0 := by decide
  refine z_loop (fun n H locs ls => ∃ (K1 : Int32) (G3 : Nat → Int32) (f2 : Nat → va_E), (n = (xb.toInt - K1.toInt).toNat) ∧ (0 ≤ K1.toInt) ∧ (K1.toInt ≤ xb.toInt) ∧ ((∀ j : Nat, g j = 0) → ∀ j : Nat, G3 j = 0) ∧ (z_H D vwCl (z_A L sz) s.heap L f2 H locs) ∧ (f2 a = .inl (cy 1, nn, .inl G3)) ∧ (∀ b ∈ L, b ≠ a → f2 b = f b) ∧ (lv_has ls 5 [(4, .int K1), (0, .ref a), (1, .int xb), (2, .int xc), (3, .int xd)])) _ ⟨0, g, f, rfl, (by first | decide | omega), (by first | decide | omega), (fun h => h), hw, hf_a, hfr, (lv_sub hl [0, 1, 2, 3, 4] rfl)⟩ (fun n H locs ls hI ih => ?_)
  obtain ⟨K1, G3, f2, hn, hk0, hk1, hi0, hw, hf_a, hfr, hl⟩ := hI
  refine lv_iload hx hb dX10_copyRow_3 (lv_at hl 0 rfl) ?_
  refine lv_iload_n hx hb dX10_copyRow_5 rfl (lv_at hl 2 rfl) ?_
  refine z_icmp_ge (tgt := 31) hx hb rfl rfl dX10_copyRow_6 (by decide) (fun c4 => ?_) (fun c4 => ?_)
  · skip
    exact z_vret hx hb hr hlk (by decide) (by decide) hw (⟨hsub, hfr, _, hf_a, hi0⟩) dX10_copyRow_31
  · skip
    refine lv_aload_n hx hb dX10_copyRow_9 rfl (lv_at hl 1 rfl) ?_
    refine lv_iload_n hx hb dX10_copyRow_10 rfl (lv_at hl 2 rfl) ?_
    refine lv_iload_n hx hb dX10_copyRow_11 rfl (lv_at hl 4 rfl) ?_
    refine lv_imul hx hb dX10_copyRow_12 ?_
    refine lv_topi (fun w5 e_w5 => ?_)
    have i_w5 : w5.toInt = (xb.toInt * xd.toInt) := z_mul e_w5 rfl rfl (by omega)
    refine lv_iload hx hb dX10_copyRow_13 (lv_at hl 0 rfl) ?_
    refine lv_iadd hx hb dX10_copyRow_15 ?_
    refine lv_topi (fun w6 e_w6 => ?_)
    have i_w6 : w6.toInt = ((xb.toInt * xd.toInt) + K1.toInt) := z_add e_w6 i_w5 rfl (by omega)
    refine lv_aload_n hx hb dX10_copyRow_16 rfl (lv_at hl 1 rfl) ?_
    refine lv_iload_n hx hb dX10_copyRow_17 rfl (lv_at hl 2 rfl) ?_
    refine lv_iload_n hx hb dX10_copyRow_18 rfl (lv_at hl 3 rfl) ?_
    refine lv_imul hx hb dX10_copyRow_19 ?_
    refine lv_topi (fun w7 e_w7 => ?_)
    have i_w7 : w7.toInt = (xb.toInt * xc.toInt) := z_mul e_w7 rfl rfl (by omega)
    refine lv_iload hx hb dX10_copyRow_20 (lv_at hl 0 rfl) ?_
    refine lv_iadd hx hb dX10_copyRow_22 ?_
    refine lv_topi (fun w8 e_w8 => ?_)
    have i_w8 : w8.toInt = ((xb.toInt * xc.toInt) + K1.toInt) := z_add e_w8 i_w7 rfl (by omega)
    refine z_iald hx hb hK hw 1 hm_a hf_a rfl (z_ix i_w8 (by omega)) dX10_copyRow_23 ?_
    refine lv_topi (fun w9 e_w9 => ?_)
    refine z_iast hx hb hK hw 1 hm_a hf_a rfl (z_ix i_w6 (by omega)) dX10_copyRow_24 (fun H locs hw => ?_)
    obtain ⟨f11, e_f11⟩ : ∃ z, z = va_up f2 a (.inl (cy 1, nn, .inl (upd G3 w6.toNatClampNeg w9))) := ⟨_, rfl⟩
    rw [← e_f11] at hw
    have hf_a : f11 a = .inl (cy 1, nn, .inl (upd G3 w6.toNatClampNeg w9)) := (congrFun e_f11 a).trans z_up_self
    have hfr : ∀ b ∈ L, b ≠ a → f11 b = f b := fun b hb h0 => (congrFun e_f11 b).trans (z_up_ne h0 (hfr b hb h0))
    obtain ⟨g10, e_g10⟩ : ∃ z, z = (upd G3 w6.toNatClampNeg w9) := ⟨_, rfl⟩
    rw [← e_g10] at hf_a
    obtain ⟨k12, e_k12⟩ : ∃ z : Int32, z = K1 + 1 := ⟨_, rfl⟩
    refine lv_iinc (v := k12) (lv' := [(4, .int k12), (0, .ref a), (1, .int xb), (2, .int xc), (3, .int xd)]) hx hb dX10_copyRow_25 hl (k := 0) rfl (by rw [e_k12]; rfl) (by decide) rfl (fun ls hl => ?_)
    have i_k12 : k12.toInt = (K1.toInt + 1) := z_add e_k12 rfl (by decide) (by omega)
    refine lv_goto (tgt := 3) hx hb dX10_copyRow_28 (by decide) ?_
    exact ih _ (by omega) _ _ _ ⟨k12, g10, f11, rfl, (by first | decide | omega), (by first | decide | omega), (z_upd0 hi0 e_g10 (by assumption)), hw, hf_a, hfr, (lv_sub hl [0, 1, 2, 3, 4] rfl)⟩

set_option maxHeartbeats 2000000 in
set_option maxRecDepth 100000 in
theorem c_X10_copyMoor (l : Launch) {D : va_G} {cy : Nat → ClassId} {L : List Nat} {f : Nat → va_E} {sz : Nat} {me mw mn mc mv mt ml mh mj ms mg md mk z29 z31 z32 z33 z34 z35 z37 z39 z43 z44 z45 z46 z47 z49 z50 z51 : Nat} {gl gh gj gq gf gd : Nat → Int32} {xa xb : Int32} {t13 : Int32} (hm_me : me ∈ L) (hm_ml : ml ∈ L) (hm_mh : mh ∈ L) (hm_mj : mj ∈ L) (hm_ms : ms ∈ L) (hm_mg : mg ∈ L) (hm_md : md ∈ L) (hf_me : f me = .inr (10, [.int 0, .ref mw, .ref mn, .ref mc, .ref mv, .ref mt, .int 0, .int 0, .int 0, .int 0, .int 0, .long 0, .int 0, .int t13, .int 0, .int (-1), .ref ml, .ref mh, .ref mj, .ref ms, .ref mg, .ref md, .int 0, .ref mk, .int (-1), .int 0, .long 0, .int 0, .int 0, .ref z29, .int 0, .ref z31, .ref z32, .ref z33, .ref z34, .ref z35, .int 0, .ref z37, .int 0, .ref z39, .int 0, .int 0, .int 0, .ref z43, .ref z44, .ref z45, .ref z46, .ref z47, .int 0, .ref z49, .ref z50, .ref z51, .int 0, .int 0])) (hf_ml : f ml = .inl (cy 1, 5, .inl gl)) (hf_mh : f mh = .inl (cy 1, 30, .inl gh)) (hf_mj : f mj = .inl (cy 1, 25, .inl gj)) (hf_ms : f ms = .inl (cy 1, 20, .inl gq)) (hf_mg : f mg = .inl (cy 1, 180, .inl gf)) (hf_md : f md = .inl (cy 1, 520, .inl gd)) (ha : 0 ≤ xa.toInt ∧ xa.toInt ≤ 4) (hb : 0 ≤ xb.toInt ∧ xb.toInt ≤ 4) : Met l yX10_copyMoor (z_ws yX10_copyMoor cX10_copyMoor 3 none) (z_R 2 0 0) (va_Pc [.ref me, .int xa, .int xb] (z_Pre D vwCl (z_K D cy) L f sz)) (z_Qv D vwCl (fun u => (∀ b ∈ L, b ∈ u.1) ∧ (∀ b ∈ L, b ≠ ml → b ≠ mh → b ≠ mj → b ≠ ms → b ≠ mg → b ≠ md → u.2 b = f b) ∧ (∃ (k1 k2 k3 k4 k5 k6 : Nat → Int32), (u.2 ml = .inl (cy 1, 5, .inl k1)) ∧ (u.2 mh = .inl (cy 1, 30, .inl k2)) ∧ (u.2 mj = .inl (cy 1, 25, .inl k3)) ∧ (u.2 ms = .inl (cy 1, 20, .inl k4)) ∧ (u.2 mg = .inl (cy 1, 180, .inl k5)) ∧ (u.2 md = .inl (cy 1, 520, .inl k6)) ∧ ((∀ j : Nat, gl j = 0) → ∀ j : Nat, k1 j = 0))) L sz) 0 0 (z_A L sz) := by
  refine z_met (cc := cX10_copyMoor) (maxL := 3) (ret := none) (lv := [(0, .ref me), (1, .int xa), (2, .int xb)]) (by decide) rfl (Nat.le_of_ble_eq_true rfl) rfl ?_
  intro p e s m below meth c ls hx hb hr hlk hml hown hnm hts hKK hA hw hl
  have hK := hKK.1
  have hown : s.vm.findClass RX10 = some m.cls := hown
  have hT : ∀ w ∈ lw_all, w.before ([.ref me, .int xa, .int xb] : List Value).toArray s = true := fun w h => hts w (z_cons w h)
  have hsub : ∀ b ∈ L, b ∈ L := fun _ h => h
  have hfr : ∀ b ∈ L, b ≠ ml → b ≠ mh → b ≠ mj → b ≠ ms → b ≠ mg → b ≠ md → f b = f b := fun _ _ _ _ _ _ _ _ => rfl
  refine lv_aload_n hx hb dX10_copyMoor_0 rfl (lv_at hl 0 rfl) ?_
  refine z_get (C := RX10) (T := TX10) (N := 54) (ci := 10) (v := .ref ml) hx hb hT zin_X10 hown hK hw hm_me hf_me rfl 16 (by decide) (hT _ kw_1184) rfl dX10_copyMoor_1 ?_
  refine lv_iconst (v := 1) hx hb dX10_copyMoor_4 (by decide) ?_
  refine lv_iload_n hx hb dX10_copyMoor_5 rfl (lv_at hl 1 rfl) ?_
  refine lv_iload_n hx hb dX10_copyMoor_6 rfl (lv_at hl 2 rfl) ?_
  have hz1 := (show (1 : Int32).toInt = 1 by decide)
  refine z_callvS (cells := 0) (slots := 0) (As := [.ref ml, .int 1, .int xa, .int xb]) (rest := []) ⟨hx, hb, hml, hown, hT⟩ (c_X10_copyRow l hm_ml hf_ml (by decide) (by decide) (by rw [show (1 : Int32).toInt = 1 by decide]; omega) (by rw [show (1 : Int32).toInt = 1 by decide]; omega)) (va_cwS 4 hT (z_goodS (fun _ h => h) kw_1475 kw_1476 kw_96 kw_1477) rfl rfl rfl (by decide +kernel) ⟨by decide, by decide⟩) z_mv hKK hw hA rfl hl.1 rfl (Nat.le_of_ble_eq_true rfl) dX10_copyMoor_7 ⟨by decide, by decide⟩ (fun u H locs hp hw => ?_)
  obtain ⟨L2, f3⟩ := u
  obtain ⟨hsb, hfm, g2_4, ha_0, hp⟩ := hp
  have hw : z_H D vwCl (z_A L sz) s.heap L2 f3 H locs := hw
  have hfr : ∀ b ∈ L, b ≠ ml → b ≠ mh → b ≠ mj → b ≠ ms → b ≠ mg → b ≠ md → f3 b = f b := fun b hb h0 h1 h2 h3 h4 h5 => (hfm b (hsub b hb) h0).trans (hfr b hb h0 h1 h2 h3 h4 h5)
  have hsub : ∀ b ∈ L, b ∈ L2 := fun b h => hsb b (hsub b h)
  have hf_me : f3 me = .inr (10, [.int 0, .ref mw, .ref mn, .ref mc, .ref mv, .ref mt, .int 0, .int 0, .int 0, .int 0, .int 0, .long 0, .int 0, .int t13, .int 0, .int (-1), .ref ml, .ref mh, .ref mj, .ref ms, .ref mg, .ref md, .int 0, .ref mk, .int (-1), .int 0, .long 0, .int 0, .int 0, .ref z29, .int 0, .ref z31, .ref z32, .ref z33, .ref z34, .ref z35, .int 0, .ref z37, .int 0, .ref z39, .int 0, .int 0, .int 0, .ref z43, .ref z44, .ref z45, .ref z46, .ref z47, .int 0, .ref z49, .ref z50, .ref z51, .int 0, .int 0]) := (hfm me hm_me (z_tne hf_me hf_ml (m := 10) (n := 140) rfl rfl (by decide))).trans hf_me
  have hf_mh : f3 mh = .inl (cy 1, 30, .inl gh) := (hfm mh hm_mh (z_tne hf_mh hf_ml (m := 340) (n := 140) rfl rfl (by decide))).trans hf_mh
  have hf_mj : f3 mj = .inl (cy 1, 25, .inl gj) := (hfm mj hm_mj (z_tne hf_mj hf_ml (m := 300) (n := 140) rfl rfl (by decide))).trans hf_mj
  have hf_ms : f3 ms = .inl (cy 1, 20, .inl gq) := (hfm ms hm_ms (z_tne hf_ms hf_ml (m := 260) (n := 140) rfl rfl (by decide))).trans hf_ms
  have hf_mg : f3 mg = .inl (cy 1, 180, .inl gf) := (hfm mg hm_mg (z_tne hf_mg hf_ml (m := 1540) (n := 140) rfl rfl (by decide))).trans hf_mg
  have hf_md : f3 md = .inl (cy 1, 520, .inl gd) := (hfm md hm_md (z_tne hf_md hf_ml (m := 4260) (n := 140) rfl rfl (by decide))).trans hf_md
  have hm_me : me ∈ L2 := hsb _ hm_me
  have hm_ml : ml ∈ L2 := hsb _ hm_ml
  have hm_mh : mh ∈ L2 := hsb _ hm_mh
  have hm_mj : mj ∈ L2 := hsb _ hm_mj
  have hm_ms : ms ∈ L2 := hsb _ hm_ms
  have hm_mg : mg ∈ L2 := hsb _ hm_mg
  have hm_md : md ∈ L2 := hsb _ hm_md
  have hf_ml : f3 ml = .inl (cy 1, 5, .inl g2_4) := ha_0
  have hcl := hp
  refine lv_aload_n hx hb dX10_copyMoor_10 rfl (lv_at hl 0 rfl) ?_
  refine z_get (C := RX10) (T := TX10) (N := 54) (ci := 10) (v := .ref mh) hx hb hT zin_X10 hown hK hw hm_me hf_me rfl 17 (by decide) (hT _ kw_1185) rfl dX10_copyMoor_11 ?_
  refine lv_bipush (v := 6) hx hb dX10_copyMoor_14 (by decide) ?_
  refine lv_iload_n hx hb dX10_copyMoor_16 rfl (lv_at hl 1 rfl) ?_
  refine lv_iload_n hx hb dX10_copyMoor_17 rfl (lv_at hl 2 rfl) ?_
  have hz5 := (show (6 : Int32).toInt = 6 by decide)
  refine z_callvS (cells := 0) (slots := 0) (As := [.ref mh, .int 6, .int xa, .int xb]) (rest := []) ⟨hx, hb, hml, hown, hT⟩ (c_X10_copyRow l hm_mh hf_mh (by decide) (by decide) (by rw [show (6 : Int32).toInt = 6 by decide]; omega) (by rw [show (6 : Int32).toInt = 6 by decide]; omega)) (va_cwS 4 hT (z_goodS (fun _ h => h) kw_1475 kw_1476 kw_96 kw_1477) rfl rfl rfl (by decide +kernel) ⟨by decide, by decide⟩) z_mv hKK hw hA rfl hl.1 rfl (Nat.le_of_ble_eq_true rfl) dX10_copyMoor_18 ⟨by decide, by decide⟩ (fun u H locs hp hw => ?_)
  obtain ⟨L6, f7⟩ := u
  obtain ⟨hsb, hfm, g2_8, ha_0, hp⟩ := hp
  have hw : z_H D vwCl (z_A L sz) s.heap L6 f7 H locs := hw
  have hfr : ∀ b ∈ L, b ≠ ml → b ≠ mh → b ≠ mj → b ≠ ms → b ≠ mg → b ≠ md → f7 b = f b := fun b hb h0 h1 h2 h3 h4 h5 => (hfm b (hsub b hb) h1).trans (hfr b hb h0 h1 h2 h3 h4 h5)
  have hsub : ∀ b ∈ L, b ∈ L6 := fun b h => hsb b (hsub b h)
  have hf_me : f7 me = .inr (10, [.int 0, .ref mw, .ref mn, .ref mc, .ref mv, .ref mt, .int 0, .int 0, .int 0, .int 0, .int 0, .long 0, .int 0, .int t13, .int 0, .int (-1), .ref ml, .ref mh, .ref mj, .ref ms, .ref mg, .ref md, .int 0, .ref mk, .int (-1), .int 0, .long 0, .int 0, .int 0, .ref z29, .int 0, .ref z31, .ref z32, .ref z33, .ref z34, .ref z35, .int 0, .ref z37, .int 0, .ref z39, .int 0, .int 0, .int 0, .ref z43, .ref z44, .ref z45, .ref z46, .ref z47, .int 0, .ref z49, .ref z50, .ref z51, .int 0, .int 0]) := (hfm me hm_me (z_tne hf_me hf_mh (m := 10) (n := 340) rfl rfl (by decide))).trans hf_me
  have hf_ml : f7 ml = .inl (cy 1, 5, .inl g2_4) := (hfm ml hm_ml (z_tne hf_ml hf_mh (m := 140) (n := 340) rfl rfl (by decide))).trans hf_ml
  have hf_mj : f7 mj = .inl (cy 1, 25, .inl gj) := (hfm mj hm_mj (z_tne hf_mj hf_mh (m := 300) (n := 340) rfl rfl (by decide))).trans hf_mj
  have hf_ms : f7 ms = .inl (cy 1, 20, .inl gq) := (hfm ms hm_ms (z_tne hf_ms hf_mh (m := 260) (n := 340) rfl rfl (by decide))).trans hf_ms
  have hf_mg : f7 mg = .inl (cy 1, 180, .inl gf) := (hfm mg hm_mg (z_tne hf_mg hf_mh (m := 1540) (n := 340) rfl rfl (by decide))).trans hf_mg
  have hf_md : f7 md = .inl (cy 1, 520, .inl gd) := (hfm md hm_md (z_tne hf_md hf_mh (m := 4260) (n := 340) rfl rfl (by decide))).trans hf_md
  have hm_me : me ∈ L6 := hsb _ hm_me
  have hm_ml : ml ∈ L6 := hsb _ hm_ml
  have hm_mh : mh ∈ L6 := hsb _ hm_mh
  have hm_mj : mj ∈ L6 := hsb _ hm_mj
  have hm_ms : ms ∈ L6 := hsb _ hm_ms
  have hm_mg : mg ∈ L6 := hsb _ hm_mg
  have hm_md : md ∈ L6 := hsb _ hm_md
  have hf_mh : f7 mh = .inl (cy 1, 30, .inl g2_8) := ha_0
  refine lv_aload_n hx hb dX10_copyMoor_21 rfl (lv_at hl 0 rfl) ?_
  refine z_get (C := RX10) (T := TX10) (N := 54) (ci := 10) (v := .ref mj) hx hb hT zin_X10 hown hK hw hm_me hf_me rfl 18 (by decide) (hT _ kw_1186) rfl dX10_copyMoor_22 ?_
  refine lv_iconst (v := 5) hx hb dX10_copyMoor_25 (by decide) ?_
  refine lv_iload_n hx hb dX10_copyMoor_26 rfl (lv_at hl 1 rfl) ?_
  refine lv_iload_n hx hb dX10_copyMoor_27 rfl (lv_at hl 2 rfl) ?_
  have hz9 := (show (5 : Int32).toInt = 5 by decide)
  refine z_callvS (cells := 0) (slots := 0) (As := [.ref mj, .int 5, .int xa, .int xb]) (rest := []) ⟨hx, hb, hml, hown, hT⟩ (c_X10_copyRow l hm_mj hf_mj (by decide) (by decide) (by rw [show (5 : Int32).toInt = 5 by decide]; omega) (by rw [show (5 : Int32).toInt = 5 by decide]; omega)) (va_cwS 4 hT (z_goodS (fun _ h => h) kw_1475 kw_1476 kw_96 kw_1477) rfl rfl rfl (by decide +kernel) ⟨by decide, by decide⟩) z_mv hKK hw hA rfl hl.1 rfl (Nat.le_of_ble_eq_true rfl) dX10_copyMoor_28 ⟨by decide, by decide⟩ (fun u H locs hp hw => ?_)
  obtain ⟨L10, f11⟩ := u
  obtain ⟨hsb, hfm, g2_12, ha_0, hp⟩ := hp
  have hw : z_H D vwCl (z_A L sz) s.heap L10 f11 H locs := hw
  have hfr : ∀ b ∈ L, b ≠ ml → b ≠ mh → b ≠ mj → b ≠ ms → b ≠ mg → b ≠ md → f11 b = f b := fun b hb h0 h1 h2 h3 h4 h5 => (hfm b (hsub b hb) h2).trans (hfr b hb h0 h1 h2 h3 h4 h5)
  have hsub : ∀ b ∈ L, b ∈ L10 := fun b h => hsb b (hsub b h)
  have hf_me : f11 me = .inr (10, [.int 0, .ref mw, .ref mn, .ref mc, .ref mv, .ref mt, .int 0, .int 0, .int 0, .int 0, .int 0, .long 0, .int 0, .int t13, .int 0, .int (-1), .ref ml, .ref mh, .ref mj, .ref ms, .ref mg, .ref md, .int 0, .ref mk, .int (-1), .int 0, .long 0, .int 0, .int 0, .ref z29, .int 0, .ref z31, .ref z32, .ref z33, .ref z34, .ref z35, .int 0, .ref z37, .int 0, .ref z39, .int 0, .int 0, .int 0, .ref z43, .ref z44, .ref z45, .ref z46, .ref z47, .int 0, .ref z49, .ref z50, .ref z51, .int 0, .int 0]) := (hfm me hm_me (z_tne hf_me hf_mj (m := 10) (n := 300) rfl rfl (by decide))).trans hf_me
  have hf_ml : f11 ml = .inl (cy 1, 5, .inl g2_4) := (hfm ml hm_ml (z_tne hf_ml hf_mj (m := 140) (n := 300) rfl rfl (by decide))).trans hf_ml
  have hf_mh : f11 mh = .inl (cy 1, 30, .inl g2_8) := (hfm mh hm_mh (z_tne hf_mh hf_mj (m := 340) (n := 300) rfl rfl (by decide))).trans hf_mh
  have hf_ms : f11 ms = .inl (cy 1, 20, .inl gq) := (hfm ms hm_ms (z_tne hf_ms hf_mj (m := 260) (n := 300) rfl rfl (by decide))).trans hf_ms
  have hf_mg : f11 mg = .inl (cy 1, 180, .inl gf) := (hfm mg hm_mg (z_tne hf_mg hf_mj (m := 1540) (n := 300) rfl rfl (by decide))).trans hf_mg
  have hf_md : f11 md = .inl (cy 1, 520, .inl gd) := (hfm md hm_md (z_tne hf_md hf_mj (m := 4260) (n := 300) rfl rfl (by decide))).trans hf_md
  have hm_me : me ∈ L10 := hsb _ hm_me
  have hm_ml : ml ∈ L10 := hsb _ hm_ml
  have hm_mh : mh ∈ L10 := hsb _ hm_mh
  have hm_mj : mj ∈ L10 := hsb _ hm_mj
  have hm_ms : ms ∈ L10 := hsb _ hm_ms
  have hm_mg : mg ∈ L10 := hsb _ hm_mg
  have hm_md : md ∈ L10 := hsb _ hm_md
  have hf_mj : f11 mj = .inl (cy 1, 25, .inl g2_12) := ha_0
  refine lv_aload_n hx hb dX10_copyMoor_31 rfl (lv_at hl 0 rfl) ?_
  refine z_get (C := RX10) (T := TX10) (N := 54) (ci := 10) (v := .ref ms) hx hb hT zin_X10 hown hK hw hm_me hf_me rfl 19 (by decide) (hT _ kw_1187) rfl dX10_copyMoor_32 ?_
  refine lv_iconst (v := 4) hx hb dX10_copyMoor_35 (by decide) ?_
  refine lv_iload_n hx hb dX10_copyMoor_36 rfl (lv_at hl 1 rfl) ?_
  refine lv_iload_n hx hb dX10_copyMoor_37 rfl (lv_at hl 2 rfl) ?_
  have hz13 := (show (4 : Int32).toInt = 4 by decide)
  refine z_callvS (cells := 0) (slots := 0) (As := [.ref ms, .int 4, .int xa, .int xb]) (rest := []) ⟨hx, hb, hml, hown, hT⟩ (c_X10_copyRow l hm_ms hf_ms (by decide) (by decide) (by rw [show (4 : Int32).toInt = 4 by decide]; omega) (by rw [show (4 : Int32).toInt = 4 by decide]; omega)) (va_cwS 4 hT (z_goodS (fun _ h => h) kw_1475 kw_1476 kw_96 kw_1477) rfl rfl rfl (by decide +kernel) ⟨by decide, by decide⟩) z_mv hKK hw hA rfl hl.1 rfl (Nat.le_of_ble_eq_true rfl) dX10_copyMoor_38 ⟨by decide, by decide⟩ (fun u H locs hp hw => ?_)
  obtain ⟨L14, f15⟩ := u
  obtain ⟨hsb, hfm, g2_16, ha_0, hp⟩ := hp
  have hw : z_H D vwCl (z_A L sz) s.heap L14 f15 H locs := hw
  have hfr : ∀ b ∈ L, b ≠ ml → b ≠ mh → b ≠ mj → b ≠ ms → b ≠ mg → b ≠ md → f15 b = f b := fun b hb h0 h1 h2 h3 h4 h5 => (hfm b (hsub b hb) h3).trans (hfr b hb h0 h1 h2 h3 h4 h5)
  have hsub : ∀ b ∈ L, b ∈ L14 := fun b h => hsb b (hsub b h)
  have hf_me : f15 me = .inr (10, [.int 0, .ref mw, .ref mn, .ref mc, .ref mv, .ref mt, .int 0, .int 0, .int 0, .int 0, .int 0, .long 0, .int 0, .int t13, .int 0, .int (-1), .ref ml, .ref mh, .ref mj, .ref ms, .ref mg, .ref md, .int 0, .ref mk, .int (-1), .int 0, .long 0, .int 0, .int 0, .ref z29, .int 0, .ref z31, .ref z32, .ref z33, .ref z34, .ref z35, .int 0, .ref z37, .int 0, .ref z39, .int 0, .int 0, .int 0, .ref z43, .ref z44, .ref z45, .ref z46, .ref z47, .int 0, .ref z49, .ref z50, .ref z51, .int 0, .int 0]) := (hfm me hm_me (z_tne hf_me hf_ms (m := 10) (n := 260) rfl rfl (by decide))).trans hf_me
  have hf_ml : f15 ml = .inl (cy 1, 5, .inl g2_4) := (hfm ml hm_ml (z_tne hf_ml hf_ms (m := 140) (n := 260) rfl rfl (by decide))).trans hf_ml
  have hf_mh : f15 mh = .inl (cy 1, 30, .inl g2_8) := (hfm mh hm_mh (z_tne hf_mh hf_ms (m := 340) (n := 260) rfl rfl (by decide))).trans hf_mh
  have hf_mj : f15 mj = .inl (cy 1, 25, .inl g2_12) := (hfm mj hm_mj (z_tne hf_mj hf_ms (m := 300) (n := 260) rfl rfl (by decide))).trans hf_mj
  have hf_mg : f15 mg = .inl (cy 1, 180, .inl gf) := (hfm mg hm_mg (z_tne hf_mg hf_ms (m := 1540) (n := 260) rfl rfl (by decide))).trans hf_mg
  have hf_md : f15 md = .inl (cy 1, 520, .inl gd) := (hfm md hm_md (z_tne hf_md hf_ms (m := 4260) (n := 260) rfl rfl (by decide))).trans hf_md
  have hm_me : me ∈ L14 := hsb _ hm_me
  have hm_ml : ml ∈ L14 := hsb _ hm_ml
  have hm_mh : mh ∈ L14 := hsb _ hm_mh
  have hm_mj : mj ∈ L14 := hsb _ hm_mj
  have hm_ms : ms ∈ L14 := hsb _ hm_ms
  have hm_mg : mg ∈ L14 := hsb _ hm_mg
  have hm_md : md ∈ L14 := hsb _ hm_md
  have hf_ms : f15 ms = .inl (cy 1, 20, .inl g2_16) := ha_0
  refine lv_aload_n hx hb dX10_copyMoor_41 rfl (lv_at hl 0 rfl) ?_
  refine z_get (C := RX10) (T := TX10) (N := 54) (ci := 10) (v := .ref mg) hx hb hT zin_X10 hown hK hw hm_me hf_me rfl 20 (by decide) (hT _ kw_1188) rfl dX10_copyMoor_42 ?_
  refine lv_bipush (v := 36) hx hb dX10_copyMoor_45 (by decide) ?_
  refine lv_iload_n hx hb dX10_copyMoor_47 rfl (lv_at hl 1 rfl) ?_
  refine lv_iload_n hx hb dX10_copyMoor_48 rfl (lv_at hl 2 rfl) ?_
  have hz17 := (show (36 : Int32).toInt = 36 by decide)
  refine z_callvS (cells := 0) (slots := 0) (As := [.ref mg, .int 36, .int xa, .int xb]) (rest := []) ⟨hx, hb, hml, hown, hT⟩ (c_X10_copyRow l hm_mg hf_mg (by decide) (by decide) (by rw [show (36 : Int32).toInt = 36 by decide]; omega) (by rw [show (36 : Int32).toInt = 36 by decide]; omega)) (va_cwS 4 hT (z_goodS (fun _ h => h) kw_1475 kw_1476 kw_96 kw_1477) rfl rfl rfl (by decide +kernel) ⟨by decide, by decide⟩) z_mv hKK hw hA rfl hl.1 rfl (Nat.le_of_ble_eq_true rfl) dX10_copyMoor_49 ⟨by decide, by decide⟩ (fun u H locs hp hw => ?_)
  obtain ⟨L18, f19⟩ := u
  obtain ⟨hsb, hfm, g2_20, ha_0, hp⟩ := hp
  have hw : z_H D vwCl (z_A L sz) s.heap L18 f19 H locs := hw
  have hfr : ∀ b ∈ L, b ≠ ml → b ≠ mh → b ≠ mj → b ≠ ms → b ≠ mg → b ≠ md → f19 b = f b := fun b hb h0 h1 h2 h3 h4 h5 => (hfm b (hsub b hb) h4).trans (hfr b hb h0 h1 h2 h3 h4 h5)
  have hsub : ∀ b ∈ L, b ∈ L18 := fun b h => hsb b (hsub b h)
  have hf_me : f19 me = .inr (10, [.int 0, .ref mw, .ref mn, .ref mc, .ref mv, .ref mt, .int 0, .int 0, .int 0, .int 0, .int 0, .long 0, .int 0, .int t13, .int 0, .int (-1), .ref ml, .ref mh, .ref mj, .ref ms, .ref mg, .ref md, .int 0, .ref mk, .int (-1), .int 0, .long 0, .int 0, .int 0, .ref z29, .int 0, .ref z31, .ref z32, .ref z33, .ref z34, .ref z35, .int 0, .ref z37, .int 0, .ref z39, .int 0, .int 0, .int 0, .ref z43, .ref z44, .ref z45, .ref z46, .ref z47, .int 0, .ref z49, .ref z50, .ref z51, .int 0, .int 0]) := (hfm me hm_me (z_tne hf_me hf_mg (m := 10) (n := 1540) rfl rfl (by decide))).trans hf_me
  have hf_ml : f19 ml = .inl (cy 1, 5, .inl g2_4) := (hfm ml hm_ml (z_tne hf_ml hf_mg (m := 140) (n := 1540) rfl rfl (by decide))).trans hf_ml
  have hf_mh : f19 mh = .inl (cy 1, 30, .inl g2_8) := (hfm mh hm_mh (z_tne hf_mh hf_mg (m := 340) (n := 1540) rfl rfl (by decide))).trans hf_mh
  have hf_mj : f19 mj = .inl (cy 1, 25, .inl g2_12) := (hfm mj hm_mj (z_tne hf_mj hf_mg (m := 300) (n := 1540) rfl rfl (by decide))).trans hf_mj
  have hf_ms : f19 ms = .inl (cy 1, 20, .inl g2_16) := (hfm ms hm_ms (z_tne hf_ms hf_mg (m := 260) (n := 1540) rfl rfl (by decide))).trans hf_ms
  have hf_md : f19 md = .inl (cy 1, 520, .inl gd) := (hfm md hm_md (z_tne hf_md hf_mg (m := 4260) (n := 1540) rfl rfl (by decide))).trans hf_md
  have hm_me : me ∈ L18 := hsb _ hm_me
  have hm_ml : ml ∈ L18 := hsb _ hm_ml
  have hm_mh : mh ∈ L18 := hsb _ hm_mh
  have hm_mj : mj ∈ L18 := hsb _ hm_mj
  have hm_ms : ms ∈ L18 := hsb _ hm_ms
  have hm_mg : mg ∈ L18 := hsb _ hm_mg
  have hm_md : md ∈ L18 := hsb _ hm_md
  have hf_mg : f19 mg = .inl (cy 1, 180, .inl g2_20) := ha_0
  refine lv_aload_n hx hb dX10_copyMoor_52 rfl (lv_at hl 0 rfl) ?_
  refine z_get (C := RX10) (T := TX10) (N := 54) (ci := 10) (v := .ref md) hx hb hT zin_X10 hown hK hw hm_me hf_me rfl 21 (by decide) (hT _ kw_1189) rfl dX10_copyMoor_53 ?_
  refine lv_bipush (v := 104) hx hb dX10_copyMoor_56 (by decide) ?_
  refine lv_iload_n hx hb dX10_copyMoor_58 rfl (lv_at hl 1 rfl) ?_
  refine lv_iload_n hx hb dX10_copyMoor_59 rfl (lv_at hl 2 rfl) ?_
  have hz21 := (show (104 : Int32).toInt = 104 by decide)
  refine z_callvS (cells := 0) (slots := 0) (As := [.ref md, .int 104, .int xa, .int xb]) (rest := []) ⟨hx, hb, hml, hown, hT⟩ (c_X10_copyRow l hm_md hf_md (by decide) (by decide) (by rw [show (104 : Int32).toInt = 104 by decide]; omega) (by rw [show (104 : Int32).toInt = 104 by decide]; omega)) (va_cwS 4 hT (z_goodS (fun _ h => h) kw_1475 kw_1476 kw_96 kw_1477) rfl rfl rfl (by decide +kernel) ⟨by decide, by decide⟩) z_mv hKK hw hA rfl hl.1 rfl (Nat.le_of_ble_eq_true rfl) dX10_copyMoor_60 ⟨by decide, by decide⟩ (fun u H locs hp hw => ?_)
  obtain ⟨L22, f23⟩ := u
  obtain ⟨hsb, hfm, g2_24, ha_0, hp⟩ := hp
  have hw : z_H D vwCl (z_A L sz) s.heap L22 f23 H locs := hw
  have hfr : ∀ b ∈ L, b ≠ ml → b ≠ mh → b ≠ mj → b ≠ ms → b ≠ mg → b ≠ md → f23 b = f b := fun b hb h0 h1 h2 h3 h4 h5 => (hfm b (hsub b hb) h5).trans (hfr b hb h0 h1 h2 h3 h4 h5)
  have hsub : ∀ b ∈ L, b ∈ L22 := fun b h => hsb b (hsub b h)
  have hf_me : f23 me = .inr (10, [.int 0, .ref mw, .ref mn, .ref mc, .ref mv, .ref mt, .int 0, .int 0, .int 0, .int 0, .int 0, .long 0, .int 0, .int t13, .int 0, .int (-1), .ref ml, .ref mh, .ref mj, .ref ms, .ref mg, .ref md, .int 0, .ref mk, .int (-1), .int 0, .long 0, .int 0, .int 0, .ref z29, .int 0, .ref z31, .ref z32, .ref z33, .ref z34, .ref z35, .int 0, .ref z37, .int 0, .ref z39, .int 0, .int 0, .int 0, .ref z43, .ref z44, .ref z45, .ref z46, .ref z47, .int 0, .ref z49, .ref z50, .ref z51, .int 0, .int 0]) := (hfm me hm_me (z_tne hf_me hf_md (m := 10) (n := 4260) rfl rfl (by decide))).trans hf_me
  have hf_ml : f23 ml = .inl (cy 1, 5, .inl g2_4) := (hfm ml hm_ml (z_tne hf_ml hf_md (m := 140) (n := 4260) rfl rfl (by decide))).trans hf_ml
  have hf_mh : f23 mh = .inl (cy 1, 30, .inl g2_8) := (hfm mh hm_mh (z_tne hf_mh hf_md (m := 340) (n := 4260) rfl rfl (by decide))).trans hf_mh
  have hf_mj : f23 mj = .inl (cy 1, 25, .inl g2_12) := (hfm mj hm_mj (z_tne hf_mj hf_md (m := 300) (n := 4260) rfl rfl (by decide))).trans hf_mj
  have hf_ms : f23 ms = .inl (cy 1, 20, .inl g2_16) := (hfm ms hm_ms (z_tne hf_ms hf_md (m := 260) (n := 4260) rfl rfl (by decide))).trans hf_ms
  have hf_mg : f23 mg = .inl (cy 1, 180, .inl g2_20) := (hfm mg hm_mg (z_tne hf_mg hf_md (m := 1540) (n := 4260) rfl rfl (by decide))).trans hf_mg
  have hm_me : me ∈ L22 := hsb _ hm_me
  have hm_ml : ml ∈ L22 := hsb _ hm_ml
  have hm_mh : mh ∈ L22 := hsb _ hm_mh
  have hm_mj : mj ∈ L22 := hsb _ hm_mj
  have hm_ms : ms ∈ L22 := hsb _ hm_ms
  have hm_mg : mg ∈ L22 := hsb _ hm_mg
  have hm_md : md ∈ L22 := hsb _ hm_md
  have hf_md : f23 md = .inl (cy 1, 520, .inl g2_24) := ha_0
  exact z_vret hx hb hr hlk (by decide) (by decide) hw (⟨hsub, hfr, g2_4, g2_8, g2_12, g2_16, g2_20, g2_24, hf_ml, hf_mh, hf_mj, hf_ms, hf_mg, hf_md, hcl⟩) dX10_copyMoor_63
