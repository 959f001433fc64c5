set_option maxHeartbeats 2000000 in
set_option maxRecDepth 100000 in
theorem c_J7_fill_53178 (l : Launch) {D : va_G} {cy : Nat → ClassId} {L : List Nat} {f : Nat → va_E} {sz : Nat} {adK adV : Nat → Nat} {a nn : Nat} {g : Nat → Int32} {v : Int32} (hm_a : a ∈ L) (hf_a : f a = .inl (cy 1, nn, .inl g)) (hnn : nn < 2147483648) : Met l yJ7_fill_53178 (z_ws yJ7_fill_53178 cJ7_fill_53178 4 none) (z_R 1 0 0) (va_Pc [.ref a, .int v] (z_Pre D vwCl (z_KK D cy adK adV) L f sz)) (z_Qv D vwCl (fun u => L = u.1 ∧ (∀ b ∈ L, b ≠ a → u.2 b = f b) ∧ (∃ (g2 : Nat → Int32), (u.2 a = .inl (cy 1, nn, .inl g2)) ∧ (∀ j : Nat, j < nn → g2 j = v))) L sz) 0 0 (z_A L sz) := by
  refine z_met (cc := cJ7_fill_53178) (maxL := 4) (ret := none) (lv := [(0, .ref a), (1, .int v)]) (by decide) rfl (Nat.le_of_ble_eq_true rfl) rfl ?_
  intro p e s m below meth c ls hx hb hr hlk hml hown hnm hts hKK hA hw hl
  have hK := hKK.1.1
  have hown : s.vm.findClass RJ7 = some m.cls := hown
  have hT : ∀ w ∈ lw_all, w.before ([.ref a, .int v] : List Value).toArray s = true := fun w h => hts w (z_cons w h)
  have hsub : L = L := rfl
  have hfr : ∀ b ∈ L, b ≠ a → f b = f b := fun _ _ _ => rfl
  refine lv_iconst (v := 0) hx hb dJ7_fill_53178_0 (by decide) ?_
  refine lv_istore_n (lv' := [(2, .int 0), (0, .ref a), (1, .int v)]) hx hb dJ7_fill_53178_1 rfl hl (by decide) rfl (fun ls hl => ?_)
  refine lv_aload_n hx hb dJ7_fill_53178_2 rfl (lv_at hl 1 rfl) ?_
  refine z_alen (v := (nI nn)) hx hb hK hw 1 hm_a hf_a rfl rfl dJ7_fill_53178_3 ?_
  refine lv_istore_n (lv' := [(3, .int (nI nn)), (2, .int 0), (0, .ref a), (1, .int v)]) hx hb dJ7_fill_53178_4 rfl hl (by decide) rfl (fun ls hl => ?_)
  have hzk : (0 : Int32).toInt = 0 := by decide
  refine z_loop (fun n H locs ls => ∃ (K1 : Int32) (G3 : Nat → Int32) (f2 : Nat → va_E), (n = (nn - K1.toInt).toNat) ∧ (0 ≤ K1.toInt) ∧ (K1.toInt ≤ nn) ∧ (∀ j : Nat, (j : Int) < K1.toInt → G3 j = v) ∧ (z_H D vwCl (z_A L sz) s.heap L f2 H locs) ∧ (f2 a = .inl (cy 1, nn, .inl G3)) ∧ (∀ b ∈ L, b ≠ a → f2 b = f b) ∧ (lv_has ls 4 [(3, .int (nI nn)), (2, .int K1), (0, .ref a), (1, .int v)])) _ ⟨0, g, f, rfl, (by first | decide | omega), (by first | decide | omega), (fun j hj => absurd hj (by rw [show (0 : Int32).toInt = 0 from rfl]; omega)), hw, hf_a, hfr, (lv_sub hl [0, 1, 2, 3] rfl)⟩ (fun n H locs ls hI ih_5 => ?_)
  obtain ⟨K1, G3, f2, hn, hk0, hk1, hi0, hw, hf_a, hfr, hl⟩ := hI
  refine lv_iload_n hx hb dJ7_fill_53178_5 rfl (lv_at hl 1 rfl) ?_
  refine lv_iload_n hx hb dJ7_fill_53178_6 rfl (lv_at hl 0 rfl) ?_
  refine z_icmp_ge (tgt := 20) hx hb rfl (nI_toInt hnn) dJ7_fill_53178_7 (by decide) (fun c4 => ?_) (fun c4 => ?_)
  · skip
    exact z_vret hx hb hr hlk (by decide) (by decide) hw (⟨hsub, hfr, _, hf_a, fun j hj => hi0 j (by omega)⟩) dJ7_fill_53178_20
  · skip
    refine lv_aload_n hx hb dJ7_fill_53178_10 rfl (lv_at hl 2 rfl) ?_
    refine lv_iload_n hx hb dJ7_fill_53178_11 rfl (lv_at hl 1 rfl) ?_
    refine lv_iload_n hx hb dJ7_fill_53178_12 rfl (lv_at hl 3 rfl) ?_
    refine z_iast hx hb hK hw 1 hm_a hf_a rfl (z_ix rfl (by omega)) dJ7_fill_53178_13 (fun H locs hw => ?_)
    obtain ⟨f6, e_f6⟩ : ∃ z, z = va_up f2 a (.inl (cy 1, nn, .inl (upd G3 K1.toNatClampNeg v))) := ⟨_, rfl⟩
    rw [← e_f6] at hw
    have hf_a : f6 a = .inl (cy 1, nn, .inl (upd G3 K1.toNatClampNeg v)) := (congrFun e_f6 a).trans z_up_self
    have hfr : ∀ b ∈ L, b ≠ a → f6 b = f b := fun b hb h0 => (congrFun e_f6 b).trans (z_up_ne h0 (hfr b hb h0))
    obtain ⟨g5, e_g5⟩ : ∃ z, z = (upd G3 K1.toNatClampNeg v) := ⟨_, rfl⟩
    rw [← e_g5] at hf_a
    obtain ⟨k7, e_k7⟩ : ∃ z : Int32, z = K1 + 1 := ⟨_, rfl⟩
    refine lv_iinc (v := k7) (lv' := [(2, .int k7), (3, .int (nI nn)), (0, .ref a), (1, .int v)]) hx hb dJ7_fill_53178_14 hl (k := 1) rfl (by rw [e_k7]; rfl) (by decide) rfl (fun ls hl => ?_)
    have i_k7 : k7.toInt = (K1.toInt + 1) := z_add e_k7 rfl (by decide) (by omega)
    refine lv_goto (tgt := 5) hx hb dJ7_fill_53178_17 (by decide) ?_
    exact ih_5 _ (by omega) _ _ _ ⟨k7, g5, f6, rfl, (by first | decide | omega), (by first | decide | omega), (z_updlt hk0 i_k7 e_g5 hi0), hw, hf_a, hfr, (lv_sub hl [1, 0, 2, 3] rfl)⟩

set_option maxHeartbeats 2000000 in
set_option maxRecDepth 100000 in
theorem c_J7_fill_d0a16 (l : Launch) {D : va_G} {cy : Nat → ClassId} {L : List Nat} {f : Nat → va_E} {sz : Nat} {adK adV : Nat → Nat} {a nn : Nat} {g : Nat → Int64} {v : Int64} (hm_a : a ∈ L) (hf_a : f a = .inl (cy 2, nn, .inr (.inl g))) (hnn : nn < 2147483648) : Met l yJ7_fill_d0a16 (z_ws yJ7_fill_d0a16 cJ7_fill_d0a16 5 none) (z_R 1 0 0) (va_Pc [.ref a, .long v] (z_Pre D vwCl (z_KK D cy adK adV) L f sz)) (z_Qv D vwCl (fun u => L = u.1 ∧ (∀ b ∈ L, b ≠ a → u.2 b = f b) ∧ (∃ (g2 : Nat → Int64), (u.2 a = .inl (cy 2, nn, .inr (.inl g2))) ∧ (∀ j : Nat, j < nn → g2 j = v))) L sz) 0 0 (z_A L sz) := by
  refine z_met (cc := cJ7_fill_d0a16) (maxL := 5) (ret := none) (lv := [(0, .ref a), (1, .long v)]) (by decide) rfl (Nat.le_of_ble_eq_true rfl) rfl ?_
  intro p e s m below meth c ls hx hb hr hlk hml hown hnm hts hKK hA hw hl
  have hK := hKK.1.1
  have hown : s.vm.findClass RJ7 = some m.cls := hown
  have hT : ∀ w ∈ lw_all, w.before ([.ref a, .long v] : List Value).toArray s = true := fun w h => hts w (z_cons w h)
  have hsub : L = L := rfl
  have hfr : ∀ b ∈ L, b ≠ a → f b = f b := fun _ _ _ => rfl
  refine lv_iconst (v := 0) hx hb dJ7_fill_d0a16_0 (by decide) ?_
  refine lv_istore_n (lv' := [(3, .int 0), (0, .ref a), (1, .long v)]) hx hb dJ7_fill_d0a16_1 rfl hl (by decide) rfl (fun ls hl => ?_)
  refine lv_aload_n hx hb dJ7_fill_d0a16_2 rfl (lv_at hl 1 rfl) ?_
  refine z_alen (v := (nI nn)) hx hb hK hw 2 hm_a hf_a rfl rfl dJ7_fill_d0a16_3 ?_
  refine lv_istore (lv' := [(4, .int (nI nn)), (3, .int 0), (0, .ref a), (1, .long v)]) hx hb dJ7_fill_d0a16_4 hl (by decide) rfl (fun ls hl => ?_)
  have hzk : (0 : Int32).toInt = 0 := by decide
  refine z_loop (fun n H locs ls => ∃ (K1 : Int32) (G3 : Nat → Int64) (f2 : Nat → va_E), (n = (nn - K1.toInt).toNat) ∧ (0 ≤ K1.toInt) ∧ (K1.toInt ≤ nn) ∧ (∀ j : Nat, (j : Int) < K1.toInt → G3 j = v) ∧ (z_H D vwCl (z_A L sz) s.heap L f2 H locs) ∧ (f2 a = .inl (cy 2, nn, .inr (.inl G3))) ∧ (∀ b ∈ L, b ≠ a → f2 b = f b) ∧ (lv_has ls 5 [(4, .int (nI nn)), (3, .int K1), (0, .ref a), (1, .long v)])) _ ⟨0, g, f, rfl, (by first | decide | omega), (by first | decide | omega), (fun j hj => absurd hj (by rw [show (0 : Int32).toInt = 0 from rfl]; omega)), hw, hf_a, hfr, (lv_sub hl [0, 1, 2, 3] rfl)⟩ (fun n H locs ls hI ih_6 => ?_)
  obtain ⟨K1, G3, f2, hn, hk0, hk1, hi0, hw, hf_a, hfr, hl⟩ := hI
  refine lv_iload_n hx hb dJ7_fill_d0a16_6 rfl (lv_at hl 1 rfl) ?_
  refine lv_iload hx hb dJ7_fill_d0a16_7 (lv_at hl 0 rfl) ?_
  refine z_icmp_ge (tgt := 22) hx hb rfl (nI_toInt hnn) dJ7_fill_d0a16_9 (by decide) (fun c4 => ?_) (fun c4 => ?_)
  · skip
    exact z_vret hx hb hr hlk (by decide) (by decide) hw (⟨hsub, hfr, _, hf_a, fun j hj => hi0 j (by omega)⟩) dJ7_fill_d0a16_22
  · skip
    refine lv_aload_n hx hb dJ7_fill_d0a16_12 rfl (lv_at hl 2 rfl) ?_
    refine lv_iload_n hx hb dJ7_fill_d0a16_13 rfl (lv_at hl 1 rfl) ?_
    refine lv_lload_n hx hb dJ7_fill_d0a16_14 rfl (lv_at hl 3 rfl) ?_
    refine z_last hx hb hK hw 2 hm_a hf_a rfl (z_ix rfl (by omega)) dJ7_fill_d0a16_15 (fun H locs hw => ?_)
    obtain ⟨f6, e_f6⟩ : ∃ z, z = va_up f2 a (.inl (cy 2, nn, .inr (.inl (vp_updL G3 K1.toNatClampNeg v)))) := ⟨_, rfl⟩
    rw [← e_f6] at hw
    have hf_a : f6 a = .inl (cy 2, nn, .inr (.inl (vp_updL G3 K1.toNatClampNeg v))) := (congrFun e_f6 a).trans z_up_self
    have hfr : ∀ b ∈ L, b ≠ a → f6 b = f b := fun b hb h0 => (congrFun e_f6 b).trans (z_up_ne h0 (hfr b hb h0))
    obtain ⟨g5, e_g5⟩ : ∃ z, z = (vp_updL G3 K1.toNatClampNeg v) := ⟨_, rfl⟩
    rw [← e_g5] at hf_a
    obtain ⟨k7, e_k7⟩ : ∃ z : Int32, z = K1 + 1 := ⟨_, rfl⟩
    refine lv_iinc (v := k7) (lv' := [(3, .int k7), (4, .int (nI nn)), (0, .ref a), (1, .long v)]) hx hb dJ7_fill_d0a16_16 hl (k := 1) rfl (by rw [e_k7]; rfl) (by decide) rfl (fun ls hl => ?_)
    have i_k7 : k7.toInt = (K1.toInt + 1) := z_add e_k7 rfl (by decide) (by omega)
    refine lv_goto (tgt := 6) hx hb dJ7_fill_d0a16_19 (by decide) ?_
    exact ih_6 _ (by omega) _ _ _ ⟨k7, g5, f6, rfl, (by first | decide | omega), (by first | decide | omega), (z_updltL hk0 i_k7 e_g5 hi0), hw, hf_a, hfr, (lv_sub hl [1, 0, 2, 3] rfl)⟩

set_option maxHeartbeats 2000000 in
set_option maxRecDepth 100000 in
theorem c_X0_countable (l : Launch) {D : va_G} {cy : Nat → ClassId} {L : List Nat} {f : Nat → va_E} {sz : Nat} {adK adV : Nat → Nat} {dq : Nat} {o1 o2 o3 o4 o5 o6 o7 o8 : Int32} {bz : Int32} (hm_dq : dq ∈ L) (hf_dq : f dq = .inr (0, [.int o1, .int o2, .int o3, .int o4, .int o5, .int o6, .int o7, .int o8])) (h5 : 0 ≤ o5.toInt ∧ o5.toInt ≤ 99) (h6 : 0 ≤ o6.toInt ∧ o6.toInt ≤ 99) : Met l yX0_countable (z_ws yX0_countable cX0_countable 2 (some .int)) (z_R 1 0 0) (va_Pc [.ref dq, .int bz] (z_Pre D vwCl (z_KK D cy adK adV) L f sz)) (z_Qi D vwCl (fun r u => u = (L, f) ∧ (0 ≤ r.toInt ∧ r.toInt ≤ 198)) L sz) 0 0 (z_A L sz) := by
  refine z_met (cc := cX0_countable) (maxL := 2) (ret := (some .int)) (lv := [(0, .ref dq), (1, .int bz)]) (by decide) rfl (Nat.le_of_ble_eq_true rfl) rfl ?_
  intro p e s m below meth c ls hx hb hr hlk hml hown hnm hts hKK hA hw hl
  have hK := hKK.1.1
  have hown : s.vm.findClass RX0 = some m.cls := hown
  have hT : ∀ w ∈ lw_all, w.before ([.ref dq, .int bz] : List Value).toArray s = true := fun w h => hts w (z_cons w h)
  refine lv_iload_n hx hb dX0_countable_0 rfl (lv_at hl 1 rfl) ?_
  refine z_if_eq (tgt := 16) hx hb rfl dX0_countable_1 (by decide) (fun c1 => ?_) (fun c1 => ?_)
  · skip
    refine lv_aload_n hx hb dX0_countable_16 rfl (lv_at hl 0 rfl) ?_
    refine z_get (C := RX0) (T := TX0) (N := 8) (ci := 0) (v := .int o5) hx hb hT zin_X0 hown hK hw hm_dq hf_dq rfl 4 (by decide) (hT _ kw_162) rfl dX0_countable_17 ?_
    exact z_iret hx hb hr hlk (by decide) (by decide) hw (⟨rfl, by omega⟩) dX0_countable_20
  · skip
    refine lv_aload_n hx hb dX0_countable_4 rfl (lv_at hl 0 rfl) ?_
    refine z_get (C := RX0) (T := TX0) (N := 8) (ci := 0) (v := .int o5) hx hb hT zin_X0 hown hK hw hm_dq hf_dq rfl 4 (by decide) (hT _ kw_162) rfl dX0_countable_5 ?_
    refine lv_aload_n hx hb dX0_countable_8 rfl (lv_at hl 0 rfl) ?_
    refine z_get (C := RX0) (T := TX0) (N := 8) (ci := 0) (v := .int o6) hx hb hT zin_X0 hown hK hw hm_dq hf_dq rfl 5 (by decide) (hT _ kw_168) rfl dX0_countable_9 ?_
    refine lv_iadd hx hb dX0_countable_12 ?_
    refine lv_topi (fun w2 e_w2 => ?_)
    have i_w2 : w2.toInt = (o5.toInt + o6.toInt) := z_add e_w2 rfl rfl (by omega)
    refine lv_goto (tgt := 20) hx hb dX0_countable_13 (by decide) ?_
    exact z_iret hx hb hr hlk (by decide) (by decide) hw (⟨rfl, by omega⟩) dX0_countable_20

set_option maxHeartbeats 2000000 in
set_option maxRecDepth 100000 in
theorem c_X0_whither (l : Launch) {D : va_G} {cy : Nat → ClassId} {L : List Nat} {f : Nat → va_E} {sz : Nat} {adK adV : Nat → Nat} {dq : Nat} {o1 o2 o3 o4 o5 o6 o7 o8 : Int32} (hm_dq : dq ∈ L) (hf_dq : f dq = .inr (0, [.int o1, .int o2, .int o3, .int o4, .int o5, .int o6, .int o7, .int o8])) (h2 : 0 ≤ o2.toInt ∧ o2.toInt ≤ 3) (h4 : 0 ≤ o4.toInt ∧ o4.toInt ≤ 23) : Met l yX0_whither (z_ws yX0_whither cX0_whither 1 (some .int)) (z_R 1 0 0) (va_Pc [.ref dq] (z_Pre D vwCl (z_KK D cy adK adV) L f sz)) (z_Qi D vwCl (fun r u => u = (L, f) ∧ (True)) L sz) 0 0 (z_A L sz) := by
  refine z_met (cc := cX0_whither) (maxL := 1) (ret := (some .int)) (lv := [(0, .ref dq)]) (by decide) rfl (Nat.le_of_ble_eq_true rfl) rfl ?_
  intro p e s m below meth c ls hx hb hr hlk hml hown hnm hts hKK hA hw hl
  have hK := hKK.1.1
  have hown : s.vm.findClass RX0 = some m.cls := hown
  have hT : ∀ w ∈ lw_all, w.before ([.ref dq] : List Value).toArray s = true := fun w h => hts w (z_cons w h)
  refine lv_bipush (v := 100) hx hb dX0_whither_0 (by decide) ?_
  refine lv_aload_n hx hb dX0_whither_2 rfl (lv_at hl 0 rfl) ?_
  refine z_get (C := RX0) (T := TX0) (N := 8) (ci := 0) (v := .int o2) hx hb hT zin_X0 hown hK hw hm_dq hf_dq rfl 1 (by decide) (hT _ kw_145) rfl dX0_whither_3 ?_
  refine lv_imul hx hb dX0_whither_6 ?_
  refine lv_topi (fun w1 e_w1 => ?_)
  have i_w1 : w1.toInt = (100 * o2.toInt) := z_mul e_w1 (show (100 : Int32).toInt = 100 by decide) rfl (by omega)
  refine lv_aload_n hx hb dX0_whither_7 rfl (lv_at hl 0 rfl) ?_
  refine z_get (C := RX0) (T := TX0) (N := 8) (ci := 0) (v := .int o4) hx hb hT zin_X0 hown hK hw hm_dq hf_dq rfl 3 (by decide) (hT _ kw_157) rfl dX0_whither_8 ?_
  refine lv_iadd hx hb dX0_whither_11 ?_
  refine lv_topi (fun w2 e_w2 => ?_)
  have i_w2 : w2.toInt = ((100 * o2.toInt) + o4.toInt) := z_add e_w2 i_w1 rfl (by omega)
  exact z_iret hx hb hr hlk (by decide) (by decide) hw (⟨rfl, trivial⟩) dX0_whither_12

set_option maxHeartbeats 2000000 in
set_option maxRecDepth 100000 in
theorem c_X2_hasGap (l : Launch) {D : va_G} {cy : Nat → ClassId} {L : List Nat} {f : Nat → va_E} {sz : Nat} {adK adV : Nat → Nat} {mo la sa mi da : Nat} {v0 v1 v2 v3 v4 v5 v6 : Int32} {g : Int32} (hm_mo : mo ∈ L) (hf_mo : f mo = .inr (2, [.int v0, .int v1, .int v2, .int v3, .int v4, .int v5, .int v6, .ref la, .ref sa, .ref mi, .ref da])) : Met l yX2_hasGap (z_ws yX2_hasGap cX2_hasGap 2 (some .boolean)) (z_R 1 0 0) (va_Pc [.ref mo, .int g] (z_Pre D vwCl (z_KK D cy adK adV) L f sz)) (z_Qi D vwCl (fun r u => u = (L, f) ∧ ((r = 1 ∧ (0 ≤ g.toInt ∧ g.toInt < v1.toInt)) ∨ (r = 0 ∧ ¬ (0 ≤ g.toInt ∧ g.toInt < v1.toInt)))) L sz) 0 0 (z_A L sz) := by
  refine z_met (cc := cX2_hasGap) (maxL := 2) (ret := (some .boolean)) (lv := [(0, .ref mo), (1, .int g)]) (by decide) rfl (Nat.le_of_ble_eq_true rfl) rfl ?_
  intro p e s m below meth c ls hx hb hr hlk hml hown hnm hts hKK hA hw hl
  have hK := hKK.1.1
  have hown : s.vm.findClass RX2 = some m.cls := hown
  have hT : ∀ w ∈ lw_all, w.before ([.ref mo, .int g] : List Value).toArray s = true := fun w h => hts w (z_cons w h)
  refine lv_iload_n hx hb dX2_hasGap_0 rfl (lv_at hl 1 rfl) ?_
  refine z_if_lt (tgt := 16) hx hb rfl dX2_hasGap_1 (by decide) (fun c1 => ?_) (fun c1 => ?_)
  · skip
    refine lv_iconst (v := 0) hx hb dX2_hasGap_16 (by decide) ?_
    exact z_zret hx hb hr rfl hlk (by decide) (by decide) hw (⟨rfl, Or.inr ⟨rfl, by omega⟩⟩) dX2_hasGap_17
  · skip
    refine lv_iload_n hx hb dX2_hasGap_4 rfl (lv_at hl 1 rfl) ?_
    refine lv_aload_n hx hb dX2_hasGap_5 rfl (lv_at hl 0 rfl) ?_
    refine z_get (C := RX2) (T := TX2) (N := 11) (ci := 2) (v := .int v1) hx hb hT zin_X2 hown hK hw hm_mo hf_mo rfl 1 (by decide) (hT _ kw_207) rfl dX2_hasGap_6 ?_
    refine z_icmp_ge (tgt := 16) hx hb rfl rfl dX2_hasGap_9 (by decide) (fun c2 => ?_) (fun c2 => ?_)
    · skip
      refine lv_iconst (v := 0) hx hb dX2_hasGap_16 (by decide) ?_
      exact z_zret hx hb hr rfl hlk (by decide) (by decide) hw (⟨rfl, Or.inr ⟨rfl, by omega⟩⟩) dX2_hasGap_17
    · skip
      refine lv_iconst (v := 1) hx hb dX2_hasGap_12 (by decide) ?_
      refine lv_goto (tgt := 17) hx hb dX2_hasGap_13 (by decide) ?_
      exact z_zret hx hb hr rfl hlk (by decide) (by decide) hw (⟨rfl, Or.inl ⟨rfl, by omega⟩⟩) dX2_hasGap_17

set_option maxHeartbeats 2000000 in
set_option maxRecDepth 100000 in
theorem c_X2_hasDay (l : Launch) {D : va_G} {cy : Nat → ClassId} {L : List Nat} {f : Nat → va_E} {sz : Nat} {adK adV : Nat → Nat} {mo la sa mi da : Nat} {v0 v1 v2 v3 v4 v5 v6 : Int32} {g : Int32} (hm_mo : mo ∈ L) (hf_mo : f mo = .inr (2, [.int v0, .int v1, .int v2, .int v3, .int v4, .int v5, .int v6, .ref la, .ref sa, .ref mi, .ref da])) : Met l yX2_hasDay (z_ws yX2_hasDay cX2_hasDay 2 (some .boolean)) (z_R 1 0 0) (va_Pc [.ref mo, .int g] (z_Pre D vwCl (z_KK D cy adK adV) L f sz)) (z_Qi D vwCl (fun r u => u = (L, f) ∧ ((r = 1 ∧ (0 ≤ g.toInt ∧ g.toInt < v2.toInt)) ∨ (r = 0 ∧ ¬ (0 ≤ g.toInt ∧ g.toInt < v2.toInt)))) L sz) 0 0 (z_A L sz) := by
  refine z_met (cc := cX2_hasDay) (maxL := 2) (ret := (some .boolean)) (lv := [(0, .ref mo), (1, .int g)]) (by decide) rfl (Nat.le_of_ble_eq_true rfl) rfl ?_
  intro p e s m below meth c ls hx hb hr hlk hml hown hnm hts hKK hA hw hl
  have hK := hKK.1.1
  have hown : s.vm.findClass RX2 = some m.cls := hown
  have hT : ∀ w ∈ lw_all, w.before ([.ref mo, .int g] : List Value).toArray s = true := fun w h => hts w (z_cons w h)
  refine lv_iload_n hx hb dX2_hasDay_0 rfl (lv_at hl 1 rfl) ?_
  refine z_if_lt (tgt := 16) hx hb rfl dX2_hasDay_1 (by decide) (fun c1 => ?_) (fun c1 => ?_)
  · skip
    refine lv_iconst (v := 0) hx hb dX2_hasDay_16 (by decide) ?_
    exact z_zret hx hb hr rfl hlk (by decide) (by decide) hw (⟨rfl, Or.inr ⟨rfl, by omega⟩⟩) dX2_hasDay_17
  · skip
    refine lv_iload_n hx hb dX2_hasDay_4 rfl (lv_at hl 1 rfl) ?_
    refine lv_aload_n hx hb dX2_hasDay_5 rfl (lv_at hl 0 rfl) ?_
    refine z_get (C := RX2) (T := TX2) (N := 11) (ci := 2) (v := .int v2) hx hb hT zin_X2 hown hK hw hm_mo hf_mo rfl 2 (by decide) (hT _ kw_211) rfl dX2_hasDay_6 ?_
    refine z_icmp_ge (tgt := 16) hx hb rfl rfl dX2_hasDay_9 (by decide) (fun c2 => ?_) (fun c2 => ?_)
    · skip
      refine lv_iconst (v := 0) hx hb dX2_hasDay_16 (by decide) ?_
      exact z_zret hx hb hr rfl hlk (by decide) (by decide) hw (⟨rfl, Or.inr ⟨rfl, by omega⟩⟩) dX2_hasDay_17
    · skip
      refine lv_iconst (v := 1) hx hb dX2_hasDay_12 (by decide) ?_
      refine lv_goto (tgt := 17) hx hb dX2_hasDay_13 (by decide) ?_
      exact z_zret hx hb hr rfl hlk (by decide) (by decide) hw (⟨rfl, Or.inl ⟨rfl, by omega⟩⟩) dX2_hasDay_17

set_option maxHeartbeats 2000000 in
set_option maxRecDepth 100000 in
theorem c_X2_hasOwner (l : Launch) {D : va_G} {cy : Nat → ClassId} {L : List Nat} {f : Nat → va_E} {sz : Nat} {adK adV : Nat → Nat} {mo la sa mi da : Nat} {v0 v1 v2 v3 v4 v5 v6 : Int32} {g : Int32} (hm_mo : mo ∈ L) (hf_mo : f mo = .inr (2, [.int v0, .int v1, .int v2, .int v3, .int v4, .int v5, .int v6, .ref la, .ref sa, .ref mi, .ref da])) : Met l yX2_hasOwner (z_ws yX2_hasOwner cX2_hasOwner 2 (some .boolean)) (z_R 1 0 0) (va_Pc [.ref mo, .int g] (z_Pre D vwCl (z_KK D cy adK adV) L f sz)) (z_Qi D vwCl (fun r u => u = (L, f) ∧ ((r = 1 ∧ (0 ≤ g.toInt ∧ g.toInt < v3.toInt)) ∨ (r = 0 ∧ ¬ (0 ≤ g.toInt ∧ g.toInt < v3.toInt)))) L sz) 0 0 (z_A L sz) := by
  refine z_met (cc := cX2_hasOwner) (maxL := 2) (ret := (some .boolean)) (lv := [(0, .ref mo), (1, .int g)]) (by decide) rfl (Nat.le_of_ble_eq_true rfl) rfl ?_
  intro p e s m below meth c ls hx hb hr hlk hml hown hnm hts hKK hA hw hl
  have hK := hKK.1.1
  have hown : s.vm.findClass RX2 = some m.cls := hown
  have hT : ∀ w ∈ lw_all, w.before ([.ref mo, .int g] : List Value).toArray s = true := fun w h => hts w (z_cons w h)
  refine lv_iload_n hx hb dX2_hasOwner_0 rfl (lv_at hl 1 rfl) ?_
  refine z_if_lt (tgt := 16) hx hb rfl dX2_hasOwner_1 (by decide) (fun c1 => ?_) (fun c1 => ?_)
  · skip
    refine lv_iconst (v := 0) hx hb dX2_hasOwner_16 (by decide) ?_
    exact z_zret hx hb hr rfl hlk (by decide) (by decide) hw (⟨rfl, Or.inr ⟨rfl, by omega⟩⟩) dX2_hasOwner_17
  · skip
    refine lv_iload_n hx hb dX2_hasOwner_4 rfl (lv_at hl 1 rfl) ?_
    refine lv_aload_n hx hb dX2_hasOwner_5 rfl (lv_at hl 0 rfl) ?_
    refine z_get (C := RX2) (T := TX2) (N := 11) (ci := 2) (v := .int v3) hx hb hT zin_X2 hown hK hw hm_mo hf_mo rfl 3 (by decide) (hT _ kw_215) rfl dX2_hasOwner_6 ?_
    refine z_icmp_ge (tgt := 16) hx hb rfl rfl dX2_hasOwner_9 (by decide) (fun c2 => ?_) (fun c2 => ?_)
    · skip
      refine lv_iconst (v := 0) hx hb dX2_hasOwner_16 (by decide) ?_
      exact z_zret hx hb hr rfl hlk (by decide) (by decide) hw (⟨rfl, Or.inr ⟨rfl, by omega⟩⟩) dX2_hasOwner_17
    · skip
      refine lv_iconst (v := 1) hx hb dX2_hasOwner_12 (by decide) ?_
      refine lv_goto (tgt := 17) hx hb dX2_hasOwner_13 (by decide) ?_
      exact z_zret hx hb hr rfl hlk (by decide) (by decide) hw (⟨rfl, Or.inl ⟨rfl, by omega⟩⟩) dX2_hasOwner_17

set_option maxHeartbeats 2000000 in
set_option maxRecDepth 100000 in
theorem c_X2_hasDrive (l : Launch) {D : va_G} {cy : Nat → ClassId} {L : List Nat} {f : Nat → va_E} {sz : Nat} {adK adV : Nat → Nat} {mo la sa mi da : Nat} {v0 v1 v2 v3 v4 v5 v6 : Int32} {g : Int32} (hm_mo : mo ∈ L) (hf_mo : f mo = .inr (2, [.int v0, .int v1, .int v2, .int v3, .int v4, .int v5, .int v6, .ref la, .ref sa, .ref mi, .ref da])) : Met l yX2_hasDrive (z_ws yX2_hasDrive cX2_hasDrive 2 (some .boolean)) (z_R 1 0 0) (va_Pc [.ref mo, .int g] (z_Pre D vwCl (z_KK D cy adK adV) L f sz)) (z_Qi D vwCl (fun r u => u = (L, f) ∧ ((r = 1 ∧ (0 ≤ g.toInt ∧ g.toInt < v5.toInt)) ∨ (r = 0 ∧ ¬ (0 ≤ g.toInt ∧ g.toInt < v5.toInt)))) L sz) 0 0 (z_A L sz) := by
  refine z_met (cc := cX2_hasDrive) (maxL := 2) (ret := (some .boolean)) (lv := [(0, .ref mo), (1, .int g)]) (by decide) rfl (Nat.le_of_ble_eq_true rfl) rfl ?_
  intro p e s m below meth c ls hx hb hr hlk hml hown hnm hts hKK hA hw hl
  have hK := hKK.1.1
  have hown : s.vm.findClass RX2 = some m.cls := hown
  have hT : ∀ w ∈ lw_all, w.before ([.ref mo, .int g] : List Value).toArray s = true := fun w h => hts w (z_cons w h)
  refine lv_iload_n hx hb dX2_hasDrive_0 rfl (lv_at hl 1 rfl) ?_
  refine z_if_lt (tgt := 16) hx hb rfl dX2_hasDrive_1 (by decide) (fun c1 => ?_) (fun c1 => ?_)
  · skip
    refine lv_iconst (v := 0) hx hb dX2_hasDrive_16 (by decide) ?_
    exact z_zret hx hb hr rfl hlk (by decide) (by decide) hw (⟨rfl, Or.inr ⟨rfl, by omega⟩⟩) dX2_hasDrive_17
  · skip
    refine lv_iload_n hx hb dX2_hasDrive_4 rfl (lv_at hl 1 rfl) ?_
    refine lv_aload_n hx hb dX2_hasDrive_5 rfl (lv_at hl 0 rfl) ?_
    refine z_get (C := RX2) (T := TX2) (N := 11) (ci := 2) (v := .int v5) hx hb hT zin_X2 hown hK hw hm_mo hf_mo rfl 5 (by decide) (hT _ kw_222) rfl dX2_hasDrive_6 ?_
    refine z_icmp_ge (tgt := 16) hx hb rfl rfl dX2_hasDrive_9 (by decide) (fun c2 => ?_) (fun c2 => ?_)
    · skip
      refine lv_iconst (v := 0) hx hb dX2_hasDrive_16 (by decide) ?_
      exact z_zret hx hb hr rfl hlk (by decide) (by decide) hw (⟨rfl, Or.inr ⟨rfl, by omega⟩⟩) dX2_hasDrive_17
    · skip
      refine lv_iconst (v := 1) hx hb dX2_hasDrive_12 (by decide) ?_
      refine lv_goto (tgt := 17) hx hb dX2_hasDrive_13 (by decide) ?_
      exact z_zret hx hb hr rfl hlk (by decide) (by decide) hw (⟨rfl, Or.inl ⟨rfl, by omega⟩⟩) dX2_hasDrive_17

set_option maxHeartbeats 2000000 in
set_option maxRecDepth 100000 in
theorem c_X2_isTold (l : Launch) {D : va_G} {cy : Nat → ClassId} {L : List Nat} {f : Nat → va_E} {sz : Nat} {adK adV : Nat → Nat} {mo la sa mi da : Nat} {v0 v1 v2 v3 v4 v5 v6 : Int32} (hm_mo : mo ∈ L) (hf_mo : f mo = .inr (2, [.int v0, .int v1, .int v2, .int v3, .int v4, .int v5, .int v6, .ref la, .ref sa, .ref mi, .ref da])) : Met l yX2_isTold (z_ws yX2_isTold cX2_isTold 1 (some .boolean)) (z_R 1 0 0) (va_Pc [.ref mo] (z_Pre D vwCl (z_KK D cy adK adV) L f sz)) (z_Qi D vwCl (fun r u => u = (L, f) ∧ ((r = 1 ∧ 0 < v0.toInt) ∨ (r = 0 ∧ v0.toInt ≤ 0))) L sz) 0 0 (z_A L sz) := by
  refine z_met (cc := cX2_isTold) (maxL := 1) (ret := (some .boolean)) (lv := [(0, .ref mo)]) (by decide) rfl (Nat.le_of_ble_eq_true rfl) rfl ?_
  intro p e s m below meth c ls hx hb hr hlk hml hown hnm hts hKK hA hw hl
  have hK := hKK.1.1
  have hown : s.vm.findClass RX2 = some m.cls := hown
  have hT : ∀ w ∈ lw_all, w.before ([.ref mo] : List Value).toArray s = true := fun w h => hts w (z_cons w h)
  refine lv_aload_n hx hb dX2_isTold_0 rfl (lv_at hl 0 rfl) ?_
  refine z_get (C := RX2) (T := TX2) (N := 11) (ci := 2) (v := .int v0) hx hb hT zin_X2 hown hK hw hm_mo hf_mo rfl 0 (by decide) (hT _ kw_204) rfl dX2_isTold_1 ?_
  refine z_if_le (tgt := 11) hx hb rfl dX2_isTold_4 (by decide) (fun c1 => ?_) (fun c1 => ?_)
  · skip
    refine lv_iconst (v := 0) hx hb dX2_isTold_11 (by decide) ?_
    exact z_zret hx hb hr rfl hlk (by decide) (by decide) hw (⟨rfl, Or.inr ⟨rfl, by omega⟩⟩) dX2_isTold_12
  · skip
    refine lv_iconst (v := 1) hx hb dX2_isTold_7 (by decide) ?_
    refine lv_goto (tgt := 12) hx hb dX2_isTold_8 (by decide) ?_
    exact z_zret hx hb hr rfl hlk (by decide) (by decide) hw (⟨rfl, Or.inl ⟨rfl, by omega⟩⟩) dX2_isTold_12

set_option maxHeartbeats 2000000 in
set_option maxRecDepth 100000 in
theorem c_X2_counterOf (l : Launch) {D : va_G} {cy : Nat → ClassId} {L : List Nat} {f : Nat → va_E} {sz : Nat} {adK adV : Nat → Nat} {mo la sa mi da : Nat} {v0 v1 v2 v3 v4 v5 v6 : Int32} {gl : Nat → Int32} {ga : Int32} (hm_mo : mo ∈ L) (hm_la : la ∈ L) (hf_mo : f mo = .inr (2, [.int v0, .int v1, .int v2, .int v3, .int v4, .int v5, .int v6, .ref la, .ref sa, .ref mi, .ref da])) (hf_la : f la = .inl (cy 1, 5, .inl gl)) (hga : 0 ≤ ga.toInt ∧ ga.toInt ≤ 3) : Met l yX2_counterOf (z_ws yX2_counterOf cX2_counterOf 2 (some .int)) (z_R 1 0 0) (va_Pc [.ref mo, .int ga] (z_Pre D vwCl (z_KK D cy adK adV) L f sz)) (z_Qi D vwCl (fun r u => u = (L, f) ∧ (0 ≤ r.toInt ∧ r.toInt ≤ 3)) L sz) 0 0 (z_A L sz) := by
  refine z_met (cc := cX2_counterOf) (maxL := 2) (ret := (some .int)) (lv := [(0, .ref mo), (1, .int ga)]) (by decide) rfl (Nat.le_of_ble_eq_true rfl) rfl ?_
  intro p e s m below meth c ls hx hb hr hlk hml hown hnm hts hKK hA hw hl
  have hK := hKK.1.1
  have hown : s.vm.findClass RX2 = some m.cls := hown
  have hT : ∀ w ∈ lw_all, w.before ([.ref mo, .int ga] : List Value).toArray s = true := fun w h => hts w (z_cons w h)
  refine lv_aload_n hx hb dX2_counterOf_0 rfl (lv_at hl 0 rfl) ?_
  refine z_get (C := RX2) (T := TX2) (N := 11) (ci := 2) (v := .ref la) hx hb hT zin_X2 hown hK hw hm_mo hf_mo rfl 7 (by decide) (hT _ kw_230) rfl dX2_counterOf_1 ?_
  refine lv_iconst (v := 0) hx hb dX2_counterOf_4 (by decide) ?_
  refine z_iald hx hb hK hw 1 hm_la hf_la rfl (z_ix (show (0 : Int32).toInt = 0 by decide) (by decide)) dX2_counterOf_5 ?_
  refine lv_topi (fun w1 e_w1 => ?_)
  refine lv_iconst (v := 1) hx hb dX2_counterOf_6 (by decide) ?_
  refine z_icmp_ne (tgt := 14) hx hb rfl (show (1 : Int32).toInt = 1 by decide) dX2_counterOf_7 (by decide) (fun c2 => ?_) (fun c2 => ?_)
  · skip
    refine lv_iload_n hx hb dX2_counterOf_14 rfl (lv_at hl 1 rfl) ?_
    exact z_iret hx hb hr hlk (by decide) (by decide) hw (⟨rfl, by omega⟩) dX2_counterOf_15
  · skip
    refine lv_iconst (v := 0) hx hb dX2_counterOf_10 (by decide) ?_
    refine lv_goto (tgt := 15) hx hb dX2_counterOf_11 (by decide) ?_
    exact z_iret hx hb hr hlk (by decide) (by decide) hw (⟨rfl, by decide⟩) dX2_counterOf_15

set_option maxHeartbeats 2000000 in
set_option maxRecDepth 100000 in
theorem c_X2_fogOf (l : Launch) {D : va_G} {cy : Nat → ClassId} {L : List Nat} {f : Nat → va_E} {sz : Nat} {adK adV : Nat → Nat} {mo la sa mi da : Nat} {v0 v1 v2 v3 v4 v5 v6 : Int32} {gm : Nat → Int32} {ga dy : Int32} (hm_mo : mo ∈ L) (hm_mi : mi ∈ L) (hf_mo : f mo = .inr (2, [.int v0, .int v1, .int v2, .int v3, .int v4, .int v5, .int v6, .ref la, .ref sa, .ref mi, .ref da])) (hf_mi : f mi = .inl (cy 1, 36, .inl gm)) (hga : 0 ≤ ga.toInt ∧ ga.toInt ≤ 3) (hdy : 0 ≤ dy.toInt ∧ dy.toInt ≤ 8) (hgm : ∀ j : Nat, 0 ≤ (gm j).toInt ∧ (gm j).toInt ≤ 9) : Met l yX2_fogOf (z_ws yX2_fogOf cX2_fogOf 3 (some .int)) (z_R 1 0 0) (va_Pc [.ref mo, .int ga, .int dy] (z_Pre D vwCl (z_KK D cy adK adV) L f sz)) (z_Qi D vwCl (fun r u => u = (L, f) ∧ (0 ≤ r.toInt ∧ r.toInt ≤ 9)) L sz) 0 0 (z_A L sz) := by
  refine z_met (cc := cX2_fogOf) (maxL := 3) (ret := (some .int)) (lv := [(0, .ref mo), (1, .int ga), (2, .int dy)]) (by decide) rfl (Nat.le_of_ble_eq_true rfl) rfl ?_
  intro p e s m below meth c ls hx hb hr hlk hml hown hnm hts hKK hA hw hl
  have hK := hKK.1.1
  have hown : s.vm.findClass RX2 = some m.cls := hown
  have hT : ∀ w ∈ lw_all, w.before ([.ref mo, .int ga, .int dy] : List Value).toArray s = true := fun w h => hts w (z_cons w h)
  refine lv_aload_n hx hb dX2_fogOf_0 rfl (lv_at hl 0 rfl) ?_
  refine z_get (C := RX2) (T := TX2) (N := 11) (ci := 2) (v := .ref mi) hx hb hT zin_X2 hown hK hw hm_mo hf_mo rfl 9 (by decide) (hT _ kw_239) rfl dX2_fogOf_1 ?_
  refine lv_iload_n hx hb dX2_fogOf_4 rfl (lv_at hl 2 rfl) ?_
  refine lv_iconst (v := 4) hx hb dX2_fogOf_5 (by decide) ?_
  refine lv_imul hx hb dX2_fogOf_6 ?_
  refine lv_topi (fun w1 e_w1 => ?_)
  have i_w1 : w1.toInt = (dy.toInt * 4) := z_mul e_w1 rfl (show (4 : Int32).toInt = 4 by decide) (by omega)
  refine lv_iload_n hx hb dX2_fogOf_7 rfl (lv_at hl 1 rfl) ?_
  refine lv_iadd hx hb dX2_fogOf_8 ?_
  refine lv_topi (fun w2 e_w2 => ?_)
  have i_w2 : w2.toInt = ((dy.toInt * 4) + ga.toInt) := z_add e_w2 i_w1 rfl (by omega)
  refine z_iald hx hb hK hw 1 hm_mi hf_mi rfl (z_ix i_w2 (by omega)) dX2_fogOf_9 ?_
  refine lv_topi (fun w3 e_w3 => ?_)
  exact z_iret hx hb hr hlk (by decide) (by decide) hw (⟨rfl, by rw [e_w3]; exact hgm _⟩) dX2_fogOf_10

set_option maxHeartbeats 2000000 in
set_option maxRecDepth 100000 in
theorem c_X2_lambsCount (l : Launch) {D : va_G} {cy : Nat → ClassId} {L : List Nat} {f : Nat → va_E} {sz : Nat} {adK adV : Nat → Nat} {mo la sa mi da : Nat} {v0 v1 v2 v3 v4 v5 v6 : Int32} {gl : Nat → Int32} {dy : Int32} (hm_mo : mo ∈ L) (hm_la : la ∈ L) (hf_mo : f mo = .inr (2, [.int v0, .int v1, .int v2, .int v3, .int v4, .int v5, .int v6, .ref la, .ref sa, .ref mi, .ref da])) (hf_la : f la = .inl (cy 1, 5, .inl gl)) : Met l yX2_lambsCount (z_ws yX2_lambsCount cX2_lambsCount 2 (some .boolean)) (z_R 1 0 0) (va_Pc [.ref mo, .int dy] (z_Pre D vwCl (z_KK D cy adK adV) L f sz)) (z_Qi D vwCl (fun r u => u = (L, f) ∧ ((r = 1 ∧ True) ∨ (r = 0 ∧ True))) L sz) 0 0 (z_A L sz) := by
  refine z_met (cc := cX2_lambsCount) (maxL := 2) (ret := (some .boolean)) (lv := [(0, .ref mo), (1, .int dy)]) (by decide) rfl (Nat.le_of_ble_eq_true rfl) rfl ?_
  intro p e s m below meth c ls hx hb hr hlk hml hown hnm hts hKK hA hw hl
  have hK := hKK.1.1
  have hown : s.vm.findClass RX2 = some m.cls := hown
  have hT : ∀ w ∈ lw_all, w.before ([.ref mo, .int dy] : List Value).toArray s = true := fun w h => hts w (z_cons w h)
  refine lv_aload_n hx hb dX2_lambsCount_0 rfl (lv_at hl 0 rfl) ?_
  refine z_get (C := RX2) (T := TX2) (N := 11) (ci := 2) (v := .ref la) hx hb hT zin_X2 hown hK hw hm_mo hf_mo rfl 7 (by decide) (hT _ kw_230) rfl dX2_lambsCount_1 ?_
  refine lv_iconst (v := 2) hx hb dX2_lambsCount_4 (by decide) ?_
  refine z_iald hx hb hK hw 1 hm_la hf_la rfl (z_ix (show (2 : Int32).toInt = 2 by decide) (by decide)) dX2_lambsCount_5 ?_
  refine lv_topi (fun w1 e_w1 => ?_)
  refine z_if_ne (tgt := 21) hx hb rfl dX2_lambsCount_6 (by decide) (fun c2 => ?_) (fun c2 => ?_)
  · skip
    refine lv_iconst (v := 0) hx hb dX2_lambsCount_21 (by decide) ?_
    exact z_zret hx hb hr rfl hlk (by decide) (by decide) hw (⟨rfl, Or.inr ⟨rfl, trivial⟩⟩) dX2_lambsCount_22
  · skip
    refine lv_iload_n hx hb dX2_lambsCount_9 rfl (lv_at hl 1 rfl) ?_
    refine lv_aload_n hx hb dX2_lambsCount_10 rfl (lv_at hl 0 rfl) ?_
    refine z_get (C := RX2) (T := TX2) (N := 11) (ci := 2) (v := .int v4) hx hb hT zin_X2 hown hK hw hm_mo hf_mo rfl 4 (by decide) (hT _ kw_218) rfl dX2_lambsCount_11 ?_
    refine z_icmp_lt (tgt := 21) hx hb rfl rfl dX2_lambsCount_14 (by decide) (fun c3 => ?_) (fun c3 => ?_)
    · skip
      refine lv_iconst (v := 0) hx hb dX2_lambsCount_21 (by decide) ?_
      exact z_zret hx hb hr rfl hlk (by decide) (by decide) hw (⟨rfl, Or.inr ⟨rfl, trivial⟩⟩) dX2_lambsCount_22
    · skip
      refine lv_iconst (v := 1) hx hb dX2_lambsCount_17 (by decide) ?_
      refine lv_goto (tgt := 22) hx hb dX2_lambsCount_18 (by decide) ?_
      exact z_zret hx hb hr rfl hlk (by decide) (by decide) hw (⟨rfl, Or.inl ⟨rfl, trivial⟩⟩) dX2_lambsCount_22

set_option maxHeartbeats 2000000 in
set_option maxRecDepth 100000 in
theorem c_X2_passage (l : Launch) {D : va_G} {cy : Nat → ClassId} {L : List Nat} {f : Nat → va_E} {sz : Nat} {adK adV : Nat → Nat} {mo la sa mi da : Nat} {v0 v1 v2 v3 v4 v5 v6 : Int32} {gd : Nat → Option Nat} {dv : Nat → Nat} {nu : Int32} (hm_mo : mo ∈ L) (hm_da : da ∈ L) (hf_mo : f mo = .inr (2, [.int v0, .int v1, .int v2, .int v3, .int v4, .int v5, .int v6, .ref la, .ref sa, .ref mi, .ref da])) (hf_da : f da = .inl (cy 4, 13, .inr (.inr (.inr (.inr gd))))) (hg_da : ∀ i : Nat, i < 13 → gd i = some (dv i)) (hd_da : z_Drv L f dv 13) (hv2 : 0 ≤ v2.toInt ∧ v2.toInt ≤ 9) (hnu : 0 ≤ nu.toInt ∧ nu.toInt ≤ 12) : Met l yX2_passage (z_ws yX2_passage cX2_passage 4 (some .int)) (z_R 1 0 0) (va_Pc [.ref mo, .int nu] (z_Pre D vwCl (z_KK D cy adK adV) L f sz)) (z_Qi D vwCl (fun r u => u = (L, f) ∧ (r.toInt = -1 ∨ (0 ≤ r.toInt ∧ r.toInt < 24 * v2.toInt ∧ r.toInt ≤ 216))) L sz) 0 0 (z_A L sz) := by
  refine z_met (cc := cX2_passage) (maxL := 4) (ret := (some .int)) (lv := [(0, .ref mo), (1, .int nu)]) (by decide) rfl (Nat.le_of_ble_eq_true rfl) rfl ?_
  intro p e s m below meth c ls hx hb hr hlk hml hown hnm hts hKK hA hw hl
  have hK := hKK.1.1
  have hown : s.vm.findClass RX2 = some m.cls := hown
  have hT : ∀ w ∈ lw_all, w.before ([.ref mo, .int nu] : List Value).toArray s = true := fun w h => hts w (z_cons w h)
  refine lv_aload_n hx hb dX2_passage_0 rfl (lv_at hl 0 rfl) ?_
  refine z_get (C := RX2) (T := TX2) (N := 11) (ci := 2) (v := .ref da) hx hb hT zin_X2 hown hK hw hm_mo hf_mo rfl 10 (by decide) (hT _ kw_241) rfl dX2_passage_1 ?_
  refine lv_iload_n hx hb dX2_passage_4 rfl (lv_at hl 1 rfl) ?_
  obtain ⟨dq1, e_dq1⟩ : ∃ z, z = dv nu.toNatClampNeg := ⟨_, rfl⟩
  have hi_dq1 : nu.toNatClampNeg < 13 := z_clI rfl (by omega)
  refine z_aald (b := dq1) hx hb hK hw 4 hm_da hf_da rfl (z_ix rfl (by omega)) (by rw [e_dq1]; exact hg_da _ hi_dq1) dX2_passage_5 ?_
  obtain ⟨hm_dq1, do2, dg3, dd4, dh5, ds6, dl7, dp8, dm9, hf_dq1, hr_do2, hr_dg3, hr_dd4, hr_dh5, hr_ds6, hr_dl7, hr_dp8, hr_dm9⟩ := hd_da _ hi_dq1
  rw [← e_dq1] at hm_dq1 hf_dq1
  refine lv_astore_n (lv' := [(2, .ref dq1), (0, .ref mo), (1, .int nu)]) hx hb dX2_passage_6 rfl hl (by decide) rfl (fun ls hl => ?_)
  refine lv_bipush (v := 24) hx hb dX2_passage_7 (by decide) ?_
  refine lv_aload_n hx hb dX2_passage_9 rfl (lv_at hl 0 rfl) ?_
  refine z_get (C := RX0) (T := TX0) (N := 8) (ci := 0) (v := .int dd4) hx hb hT zin_X0 hown hK hw hm_dq1 hf_dq1 rfl 2 (by decide) (hT _ kw_155) rfl dX2_passage_10 ?_
  refine lv_imul hx hb dX2_passage_13 ?_
  refine lv_topi (fun w10 e_w10 => ?_)
  have i_w10 : w10.toInt = (24 * dd4.toInt) := z_mul e_w10 (show (24 : Int32).toInt = 24 by decide) rfl (by omega)
  refine lv_aload_n hx hb dX2_passage_14 rfl (lv_at hl 0 rfl) ?_
  refine z_get (C := RX0) (T := TX0) (N := 8) (ci := 0) (v := .int dh5) hx hb hT zin_X0 hown hK hw hm_dq1 hf_dq1 rfl 3 (by decide) (hT _ kw_160) rfl dX2_passage_15 ?_
  refine lv_iadd hx hb dX2_passage_18 ?_
  refine lv_topi (fun w11 e_w11 => ?_)
  have i_w11 : w11.toInt = ((24 * dd4.toInt) + dh5.toInt) := z_add e_w11 i_w10 rfl (by omega)
  refine lv_aload_n hx hb dX2_passage_19 rfl (lv_at hl 0 rfl) ?_
  refine z_get (C := RX0) (T := TX0) (N := 8) (ci := 0) (v := .int dm9) hx hb hT zin_X0 hown hK hw hm_dq1 hf_dq1 rfl 7 (by decide) (hT _ kw_184) rfl dX2_passage_20 ?_
  refine lv_iadd hx hb dX2_passage_23 ?_
  refine lv_topi (fun w12 e_w12 => ?_)
  have i_w12 : w12.toInt = (((24 * dd4.toInt) + dh5.toInt) + dm9.toInt) := z_add e_w12 i_w11 rfl (by omega)
  refine lv_istore_n (lv' := [(3, .int w12), (2, .ref dq1), (0, .ref mo), (1, .int nu)]) hx hb dX2_passage_24 rfl hl (by decide) rfl (fun ls hl => ?_)
  refine lv_iload_n hx hb dX2_passage_25 rfl (lv_at hl 0 rfl) ?_
  refine lv_bipush (v := 24) hx hb dX2_passage_26 (by decide) ?_
  refine lv_aload_n hx hb dX2_passage_28 rfl (lv_at hl 2 rfl) ?_
  refine z_get (C := RX2) (T := TX2) (N := 11) (ci := 2) (v := .int v2) hx hb hT zin_X2 hown hK hw hm_mo hf_mo rfl 2 (by decide) (hT _ kw_211) rfl dX2_passage_29 ?_
  refine lv_imul hx hb dX2_passage_32 ?_
  refine lv_topi (fun w13 e_w13 => ?_)
  have i_w13 : w13.toInt = (24 * v2.toInt) := z_mul e_w13 (show (24 : Int32).toInt = 24 by decide) rfl (by omega)
  refine z_icmp_ge (tgt := 40) hx hb i_w12 i_w13 dX2_passage_33 (by decide) (fun c14 => ?_) (fun c14 => ?_)
  · skip
    refine lv_iconst (v := (-1)) hx hb dX2_passage_40 (by decide) ?_
    exact z_iret hx hb hr hlk (by decide) (by decide) hw (⟨rfl, Or.inl (by decide)⟩) dX2_passage_41
  · skip
    refine lv_iload_n hx hb dX2_passage_36 rfl (lv_at hl 0 rfl) ?_
    refine lv_goto (tgt := 41) hx hb dX2_passage_37 (by decide) ?_
    exact z_iret hx hb hr hlk (by decide) (by decide) hw (⟨rfl, Or.inr (by omega)⟩) dX2_passage_41

set_option maxHeartbeats 2000000 in
set_option maxRecDepth 100000 in
theorem c_X2_goesBy (l : Launch) {D : va_G} {cy : Nat → ClassId} {L : List Nat} {f : Nat → va_E} {sz : Nat} {adK adV : Nat → Nat} {mo la sa mi da : Nat} {v0 v1 v2 v3 v4 v5 v6 : Int32} {gd : Nat → Option Nat} {dv : Nat → Nat} {nu ga dy : Int32} (hm_mo : mo ∈ L) (hm_da : da ∈ L) (hf_mo : f mo = .inr (2, [.int v0, .int v1, .int v2, .int v3, .int v4, .int v5, .int v6, .ref la, .ref sa, .ref mi, .ref da])) (hf_da : f da = .inl (cy 4, 13, .inr (.inr (.inr (.inr gd))))) (hg_da : ∀ i : Nat, i < 13 → gd i = some (dv i)) (hd_da : z_Drv L f dv 13) (hv2 : 0 ≤ v2.toInt ∧ v2.toInt ≤ 9) (hnu : 0 ≤ nu.toInt ∧ nu.toInt ≤ 12) : Met l yX2_goesBy (z_ws yX2_goesBy cX2_goesBy 5 (some .boolean)) (z_R 2 0 0) (va_Pc [.ref mo, .int nu, .int ga, .int dy] (z_Pre D vwCl (z_KK D cy adK adV) L f sz)) (z_Qi D vwCl (fun r u => u = (L, f) ∧ ((r = 1 ∧ True) ∨ (r = 0 ∧ True))) L sz) 0 0 (z_A L sz) := by
  refine z_met (cc := cX2_goesBy) (maxL := 5) (ret := (some .boolean)) (lv := [(0, .ref mo), (1, .int nu), (2, .int ga), (3, .int dy)]) (by decide) rfl (Nat.le_of_ble_eq_true rfl) rfl ?_
  intro p e s m below meth c ls hx hb hr hlk hml hown hnm hts hKK hA hw hl
  have hK := hKK.1.1
  have hown : s.vm.findClass RX2 = some m.cls := hown
  have hT : ∀ w ∈ lw_all, w.before ([.ref mo, .int nu, .int ga, .int dy] : List Value).toArray s = true := fun w h => hts w (z_cons w h)
  refine lv_aload_n hx hb dX2_goesBy_0 rfl (lv_at hl 0 rfl) ?_
  refine lv_iload_n hx hb dX2_goesBy_1 rfl (lv_at hl 1 rfl) ?_
  refine z_calliV (cells := 0) (slots := 0) (b := mo) (As := [.int nu]) (rest := []) (ci := 2) (q0 := (RX2, TX2, 11)) ⟨hx, hb, hml, hown, hT⟩ (c_X2_passage l hm_mo hm_da hf_mo hf_da hg_da hd_da (by first | omega | decide | assumption) (by first | omega | decide | assumption)) (cwV 1 hT (z_goodV (fun _ h => h) kw_822 kw_718 kw_719 kw_87 kw_720) rfl rfl rfl (by decide +kernel) ⟨by decide, by decide⟩) z_mv hKK hK hw hA hm_mo hf_mo rfl rfl rfl hl.1 rfl (Nat.le_of_ble_eq_true rfl) dX2_goesBy_2 ⟨by decide, by decide⟩ (fun r1 u H locs hp hw => ?_)
  obtain ⟨rfl, hp⟩ := hp
  have hw : z_H D vwCl (z_A L sz) s.heap L f H locs := hw
  refine lv_istore (lv' := [(4, .int r1), (0, .ref mo), (1, .int nu), (2, .int ga), (3, .int dy)]) hx hb dX2_goesBy_5 hl (by decide) rfl (fun ls hl => ?_)
  refine lv_iload hx hb dX2_goesBy_7 (lv_at hl 0 rfl) ?_
  refine lv_iconst (v := (-1)) hx hb dX2_goesBy_9 (by decide) ?_
  refine z_icmp_eq (tgt := 39) hx hb rfl (show ((-1) : Int32).toInt = (-1) by decide) dX2_goesBy_10 (by decide) (fun c2 => ?_) (fun c2 => ?_)
  · skip
    refine lv_iconst (v := 0) hx hb dX2_goesBy_39 (by decide) ?_
    exact z_zret hx hb hr rfl hlk (by decide) (by decide) hw (⟨rfl, Or.inr ⟨rfl, trivial⟩⟩) dX2_goesBy_40
  · skip
    refine lv_iload hx hb dX2_goesBy_13 (lv_at hl 0 rfl) ?_
    refine lv_bipush (v := 24) hx hb dX2_goesBy_15 (by decide) ?_
    refine lv_idiv hx hb dX2_goesBy_17 (by decide) ?_
    refine lv_topi (fun w3 e_w3 => ?_)
    have i_w3 : w3.toInt = r1.toInt / 24 := z_div e_w3 rfl (show (24 : Int32).toInt = 24 by decide) (by omega)
    refine lv_iload_n hx hb dX2_goesBy_18 rfl (lv_at hl 4 rfl) ?_
    refine z_icmp_ne (tgt := 39) hx hb i_w3 rfl dX2_goesBy_19 (by decide) (fun c4 => ?_) (fun c4 => ?_)
    · skip
      refine lv_iconst (v := 0) hx hb dX2_goesBy_39 (by decide) ?_
      exact z_zret hx hb hr rfl hlk (by decide) (by decide) hw (⟨rfl, Or.inr ⟨rfl, trivial⟩⟩) dX2_goesBy_40
    · skip
      refine lv_aload_n hx hb dX2_goesBy_22 rfl (lv_at hl 1 rfl) ?_
      refine z_get (C := RX2) (T := TX2) (N := 11) (ci := 2) (v := .ref da) hx hb hT zin_X2 hown hK hw hm_mo hf_mo rfl 10 (by decide) (hT _ kw_241) rfl dX2_goesBy_23 ?_
      refine lv_iload_n hx hb dX2_goesBy_26 rfl (lv_at hl 2 rfl) ?_
      obtain ⟨dq5, e_dq5⟩ : ∃ z, z = dv nu.toNatClampNeg := ⟨_, rfl⟩
      have hi_dq5 : nu.toNatClampNeg < 13 := z_clI rfl (by omega)
      refine z_aald (b := dq5) hx hb hK hw 4 hm_da hf_da rfl (z_ix rfl (by omega)) (by rw [e_dq5]; exact hg_da _ hi_dq5) dX2_goesBy_27 ?_
      obtain ⟨hm_dq5, do6, dg7, dd8, dh9, ds10, dl11, dp12, dm13, hf_dq5, hr_do6, hr_dg7, hr_dd8, hr_dh9, hr_ds10, hr_dl11, hr_dp12, hr_dm13⟩ := hd_da _ hi_dq5
      rw [← e_dq5] at hm_dq5 hf_dq5
      refine z_get (C := RX0) (T := TX0) (N := 8) (ci := 0) (v := .int dg7) hx hb hT zin_X0 hown hK hw hm_dq5 hf_dq5 rfl 1 (by decide) (hT _ kw_150) rfl dX2_goesBy_28 ?_
      refine lv_iload_n hx hb dX2_goesBy_31 rfl (lv_at hl 3 rfl) ?_
      refine z_icmp_ne (tgt := 39) hx hb rfl rfl dX2_goesBy_32 (by decide) (fun c14 => ?_) (fun c14 => ?_)
      · skip
        refine lv_iconst (v := 0) hx hb dX2_goesBy_39 (by decide) ?_
        exact z_zret hx hb hr rfl hlk (by decide) (by decide) hw (⟨rfl, Or.inr ⟨rfl, trivial⟩⟩) dX2_goesBy_40
      · skip
        refine lv_iconst (v := 1) hx hb dX2_goesBy_35 (by decide) ?_
        refine lv_goto (tgt := 40) hx hb dX2_goesBy_36 (by decide) ?_
        exact z_zret hx hb hr rfl hlk (by decide) (by decide) hw (⟨rfl, Or.inl ⟨rfl, trivial⟩⟩) dX2_goesBy_40

set_option maxHeartbeats 2000000 in
set_option maxRecDepth 100000 in
theorem c_X2_beastsThrough (l : Launch) {D : va_G} {cy : Nat → ClassId} {L : List Nat} {f : Nat → va_E} {sz : Nat} {adK adV : Nat → Nat} {mo la sa mi da : Nat} {v0 v1 v2 v3 v4 v5 v6 : Int32} {gd : Nat → Option Nat} {dv : Nat → Nat} {ga dy : Int32} (hm_mo : mo ∈ L) (hm_da : da ∈ L) (hf_mo : f mo = .inr (2, [.int v0, .int v1, .int v2, .int v3, .int v4, .int v5, .int v6, .ref la, .ref sa, .ref mi, .ref da])) (hf_da : f da = .inl (cy 4, 13, .inr (.inr (.inr (.inr gd))))) (hg_da : ∀ i : Nat, i < 13 → gd i = some (dv i)) (hd_da : z_Drv L f dv 13) (hv2 : 0 ≤ v2.toInt ∧ v2.toInt ≤ 9) (hv5 : 0 ≤ v5.toInt ∧ v5.toInt ≤ 13) : Met l yX2_beastsThrough (z_ws yX2_beastsThrough cX2_beastsThrough 5 (some .int)) (z_R 3 0 0) (va_Pc [.ref mo, .int ga, .int dy] (z_Pre D vwCl (z_KK D cy adK adV) L f sz)) (z_Qi D vwCl (fun r u => u = (L, f) ∧ (True)) L sz) 0 0 (z_A L sz) := by
  refine z_met (cc := cX2_beastsThrough) (maxL := 5) (ret := (some .int)) (lv := [(0, .ref mo), (1, .int ga), (2, .int dy)]) (by decide) rfl (Nat.le_of_ble_eq_true rfl) rfl ?_
  intro p e s m below meth c ls hx hb hr hlk hml hown hnm hts hKK hA hw hl
  have hK := hKK.1.1
  have hown : s.vm.findClass RX2 = some m.cls := hown
  have hT : ∀ w ∈ lw_all, w.before ([.ref mo, .int ga, .int dy] : List Value).toArray s = true := fun w h => hts w (z_cons w h)
  refine lv_iconst (v := 0) hx hb dX2_beastsThrough_0 (by decide) ?_
  refine lv_istore_n (lv' := [(3, .int 0), (0, .ref mo), (1, .int ga), (2, .int dy)]) hx hb dX2_beastsThrough_1 rfl hl (by decide) rfl (fun ls hl => ?_)
  refine lv_iconst (v := 0) hx hb dX2_beastsThrough_2 (by decide) ?_
  refine lv_istore (lv' := [(4, .int 0), (3, .int 0), (0, .ref mo), (1, .int ga), (2, .int dy)]) hx hb dX2_beastsThrough_3 hl (by decide) rfl (fun ls hl => ?_)
  have hzk : (0 : Int32).toInt = 0 := by decide
  refine z_loop (fun n H locs ls => ∃ (K1 : Int32) (V2 : Int32), (n = (v5.toInt - K1.toInt).toNat) ∧ (0 ≤ K1.toInt) ∧ (K1.toInt ≤ v5.toInt) ∧ (z_H D vwCl (z_A L sz) s.heap L f H locs) ∧ (lv_has ls 5 [(4, .int K1), (3, .int V2), (0, .ref mo), (1, .int ga), (2, .int dy)])) _ ⟨0, 0, rfl, (by first | decide | omega), (by first | decide | omega), hw, (lv_sub hl [0, 1, 2, 3, 4] rfl)⟩ (fun n H locs ls hI ih_5 => ?_)
  obtain ⟨K1, V2, hn, hk0, hk1, hw, hl⟩ := hI
  refine lv_iload hx hb dX2_beastsThrough_5 (lv_at hl 0 rfl) ?_
  refine lv_aload_n hx hb dX2_beastsThrough_7 rfl (lv_at hl 2 rfl) ?_
  refine z_get (C := RX2) (T := TX2) (N := 11) (ci := 2) (v := .int v5) hx hb hT zin_X2 hown hK hw hm_mo hf_mo rfl 5 (by decide) (hT _ kw_222) rfl dX2_beastsThrough_8 ?_
  refine z_icmp_ge (tgt := 55) hx hb rfl rfl dX2_beastsThrough_11 (by decide) (fun c3 => ?_) (fun c3 => ?_)
  · skip
    refine lv_iload_n hx hb dX2_beastsThrough_55 rfl (lv_at hl 1 rfl) ?_
    exact z_iret hx hb hr hlk (by decide) (by decide) hw (⟨rfl, trivial⟩) dX2_beastsThrough_56
  · skip
    refine lv_aload_n hx hb dX2_beastsThrough_14 rfl (lv_at hl 2 rfl) ?_
    refine lv_iload hx hb dX2_beastsThrough_15 (lv_at hl 0 rfl) ?_
    refine lv_iload_n hx hb dX2_beastsThrough_17 rfl (lv_at hl 3 rfl) ?_
    refine lv_iload_n hx hb dX2_beastsThrough_18 rfl (lv_at hl 4 rfl) ?_
    refine z_calliV (cells := 0) (slots := 0) (b := mo) (As := [.int K1, .int ga, .int dy]) (rest := []) (ci := 2) (q0 := (RX2, TX2, 11)) ⟨hx, hb, hml, hown, hT⟩ (c_X2_goesBy l hm_mo hm_da hf_mo hf_da hg_da hd_da (by first | omega | decide | assumption) (by first | omega | decide | assumption)) (cwV 3 hT (z_goodV (fun _ h => h) kw_818 kw_819 kw_820 kw_87 kw_821) rfl rfl rfl (by decide +kernel) ⟨by decide, by decide⟩) z_mv hKK hK hw hA hm_mo hf_mo rfl rfl rfl hl.1 rfl (Nat.le_of_ble_eq_true rfl) dX2_beastsThrough_19 ⟨by decide, by decide⟩ (fun r4 u H locs hp hw => ?_)
    obtain ⟨rfl, hp⟩ := hp
    have hw : z_H D vwCl (z_A L sz) s.heap L f H locs := hw
    rcases hp with ⟨rfl, h5⟩ | ⟨rfl, h5⟩
    · skip
      refine z_if_eq (tgt := 49) hx hb (show (1 : Int32).toInt = 1 by decide) dX2_beastsThrough_22 (by decide) (fun h => absurd h (by decide)) (fun _ => ?_)
      refine lv_iload_n hx hb dX2_beastsThrough_25 rfl (lv_at hl 1 rfl) ?_
      refine lv_aload_n hx hb dX2_beastsThrough_26 rfl (lv_at hl 2 rfl) ?_
      refine z_get (C := RX2) (T := TX2) (N := 11) (ci := 2) (v := .ref da) hx hb hT zin_X2 hown hK hw hm_mo hf_mo rfl 10 (by decide) (hT _ kw_241) rfl dX2_beastsThrough_27 ?_
      refine lv_iload hx hb dX2_beastsThrough_30 (lv_at hl 0 rfl) ?_
      obtain ⟨dq6, e_dq6⟩ : ∃ z, z = dv K1.toNatClampNeg := ⟨_, rfl⟩
      have hi_dq6 : K1.toNatClampNeg < 13 := z_clI rfl (by omega)
      refine z_aald (b := dq6) hx hb hK hw 4 hm_da hf_da rfl (z_ix rfl (by omega)) (by rw [e_dq6]; exact hg_da _ hi_dq6) dX2_beastsThrough_32 ?_
      obtain ⟨hm_dq6, do7, dg8, dd9, dh10, ds11, dl12, dp13, dm14, hf_dq6, hr_do7, hr_dg8, hr_dd9, hr_dh10, hr_ds11, hr_dl12, hr_dp13, hr_dm14⟩ := hd_da _ hi_dq6
      rw [← e_dq6] at hm_dq6 hf_dq6
      refine z_get (C := RX0) (T := TX0) (N := 8) (ci := 0) (v := .int ds11) hx hb hT zin_X0 hown hK hw hm_dq6 hf_dq6 rfl 4 (by decide) (hT _ kw_166) rfl dX2_beastsThrough_33 ?_
      refine lv_aload_n hx hb dX2_beastsThrough_36 rfl (lv_at hl 2 rfl) ?_
      refine z_get (C := RX2) (T := TX2) (N := 11) (ci := 2) (v := .ref da) hx hb hT zin_X2 hown hK hw hm_mo hf_mo rfl 10 (by decide) (hT _ kw_241) rfl dX2_beastsThrough_37 ?_
      refine lv_iload hx hb dX2_beastsThrough_40 (lv_at hl 0 rfl) ?_
      obtain ⟨dq15, e_dq15⟩ : ∃ z, z = dv K1.toNatClampNeg := ⟨_, rfl⟩
      have hi_dq15 : K1.toNatClampNeg < 13 := z_clI rfl (by omega)
      refine z_aald (b := dq15) hx hb hK hw 4 hm_da hf_da rfl (z_ix rfl (by omega)) (by rw [e_dq15]; exact hg_da _ hi_dq15) dX2_beastsThrough_42 ?_
      obtain ⟨hm_dq15, do16, dg17, dd18, dh19, ds20, dl21, dp22, dm23, hf_dq15, hr_do16, hr_dg17, hr_dd18, hr_dh19, hr_ds20, hr_dl21, hr_dp22, hr_dm23⟩ := hd_da _ hi_dq15
      rw [← e_dq15] at hm_dq15 hf_dq15
      refine z_get (C := RX0) (T := TX0) (N := 8) (ci := 0) (v := .int dl21) hx hb hT zin_X0 hown hK hw hm_dq15 hf_dq15 rfl 5 (by decide) (hT _ kw_172) rfl dX2_beastsThrough_43 ?_
      refine lv_iadd hx hb dX2_beastsThrough_46 ?_
      refine lv_topi (fun w24 e_w24 => ?_)
      refine lv_iadd hx hb dX2_beastsThrough_47 ?_
      refine lv_topi (fun w25 e_w25 => ?_)
      refine lv_istore_n (lv' := [(3, .int w25), (4, .int K1), (0, .ref mo), (1, .int ga), (2, .int dy)]) hx hb dX2_beastsThrough_48 rfl hl (by decide) rfl (fun ls hl => ?_)
      obtain ⟨k26, e_k26⟩ : ∃ z : Int32, z = K1 + 1 := ⟨_, rfl⟩
      refine lv_iinc (v := k26) (lv' := [(4, .int k26), (3, .int w25), (0, .ref mo), (1, .int ga), (2, .int dy)]) hx hb dX2_beastsThrough_49 hl (k := 1) rfl (by rw [e_k26]; rfl) (by decide) rfl (fun ls hl => ?_)
      have i_k26 : k26.toInt = (K1.toInt + 1) := z_add e_k26 rfl (by decide) (by omega)
      refine lv_goto (tgt := 5) hx hb dX2_beastsThrough_52 (by decide) ?_
      exact ih_5 _ (by omega) _ _ _ ⟨k26, w25, rfl, (by first | decide | omega), (by first | decide | omega), hw, (lv_sub hl [0, 1, 2, 3, 4] rfl)⟩
    · skip
      refine z_if_eq (tgt := 49) hx hb (show (0 : Int32).toInt = 0 by decide) dX2_beastsThrough_22 (by decide) (fun _ => ?_) (fun h => absurd h (by decide))
      obtain ⟨k27, e_k27⟩ : ∃ z : Int32, z = K1 + 1 := ⟨_, rfl⟩
      refine lv_iinc (v := k27) (lv' := [(4, .int k27), (3, .int V2), (0, .ref mo), (1, .int ga), (2, .int dy)]) hx hb dX2_beastsThrough_49 hl (k := 0) rfl (by rw [e_k27]; rfl) (by decide) rfl (fun ls hl => ?_)
      have i_k27 : k27.toInt = (K1.toInt + 1) := z_add e_k27 rfl (by decide) (by omega)
      refine lv_goto (tgt := 5) hx hb dX2_beastsThrough_52 (by decide) ?_
      exact ih_5 _ (by omega) _ _ _ ⟨k27, V2, rfl, (by first | decide | omega), (by first | decide | omega), hw, (lv_sub hl [0, 1, 2, 3, 4] rfl)⟩

set_option maxHeartbeats 2000000 in
set_option maxRecDepth 100000 in
theorem c_X2_countedThrough (l : Launch) {D : va_G} {cy : Nat → ClassId} {L : List Nat} {f : Nat → va_E} {sz : Nat} {adK adV : Nat → Nat} {mo la sa mi da : Nat} {v0 v1 v2 v3 v4 v5 v6 : Int32} {gl gm : Nat → Int32} {gd : Nat → Option Nat} {dv : Nat → Nat} {ga dy : Int32} (hm_mo : mo ∈ L) (hm_la : la ∈ L) (hm_mi : mi ∈ L) (hm_da : da ∈ L) (hf_mo : f mo = .inr (2, [.int v0, .int v1, .int v2, .int v3, .int v4, .int v5, .int v6, .ref la, .ref sa, .ref mi, .ref da])) (hf_la : f la = .inl (cy 1, 5, .inl gl)) (hf_mi : f mi = .inl (cy 1, 36, .inl gm)) (hf_da : f da = .inl (cy 4, 13, .inr (.inr (.inr (.inr gd))))) (hg_da : ∀ i : Nat, i < 13 → gd i = some (dv i)) (hd_da : z_Drv L f dv 13) (hv2 : 0 ≤ v2.toInt ∧ v2.toInt ≤ 9) (hv5 : 0 ≤ v5.toInt ∧ v5.toInt ≤ 13) (hga : 0 ≤ ga.toInt ∧ ga.toInt ≤ 3) (hdy : 0 ≤ dy.toInt ∧ dy.toInt ≤ 8) (hgm : ∀ j : Nat, 0 ≤ (gm j).toInt ∧ (gm j).toInt ≤ 9) : Met l yX2_countedThrough (z_ws yX2_countedThrough cX2_countedThrough 5 (some .int)) (z_R 3 0 0) (va_Pc [.ref mo, .int ga, .int dy] (z_Pre D vwCl (z_KK D cy adK adV) L f sz)) (z_Qi D vwCl (fun r u => u = (L, f) ∧ (True)) L sz) 0 0 (z_A L sz) := by
  refine z_met (cc := cX2_countedThrough) (maxL := 5) (ret := (some .int)) (lv := [(0, .ref mo), (1, .int ga), (2, .int dy)]) (by decide) rfl (Nat.le_of_ble_eq_true rfl) rfl ?_
  intro p e s m below meth c ls hx hb hr hlk hml hown hnm hts hKK hA hw hl
  have hK := hKK.1.1
  have hown : s.vm.findClass RX2 = some m.cls := hown
  have hT : ∀ w ∈ lw_all, w.before ([.ref mo, .int ga, .int dy] : List Value).toArray s = true := fun w h => hts w (z_cons w h)
  refine lv_iconst (v := 0) hx hb dX2_countedThrough_0 (by decide) ?_
  refine lv_istore_n (lv' := [(3, .int 0), (0, .ref mo), (1, .int ga), (2, .int dy)]) hx hb dX2_countedThrough_1 rfl hl (by decide) rfl (fun ls hl => ?_)
  refine lv_iconst (v := 0) hx hb dX2_countedThrough_2 (by decide) ?_
  refine lv_istore (lv' := [(4, .int 0), (3, .int 0), (0, .ref mo), (1, .int ga), (2, .int dy)]) hx hb dX2_countedThrough_3 hl (by decide) rfl (fun ls hl => ?_)
  have hzk : (0 : Int32).toInt = 0 := by decide
  refine z_loop (fun n H locs ls => ∃ (K1 : Int32) (V2 : Int32), (n = (v5.toInt - K1.toInt).toNat) ∧ (0 ≤ K1.toInt) ∧ (K1.toInt ≤ v5.toInt) ∧ (z_H D vwCl (z_A L sz) s.heap L f H locs) ∧ (lv_has ls 5 [(4, .int K1), (3, .int V2), (0, .ref mo), (1, .int ga), (2, .int dy)])) _ ⟨0, 0, rfl, (by first | decide | omega), (by first | decide | omega), hw, (lv_sub hl [0, 1, 2, 3, 4] rfl)⟩ (fun n H locs ls hI ih_5 => ?_)
  obtain ⟨K1, V2, hn, hk0, hk1, hw, hl⟩ := hI
  refine lv_iload hx hb dX2_countedThrough_5 (lv_at hl 0 rfl) ?_
  refine lv_aload_n hx hb dX2_countedThrough_7 rfl (lv_at hl 2 rfl) ?_
  refine z_get (C := RX2) (T := TX2) (N := 11) (ci := 2) (v := .int v5) hx hb hT zin_X2 hown hK hw hm_mo hf_mo rfl 5 (by decide) (hT _ kw_222) rfl dX2_countedThrough_8 ?_
  refine z_icmp_ge (tgt := 49) hx hb rfl rfl dX2_countedThrough_11 (by decide) (fun c3 => ?_) (fun c3 => ?_)
  · skip
    refine lv_aload_n hx hb dX2_countedThrough_49 rfl (lv_at hl 2 rfl) ?_
    refine lv_iload_n hx hb dX2_countedThrough_50 rfl (lv_at hl 3 rfl) ?_
    refine lv_iload_n hx hb dX2_countedThrough_51 rfl (lv_at hl 4 rfl) ?_
    refine z_calliV (cells := 0) (slots := 0) (b := mo) (As := [.int ga, .int dy]) (rest := []) (ci := 2) (q0 := (RX2, TX2, 11)) ⟨hx, hb, hml, hown, hT⟩ (c_X2_fogOf l hm_mo hm_mi hf_mo hf_mi (by first | omega | decide | assumption) (by first | omega | decide | assumption) (by first | omega | decide | assumption)) (cwV 2 hT (z_goodV (fun _ h => h) kw_829 kw_802 kw_803 kw_87 kw_804) rfl rfl rfl (by decide +kernel) ⟨by decide, by decide⟩) z_mv hKK hK hw hA hm_mo hf_mo rfl rfl rfl hl.1 rfl (Nat.le_of_ble_eq_true rfl) dX2_countedThrough_52 ⟨by decide, by decide⟩ (fun r4 u H locs hp hw => ?_)
    obtain ⟨rfl, hp⟩ := hp
    have hw : z_H D vwCl (z_A L sz) s.heap L f H locs := hw
    refine lv_istore (lv' := [(4, .int r4), (3, .int V2), (0, .ref mo), (1, .int ga), (2, .int dy)]) hx hb dX2_countedThrough_55 hl (by decide) rfl (fun ls hl => ?_)
    refine lv_iload hx hb dX2_countedThrough_57 (lv_at hl 0 rfl) ?_
    refine z_if_le (tgt := 71) hx hb rfl dX2_countedThrough_59 (by decide) (fun c5 => ?_) (fun c5 => ?_)
    · skip
      refine lv_iload_n hx hb dX2_countedThrough_71 rfl (lv_at hl 1 rfl) ?_
      exact z_iret hx hb hr hlk (by decide) (by decide) hw (⟨rfl, trivial⟩) dX2_countedThrough_72
    · skip
      refine lv_iload_n hx hb dX2_countedThrough_62 rfl (lv_at hl 1 rfl) ?_
      refine lv_iload_n hx hb dX2_countedThrough_63 rfl (lv_at hl 1 rfl) ?_
      refine lv_iload hx hb dX2_countedThrough_64 (lv_at hl 0 rfl) ?_
      refine lv_idiv hx hb dX2_countedThrough_66 (z_ne0 rfl (by omega)) ?_
      refine lv_topi (fun w6 e_w6 => ?_)
      refine lv_isub hx hb dX2_countedThrough_67 ?_
      refine lv_topi (fun w7 e_w7 => ?_)
      refine lv_goto (tgt := 72) hx hb dX2_countedThrough_68 (by decide) ?_
      exact z_iret hx hb hr hlk (by decide) (by decide) hw (⟨rfl, trivial⟩) dX2_countedThrough_72
  · skip
    refine lv_aload_n hx hb dX2_countedThrough_14 rfl (lv_at hl 2 rfl) ?_
    refine lv_iload hx hb dX2_countedThrough_15 (lv_at hl 0 rfl) ?_
    refine lv_iload_n hx hb dX2_countedThrough_17 rfl (lv_at hl 3 rfl) ?_
    refine lv_iload_n hx hb dX2_countedThrough_18 rfl (lv_at hl 4 rfl) ?_
    refine z_calliV (cells := 0) (slots := 0) (b := mo) (As := [.int K1, .int ga, .int dy]) (rest := []) (ci := 2) (q0 := (RX2, TX2, 11)) ⟨hx, hb, hml, hown, hT⟩ (c_X2_goesBy l hm_mo hm_da hf_mo hf_da hg_da hd_da (by first | omega | decide | assumption) (by first | omega | decide | assumption)) (cwV 3 hT (z_goodV (fun _ h => h) kw_818 kw_819 kw_820 kw_87 kw_821) rfl rfl rfl (by decide +kernel) ⟨by decide, by decide⟩) z_mv hKK hK hw hA hm_mo hf_mo rfl rfl rfl hl.1 rfl (Nat.le_of_ble_eq_true rfl) dX2_countedThrough_19 ⟨by decide, by decide⟩ (fun r8 u H locs hp hw => ?_)
    obtain ⟨rfl, hp⟩ := hp
    have hw : z_H D vwCl (z_A L sz) s.heap L f H locs := hw
    rcases hp with ⟨rfl, h9⟩ | ⟨rfl, h9⟩
    · skip
      refine z_if_eq (tgt := 43) hx hb (show (1 : Int32).toInt = 1 by decide) dX2_countedThrough_22 (by decide) (fun h => absurd h (by decide)) (fun _ => ?_)
      refine lv_iload_n hx hb dX2_countedThrough_25 rfl (lv_at hl 1 rfl) ?_
      refine lv_aload_n hx hb dX2_countedThrough_26 rfl (lv_at hl 2 rfl) ?_
      refine z_get (C := RX2) (T := TX2) (N := 11) (ci := 2) (v := .ref da) hx hb hT zin_X2 hown hK hw hm_mo hf_mo rfl 10 (by decide) (hT _ kw_241) rfl dX2_countedThrough_27 ?_
      refine lv_iload hx hb dX2_countedThrough_30 (lv_at hl 0 rfl) ?_
      obtain ⟨dq10, e_dq10⟩ : ∃ z, z = dv K1.toNatClampNeg := ⟨_, rfl⟩
      have hi_dq10 : K1.toNatClampNeg < 13 := z_clI rfl (by omega)
      refine z_aald (b := dq10) hx hb hK hw 4 hm_da hf_da rfl (z_ix rfl (by omega)) (by rw [e_dq10]; exact hg_da _ hi_dq10) dX2_countedThrough_32 ?_
      obtain ⟨hm_dq10, do11, dg12, dd13, dh14, ds15, dl16, dp17, dm18, hf_dq10, hr_do11, hr_dg12, hr_dd13, hr_dh14, hr_ds15, hr_dl16, hr_dp17, hr_dm18⟩ := hd_da _ hi_dq10
      rw [← e_dq10] at hm_dq10 hf_dq10
      refine lv_aload_n hx hb dX2_countedThrough_33 rfl (lv_at hl 2 rfl) ?_
      refine lv_iload_n hx hb dX2_countedThrough_34 rfl (lv_at hl 4 rfl) ?_
      refine z_calliV (cells := 0) (slots := 0) (b := mo) (As := [.int dy]) (rest := [.ref dq10, .int V2]) (ci := 2) (q0 := (RX2, TX2, 11)) ⟨hx, hb, hml, hown, hT⟩ (c_X2_lambsCount l hm_mo hm_la hf_mo hf_la) (cwV 1 hT (z_goodV (fun _ h => h) kw_827 kw_794 kw_795 kw_87 kw_796) rfl rfl rfl (by decide +kernel) ⟨by decide, by decide⟩) z_mv hKK hK hw hA hm_mo hf_mo rfl rfl rfl hl.1 rfl (Nat.le_of_ble_eq_true rfl) dX2_countedThrough_35 ⟨by decide, by decide⟩ (fun r19 u H locs hp hw => ?_)
      obtain ⟨rfl, hp⟩ := hp
      have hw : z_H D vwCl (z_A L sz) s.heap L f H locs := hw
      rcases hp with ⟨rfl, h20⟩ | ⟨rfl, h20⟩
      · skip
        have hz21 := (show (1 : Int32).toInt = 1 by decide)
        refine z_calliV (cells := 0) (slots := 0) (b := dq10) (As := [.int 1]) (rest := [.int V2]) (ci := 0) (q0 := (RX0, TX0, 8)) ⟨hx, hb, hml, hown, hT⟩ (c_X0_countable l hm_dq10 hf_dq10 (by first | omega | decide | assumption) (by first | omega | decide | assumption)) (cwV 1 hT (z_goodV (fun _ h => h) kw_828 kw_798 kw_799 kw_88 kw_800) rfl rfl rfl (by decide +kernel) ⟨by decide, by decide⟩) z_mv hKK hK hw hA hm_dq10 hf_dq10 rfl rfl rfl hl.1 rfl (Nat.le_of_ble_eq_true rfl) dX2_countedThrough_38 ⟨by decide, by decide⟩ (fun r22 u H locs hp hw => ?_)
        obtain ⟨rfl, hp⟩ := hp
        have hw : z_H D vwCl (z_A L sz) s.heap L f H locs := hw
        refine lv_iadd hx hb dX2_countedThrough_41 ?_
        refine lv_topi (fun w23 e_w23 => ?_)
        refine lv_istore_n (lv' := [(3, .int w23), (4, .int K1), (0, .ref mo), (1, .int ga), (2, .int dy)]) hx hb dX2_countedThrough_42 rfl hl (by decide) rfl (fun ls hl => ?_)
        obtain ⟨k24, e_k24⟩ : ∃ z : Int32, z = K1 + 1 := ⟨_, rfl⟩
        refine lv_iinc (v := k24) (lv' := [(4, .int k24), (3, .int w23), (0, .ref mo), (1, .int ga), (2, .int dy)]) hx hb dX2_countedThrough_43 hl (k := 1) rfl (by rw [e_k24]; rfl) (by decide) rfl (fun ls hl => ?_)
        have i_k24 : k24.toInt = (K1.toInt + 1) := z_add e_k24 rfl (by decide) (by omega)
        refine lv_goto (tgt := 5) hx hb dX2_countedThrough_46 (by decide) ?_
        exact ih_5 _ (by omega) _ _ _ ⟨k24, w23, rfl, (by first | decide | omega), (by first | decide | omega), hw, (lv_sub hl [0, 1, 2, 3, 4] rfl)⟩
      · skip
        have hz25 := (show (0 : Int32).toInt = 0 by decide)
        refine z_calliV (cells := 0) (slots := 0) (b := dq10) (As := [.int 0]) (rest := [.int V2]) (ci := 0) (q0 := (RX0, TX0, 8)) ⟨hx, hb, hml, hown, hT⟩ (c_X0_countable l hm_dq10 hf_dq10 (by first | omega | decide | assumption) (by first | omega | decide | assumption)) (cwV 1 hT (z_goodV (fun _ h => h) kw_828 kw_798 kw_799 kw_88 kw_800) rfl rfl rfl (by decide +kernel) ⟨by decide, by decide⟩) z_mv hKK hK hw hA hm_dq10 hf_dq10 rfl rfl rfl hl.1 rfl (Nat.le_of_ble_eq_true rfl) dX2_countedThrough_38 ⟨by decide, by decide⟩ (fun r26 u H locs hp hw => ?_)
        obtain ⟨rfl, hp⟩ := hp
        have hw : z_H D vwCl (z_A L sz) s.heap L f H locs := hw
        refine lv_iadd hx hb dX2_countedThrough_41 ?_
        refine lv_topi (fun w27 e_w27 => ?_)
        refine lv_istore_n (lv' := [(3, .int w27), (4, .int K1), (0, .ref mo), (1, .int ga), (2, .int dy)]) hx hb dX2_countedThrough_42 rfl hl (by decide) rfl (fun ls hl => ?_)
        obtain ⟨k28, e_k28⟩ : ∃ z : Int32, z = K1 + 1 := ⟨_, rfl⟩
        refine lv_iinc (v := k28) (lv' := [(4, .int k28), (3, .int w27), (0, .ref mo), (1, .int ga), (2, .int dy)]) hx hb dX2_countedThrough_43 hl (k := 1) rfl (by rw [e_k28]; rfl) (by decide) rfl (fun ls hl => ?_)
        have i_k28 : k28.toInt = (K1.toInt + 1) := z_add e_k28 rfl (by decide) (by omega)
        refine lv_goto (tgt := 5) hx hb dX2_countedThrough_46 (by decide) ?_
        exact ih_5 _ (by omega) _ _ _ ⟨k28, w27, rfl, (by first | decide | omega), (by first | decide | omega), hw, (lv_sub hl [0, 1, 2, 3, 4] rfl)⟩
    · skip
      refine z_if_eq (tgt := 43) hx hb (show (0 : Int32).toInt = 0 by decide) dX2_countedThrough_22 (by decide) (fun _ => ?_) (fun h => absurd h (by decide))
      obtain ⟨k29, e_k29⟩ : ∃ z : Int32, z = K1 + 1 := ⟨_, rfl⟩
      refine lv_iinc (v := k29) (lv' := [(4, .int k29), (3, .int V2), (0, .ref mo), (1, .int ga), (2, .int dy)]) hx hb dX2_countedThrough_43 hl (k := 0) rfl (by rw [e_k29]; rfl) (by decide) rfl (fun ls hl => ?_)
      have i_k29 : k29.toInt = (K1.toInt + 1) := z_add e_k29 rfl (by decide) (by omega)
      refine lv_goto (tgt := 5) hx hb dX2_countedThrough_46 (by decide) ?_
      exact ih_5 _ (by omega) _ _ _ ⟨k29, V2, rfl, (by first | decide | omega), (by first | decide | omega), hw, (lv_sub hl [0, 1, 2, 3, 4] rfl)⟩
