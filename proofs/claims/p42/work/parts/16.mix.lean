set_option maxHeartbeats 2000000 in
set_option maxRecDepth 100000 in
theorem c_X1_draw (l : Launch) {D : va_G} {cy : Nat → ClassId} {L : List Nat} {f : Nat → va_E} {sz : Nat} {adK adV : Nat → Nat} {mx wk bs : Nat} {mm : Int32} {xx : Int64}  {nn : Int32} (hm_mx : mx ∈ L) (hf_mx : f mx = .inr (1, [.ref wk, .ref bs, .int mm, .long xx])) (hxx : 0 ≤ xx.toInt ∧ xx.toInt < 2147483648) : Met l yX1_draw (z_ws yX1_draw cX1_draw 2 (some .int)) (z_R 1 0 0) (va_Pc [.ref mx, .int nn] (z_Pre D vwCl (z_KK D cy adK adV) L f sz)) (z_Qi D vwCl (fun r u => L = u.1 ∧ (∀ b ∈ L, b ≠ mx → u.2 b = f b) ∧ (∃ (x2 : Int64), (u.2 mx = .inr (1, [.ref wk, .ref bs, .int mm, .long x2])) ∧ ((0 ≤ x2.toInt ∧ x2.toInt < 2147483648) ∧ 0 ≤ r.toInt ∧ (0 < nn.toInt → r.toInt < nn.toInt)))) L sz) 0 0 (z_A L sz) := by
  refine z_met (cc := cX1_draw) (maxL := 2) (ret := (some .int)) (lv := [(0, .ref mx), (1, .int nn)]) (by decide) rfl (Nat.le_of_ble_eq_true rfl) rfl ?_
  intro p e s m below meth c ls hx hb hr hlk hml hown hnm hts hKK hA hw hl
  have hK := hKK.1.1
  have hown : s.vm.findClass RX1 = some m.cls := hown
  have hT : ∀ w ∈ lw_all, w.before ([.ref mx, .int nn] : List Value).toArray s = true := fun w h => hts w (z_cons w h)
  have hsub : L = L := rfl
  have hfr : ∀ b ∈ L, b ≠ mx → f b = f b := fun _ _ _ => rfl
  refine lv_aload_n hx hb dX1_draw_0 rfl (lv_at hl 0 rfl) ?_
  refine lv_ldc2 (v := 1103515245) hx hb hown (hT _ kw_1093) dX1_draw_1 ?_
  refine lv_aload_n hx hb dX1_draw_4 rfl (lv_at hl 0 rfl) ?_
  refine z_get (C := RX1) (T := TX1) (N := 4) (ci := 1) (v := .long xx) hx hb hT zin_X1 hown hK hw hm_mx hf_mx rfl 3 (by decide) (hT _ kw_467) rfl dX1_draw_5 ?_
  refine lv_lmul hx hb dX1_draw_8 ?_
  refine lv_topl (fun w1 e_w1 => ?_)
  have i_w1 : w1.toInt = (1103515245 * xx.toInt) := z_lmulI e_w1 (show (1103515245 : Int64).toInt = 1103515245 by decide) rfl (by omega)
  refine lv_ldc2 (v := 12345) hx hb hown (hT _ kw_1094) dX1_draw_9 ?_
  refine lv_ladd hx hb dX1_draw_12 ?_
  refine lv_topl (fun w2 e_w2 => ?_)
  have i_w2 : w2.toInt = ((1103515245 * xx.toInt) + 12345) := z_laddI e_w2 i_w1 (show (12345 : Int64).toInt = 12345 by decide) (by omega)
  refine lv_ldc2 (v := 2147483648) hx hb hown (hT _ kw_1095) dX1_draw_13 ?_
  refine lv_lrem hx hb dX1_draw_16 (by decide) ?_
  refine lv_topl (fun w3 e_w3 => ?_)
  have i_w3 : w3.toInt = (((1103515245 * xx.toInt) + 12345) % 2147483648) := z_lrmI e_w3 i_w2 (show (2147483648 : Int64).toInt = 2147483648 by decide) (by omega)
  have hrA := Int.emod_nonneg (((1103515245 * xx.toInt) + 12345)) (b := 2147483648) (by decide)
  have hrB := Int.emod_lt_of_pos (((1103515245 * xx.toInt) + 12345)) (b := 2147483648) (by decide)
  refine z_put (C := RX1) (T := TX1) (N := 4) (ci := 1) (v := .long w3) (fs' := [.ref wk, .ref bs, .int mm, .long w3]) hx hb hT zin_X1 tyX1_ok nmX1 hown hK hw hm_mx hf_mx rfl 3 (by decide) (hT _ kw_467) rfl rfl rfl (Nat.le_of_ble_eq_true rfl) rfl dX1_draw_17 (fun H locs hw => ?_)
  obtain ⟨f4, e_f4⟩ : ∃ z, z = va_up f mx (.inr (1, [.ref wk, .ref bs, .int mm, .long w3])) := ⟨_, rfl⟩
  rw [← e_f4] at hw
  have hf_mx : f4 mx = .inr (1, [.ref wk, .ref bs, .int mm, .long w3]) := (congrFun e_f4 mx).trans z_up_self
  have hfr : ∀ b ∈ L, b ≠ mx → f4 b = f b := fun b hb h0 => (congrFun e_f4 b).trans (z_up_ne h0 (hfr b hb h0))
  refine lv_iload_n hx hb dX1_draw_20 rfl (lv_at hl 1 rfl) ?_
  refine z_if_le (tgt := 39) hx hb rfl dX1_draw_21 (by decide) (fun c5 => ?_) (fun c5 => ?_)
  · skip
    refine lv_iconst (v := 0) hx hb dX1_draw_39 (by decide) ?_
    exact z_iret hx hb hr hlk (by decide) (by decide) hw (⟨hsub, hfr, w3, hf_mx, by omega, by decide, fun h => absurd h (by omega)⟩) dX1_draw_40
  · skip
    refine lv_aload_n hx hb dX1_draw_24 rfl (lv_at hl 0 rfl) ?_
    refine z_get (C := RX1) (T := TX1) (N := 4) (ci := 1) (v := .long w3) hx hb hT zin_X1 hown hK hw hm_mx hf_mx rfl 3 (by decide) (hT _ kw_467) rfl dX1_draw_25 ?_
    refine lv_ldc2 (v := 65536) hx hb hown (hT _ kw_1096) dX1_draw_28 ?_
    refine lv_ldiv hx hb dX1_draw_31 (by decide) ?_
    refine lv_topl (fun w6 e_w6 => ?_)
    have i_w6 : w6.toInt = ((((1103515245 * xx.toInt) + 12345) % 2147483648) / 65536) := z_ldivI e_w6 i_w3 (show (65536 : Int64).toInt = 65536 by decide) (by omega)
    refine lv_iload_n hx hb dX1_draw_32 rfl (lv_at hl 1 rfl) ?_
    refine lv_i2l hx hb dX1_draw_33 rfl ?_
    refine lv_topl (fun w7 e_w7 => ?_)
    have i_w7 : w7.toInt = nn.toInt := z_i2l e_w7 rfl
    refine lv_lrem hx hb dX1_draw_34 (z_lne0 i_w7 (by omega)) ?_
    refine lv_topl (fun w8 e_w8 => ?_)
    have i_w8 : w8.toInt = (((((1103515245 * xx.toInt) + 12345) % 2147483648) / 65536) % nn.toInt) := z_lrmI e_w8 i_w6 i_w7 (by omega)
    have hrC := Int.emod_nonneg (((((1103515245 * xx.toInt) + 12345) % 2147483648) / 65536)) (b := nn.toInt) (by omega)
    have hrD := Int.emod_lt_of_pos (((((1103515245 * xx.toInt) + 12345) % 2147483648) / 65536)) (b := nn.toInt) (by omega)
    have hnl := nn.toInt_le
    have hnm : Int32.maxValue.toInt = 2147483647 := by decide
    refine lv_l2i hx hb dX1_draw_35 rfl ?_
    refine lv_topi (fun w9 e_w9 => ?_)
    have i_w9 : w9.toInt = (((((1103515245 * xx.toInt) + 12345) % 2147483648) / 65536) % nn.toInt) := z_l2iI e_w9 i_w8 (by omega)
    refine lv_goto (tgt := 40) hx hb dX1_draw_36 (by decide) ?_
    exact z_iret hx hb hr hlk (by decide) (by decide) hw (⟨hsub, hfr, w3, hf_mx, by omega, by omega, fun _ => by omega⟩) dX1_draw_40

set_option maxHeartbeats 2000000 in
set_option maxRecDepth 100000 in
theorem c_X1_add (l : Launch) {D : va_G} {cy : Nat → ClassId} {L : List Nat} {f : Nat → va_E} {sz : Nat} {adK adV : Nat → Nat} {mx wk bs : Nat} {mm : Int32} {xx : Int64} {gb_ : Nat → Int32} {be nn : Int32} (hm_mx : mx ∈ L) (hm_bs : bs ∈ L) (hf_mx : f mx = .inr (1, [.ref wk, .ref bs, .int mm, .long xx])) (hf_bs : f bs = .inl (cy 0, 2376, .inl gb_)) (hbs : ∀ j : Nat, z_bst (gb_ j)) (hmm : 0 ≤ mm.toInt ∧ mm.toInt ≤ 2376) (hbe : z_bst be) (hnn : 0 ≤ nn.toInt ∧ nn.toInt ≤ 99) : Met l yX1_add (z_ws yX1_add cX1_add 4 none) (z_R 1 0 0) (va_Pc [.ref mx, .int be, .int nn] (z_Pre D vwCl (z_KK D cy adK adV) L f sz)) (z_Qv D vwCl (fun u => L = u.1 ∧ (∀ b ∈ L, b ≠ mx → b ≠ bs → u.2 b = f b) ∧ (∃ (m2 : Int32) (b2 : Nat → Int32), (u.2 mx = .inr (1, [.ref wk, .ref bs, .int m2, .long xx])) ∧ (u.2 bs = .inl (cy 0, 2376, .inl b2)) ∧ ((0 ≤ m2.toInt ∧ m2.toInt ≤ 2376) ∧ ∀ j : Nat, z_bst (b2 j)))) L sz) 0 0 (z_A L sz) := by
  refine z_met (cc := cX1_add) (maxL := 4) (ret := none) (lv := [(0, .ref mx), (1, .int be), (2, .int nn)]) (by decide) rfl (Nat.le_of_ble_eq_true rfl) rfl ?_
  intro p e s m below meth c ls hx hb hr hlk hml hown hnm hts hKK hA hw hl
  have hK := hKK.1.1
  have hown : s.vm.findClass RX1 = some m.cls := hown
  have hT : ∀ w ∈ lw_all, w.before ([.ref mx, .int be, .int nn] : List Value).toArray s = true := fun w h => hts w (z_cons w h)
  have hsub : L = L := rfl
  have hfr : ∀ b ∈ L, b ≠ mx → b ≠ bs → f b = f b := fun _ _ _ _ => rfl
  refine lv_iconst (v := 0) hx hb dX1_add_0 (by decide) ?_
  refine lv_istore_n (lv' := [(3, .int 0), (0, .ref mx), (1, .int be), (2, .int nn)]) hx hb dX1_add_1 rfl hl (by decide) rfl (fun ls hl => ?_)
  have hzk : (0 : Int32).toInt = 0 := by decide
  refine z_loop (fun n H locs ls => ∃ (K1 : Int32) (G4 : Nat → Int32) (MM3 : Int32) (f2 : Nat → va_E), (n = (99 - K1.toInt).toNat) ∧ (0 ≤ K1.toInt) ∧ (K1.toInt ≤ 99) ∧ (0 ≤ MM3.toInt ∧ MM3.toInt ≤ 2376) ∧ (∀ j : Nat, z_bst (G4 j)) ∧ (z_H D vwCl (z_A L sz) s.heap L f2 H locs) ∧ (f2 mx = .inr (1, [.ref wk, .ref bs, .int MM3, .long xx])) ∧ (f2 bs = .inl (cy 0, 2376, .inl G4)) ∧ (∀ b ∈ L, b ≠ mx → b ≠ bs → f2 b = f b) ∧ (lv_has ls 4 [(3, .int K1), (0, .ref mx), (1, .int be), (2, .int nn)])) _ ⟨0, gb_, mm, f, rfl, (by first | decide | omega), (by first | decide | omega), (by omega), hbs, hw, hf_mx, hf_bs, hfr, (lv_sub hl [0, 1, 2, 3] rfl)⟩ (fun n H locs ls hI ih_2 => ?_)
  obtain ⟨K1, G4, MM3, f2, hn, hk0, hk1, hi0, hi1, hw, hf_mx, hf_bs, hfr, hl⟩ := hI
  refine lv_iload_n hx hb dX1_add_2 rfl (lv_at hl 0 rfl) ?_
  refine lv_iload_n hx hb dX1_add_3 rfl (lv_at hl 3 rfl) ?_
  refine z_icmp_ge (tgt := 45) hx hb rfl rfl dX1_add_4 (by decide) (fun c5 => ?_) (fun c5 => ?_)
  · skip
    exact z_vret hx hb hr hlk (by decide) (by decide) hw (⟨hsub, hfr, MM3, G4, hf_mx, hf_bs, by omega, hi1⟩) dX1_add_45
  · skip
    refine lv_aload_n hx hb dX1_add_7 rfl (lv_at hl 1 rfl) ?_
    refine z_get (C := RX1) (T := TX1) (N := 4) (ci := 1) (v := .int MM3) hx hb hT zin_X1 hown hK hw hm_mx hf_mx rfl 2 (by decide) (hT _ kw_466) rfl dX1_add_8 ?_
    refine lv_aload_n hx hb dX1_add_11 rfl (lv_at hl 1 rfl) ?_
    refine z_get (C := RX1) (T := TX1) (N := 4) (ci := 1) (v := .ref bs) hx hb hT zin_X1 hown hK hw hm_mx hf_mx rfl 1 (by decide) (hT _ kw_465) rfl dX1_add_12 ?_
    refine z_alen (v := 2376) hx hb hK hw 0 hm_bs hf_bs rfl (show Int32.ofNat 2376 = 2376 by decide) dX1_add_15 ?_
    refine z_icmp_ge (tgt := 45) hx hb rfl (show (2376 : Int32).toInt = 2376 by decide) dX1_add_16 (by decide) (fun c6 => ?_) (fun c6 => ?_)
    · skip
      exact z_vret hx hb hr hlk (by decide) (by decide) hw (⟨hsub, hfr, MM3, G4, hf_mx, hf_bs, by omega, hi1⟩) dX1_add_45
    · skip
      refine lv_aload_n hx hb dX1_add_19 rfl (lv_at hl 1 rfl) ?_
      refine z_get (C := RX1) (T := TX1) (N := 4) (ci := 1) (v := .ref bs) hx hb hT zin_X1 hown hK hw hm_mx hf_mx rfl 1 (by decide) (hT _ kw_465) rfl dX1_add_20 ?_
      refine lv_aload_n hx hb dX1_add_23 rfl (lv_at hl 1 rfl) ?_
      refine z_get (C := RX1) (T := TX1) (N := 4) (ci := 1) (v := .int MM3) hx hb hT zin_X1 hown hK hw hm_mx hf_mx rfl 2 (by decide) (hT _ kw_466) rfl dX1_add_24 ?_
      refine lv_iload_n hx hb dX1_add_27 rfl (lv_at hl 2 rfl) ?_
      refine z_bast hx hb hK hw 0 hm_bs hf_bs rfl (z_ix rfl (by omega)) dX1_add_28 (fun H locs hw => ?_)
      obtain ⟨f8, e_f8⟩ : ∃ z, z = va_up f2 bs (.inl (cy 0, 2376, .inl (upd G4 MM3.toNatClampNeg (vp_nar .byte be)))) := ⟨_, rfl⟩
      rw [← e_f8] at hw
      have hf_mx : f8 mx = .inr (1, [.ref wk, .ref bs, .int MM3, .long xx]) := (congrFun e_f8 mx).trans (z_up_ne (z_tne hf_mx hf_bs (m := 1) (n := 19108) rfl rfl (by decide)) hf_mx)
      have hf_bs : f8 bs = .inl (cy 0, 2376, .inl (upd G4 MM3.toNatClampNeg (vp_nar .byte be))) := (congrFun e_f8 bs).trans z_up_self
      have hfr : ∀ b ∈ L, b ≠ mx → b ≠ bs → f8 b = f b := fun b hb h0 h1 => (congrFun e_f8 b).trans (z_up_ne h1 (hfr b hb h0 h1))
      obtain ⟨g7, e_g7⟩ : ∃ z, z = (upd G4 MM3.toNatClampNeg (vp_nar .byte be)) := ⟨_, rfl⟩
      rw [← e_g7] at hf_bs
      refine lv_aload_n hx hb dX1_add_29 rfl (lv_at hl 1 rfl) ?_
      refine lv_dup hx hb dX1_add_30 rfl ?_
      refine z_get (C := RX1) (T := TX1) (N := 4) (ci := 1) (v := .int MM3) hx hb hT zin_X1 hown hK hw hm_mx hf_mx rfl 2 (by decide) (hT _ kw_466) rfl dX1_add_31 ?_
      refine lv_iconst (v := 1) hx hb dX1_add_34 (by decide) ?_
      refine lv_iadd hx hb dX1_add_35 ?_
      refine lv_topi (fun w9 e_w9 => ?_)
      have i_w9 : w9.toInt = (MM3.toInt + 1) := z_add e_w9 rfl (show (1 : Int32).toInt = 1 by decide) (by omega)
      refine z_put (C := RX1) (T := TX1) (N := 4) (ci := 1) (v := .int w9) (fs' := [.ref wk, .ref bs, .int w9, .long xx]) hx hb hT zin_X1 tyX1_ok nmX1 hown hK hw hm_mx hf_mx rfl 2 (by decide) (hT _ kw_466) rfl rfl rfl (Nat.le_of_ble_eq_true rfl) rfl dX1_add_36 (fun H locs hw => ?_)
      obtain ⟨f10, e_f10⟩ : ∃ z, z = va_up f8 mx (.inr (1, [.ref wk, .ref bs, .int w9, .long xx])) := ⟨_, rfl⟩
      rw [← e_f10] at hw
      have hf_bs : f10 bs = .inl (cy 0, 2376, .inl g7) := (congrFun e_f10 bs).trans (z_up_ne (z_tne hf_bs hf_mx (m := 19108) (n := 1) rfl rfl (by decide)) hf_bs)
      have hf_mx : f10 mx = .inr (1, [.ref wk, .ref bs, .int w9, .long xx]) := (congrFun e_f10 mx).trans z_up_self
      have hfr : ∀ b ∈ L, b ≠ mx → b ≠ bs → f10 b = f b := fun b hb h0 h1 => (congrFun e_f10 b).trans (z_up_ne h0 (hfr b hb h0 h1))
      obtain ⟨k11, e_k11⟩ : ∃ z : Int32, z = K1 + 1 := ⟨_, rfl⟩
      refine lv_iinc (v := k11) (lv' := [(3, .int k11), (0, .ref mx), (1, .int be), (2, .int nn)]) hx hb dX1_add_39 hl (k := 0) rfl (by rw [e_k11]; rfl) (by decide) rfl (fun ls hl => ?_)
      have i_k11 : k11.toInt = (K1.toInt + 1) := z_add e_k11 rfl (by decide) (by omega)
      refine lv_goto (tgt := 2) hx hb dX1_add_42 (by decide) ?_
      exact ih_2 _ (by omega) _ _ _ ⟨k11, g7, w9, f10, rfl, (by first | decide | omega), (by first | decide | omega), (by omega), (z_updP hi1 e_g7 (z_bst_nar hbe)), hw, hf_mx, hf_bs, hfr, (lv_sub hl [0, 1, 2, 3] rfl)⟩

set_option maxHeartbeats 2000000 in
set_option maxRecDepth 100000 in
theorem c_X1_shuffle (l : Launch) {D : va_G} {cy : Nat → ClassId} {L : List Nat} {f : Nat → va_E} {sz : Nat} {adK adV : Nat → Nat} {mx wk bs : Nat} {mm : Int32} {xx : Int64} {gb_ : Nat → Int32} (hm_mx : mx ∈ L) (hm_bs : bs ∈ L) (hf_mx : f mx = .inr (1, [.ref wk, .ref bs, .int mm, .long xx])) (hf_bs : f bs = .inl (cy 0, 2376, .inl gb_)) (hbs : ∀ j : Nat, z_bst (gb_ j)) (hmm : 0 ≤ mm.toInt ∧ mm.toInt ≤ 2376) (hxx : 0 ≤ xx.toInt ∧ xx.toInt < 2147483648) : Met l yX1_shuffle (z_ws yX1_shuffle cX1_shuffle 4 none) (z_R 2 0 0) (va_Pc [.ref mx] (z_Pre D vwCl (z_KK D cy adK adV) L f sz)) (z_Qv D vwCl (fun u => L = u.1 ∧ (∀ b ∈ L, b ≠ mx → b ≠ bs → u.2 b = f b) ∧ (∃ (x2 : Int64) (b2 : Nat → Int32), (u.2 mx = .inr (1, [.ref wk, .ref bs, .int mm, .long x2])) ∧ (u.2 bs = .inl (cy 0, 2376, .inl b2)) ∧ ((0 ≤ x2.toInt ∧ x2.toInt < 2147483648) ∧ ∀ j : Nat, z_bst (b2 j)))) L sz) 0 0 (z_A L sz) := by
  refine z_met (cc := cX1_shuffle) (maxL := 4) (ret := none) (lv := [(0, .ref mx)]) (by decide) rfl (Nat.le_of_ble_eq_true rfl) rfl ?_
  intro p e s m below meth c ls hx hb hr hlk hml hown hnm hts hKK hA hw hl
  have hK := hKK.1.1
  have hown : s.vm.findClass RX1 = some m.cls := hown
  have hT : ∀ w ∈ lw_all, w.before ([.ref mx] : List Value).toArray s = true := fun w h => hts w (z_cons w h)
  have hsub : L = L := rfl
  have hfr : ∀ b ∈ L, b ≠ mx → b ≠ bs → f b = f b := fun _ _ _ _ => rfl
  refine lv_aload_n hx hb dX1_shuffle_0 rfl (lv_at hl 0 rfl) ?_
  refine z_get (C := RX1) (T := TX1) (N := 4) (ci := 1) (v := .int mm) hx hb hT zin_X1 hown hK hw hm_mx hf_mx rfl 2 (by decide) (hT _ kw_466) rfl dX1_shuffle_1 ?_
  refine lv_iconst (v := 1) hx hb dX1_shuffle_4 (by decide) ?_
  refine lv_isub hx hb dX1_shuffle_5 ?_
  refine lv_topi (fun w1 e_w1 => ?_)
  have i_w1 : w1.toInt = (mm.toInt - 1) := z_subI e_w1 rfl (show (1 : Int32).toInt = 1 by decide) (by omega)
  refine lv_istore_n (lv' := [(1, .int w1), (0, .ref mx)]) hx hb dX1_shuffle_6 rfl hl (by decide) rfl (fun ls hl => ?_)
  refine z_loop (fun n H locs ls => ∃ (K2 : Int32) (G5 : Nat → Int32) (XX4 : Int64) (f3 : Nat → va_E), (n = (K2.toInt - (-1)).toNat) ∧ (-1 ≤ K2.toInt) ∧ (K2.toInt ≤ 2375) ∧ (0 ≤ XX4.toInt ∧ XX4.toInt < 2147483648) ∧ (∀ j : Nat, z_bst (G5 j)) ∧ (z_H D vwCl (z_A L sz) s.heap L f3 H locs) ∧ (f3 mx = .inr (1, [.ref wk, .ref bs, .int mm, .long XX4])) ∧ (f3 bs = .inl (cy 0, 2376, .inl G5)) ∧ (∀ b ∈ L, b ≠ mx → b ≠ bs → f3 b = f b) ∧ (lv_has ls 4 [(1, .int K2), (0, .ref mx)])) _ ⟨w1, gb_, xx, f, rfl, (by first | decide | omega), (by first | decide | omega), (by omega), hbs, hw, hf_mx, hf_bs, hfr, (lv_sub hl [0, 1] rfl)⟩ (fun n H locs ls hI ih_7 => ?_)
  obtain ⟨K2, G5, XX4, f3, hn, hk0, hk1, hi0, hi1, hw, hf_mx, hf_bs, hfr, hl⟩ := hI
  refine lv_iload_n hx hb dX1_shuffle_7 rfl (lv_at hl 0 rfl) ?_
  refine lv_iconst (v := 1) hx hb dX1_shuffle_8 (by decide) ?_
  refine z_icmp_lt (tgt := 52) hx hb rfl (show (1 : Int32).toInt = 1 by decide) dX1_shuffle_9 (by decide) (fun c6 => ?_) (fun c6 => ?_)
  · skip
    exact z_vret hx hb hr hlk (by decide) (by decide) hw (⟨hsub, hfr, XX4, G5, hf_mx, hf_bs, hi0, hi1⟩) dX1_shuffle_52
  · skip
    refine lv_aload_n hx hb dX1_shuffle_12 rfl (lv_at hl 1 rfl) ?_
    refine lv_iload_n hx hb dX1_shuffle_13 rfl (lv_at hl 0 rfl) ?_
    refine lv_iconst (v := 1) hx hb dX1_shuffle_14 (by decide) ?_
    refine lv_iadd hx hb dX1_shuffle_15 ?_
    refine lv_topi (fun w7 e_w7 => ?_)
    have i_w7 : w7.toInt = (K2.toInt + 1) := z_add e_w7 rfl (show (1 : Int32).toInt = 1 by decide) (by omega)
    refine z_calliV (cells := 0) (slots := 0) (b := mx) (As := [.int w7]) (rest := []) (ci := 1) (q0 := (RX1, TX1, 4)) ⟨hx, hb, hml, hown, hT⟩ (c_X1_draw l hm_mx hf_mx (by first | omega | decide | assumption)) (cwV 1 hT (z_goodV (fun _ h => h) kw_1089 kw_1091 kw_29 kw_95 kw_1092) rfl rfl rfl (by decide +kernel) ⟨by decide, by decide⟩) z_mv hKK hK hw hA hm_mx hf_mx rfl rfl rfl hl.1 rfl (Nat.le_of_ble_eq_true rfl) dX1_shuffle_16 ⟨by decide, by decide⟩ (fun r8 u H locs hp hw => ?_)
    obtain ⟨L9, f10⟩ := u
    obtain ⟨hsb, hfm, x2_11, ha_0, hp⟩ := hp
    have hsb : L = L9 := hsb
    subst hsb
    have hsb : ∀ b ∈ L, b ∈ L := fun _ h => h
    have hw : z_H D vwCl (z_A L sz) s.heap L f10 H locs := hw
    have hfr : ∀ b ∈ L, b ≠ mx → b ≠ bs → f10 b = f b := fun b hb h0 h1 => (hfm b hb h0).trans (hfr b hb h0 h1)
    have hf_bs : f10 bs = .inl (cy 0, 2376, .inl G5) := (hfm bs hm_bs (z_tne hf_bs hf_mx (m := 19108) (n := 1) rfl rfl (by decide))).trans hf_bs
    have hf_mx : f10 mx = .inr (1, [.ref wk, .ref bs, .int mm, .long x2_11]) := ha_0
    have hdw := hp
    refine lv_istore_n (lv' := [(2, .int r8), (1, .int K2), (0, .ref mx)]) hx hb dX1_shuffle_19 rfl hl (by decide) rfl (fun ls hl => ?_)
    refine lv_aload_n hx hb dX1_shuffle_20 rfl (lv_at hl 2 rfl) ?_
    refine z_get (C := RX1) (T := TX1) (N := 4) (ci := 1) (v := .ref bs) hx hb hT zin_X1 hown hK hw hm_mx hf_mx rfl 1 (by decide) (hT _ kw_465) rfl dX1_shuffle_21 ?_
    refine lv_iload_n hx hb dX1_shuffle_24 rfl (lv_at hl 1 rfl) ?_
    refine z_bald hx hb hK hw 0 hm_bs hf_bs rfl (z_ix rfl (by omega)) dX1_shuffle_25 ?_
    refine lv_topi (fun w12 e_w12 => ?_)
    refine lv_istore_n (lv' := [(3, .int w12), (2, .int r8), (1, .int K2), (0, .ref mx)]) hx hb dX1_shuffle_26 rfl hl (by decide) rfl (fun ls hl => ?_)
    refine lv_aload_n hx hb dX1_shuffle_27 rfl (lv_at hl 3 rfl) ?_
    refine z_get (C := RX1) (T := TX1) (N := 4) (ci := 1) (v := .ref bs) hx hb hT zin_X1 hown hK hw hm_mx hf_mx rfl 1 (by decide) (hT _ kw_465) rfl dX1_shuffle_28 ?_
    refine lv_iload_n hx hb dX1_shuffle_31 rfl (lv_at hl 2 rfl) ?_
    refine lv_aload_n hx hb dX1_shuffle_32 rfl (lv_at hl 3 rfl) ?_
    refine z_get (C := RX1) (T := TX1) (N := 4) (ci := 1) (v := .ref bs) hx hb hT zin_X1 hown hK hw hm_mx hf_mx rfl 1 (by decide) (hT _ kw_465) rfl dX1_shuffle_33 ?_
    refine lv_iload_n hx hb dX1_shuffle_36 rfl (lv_at hl 1 rfl) ?_
    refine z_bald hx hb hK hw 0 hm_bs hf_bs rfl (z_ix rfl (by omega)) dX1_shuffle_37 ?_
    refine lv_topi (fun w13 e_w13 => ?_)
    refine z_bast hx hb hK hw 0 hm_bs hf_bs rfl (z_ix rfl (by omega)) dX1_shuffle_38 (fun H locs hw => ?_)
    obtain ⟨f15, e_f15⟩ : ∃ z, z = va_up f10 bs (.inl (cy 0, 2376, .inl (upd G5 K2.toNatClampNeg (vp_nar .byte w13)))) := ⟨_, rfl⟩
    rw [← e_f15] at hw
    have hf_mx : f15 mx = .inr (1, [.ref wk, .ref bs, .int mm, .long x2_11]) := (congrFun e_f15 mx).trans (z_up_ne (z_tne hf_mx hf_bs (m := 1) (n := 19108) rfl rfl (by decide)) hf_mx)
    have hf_bs : f15 bs = .inl (cy 0, 2376, .inl (upd G5 K2.toNatClampNeg (vp_nar .byte w13))) := (congrFun e_f15 bs).trans z_up_self
    have hfr : ∀ b ∈ L, b ≠ mx → b ≠ bs → f15 b = f b := fun b hb h0 h1 => (congrFun e_f15 b).trans (z_up_ne h1 (hfr b hb h0 h1))
    obtain ⟨g14, e_g14⟩ : ∃ z, z = (upd G5 K2.toNatClampNeg (vp_nar .byte w13)) := ⟨_, rfl⟩
    rw [← e_g14] at hf_bs
    refine lv_aload_n hx hb dX1_shuffle_39 rfl (lv_at hl 3 rfl) ?_
    refine z_get (C := RX1) (T := TX1) (N := 4) (ci := 1) (v := .ref bs) hx hb hT zin_X1 hown hK hw hm_mx hf_mx rfl 1 (by decide) (hT _ kw_465) rfl dX1_shuffle_40 ?_
    refine lv_iload_n hx hb dX1_shuffle_43 rfl (lv_at hl 1 rfl) ?_
    refine lv_iload_n hx hb dX1_shuffle_44 rfl (lv_at hl 0 rfl) ?_
    refine z_bast hx hb hK hw 0 hm_bs hf_bs rfl (z_ix rfl (by omega)) dX1_shuffle_45 (fun H locs hw => ?_)
    obtain ⟨f17, e_f17⟩ : ∃ z, z = va_up f15 bs (.inl (cy 0, 2376, .inl (upd g14 r8.toNatClampNeg (vp_nar .byte w12)))) := ⟨_, rfl⟩
    rw [← e_f17] at hw
    have hf_mx : f17 mx = .inr (1, [.ref wk, .ref bs, .int mm, .long x2_11]) := (congrFun e_f17 mx).trans (z_up_ne (z_tne hf_mx hf_bs (m := 1) (n := 19108) rfl rfl (by decide)) hf_mx)
    have hf_bs : f17 bs = .inl (cy 0, 2376, .inl (upd g14 r8.toNatClampNeg (vp_nar .byte w12))) := (congrFun e_f17 bs).trans z_up_self
    have hfr : ∀ b ∈ L, b ≠ mx → b ≠ bs → f17 b = f b := fun b hb h0 h1 => (congrFun e_f17 b).trans (z_up_ne h1 (hfr b hb h0 h1))
    obtain ⟨g16, e_g16⟩ : ∃ z, z = (upd g14 r8.toNatClampNeg (vp_nar .byte w12)) := ⟨_, rfl⟩
    rw [← e_g16] at hf_bs
    obtain ⟨k18, e_k18⟩ : ∃ z : Int32, z = K2 + (-1) := ⟨_, rfl⟩
    refine lv_iinc (v := k18) (lv' := [(1, .int k18), (3, .int w12), (2, .int r8), (0, .ref mx)]) hx hb dX1_shuffle_46 hl (k := 2) rfl (by rw [e_k18]; rfl) (by decide) rfl (fun ls hl => ?_)
    have i_k18 : k18.toInt = (K2.toInt + (-1)) := z_add e_k18 rfl (by decide) (by omega)
    refine lv_goto (tgt := 7) hx hb dX1_shuffle_49 (by decide) ?_
    exact ih_7 _ (by omega) _ _ _ ⟨k18, g16, x2_11, f17, rfl, (by first | decide | omega), (by first | decide | omega), hdw.1, (z_updP (z_updP hi1 e_g14 (z_bst_nar (by rw [e_w13]; exact hi1 _))) e_g16 (z_bst_nar (by rw [e_w12]; exact hi1 _))), hw, hf_mx, hf_bs, hfr, (lv_sub hl [0, 3] rfl)⟩

set_option maxHeartbeats 2000000 in
set_option maxRecDepth 100000 in
theorem c_X1_addDrive (l : Launch) {D : va_G} {cy : Nat → ClassId} {L : List Nat} {f : Nat → va_E} {sz : Nat} {adK adV : Nat → Nat} {mx wk bs : Nat} {mm : Int32} {xx : Int64} {gb_ : Nat → Int32} {dq : Nat} {o1 o2 o3 o4 o5 o6 o7 o8 : Int32} {nu : Int32} (hm_mx : mx ∈ L) (hm_bs : bs ∈ L) (hm_dq : dq ∈ L) (hf_mx : f mx = .inr (1, [.ref wk, .ref bs, .int mm, .long xx])) (hf_bs : f bs = .inl (cy 0, 2376, .inl gb_)) (hf_dq : f dq = .inr (0, [.int o1, .int o2, .int o3, .int o4, .int o5, .int o6, .int o7, .int o8])) (hbs : ∀ j : Nat, z_bst (gb_ j)) (hmm : 0 ≤ mm.toInt ∧ mm.toInt ≤ 2376) (hnu : 0 ≤ nu.toInt ∧ nu.toInt ≤ 12) (h5 : 0 ≤ o5.toInt ∧ o5.toInt ≤ 99) (h6 : 0 ≤ o6.toInt ∧ o6.toInt ≤ 99) : Met l yX1_addDrive (z_ws yX1_addDrive cX1_addDrive 3 none) (z_R 2 0 0) (va_Pc [.ref mx, .ref dq, .int nu] (z_Pre D vwCl (z_KK D cy adK adV) L f sz)) (z_Qv D vwCl (fun u => L = u.1 ∧ (∀ b ∈ L, b ≠ mx → b ≠ bs → u.2 b = f b) ∧ (∃ (m2 : Int32) (b2 : Nat → Int32), (u.2 mx = .inr (1, [.ref wk, .ref bs, .int m2, .long xx])) ∧ (u.2 bs = .inl (cy 0, 2376, .inl b2)) ∧ ((0 ≤ m2.toInt ∧ m2.toInt ≤ 2376) ∧ ∀ j : Nat, z_bst (b2 j)))) L sz) 0 0 (z_A L sz) := by
  refine z_met (cc := cX1_addDrive) (maxL := 3) (ret := none) (lv := [(0, .ref mx), (1, .ref dq), (2, .int nu)]) (by decide) rfl (Nat.le_of_ble_eq_true rfl) rfl ?_
  intro p e s m below meth c ls hx hb hr hlk hml hown hnm hts hKK hA hw hl
  have hK := hKK.1.1
  have hown : s.vm.findClass RX1 = some m.cls := hown
  have hT : ∀ w ∈ lw_all, w.before ([.ref mx, .ref dq, .int nu] : List Value).toArray s = true := fun w h => hts w (z_cons w h)
  have hsub : L = L := rfl
  have hfr : ∀ b ∈ L, b ≠ mx → b ≠ bs → f b = f b := fun _ _ _ _ => rfl
  refine lv_aload_n hx hb dX1_addDrive_0 rfl (lv_at hl 0 rfl) ?_
  refine lv_iload_n hx hb dX1_addDrive_1 rfl (lv_at hl 2 rfl) ?_
  refine lv_i2b hx hb dX1_addDrive_2 rfl ?_
  refine lv_topi (fun w1 e_w1 => ?_)
  have i_w1 : w1.toInt = nu.toInt := z_i2bI e_w1 rfl (by omega)
  refine lv_aload_n hx hb dX1_addDrive_3 rfl (lv_at hl 1 rfl) ?_
  refine z_get (C := RX0) (T := TX0) (N := 8) (ci := 0) (v := .int o5) hx hb hT zin_X0 hown hK hw hm_dq hf_dq rfl 4 (by decide) (hT _ kw_163) rfl dX1_addDrive_4 ?_
  refine z_callvV (cells := 0) (slots := 0) (b := mx) (As := [.int w1, .int o5]) (rest := []) (ci := 1) (q0 := (RX1, TX1, 4)) ⟨hx, hb, hml, hown, hT⟩ (c_X1_add l hm_mx hm_bs hf_mx hf_bs hbs (by first | omega | decide | assumption) (show _ ∧ _ by omega) (by first | omega | decide | assumption)) (cwV 2 hT (z_goodV (fun _ h => h) kw_1081 kw_1083 kw_27 kw_95 kw_1084) rfl rfl rfl (by decide +kernel) ⟨by decide, by decide⟩) z_mv hKK hK hw hA hm_mx hf_mx rfl rfl rfl hl.1 rfl (Nat.le_of_ble_eq_true rfl) dX1_addDrive_7 ⟨by decide, by decide⟩ (fun u H locs hp hw => ?_)
  obtain ⟨L2, f3⟩ := u
  obtain ⟨hsb, hfm, m2_4, b2_5, ha_0, ha_1, hp⟩ := hp
  have hsb : L = L2 := hsb
  subst hsb
  have hsb : ∀ b ∈ L, b ∈ L := fun _ h => h
  have hw : z_H D vwCl (z_A L sz) s.heap L f3 H locs := hw
  have hfr : ∀ b ∈ L, b ≠ mx → b ≠ bs → f3 b = f b := fun b hb h0 h1 => (hfm b hb h0 h1).trans (hfr b hb h0 h1)
  have hf_dq : f3 dq = .inr (0, [.int o1, .int o2, .int o3, .int o4, .int o5, .int o6, .int o7, .int o8]) := (hfm dq hm_dq (z_tne hf_dq hf_mx (m := 0) (n := 1) rfl rfl (by decide)) (z_tne hf_dq hf_bs (m := 0) (n := 19108) rfl rfl (by decide))).trans hf_dq
  have hf_mx : f3 mx = .inr (1, [.ref wk, .ref bs, .int m2_4, .long xx]) := ha_0
  have hf_bs : f3 bs = .inl (cy 0, 2376, .inl b2_5) := ha_1
  have had := hp
  refine lv_aload_n hx hb dX1_addDrive_10 rfl (lv_at hl 0 rfl) ?_
  refine lv_iload_n hx hb dX1_addDrive_11 rfl (lv_at hl 2 rfl) ?_
  refine lv_bipush (v := 16) hx hb dX1_addDrive_12 (by decide) ?_
  refine lv_iadd hx hb dX1_addDrive_14 ?_
  refine lv_topi (fun w6 e_w6 => ?_)
  have i_w6 : w6.toInt = (nu.toInt + 16) := z_add e_w6 rfl (show (16 : Int32).toInt = 16 by decide) (by omega)
  refine lv_i2b hx hb dX1_addDrive_15 rfl ?_
  refine lv_topi (fun w7 e_w7 => ?_)
  have i_w7 : w7.toInt = (nu.toInt + 16) := z_i2bI e_w7 i_w6 (by omega)
  refine lv_aload_n hx hb dX1_addDrive_16 rfl (lv_at hl 1 rfl) ?_
  refine z_get (C := RX0) (T := TX0) (N := 8) (ci := 0) (v := .int o6) hx hb hT zin_X0 hown hK hw hm_dq hf_dq rfl 5 (by decide) (hT _ kw_169) rfl dX1_addDrive_17 ?_
  refine z_callvV (cells := 0) (slots := 0) (b := mx) (As := [.int w7, .int o6]) (rest := []) (ci := 1) (q0 := (RX1, TX1, 4)) ⟨hx, hb, hml, hown, hT⟩ (c_X1_add l hm_mx hm_bs hf_mx hf_bs had.2 (by first | omega | decide | assumption) (show _ ∧ _ by omega) (by first | omega | decide | assumption)) (cwV 2 hT (z_goodV (fun _ h => h) kw_1081 kw_1083 kw_27 kw_95 kw_1084) rfl rfl rfl (by decide +kernel) ⟨by decide, by decide⟩) z_mv hKK hK hw hA hm_mx hf_mx rfl rfl rfl hl.1 rfl (Nat.le_of_ble_eq_true rfl) dX1_addDrive_20 ⟨by decide, by decide⟩ (fun u H locs hp hw => ?_)
  obtain ⟨L8, f9⟩ := u
  obtain ⟨hsb, hfm, m2_10, b2_11, ha_0, ha_1, hp⟩ := hp
  have hsb : L = L8 := hsb
  subst hsb
  have hsb : ∀ b ∈ L, b ∈ L := fun _ h => h
  have hw : z_H D vwCl (z_A L sz) s.heap L f9 H locs := hw
  have hfr : ∀ b ∈ L, b ≠ mx → b ≠ bs → f9 b = f b := fun b hb h0 h1 => (hfm b hb h0 h1).trans (hfr b hb h0 h1)
  have hf_dq : f9 dq = .inr (0, [.int o1, .int o2, .int o3, .int o4, .int o5, .int o6, .int o7, .int o8]) := (hfm dq hm_dq (z_tne hf_dq hf_mx (m := 0) (n := 1) rfl rfl (by decide)) (z_tne hf_dq hf_bs (m := 0) (n := 19108) rfl rfl (by decide))).trans hf_dq
  have hf_mx : f9 mx = .inr (1, [.ref wk, .ref bs, .int m2_10, .long xx]) := ha_0
  have hf_bs : f9 bs = .inl (cy 0, 2376, .inl b2_11) := ha_1
  have hae := hp
  exact z_vret hx hb hr hlk (by decide) (by decide) hw (⟨hsub, hfr, m2_10, b2_11, hf_mx, hf_bs, by omega, hae.2⟩) dX1_addDrive_23

set_option maxHeartbeats 2000000 in
set_option maxRecDepth 100000 in
theorem c_X1_passAll (l : Launch) {D : va_G} {cy : Nat → ClassId} {L : List Nat} {f : Nat → va_E} {sz : Nat} {adK adV : Nat → Nat} {mx bs : Nat} {mm : Int32} {xx : Int64} {gb_ : Nat → Int32} {wk ks ct se ow : Nat} {wn wt wd wp : Int32} {gc gq : Nat → Int32} {mo la sa mi da : Nat} {v0 v1 v2 v3 v4 v5 v6 : Int32} {gl gm : Nat → Int32} {gd : Nat → Option Nat} {dv : Nat → Nat} {key on : Int32} (hm_mx : mx ∈ L) (hm_bs : bs ∈ L) (hm_wk : wk ∈ L) (hm_ct : ct ∈ L) (hm_se : se ∈ L) (hm_mo : mo ∈ L) (hm_la : la ∈ L) (hm_mi : mi ∈ L) (hm_da : da ∈ L) (hf_mx : f mx = .inr (1, [.ref wk, .ref bs, .int mm, .long xx])) (hf_bs : f bs = .inl (cy 0, 2376, .inl gb_)) (hf_wk : f wk = .inr (8, [.ref ks, .int wn, .ref ct, .ref se, .ref ow, .int wt, .int wd, .int wp])) (hf_ct : f ct = .inl (cy 1, 4, .inl gc)) (hf_se : f se = .inl (cy 1, 4, .inl gq)) (hf_mo : f mo = .inr (2, [.int v0, .int v1, .int v2, .int v3, .int v4, .int v5, .int v6, .ref la, .ref sa, .ref mi, .ref da])) (hf_la : f la = .inl (cy 1, 5, .inl gl)) (hf_mi : f mi = .inl (cy 1, 36, .inl gm)) (hf_da : f da = .inl (cy 4, 13, .inr (.inr (.inr (.inr gd))))) (ne_ct_se : ct ≠ se) (hg_da : ∀ i : Nat, i < 13 → gd i = some (dv i)) (hd_da : z_Drv L f dv 13) (hkey : z_key key) (hgm : ∀ j : Nat, 0 ≤ (gm j).toInt ∧ (gm j).toInt ≤ 9) (hbs : ∀ j : Nat, z_bst (gb_ j)) (hmm : 0 ≤ mm.toInt ∧ mm.toInt ≤ 2376) : Met l yX1_passAll (z_ws yX1_passAll cX1_passAll 8 (some .int)) (z_R 4 0 0) (va_Pc [.ref mx, .ref mo, .int key, .int on] (z_Pre D vwCl (z_KK D cy adK adV) L f sz)) (z_Qi D vwCl (fun r u => L = u.1 ∧ (∀ b ∈ L, b ≠ wk → b ≠ ct → b ≠ se → u.2 b = f b) ∧ (∃ (t2 : Int32) (c2 q2 : Nat → Int32), (u.2 wk = .inr (8, [.ref ks, .int wn, .ref ct, .ref se, .ref ow, .int t2, .int wd, .int wp])) ∧ (u.2 ct = .inl (cy 1, 4, .inl c2)) ∧ (u.2 se = .inl (cy 1, 4, .inl q2)) ∧ (True))) L sz) 0 0 (z_A L sz) := by
  refine z_met (cc := cX1_passAll) (maxL := 8) (ret := (some .int)) (lv := [(0, .ref mx), (1, .ref mo), (2, .int key), (3, .int on)]) (by decide) rfl (Nat.le_of_ble_eq_true rfl) rfl ?_
  intro p e s m below meth c ls hx hb hr hlk hml hown hnm hts hKK hA hw hl
  have hK := hKK.1.1
  have hown : s.vm.findClass RX1 = some m.cls := hown
  have hT : ∀ w ∈ lw_all, w.before ([.ref mx, .ref mo, .int key, .int on] : List Value).toArray s = true := fun w h => hts w (z_cons w h)
  have hsub : L = L := rfl
  have hfr : ∀ b ∈ L, b ≠ wk → b ≠ ct → b ≠ se → f b = f b := fun _ _ _ _ _ => rfl
  refine lv_iload_n hx hb dX1_passAll_0 rfl (lv_at hl 2 rfl) ?_
  refine z_calliS (cells := 0) (slots := 0) (As := [.int key]) (rest := []) ⟨hx, hb, hml, hown, hT⟩ (c_X8_timeOf l hkey) (va_cwS 1 hT (z_goodS (fun _ h => h) kw_1101 kw_777 kw_92 kw_778) rfl rfl rfl (by decide +kernel) ⟨by decide, by decide⟩) z_mv hKK hw hA rfl hl.1 rfl (Nat.le_of_ble_eq_true rfl) dX1_passAll_1 ⟨by decide, by decide⟩ (fun r1 u H locs hp hw => ?_)
  obtain ⟨rfl, hp⟩ := hp
  have hw : z_H D vwCl (z_A L sz) s.heap L f H locs := hw
  refine lv_bipush (v := 24) hx hb dX1_passAll_4 (by decide) ?_
  refine lv_idiv hx hb dX1_passAll_6 (by decide) ?_
  refine lv_topi (fun w2 e_w2 => ?_)
  have i_w2 : w2.toInt = r1.toInt / 24 := z_div e_w2 rfl (show (24 : Int32).toInt = 24 by decide) (by omega)
  refine lv_istore (lv' := [(4, .int w2), (0, .ref mx), (1, .ref mo), (2, .int key), (3, .int on)]) hx hb dX1_passAll_7 hl (by decide) rfl (fun ls hl => ?_)
  refine lv_aload_n hx hb dX1_passAll_9 rfl (lv_at hl 1 rfl) ?_
  refine z_get (C := RX1) (T := TX1) (N := 4) (ci := 1) (v := .ref wk) hx hb hT zin_X1 hown hK hw hm_mx hf_mx rfl 0 (by decide) (hT _ kw_464) rfl dX1_passAll_10 ?_
  refine lv_aload_n hx hb dX1_passAll_13 rfl (lv_at hl 2 rfl) ?_
  refine lv_iload hx hb dX1_passAll_14 (lv_at hl 0 rfl) ?_
  refine z_callvV (cells := 0) (slots := 0) (b := wk) (As := [.ref mo, .int w2]) (rest := []) (ci := 8) (q0 := (RX8, TX8, 8)) ⟨hx, hb, hml, hown, hT⟩ (c_X8_dawn l hm_wk hm_ct hm_se hm_mo hm_la hf_wk hf_ct hf_se hf_mo hf_la ne_ct_se) (cwV 2 hT (z_goodV (fun _ h => h) kw_1102 kw_787 kw_788 kw_92 kw_789) rfl rfl rfl (by decide +kernel) ⟨by decide, by decide⟩) z_mv hKK hK hw hA hm_wk hf_wk rfl rfl rfl hl.1 rfl (Nat.le_of_ble_eq_true rfl) dX1_passAll_16 ⟨by decide, by decide⟩ (fun u H locs hp hw => ?_)
  obtain ⟨L3, f4⟩ := u
  obtain ⟨hsb, hfm, t2_5, g2_6, g3_7, ha_0, ha_1, ha_2, hp⟩ := hp
  have hsb : L = L3 := hsb
  subst hsb
  have hsb : ∀ b ∈ L, b ∈ L := fun _ h => h
  have hw : z_H D vwCl (z_A L sz) s.heap L f4 H locs := hw
  have hfr : ∀ b ∈ L, b ≠ wk → b ≠ ct → b ≠ se → f4 b = f b := fun b hb h0 h1 h2 => (hfm b hb h0 h1 h2).trans (hfr b hb h0 h1 h2)
  have hd_da : z_Drv L f4 dv 13 := z_Drv_fr hd_da hsb (fun b hb ht => hfm b hb (z_t0 ht hf_wk (m := 8) rfl (by decide)) (z_t0 ht hf_ct (m := 132) rfl (by decide)) (z_t0 ht hf_se (m := 132) rfl (by decide)))
  have hf_mx : f4 mx = .inr (1, [.ref wk, .ref bs, .int mm, .long xx]) := (hfm mx hm_mx (z_tne hf_mx hf_wk (m := 1) (n := 8) rfl rfl (by decide)) (z_tne hf_mx hf_ct (m := 1) (n := 132) rfl rfl (by decide)) (z_tne hf_mx hf_se (m := 1) (n := 132) rfl rfl (by decide))).trans hf_mx
  have hf_bs : f4 bs = .inl (cy 0, 2376, .inl gb_) := (hfm bs hm_bs (z_tne hf_bs hf_wk (m := 19108) (n := 8) rfl rfl (by decide)) (z_tne hf_bs hf_ct (m := 19108) (n := 132) rfl rfl (by decide)) (z_tne hf_bs hf_se (m := 19108) (n := 132) rfl rfl (by decide))).trans hf_bs
  have hf_mo : f4 mo = .inr (2, [.int v0, .int v1, .int v2, .int v3, .int v4, .int v5, .int v6, .ref la, .ref sa, .ref mi, .ref da]) := (hfm mo hm_mo (z_tne hf_mo hf_wk (m := 2) (n := 8) rfl rfl (by decide)) (z_tne hf_mo hf_ct (m := 2) (n := 132) rfl rfl (by decide)) (z_tne hf_mo hf_se (m := 2) (n := 132) rfl rfl (by decide))).trans hf_mo
  have hf_la : f4 la = .inl (cy 1, 5, .inl gl) := (hfm la hm_la (z_tne hf_la hf_wk (m := 140) (n := 8) rfl rfl (by decide)) (z_tne hf_la hf_ct (m := 140) (n := 132) rfl rfl (by decide)) (z_tne hf_la hf_se (m := 140) (n := 132) rfl rfl (by decide))).trans hf_la
  have hf_mi : f4 mi = .inl (cy 1, 36, .inl gm) := (hfm mi hm_mi (z_tne hf_mi hf_wk (m := 388) (n := 8) rfl rfl (by decide)) (z_tne hf_mi hf_ct (m := 388) (n := 132) rfl rfl (by decide)) (z_tne hf_mi hf_se (m := 388) (n := 132) rfl rfl (by decide))).trans hf_mi
  have hf_da : f4 da = .inl (cy 4, 13, .inr (.inr (.inr (.inr gd)))) := (hfm da hm_da (z_tne hf_da hf_wk (m := 206) (n := 8) rfl rfl (by decide)) (z_tne hf_da hf_ct (m := 206) (n := 132) rfl rfl (by decide)) (z_tne hf_da hf_se (m := 206) (n := 132) rfl rfl (by decide))).trans hf_da
  have hf_wk : f4 wk = .inr (8, [.ref ks, .int wn, .ref ct, .ref se, .ref ow, .int t2_5, .int wd, .int wp]) := ha_0
  have hf_ct : f4 ct = .inl (cy 1, 4, .inl g2_6) := ha_1
  have hf_se : f4 se = .inl (cy 1, 4, .inl g3_7) := ha_2
  refine lv_iconst (v := 0) hx hb dX1_passAll_19 (by decide) ?_
  refine lv_istore (lv' := [(5, .int 0), (4, .int w2), (0, .ref mx), (1, .ref mo), (2, .int key), (3, .int on)]) hx hb dX1_passAll_20 hl (by decide) rfl (fun ls hl => ?_)
  refine lv_iconst (v := 0) hx hb dX1_passAll_22 (by decide) ?_
  refine lv_istore (lv' := [(6, .int 0), (5, .int 0), (4, .int w2), (0, .ref mx), (1, .ref mo), (2, .int key), (3, .int on)]) hx hb dX1_passAll_23 hl (by decide) rfl (fun ls hl => ?_)
  have hzk : (0 : Int32).toInt = 0 := by decide
  refine z_loop (fun n H locs ls => ∃ (K8 : Int32) (G10 : Nat → Int32) (G11 : Nat → Int32) (V12 : Int32) (f9 : Nat → va_E), (n = (mm.toInt - K8.toInt).toNat) ∧ (0 ≤ K8.toInt) ∧ (K8.toInt ≤ mm.toInt) ∧ (z_H D vwCl (z_A L sz) s.heap L f9 H locs) ∧ (f9 mx = .inr (1, [.ref wk, .ref bs, .int mm, .long xx])) ∧ (f9 bs = .inl (cy 0, 2376, .inl gb_)) ∧ (f9 wk = .inr (8, [.ref ks, .int wn, .ref ct, .ref se, .ref ow, .int t2_5, .int wd, .int wp])) ∧ (f9 ct = .inl (cy 1, 4, .inl G10)) ∧ (f9 se = .inl (cy 1, 4, .inl G11)) ∧ (f9 mo = .inr (2, [.int v0, .int v1, .int v2, .int v3, .int v4, .int v5, .int v6, .ref la, .ref sa, .ref mi, .ref da])) ∧ (f9 la = .inl (cy 1, 5, .inl gl)) ∧ (f9 mi = .inl (cy 1, 36, .inl gm)) ∧ (f9 da = .inl (cy 4, 13, .inr (.inr (.inr (.inr gd))))) ∧ (∀ b ∈ L, b ≠ wk → b ≠ ct → b ≠ se → f9 b = f b) ∧ (z_Drv L f9 dv 13) ∧ (lv_has ls 8 [(6, .int K8), (5, .int V12), (4, .int w2), (0, .ref mx), (1, .ref mo), (2, .int key), (3, .int on)])) _ ⟨0, g2_6, g3_7, 0, f4, rfl, (by first | decide | omega), (by first | decide | omega), hw, hf_mx, hf_bs, hf_wk, hf_ct, hf_se, hf_mo, hf_la, hf_mi, hf_da, hfr, hd_da, (lv_sub hl [0, 1, 2, 3, 4, 5, 6] rfl)⟩ (fun n H locs ls hI ih_25 => ?_)
  obtain ⟨K8, G10, G11, V12, f9, hn, hk0, hk1, hw, hf_mx, hf_bs, hf_wk, hf_ct, hf_se, hf_mo, hf_la, hf_mi, hf_da, hfr, hd_da, hl⟩ := hI
  refine lv_iload hx hb dX1_passAll_25 (lv_at hl 0 rfl) ?_
  refine lv_aload_n hx hb dX1_passAll_27 rfl (lv_at hl 3 rfl) ?_
  refine z_get (C := RX1) (T := TX1) (N := 4) (ci := 1) (v := .int mm) hx hb hT zin_X1 hown hK hw hm_mx hf_mx rfl 2 (by decide) (hT _ kw_466) rfl dX1_passAll_28 ?_
  refine z_icmp_ge (tgt := 115) hx hb rfl rfl dX1_passAll_31 (by decide) (fun c13 => ?_) (fun c13 => ?_)
  · skip
    refine lv_iload hx hb dX1_passAll_115 (lv_at hl 1 rfl) ?_
    exact z_iret hx hb hr hlk (by decide) (by decide) hw (⟨hsub, hfr, t2_5, G10, G11, hf_wk, hf_ct, hf_se, trivial⟩) dX1_passAll_117
  · skip
    refine lv_aload_n hx hb dX1_passAll_34 rfl (lv_at hl 3 rfl) ?_
    refine z_get (C := RX1) (T := TX1) (N := 4) (ci := 1) (v := .ref bs) hx hb hT zin_X1 hown hK hw hm_mx hf_mx rfl 1 (by decide) (hT _ kw_465) rfl dX1_passAll_35 ?_
    refine lv_iload hx hb dX1_passAll_38 (lv_at hl 0 rfl) ?_
    refine z_bald hx hb hK hw 0 hm_bs hf_bs rfl (z_ix rfl (by omega)) dX1_passAll_40 ?_
    refine lv_topi (fun w14 e_w14 => ?_)
    refine lv_bipush (v := 16) hx hb dX1_passAll_41 (by decide) ?_
    refine z_icmp_lt (tgt := 55) hx hb rfl (show (16 : Int32).toInt = 16 by decide) dX1_passAll_43 (by decide) (fun c15 => ?_) (fun c15 => ?_)
    · skip
      refine lv_iconst (v := 1) hx hb dX1_passAll_55 (by decide) ?_
      refine lv_goto (tgt := 60) hx hb dX1_passAll_56 (by decide) ?_
      refine lv_istore (lv' := [(7, .int 1), (6, .int K8), (5, .int V12), (4, .int w2), (0, .ref mx), (1, .ref mo), (2, .int key), (3, .int on)]) hx hb dX1_passAll_60 hl (by decide) rfl (fun ls hl => ?_)
      refine lv_iload hx hb dX1_passAll_62 (lv_at hl 0 rfl) ?_
      refine z_if_eq (tgt := 109) hx hb (show (1 : Int32).toInt = 1 by decide) dX1_passAll_64 (by decide) (fun h => absurd h (by decide)) (fun _ => ?_)
      refine lv_aload_n hx hb dX1_passAll_67 rfl (lv_at hl 4 rfl) ?_
      refine z_get (C := RX1) (T := TX1) (N := 4) (ci := 1) (v := .ref wk) hx hb hT zin_X1 hown hK hw hm_mx hf_mx rfl 0 (by decide) (hT _ kw_464) rfl dX1_passAll_68 ?_
      refine lv_aload_n hx hb dX1_passAll_71 rfl (lv_at hl 5 rfl) ?_
      refine lv_iload_n hx hb dX1_passAll_72 rfl (lv_at hl 6 rfl) ?_
      refine z_calliS (cells := 0) (slots := 0) (As := [.int key]) (rest := [.ref mo, .ref wk]) ⟨hx, hb, hml, hown, hT⟩ (c_X8_gapOf l hkey) (va_cwS 1 hT (z_goodS (fun _ h => h) kw_1104 kw_784 kw_92 kw_785) rfl rfl rfl (by decide +kernel) ⟨by decide, by decide⟩) z_mv hKK hw hA rfl hl.1 rfl (Nat.le_of_ble_eq_true rfl) dX1_passAll_73 ⟨by decide, by decide⟩ (fun r16 u H locs hp hw => ?_)
      obtain ⟨rfl, hp⟩ := hp
      have hw : z_H D vwCl (z_A L sz) s.heap L f9 H locs := hw
      refine lv_iload hx hb dX1_passAll_76 (lv_at hl 3 rfl) ?_
      refine z_calliV (cells := 0) (slots := 0) (b := wk) (As := [.ref mo, .int r16, .int w2]) (rest := []) (ci := 8) (q0 := (RX8, TX8, 8)) ⟨hx, hb, hml, hown, hT⟩ (c_X8_passOne l hm_wk hm_ct hm_se hm_mo hm_la hm_mi hf_wk hf_ct hf_se hf_mo hf_la hf_mi ne_ct_se (by first | omega | decide | assumption) (by first | omega | decide | assumption) hgm) (cwV 3 hT (z_goodV (fun _ h => h) kw_1105 kw_851 kw_852 kw_92 kw_853) rfl rfl rfl (by decide +kernel) ⟨by decide, by decide⟩) z_mv hKK hK hw hA hm_wk hf_wk rfl rfl rfl hl.1 rfl (Nat.le_of_ble_eq_true rfl) dX1_passAll_78 ⟨by decide, by decide⟩ (fun r17 u H locs hp hw => ?_)
      obtain ⟨L18, f19⟩ := u
      obtain ⟨hsb, hfm, c2_20, q2_21, ha_0, ha_1, hp⟩ := hp
      have hsb : L = L18 := hsb
      subst hsb
      have hsb : ∀ b ∈ L, b ∈ L := fun _ h => h
      have hw : z_H D vwCl (z_A L sz) s.heap L f19 H locs := hw
      have hfr : ∀ b ∈ L, b ≠ wk → b ≠ ct → b ≠ se → f19 b = f b := fun b hb h0 h1 h2 => (hfm b hb h1 h2).trans (hfr b hb h0 h1 h2)
      have hd_da : z_Drv L f19 dv 13 := z_Drv_fr hd_da hsb (fun b hb ht => hfm b hb (z_t0 ht hf_ct (m := 132) rfl (by decide)) (z_t0 ht hf_se (m := 132) rfl (by decide)))
      have hf_mx : f19 mx = .inr (1, [.ref wk, .ref bs, .int mm, .long xx]) := (hfm mx hm_mx (z_tne hf_mx hf_ct (m := 1) (n := 132) rfl rfl (by decide)) (z_tne hf_mx hf_se (m := 1) (n := 132) rfl rfl (by decide))).trans hf_mx
      have hf_bs : f19 bs = .inl (cy 0, 2376, .inl gb_) := (hfm bs hm_bs (z_tne hf_bs hf_ct (m := 19108) (n := 132) rfl rfl (by decide)) (z_tne hf_bs hf_se (m := 19108) (n := 132) rfl rfl (by decide))).trans hf_bs
      have hf_wk : f19 wk = .inr (8, [.ref ks, .int wn, .ref ct, .ref se, .ref ow, .int t2_5, .int wd, .int wp]) := (hfm wk hm_wk (z_tne hf_wk hf_ct (m := 8) (n := 132) rfl rfl (by decide)) (z_tne hf_wk hf_se (m := 8) (n := 132) rfl rfl (by decide))).trans hf_wk
      have hf_mo : f19 mo = .inr (2, [.int v0, .int v1, .int v2, .int v3, .int v4, .int v5, .int v6, .ref la, .ref sa, .ref mi, .ref da]) := (hfm mo hm_mo (z_tne hf_mo hf_ct (m := 2) (n := 132) rfl rfl (by decide)) (z_tne hf_mo hf_se (m := 2) (n := 132) rfl rfl (by decide))).trans hf_mo
      have hf_la : f19 la = .inl (cy 1, 5, .inl gl) := (hfm la hm_la (z_tne hf_la hf_ct (m := 140) (n := 132) rfl rfl (by decide)) (z_tne hf_la hf_se (m := 140) (n := 132) rfl rfl (by decide))).trans hf_la
      have hf_mi : f19 mi = .inl (cy 1, 36, .inl gm) := (hfm mi hm_mi (z_tne hf_mi hf_ct (m := 388) (n := 132) rfl rfl (by decide)) (z_tne hf_mi hf_se (m := 388) (n := 132) rfl rfl (by decide))).trans hf_mi
      have hf_da : f19 da = .inl (cy 4, 13, .inr (.inr (.inr (.inr gd)))) := (hfm da hm_da (z_tne hf_da hf_ct (m := 206) (n := 132) rfl rfl (by decide)) (z_tne hf_da hf_se (m := 206) (n := 132) rfl rfl (by decide))).trans hf_da
      have hf_ct : f19 ct = .inl (cy 1, 4, .inl c2_20) := ha_0
      have hf_se : f19 se = .inl (cy 1, 4, .inl q2_21) := ha_1
      rcases hp with ⟨rfl, h22⟩ | ⟨rfl, h22⟩
      · skip
        refine z_if_eq (tgt := 109) hx hb (show (1 : Int32).toInt = 1 by decide) dX1_passAll_81 (by decide) (fun h => absurd h (by decide)) (fun _ => ?_)
        refine lv_aload_n hx hb dX1_passAll_84 rfl (lv_at hl 5 rfl) ?_
        refine z_get (C := RX2) (T := TX2) (N := 11) (ci := 2) (v := .ref da) hx hb hT zin_X2 hown hK hw hm_mo hf_mo rfl 10 (by decide) (hT _ kw_242) rfl dX1_passAll_85 ?_
        refine lv_aload_n hx hb dX1_passAll_88 rfl (lv_at hl 4 rfl) ?_
        refine z_get (C := RX1) (T := TX1) (N := 4) (ci := 1) (v := .ref bs) hx hb hT zin_X1 hown hK hw hm_mx hf_mx rfl 1 (by decide) (hT _ kw_465) rfl dX1_passAll_89 ?_
        refine lv_iload hx hb dX1_passAll_92 (lv_at hl 1 rfl) ?_
        refine z_bald hx hb hK hw 0 hm_bs hf_bs rfl (z_ix rfl (by omega)) dX1_passAll_94 ?_
        refine lv_topi (fun w23 e_w23 => ?_)
        have hl_w23 : 0 ≤ w23.toInt ∧ w23.toInt ≤ 28 ∧ w23.toInt % 16 ≤ 12 := by rw [e_w23]; exact hbs _
        refine lv_bipush (v := 16) hx hb dX1_passAll_95 (by decide) ?_
        refine lv_irem hx hb dX1_passAll_97 (by decide) ?_
        refine lv_topi (fun w24 e_w24 => ?_)
        have i_w24 : w24.toInt = (w23.toInt % 16) := z_remI e_w24 rfl (show (16 : Int32).toInt = 16 by decide) (by omega)
        obtain ⟨dq25, e_dq25⟩ : ∃ z, z = dv w24.toNatClampNeg := ⟨_, rfl⟩
        have hi_dq25 : w24.toNatClampNeg < 13 := z_clI i_w24 (by omega)
        refine z_aald (b := dq25) hx hb hK hw 4 hm_da hf_da rfl (z_ix i_w24 (by omega)) (by rw [e_dq25]; exact hg_da _ hi_dq25) dX1_passAll_98 ?_
        obtain ⟨hm_dq25, do26, dg27, dd28, dh29, ds30, dl31, dp32, dm33, hf_dq25, hr_do26, hr_dg27, hr_dd28, hr_dh29, hr_ds30, hr_dl31, hr_dp32, hr_dm33⟩ := hd_da _ hi_dq25
        rw [← e_dq25] at hm_dq25 hf_dq25
        refine z_get (C := RX0) (T := TX0) (N := 8) (ci := 0) (v := .int dp32) hx hb hT zin_X0 hown hK hw hm_dq25 hf_dq25 rfl 6 (by decide) (hT _ kw_177) rfl dX1_passAll_99 ?_
        refine lv_iload_n hx hb dX1_passAll_102 rfl (lv_at hl 7 rfl) ?_
        refine z_icmp_ne (tgt := 109) hx hb rfl rfl dX1_passAll_103 (by decide) (fun c34 => ?_) (fun c34 => ?_)
        · skip
          obtain ⟨k35, e_k35⟩ : ∃ z : Int32, z = K8 + 1 := ⟨_, rfl⟩
          refine lv_iinc (v := k35) (lv' := [(6, .int k35), (7, .int 1), (5, .int V12), (4, .int w2), (0, .ref mx), (1, .ref mo), (2, .int key), (3, .int on)]) hx hb dX1_passAll_109 hl (k := 1) rfl (by rw [e_k35]; rfl) (by decide) rfl (fun ls hl => ?_)
          have i_k35 : k35.toInt = (K8.toInt + 1) := z_add e_k35 rfl (by decide) (by omega)
          refine lv_goto (tgt := 25) hx hb dX1_passAll_112 (by decide) ?_
          exact ih_25 _ (by omega) _ _ _ ⟨k35, c2_20, q2_21, V12, f19, rfl, (by first | decide | omega), (by first | decide | omega), hw, hf_mx, hf_bs, hf_wk, hf_ct, hf_se, hf_mo, hf_la, hf_mi, hf_da, hfr, hd_da, (lv_sub hl [0, 2, 3, 4, 5, 6, 7] rfl)⟩
        · skip
          obtain ⟨k36, e_k36⟩ : ∃ z : Int32, z = V12 + 1 := ⟨_, rfl⟩
          refine lv_iinc (v := k36) (lv' := [(5, .int k36), (7, .int 1), (6, .int K8), (4, .int w2), (0, .ref mx), (1, .ref mo), (2, .int key), (3, .int on)]) hx hb dX1_passAll_106 hl (k := 2) rfl (by rw [e_k36]; rfl) (by decide) rfl (fun ls hl => ?_)
          obtain ⟨k37, e_k37⟩ : ∃ z : Int32, z = K8 + 1 := ⟨_, rfl⟩
          refine lv_iinc (v := k37) (lv' := [(6, .int k37), (5, .int k36), (7, .int 1), (4, .int w2), (0, .ref mx), (1, .ref mo), (2, .int key), (3, .int on)]) hx hb dX1_passAll_109 hl (k := 2) rfl (by rw [e_k37]; rfl) (by decide) rfl (fun ls hl => ?_)
          have i_k37 : k37.toInt = (K8.toInt + 1) := z_add e_k37 rfl (by decide) (by omega)
          refine lv_goto (tgt := 25) hx hb dX1_passAll_112 (by decide) ?_
          exact ih_25 _ (by omega) _ _ _ ⟨k37, c2_20, q2_21, k36, f19, rfl, (by first | decide | omega), (by first | decide | omega), hw, hf_mx, hf_bs, hf_wk, hf_ct, hf_se, hf_mo, hf_la, hf_mi, hf_da, hfr, hd_da, (lv_sub hl [0, 1, 3, 4, 5, 6, 7] rfl)⟩
      · skip
        refine z_if_eq (tgt := 109) hx hb (show (0 : Int32).toInt = 0 by decide) dX1_passAll_81 (by decide) (fun _ => ?_) (fun h => absurd h (by decide))
        obtain ⟨k38, e_k38⟩ : ∃ z : Int32, z = K8 + 1 := ⟨_, rfl⟩
        refine lv_iinc (v := k38) (lv' := [(6, .int k38), (7, .int 1), (5, .int V12), (4, .int w2), (0, .ref mx), (1, .ref mo), (2, .int key), (3, .int on)]) hx hb dX1_passAll_109 hl (k := 1) rfl (by rw [e_k38]; rfl) (by decide) rfl (fun ls hl => ?_)
        have i_k38 : k38.toInt = (K8.toInt + 1) := z_add e_k38 rfl (by decide) (by omega)
        refine lv_goto (tgt := 25) hx hb dX1_passAll_112 (by decide) ?_
        exact ih_25 _ (by omega) _ _ _ ⟨k38, c2_20, q2_21, V12, f19, rfl, (by first | decide | omega), (by first | decide | omega), hw, hf_mx, hf_bs, hf_wk, hf_ct, hf_se, hf_mo, hf_la, hf_mi, hf_da, hfr, hd_da, (lv_sub hl [0, 2, 3, 4, 5, 6, 7] rfl)⟩
    · skip
      refine lv_aload_n hx hb dX1_passAll_46 rfl (lv_at hl 4 rfl) ?_
      refine lv_iload hx hb dX1_passAll_47 (lv_at hl 2 rfl) ?_
      refine z_calliV (cells := 0) (slots := 0) (b := mo) (As := [.int w2]) (rest := []) (ci := 2) (q0 := (RX2, TX2, 11)) ⟨hx, hb, hml, hown, hT⟩ (c_X2_lambsCount l hm_mo hm_la hf_mo hf_la) (cwV 1 hT (z_goodV (fun _ h => h) kw_1103 kw_794 kw_795 kw_87 kw_796) rfl rfl rfl (by decide +kernel) ⟨by decide, by decide⟩) z_mv hKK hK hw hA hm_mo hf_mo rfl rfl rfl hl.1 rfl (Nat.le_of_ble_eq_true rfl) dX1_passAll_49 ⟨by decide, by decide⟩ (fun r39 u H locs hp hw => ?_)
      obtain ⟨rfl, hp⟩ := hp
      have hw : z_H D vwCl (z_A L sz) s.heap L f9 H locs := hw
      rcases hp with ⟨rfl, h40⟩ | ⟨rfl, h40⟩
      · skip
        refine z_if_eq (tgt := 59) hx hb (show (1 : Int32).toInt = 1 by decide) dX1_passAll_52 (by decide) (fun h => absurd h (by decide)) (fun _ => ?_)
        refine lv_iconst (v := 1) hx hb dX1_passAll_55 (by decide) ?_
        refine lv_goto (tgt := 60) hx hb dX1_passAll_56 (by decide) ?_
        refine lv_istore (lv' := [(7, .int 1), (6, .int K8), (5, .int V12), (4, .int w2), (0, .ref mx), (1, .ref mo), (2, .int key), (3, .int on)]) hx hb dX1_passAll_60 hl (by decide) rfl (fun ls hl => ?_)
        refine lv_iload hx hb dX1_passAll_62 (lv_at hl 0 rfl) ?_
        refine z_if_eq (tgt := 109) hx hb (show (1 : Int32).toInt = 1 by decide) dX1_passAll_64 (by decide) (fun h => absurd h (by decide)) (fun _ => ?_)
        refine lv_aload_n hx hb dX1_passAll_67 rfl (lv_at hl 4 rfl) ?_
        refine z_get (C := RX1) (T := TX1) (N := 4) (ci := 1) (v := .ref wk) hx hb hT zin_X1 hown hK hw hm_mx hf_mx rfl 0 (by decide) (hT _ kw_464) rfl dX1_passAll_68 ?_
        refine lv_aload_n hx hb dX1_passAll_71 rfl (lv_at hl 5 rfl) ?_
        refine lv_iload_n hx hb dX1_passAll_72 rfl (lv_at hl 6 rfl) ?_
        refine z_calliS (cells := 0) (slots := 0) (As := [.int key]) (rest := [.ref mo, .ref wk]) ⟨hx, hb, hml, hown, hT⟩ (c_X8_gapOf l hkey) (va_cwS 1 hT (z_goodS (fun _ h => h) kw_1104 kw_784 kw_92 kw_785) rfl rfl rfl (by decide +kernel) ⟨by decide, by decide⟩) z_mv hKK hw hA rfl hl.1 rfl (Nat.le_of_ble_eq_true rfl) dX1_passAll_73 ⟨by decide, by decide⟩ (fun r41 u H locs hp hw => ?_)
        obtain ⟨rfl, hp⟩ := hp
        have hw : z_H D vwCl (z_A L sz) s.heap L f9 H locs := hw
        refine lv_iload hx hb dX1_passAll_76 (lv_at hl 3 rfl) ?_
        refine z_calliV (cells := 0) (slots := 0) (b := wk) (As := [.ref mo, .int r41, .int w2]) (rest := []) (ci := 8) (q0 := (RX8, TX8, 8)) ⟨hx, hb, hml, hown, hT⟩ (c_X8_passOne l hm_wk hm_ct hm_se hm_mo hm_la hm_mi hf_wk hf_ct hf_se hf_mo hf_la hf_mi ne_ct_se (by first | omega | decide | assumption) (by first | omega | decide | assumption) hgm) (cwV 3 hT (z_goodV (fun _ h => h) kw_1105 kw_851 kw_852 kw_92 kw_853) rfl rfl rfl (by decide +kernel) ⟨by decide, by decide⟩) z_mv hKK hK hw hA hm_wk hf_wk rfl rfl rfl hl.1 rfl (Nat.le_of_ble_eq_true rfl) dX1_passAll_78 ⟨by decide, by decide⟩ (fun r42 u H locs hp hw => ?_)
        obtain ⟨L43, f44⟩ := u
        obtain ⟨hsb, hfm, c2_45, q2_46, ha_0, ha_1, hp⟩ := hp
        have hsb : L = L43 := hsb
        subst hsb
        have hsb : ∀ b ∈ L, b ∈ L := fun _ h => h
        have hw : z_H D vwCl (z_A L sz) s.heap L f44 H locs := hw
        have hfr : ∀ b ∈ L, b ≠ wk → b ≠ ct → b ≠ se → f44 b = f b := fun b hb h0 h1 h2 => (hfm b hb h1 h2).trans (hfr b hb h0 h1 h2)
        have hd_da : z_Drv L f44 dv 13 := z_Drv_fr hd_da hsb (fun b hb ht => hfm b hb (z_t0 ht hf_ct (m := 132) rfl (by decide)) (z_t0 ht hf_se (m := 132) rfl (by decide)))
        have hf_mx : f44 mx = .inr (1, [.ref wk, .ref bs, .int mm, .long xx]) := (hfm mx hm_mx (z_tne hf_mx hf_ct (m := 1) (n := 132) rfl rfl (by decide)) (z_tne hf_mx hf_se (m := 1) (n := 132) rfl rfl (by decide))).trans hf_mx
        have hf_bs : f44 bs = .inl (cy 0, 2376, .inl gb_) := (hfm bs hm_bs (z_tne hf_bs hf_ct (m := 19108) (n := 132) rfl rfl (by decide)) (z_tne hf_bs hf_se (m := 19108) (n := 132) rfl rfl (by decide))).trans hf_bs
        have hf_wk : f44 wk = .inr (8, [.ref ks, .int wn, .ref ct, .ref se, .ref ow, .int t2_5, .int wd, .int wp]) := (hfm wk hm_wk (z_tne hf_wk hf_ct (m := 8) (n := 132) rfl rfl (by decide)) (z_tne hf_wk hf_se (m := 8) (n := 132) rfl rfl (by decide))).trans hf_wk
        have hf_mo : f44 mo = .inr (2, [.int v0, .int v1, .int v2, .int v3, .int v4, .int v5, .int v6, .ref la, .ref sa, .ref mi, .ref da]) := (hfm mo hm_mo (z_tne hf_mo hf_ct (m := 2) (n := 132) rfl rfl (by decide)) (z_tne hf_mo hf_se (m := 2) (n := 132) rfl rfl (by decide))).trans hf_mo
        have hf_la : f44 la = .inl (cy 1, 5, .inl gl) := (hfm la hm_la (z_tne hf_la hf_ct (m := 140) (n := 132) rfl rfl (by decide)) (z_tne hf_la hf_se (m := 140) (n := 132) rfl rfl (by decide))).trans hf_la
        have hf_mi : f44 mi = .inl (cy 1, 36, .inl gm) := (hfm mi hm_mi (z_tne hf_mi hf_ct (m := 388) (n := 132) rfl rfl (by decide)) (z_tne hf_mi hf_se (m := 388) (n := 132) rfl rfl (by decide))).trans hf_mi
        have hf_da : f44 da = .inl (cy 4, 13, .inr (.inr (.inr (.inr gd)))) := (hfm da hm_da (z_tne hf_da hf_ct (m := 206) (n := 132) rfl rfl (by decide)) (z_tne hf_da hf_se (m := 206) (n := 132) rfl rfl (by decide))).trans hf_da
        have hf_ct : f44 ct = .inl (cy 1, 4, .inl c2_45) := ha_0
        have hf_se : f44 se = .inl (cy 1, 4, .inl q2_46) := ha_1
        rcases hp with ⟨rfl, h47⟩ | ⟨rfl, h47⟩
        · skip
          refine z_if_eq (tgt := 109) hx hb (show (1 : Int32).toInt = 1 by decide) dX1_passAll_81 (by decide) (fun h => absurd h (by decide)) (fun _ => ?_)
          refine lv_aload_n hx hb dX1_passAll_84 rfl (lv_at hl 5 rfl) ?_
          refine z_get (C := RX2) (T := TX2) (N := 11) (ci := 2) (v := .ref da) hx hb hT zin_X2 hown hK hw hm_mo hf_mo rfl 10 (by decide) (hT _ kw_242) rfl dX1_passAll_85 ?_
          refine lv_aload_n hx hb dX1_passAll_88 rfl (lv_at hl 4 rfl) ?_
          refine z_get (C := RX1) (T := TX1) (N := 4) (ci := 1) (v := .ref bs) hx hb hT zin_X1 hown hK hw hm_mx hf_mx rfl 1 (by decide) (hT _ kw_465) rfl dX1_passAll_89 ?_
          refine lv_iload hx hb dX1_passAll_92 (lv_at hl 1 rfl) ?_
          refine z_bald hx hb hK hw 0 hm_bs hf_bs rfl (z_ix rfl (by omega)) dX1_passAll_94 ?_
          refine lv_topi (fun w48 e_w48 => ?_)
          have hl_w48 : 0 ≤ w48.toInt ∧ w48.toInt ≤ 28 ∧ w48.toInt % 16 ≤ 12 := by rw [e_w48]; exact hbs _
          refine lv_bipush (v := 16) hx hb dX1_passAll_95 (by decide) ?_
          refine lv_irem hx hb dX1_passAll_97 (by decide) ?_
          refine lv_topi (fun w49 e_w49 => ?_)
          have i_w49 : w49.toInt = (w48.toInt % 16) := z_remI e_w49 rfl (show (16 : Int32).toInt = 16 by decide) (by omega)
          obtain ⟨dq50, e_dq50⟩ : ∃ z, z = dv w49.toNatClampNeg := ⟨_, rfl⟩
          have hi_dq50 : w49.toNatClampNeg < 13 := z_clI i_w49 (by omega)
          refine z_aald (b := dq50) hx hb hK hw 4 hm_da hf_da rfl (z_ix i_w49 (by omega)) (by rw [e_dq50]; exact hg_da _ hi_dq50) dX1_passAll_98 ?_
          obtain ⟨hm_dq50, do51, dg52, dd53, dh54, ds55, dl56, dp57, dm58, hf_dq50, hr_do51, hr_dg52, hr_dd53, hr_dh54, hr_ds55, hr_dl56, hr_dp57, hr_dm58⟩ := hd_da _ hi_dq50
          rw [← e_dq50] at hm_dq50 hf_dq50
          refine z_get (C := RX0) (T := TX0) (N := 8) (ci := 0) (v := .int dp57) hx hb hT zin_X0 hown hK hw hm_dq50 hf_dq50 rfl 6 (by decide) (hT _ kw_177) rfl dX1_passAll_99 ?_
          refine lv_iload_n hx hb dX1_passAll_102 rfl (lv_at hl 7 rfl) ?_
          refine z_icmp_ne (tgt := 109) hx hb rfl rfl dX1_passAll_103 (by decide) (fun c59 => ?_) (fun c59 => ?_)
          · skip
            obtain ⟨k60, e_k60⟩ : ∃ z : Int32, z = K8 + 1 := ⟨_, rfl⟩
            refine lv_iinc (v := k60) (lv' := [(6, .int k60), (7, .int 1), (5, .int V12), (4, .int w2), (0, .ref mx), (1, .ref mo), (2, .int key), (3, .int on)]) hx hb dX1_passAll_109 hl (k := 1) rfl (by rw [e_k60]; rfl) (by decide) rfl (fun ls hl => ?_)
            have i_k60 : k60.toInt = (K8.toInt + 1) := z_add e_k60 rfl (by decide) (by omega)
            refine lv_goto (tgt := 25) hx hb dX1_passAll_112 (by decide) ?_
            exact ih_25 _ (by omega) _ _ _ ⟨k60, c2_45, q2_46, V12, f44, rfl, (by first | decide | omega), (by first | decide | omega), hw, hf_mx, hf_bs, hf_wk, hf_ct, hf_se, hf_mo, hf_la, hf_mi, hf_da, hfr, hd_da, (lv_sub hl [0, 2, 3, 4, 5, 6, 7] rfl)⟩
          · skip
            obtain ⟨k61, e_k61⟩ : ∃ z : Int32, z = V12 + 1 := ⟨_, rfl⟩
            refine lv_iinc (v := k61) (lv' := [(5, .int k61), (7, .int 1), (6, .int K8), (4, .int w2), (0, .ref mx), (1, .ref mo), (2, .int key), (3, .int on)]) hx hb dX1_passAll_106 hl (k := 2) rfl (by rw [e_k61]; rfl) (by decide) rfl (fun ls hl => ?_)
            obtain ⟨k62, e_k62⟩ : ∃ z : Int32, z = K8 + 1 := ⟨_, rfl⟩
            refine lv_iinc (v := k62) (lv' := [(6, .int k62), (5, .int k61), (7, .int 1), (4, .int w2), (0, .ref mx), (1, .ref mo), (2, .int key), (3, .int on)]) hx hb dX1_passAll_109 hl (k := 2) rfl (by rw [e_k62]; rfl) (by decide) rfl (fun ls hl => ?_)
            have i_k62 : k62.toInt = (K8.toInt + 1) := z_add e_k62 rfl (by decide) (by omega)
            refine lv_goto (tgt := 25) hx hb dX1_passAll_112 (by decide) ?_
            exact ih_25 _ (by omega) _ _ _ ⟨k62, c2_45, q2_46, k61, f44, rfl, (by first | decide | omega), (by first | decide | omega), hw, hf_mx, hf_bs, hf_wk, hf_ct, hf_se, hf_mo, hf_la, hf_mi, hf_da, hfr, hd_da, (lv_sub hl [0, 1, 3, 4, 5, 6, 7] rfl)⟩
        · skip
          refine z_if_eq (tgt := 109) hx hb (show (0 : Int32).toInt = 0 by decide) dX1_passAll_81 (by decide) (fun _ => ?_) (fun h => absurd h (by decide))
          obtain ⟨k63, e_k63⟩ : ∃ z : Int32, z = K8 + 1 := ⟨_, rfl⟩
          refine lv_iinc (v := k63) (lv' := [(6, .int k63), (7, .int 1), (5, .int V12), (4, .int w2), (0, .ref mx), (1, .ref mo), (2, .int key), (3, .int on)]) hx hb dX1_passAll_109 hl (k := 1) rfl (by rw [e_k63]; rfl) (by decide) rfl (fun ls hl => ?_)
          have i_k63 : k63.toInt = (K8.toInt + 1) := z_add e_k63 rfl (by decide) (by omega)
          refine lv_goto (tgt := 25) hx hb dX1_passAll_112 (by decide) ?_
          exact ih_25 _ (by omega) _ _ _ ⟨k63, c2_45, q2_46, V12, f44, rfl, (by first | decide | omega), (by first | decide | omega), hw, hf_mx, hf_bs, hf_wk, hf_ct, hf_se, hf_mo, hf_la, hf_mi, hf_da, hfr, hd_da, (lv_sub hl [0, 2, 3, 4, 5, 6, 7] rfl)⟩
      · skip
        refine z_if_eq (tgt := 59) hx hb (show (0 : Int32).toInt = 0 by decide) dX1_passAll_52 (by decide) (fun _ => ?_) (fun h => absurd h (by decide))
        refine lv_iconst (v := 0) hx hb dX1_passAll_59 (by decide) ?_
        refine lv_istore (lv' := [(7, .int 0), (6, .int K8), (5, .int V12), (4, .int w2), (0, .ref mx), (1, .ref mo), (2, .int key), (3, .int on)]) hx hb dX1_passAll_60 hl (by decide) rfl (fun ls hl => ?_)
        refine lv_iload hx hb dX1_passAll_62 (lv_at hl 0 rfl) ?_
        refine z_if_eq (tgt := 109) hx hb (show (0 : Int32).toInt = 0 by decide) dX1_passAll_64 (by decide) (fun _ => ?_) (fun h => absurd h (by decide))
        obtain ⟨k64, e_k64⟩ : ∃ z : Int32, z = K8 + 1 := ⟨_, rfl⟩
        refine lv_iinc (v := k64) (lv' := [(6, .int k64), (7, .int 0), (5, .int V12), (4, .int w2), (0, .ref mx), (1, .ref mo), (2, .int key), (3, .int on)]) hx hb dX1_passAll_109 hl (k := 1) rfl (by rw [e_k64]; rfl) (by decide) rfl (fun ls hl => ?_)
        have i_k64 : k64.toInt = (K8.toInt + 1) := z_add e_k64 rfl (by decide) (by omega)
        refine lv_goto (tgt := 25) hx hb dX1_passAll_112 (by decide) ?_
        exact ih_25 _ (by omega) _ _ _ ⟨k64, G10, G11, V12, f9, rfl, (by first | decide | omega), (by first | decide | omega), hw, hf_mx, hf_bs, hf_wk, hf_ct, hf_se, hf_mo, hf_la, hf_mi, hf_da, hfr, hd_da, (lv_sub hl [0, 2, 3, 4, 5, 6, 7] rfl)⟩

set_option maxHeartbeats 2000000 in
set_option maxRecDepth 100000 in
theorem c_X1_sumOf (l : Launch) {D : va_G} {cy : Nat → ClassId} {L : List Nat} {f : Nat → va_E} {sz : Nat} {adK adV : Nat → Nat} {mx bs : Nat} {mm : Int32} {xx : Int64} {gb_ : Nat → Int32} {wk ks ct se ow : Nat} {wn wt wd wp : Int32} {gk gc gq go : Nat → Int32} {mo la sa mi da : Nat} {v0 v1 v2 v3 v4 v5 v6 : Int32} {gl gs gm : Nat → Int32} {gd : Nat → Option Nat} {dv : Nat → Nat} {sd on : Int32} (hm_mx : mx ∈ L) (hm_bs : bs ∈ L) (hm_wk : wk ∈ L) (hm_ks : ks ∈ L) (hm_ct : ct ∈ L) (hm_se : se ∈ L) (hm_ow : ow ∈ L) (hm_mo : mo ∈ L) (hm_la : la ∈ L) (hm_sa : sa ∈ L) (hm_mi : mi ∈ L) (hm_da : da ∈ L) (hf_mx : f mx = .inr (1, [.ref wk, .ref bs, .int mm, .long xx])) (hf_bs : f bs = .inl (cy 0, 2376, .inl gb_)) (hf_wk : f wk = .inr (8, [.ref ks, .int wn, .ref ct, .ref se, .ref ow, .int wt, .int wd, .int wp])) (hf_ks : f ks = .inl (cy 1, 13, .inl gk)) (hf_ct : f ct = .inl (cy 1, 4, .inl gc)) (hf_se : f se = .inl (cy 1, 4, .inl gq)) (hf_ow : f ow = .inl (cy 1, 5, .inl go)) (hf_mo : f mo = .inr (2, [.int v0, .int v1, .int v2, .int v3, .int v4, .int v5, .int v6, .ref la, .ref sa, .ref mi, .ref da])) (hf_la : f la = .inl (cy 1, 5, .inl gl)) (hf_sa : f sa = .inl (cy 1, 4, .inl gs)) (hf_mi : f mi = .inl (cy 1, 36, .inl gm)) (hf_da : f da = .inl (cy 4, 13, .inr (.inr (.inr (.inr gd))))) (ne_ct_se : ct ≠ se) (ne_ct_sa : ct ≠ sa) (ne_se_sa : se ≠ sa) (ne_ow_la : ow ≠ la) (hg_da : ∀ i : Nat, i < 13 → gd i = some (dv i)) (hd_da : z_Drv L f dv 13) (hv2 : 0 ≤ v2.toInt ∧ v2.toInt ≤ 9) (hv5 : 0 ≤ v5.toInt ∧ v5.toInt ≤ 13) (hgk : ∀ j : Nat, z_key (gk j)) (hgm : ∀ j : Nat, 0 ≤ (gm j).toInt ∧ (gm j).toInt ≤ 9) (hbs : ∀ j : Nat, z_bst (gb_ j)) (hsd : 0 ≤ sd.toInt ∧ sd.toInt ≤ 2147483647) : Met l yX1_sumOf (z_ws yX1_sumOf cX1_sumOf 7 (some .int)) (z_R 5 0 0) (va_Pc [.ref mx, .ref mo, .int sd, .int on] (z_Pre D vwCl (z_KK D cy adK adV) L f sz)) (z_Qi D vwCl (fun r u => L = u.1 ∧ (∀ b ∈ L, b ≠ mx → b ≠ bs → b ≠ wk → b ≠ ks → b ≠ ct → b ≠ se → b ≠ ow → u.2 b = f b) ∧ (∃ (m2 w2 t2 : Int32) (x2 : Int64) (b2 k2 c2 q2 o2 : Nat → Int32), (u.2 mx = .inr (1, [.ref wk, .ref bs, .int m2, .long x2])) ∧ (u.2 bs = .inl (cy 0, 2376, .inl b2)) ∧ (u.2 wk = .inr (8, [.ref ks, .int w2, .ref ct, .ref se, .ref ow, .int t2, .int wd, .int wp])) ∧ (u.2 ks = .inl (cy 1, 13, .inl k2)) ∧ (u.2 ct = .inl (cy 1, 4, .inl c2)) ∧ (u.2 se = .inl (cy 1, 4, .inl q2)) ∧ (u.2 ow = .inl (cy 1, 5, .inl o2)) ∧ ((0 ≤ m2.toInt ∧ m2.toInt ≤ 2376) ∧ (0 ≤ x2.toInt ∧ x2.toInt < 2147483648) ∧ (0 ≤ w2.toInt ∧ w2.toInt ≤ 13) ∧ (∀ j : Nat, z_bst (b2 j)) ∧ ∀ j : Nat, z_key (k2 j)))) L sz) 0 0 (z_A L sz) := by
  refine z_met (cc := cX1_sumOf) (maxL := 7) (ret := (some .int)) (lv := [(0, .ref mx), (1, .ref mo), (2, .int sd), (3, .int on)]) (by decide) rfl (Nat.le_of_ble_eq_true rfl) rfl ?_
  intro p e s m below meth c ls hx hb hr hlk hml hown hnm hts hKK hA hw hl
  have hK := hKK.1.1
  have hown : s.vm.findClass RX1 = some m.cls := hown
  have hT : ∀ w ∈ lw_all, w.before ([.ref mx, .ref mo, .int sd, .int on] : List Value).toArray s = true := fun w h => hts w (z_cons w h)
  have hsub : L = L := rfl
  have hfr : ∀ b ∈ L, b ≠ mx → b ≠ bs → b ≠ wk → b ≠ ks → b ≠ ct → b ≠ se → b ≠ ow → f b = f b := fun _ _ _ _ _ _ _ _ _ => rfl
  refine lv_aload_n hx hb dX1_sumOf_0 rfl (lv_at hl 0 rfl) ?_
  refine lv_iload_n hx hb dX1_sumOf_1 rfl (lv_at hl 2 rfl) ?_
  refine lv_i2l hx hb dX1_sumOf_2 rfl ?_
  refine lv_topl (fun w1 e_w1 => ?_)
  have i_w1 : w1.toInt = sd.toInt := z_i2l e_w1 rfl
  refine z_put (C := RX1) (T := TX1) (N := 4) (ci := 1) (v := .long w1) (fs' := [.ref wk, .ref bs, .int mm, .long w1]) hx hb hT zin_X1 tyX1_ok nmX1 hown hK hw hm_mx hf_mx rfl 3 (by decide) (hT _ kw_467) rfl rfl rfl (Nat.le_of_ble_eq_true rfl) rfl dX1_sumOf_3 (fun H locs hw => ?_)
  obtain ⟨f2, e_f2⟩ : ∃ z, z = va_up f mx (.inr (1, [.ref wk, .ref bs, .int mm, .long w1])) := ⟨_, rfl⟩
  rw [← e_f2] at hw
  have hf_bs : f2 bs = .inl (cy 0, 2376, .inl gb_) := (congrFun e_f2 bs).trans (z_up_ne (z_tne hf_bs hf_mx (m := 19108) (n := 1) rfl rfl (by decide)) hf_bs)
  have hf_wk : f2 wk = .inr (8, [.ref ks, .int wn, .ref ct, .ref se, .ref ow, .int wt, .int wd, .int wp]) := (congrFun e_f2 wk).trans (z_up_ne (z_tne hf_wk hf_mx (m := 8) (n := 1) rfl rfl (by decide)) hf_wk)
  have hf_ks : f2 ks = .inl (cy 1, 13, .inl gk) := (congrFun e_f2 ks).trans (z_up_ne (z_tne hf_ks hf_mx (m := 204) (n := 1) rfl rfl (by decide)) hf_ks)
  have hf_ct : f2 ct = .inl (cy 1, 4, .inl gc) := (congrFun e_f2 ct).trans (z_up_ne (z_tne hf_ct hf_mx (m := 132) (n := 1) rfl rfl (by decide)) hf_ct)
  have hf_se : f2 se = .inl (cy 1, 4, .inl gq) := (congrFun e_f2 se).trans (z_up_ne (z_tne hf_se hf_mx (m := 132) (n := 1) rfl rfl (by decide)) hf_se)
  have hf_ow : f2 ow = .inl (cy 1, 5, .inl go) := (congrFun e_f2 ow).trans (z_up_ne (z_tne hf_ow hf_mx (m := 140) (n := 1) rfl rfl (by decide)) hf_ow)
  have hf_mo : f2 mo = .inr (2, [.int v0, .int v1, .int v2, .int v3, .int v4, .int v5, .int v6, .ref la, .ref sa, .ref mi, .ref da]) := (congrFun e_f2 mo).trans (z_up_ne (z_tne hf_mo hf_mx (m := 2) (n := 1) rfl rfl (by decide)) hf_mo)
  have hf_la : f2 la = .inl (cy 1, 5, .inl gl) := (congrFun e_f2 la).trans (z_up_ne (z_tne hf_la hf_mx (m := 140) (n := 1) rfl rfl (by decide)) hf_la)
  have hf_sa : f2 sa = .inl (cy 1, 4, .inl gs) := (congrFun e_f2 sa).trans (z_up_ne (z_tne hf_sa hf_mx (m := 132) (n := 1) rfl rfl (by decide)) hf_sa)
  have hf_mi : f2 mi = .inl (cy 1, 36, .inl gm) := (congrFun e_f2 mi).trans (z_up_ne (z_tne hf_mi hf_mx (m := 388) (n := 1) rfl rfl (by decide)) hf_mi)
  have hf_da : f2 da = .inl (cy 4, 13, .inr (.inr (.inr (.inr gd)))) := (congrFun e_f2 da).trans (z_up_ne (z_tne hf_da hf_mx (m := 206) (n := 1) rfl rfl (by decide)) hf_da)
  have hd_da : z_Drv L f2 dv 13 := z_Drv_up hd_da e_f2 hf_mx (m := 1) rfl (by decide)
  have hf_mx : f2 mx = .inr (1, [.ref wk, .ref bs, .int mm, .long w1]) := (congrFun e_f2 mx).trans z_up_self
  have hfr : ∀ b ∈ L, b ≠ mx → b ≠ bs → b ≠ wk → b ≠ ks → b ≠ ct → b ≠ se → b ≠ ow → f2 b = f b := fun b hb h0 h1 h2 h3 h4 h5 h6 => (congrFun e_f2 b).trans (z_up_ne h0 (hfr b hb h0 h1 h2 h3 h4 h5 h6))
  refine lv_aload_n hx hb dX1_sumOf_6 rfl (lv_at hl 0 rfl) ?_
  refine z_get (C := RX1) (T := TX1) (N := 4) (ci := 1) (v := .ref wk) hx hb hT zin_X1 hown hK hw hm_mx hf_mx rfl 0 (by decide) (hT _ kw_464) rfl dX1_sumOf_7 ?_
  refine lv_aload_n hx hb dX1_sumOf_10 rfl (lv_at hl 1 rfl) ?_
  refine z_callvV (cells := 0) (slots := 0) (b := wk) (As := [.ref mo]) (rest := []) (ci := 8) (q0 := (RX8, TX8, 8)) ⟨hx, hb, hml, hown, hT⟩ (c_X8_begin l hm_wk hm_ks hm_ct hm_se hm_ow hm_mo hm_la hm_sa hm_da hf_wk hf_ks hf_ct hf_se hf_ow hf_mo hf_la hf_sa hf_da ne_ct_se ne_ct_sa ne_se_sa ne_ow_la hg_da hd_da (by first | omega | decide | assumption) (by first | omega | decide | assumption) hgk) (cwV 1 hT (z_goodV (fun _ h => h) kw_1075 kw_760 kw_761 kw_92 kw_762) rfl rfl rfl (by decide +kernel) ⟨by decide, by decide⟩) z_mv hKK hK hw hA hm_wk hf_wk rfl rfl rfl hl.1 rfl (Nat.le_of_ble_eq_true rfl) dX1_sumOf_11 ⟨by decide, by decide⟩ (fun u H locs hp hw => ?_)
  obtain ⟨L3, f4⟩ := u
  obtain ⟨hsb, hfm, w2_5, t2_6, k2_7, c2_8, q2_9, o2_10, ha_0, ha_1, ha_2, ha_3, ha_4, hp⟩ := hp
  have hsb : L = L3 := hsb
  subst hsb
  have hsb : ∀ b ∈ L, b ∈ L := fun _ h => h
  have hw : z_H D vwCl (z_A L sz) s.heap L f4 H locs := hw
  have hfr : ∀ b ∈ L, b ≠ mx → b ≠ bs → b ≠ wk → b ≠ ks → b ≠ ct → b ≠ se → b ≠ ow → f4 b = f b := fun b hb h0 h1 h2 h3 h4 h5 h6 => (hfm b hb h2 h3 h4 h5 h6).trans (hfr b hb h0 h1 h2 h3 h4 h5 h6)
  have hd_da : z_Drv L f4 dv 13 := z_Drv_fr hd_da hsb (fun b hb ht => hfm b hb (z_t0 ht hf_wk (m := 8) rfl (by decide)) (z_t0 ht hf_ks (m := 204) rfl (by decide)) (z_t0 ht hf_ct (m := 132) rfl (by decide)) (z_t0 ht hf_se (m := 132) rfl (by decide)) (z_t0 ht hf_ow (m := 140) rfl (by decide)))
  have hf_mx : f4 mx = .inr (1, [.ref wk, .ref bs, .int mm, .long w1]) := (hfm mx hm_mx (z_tne hf_mx hf_wk (m := 1) (n := 8) rfl rfl (by decide)) (z_tne hf_mx hf_ks (m := 1) (n := 204) rfl rfl (by decide)) (z_tne hf_mx hf_ct (m := 1) (n := 132) rfl rfl (by decide)) (z_tne hf_mx hf_se (m := 1) (n := 132) rfl rfl (by decide)) (z_tne hf_mx hf_ow (m := 1) (n := 140) rfl rfl (by decide))).trans hf_mx
  have hf_bs : f4 bs = .inl (cy 0, 2376, .inl gb_) := (hfm bs hm_bs (z_tne hf_bs hf_wk (m := 19108) (n := 8) rfl rfl (by decide)) (z_tne hf_bs hf_ks (m := 19108) (n := 204) rfl rfl (by decide)) (z_tne hf_bs hf_ct (m := 19108) (n := 132) rfl rfl (by decide)) (z_tne hf_bs hf_se (m := 19108) (n := 132) rfl rfl (by decide)) (z_tne hf_bs hf_ow (m := 19108) (n := 140) rfl rfl (by decide))).trans hf_bs
  have hf_mo : f4 mo = .inr (2, [.int v0, .int v1, .int v2, .int v3, .int v4, .int v5, .int v6, .ref la, .ref sa, .ref mi, .ref da]) := (hfm mo hm_mo (z_tne hf_mo hf_wk (m := 2) (n := 8) rfl rfl (by decide)) (z_tne hf_mo hf_ks (m := 2) (n := 204) rfl rfl (by decide)) (z_tne hf_mo hf_ct (m := 2) (n := 132) rfl rfl (by decide)) (z_tne hf_mo hf_se (m := 2) (n := 132) rfl rfl (by decide)) (z_tne hf_mo hf_ow (m := 2) (n := 140) rfl rfl (by decide))).trans hf_mo
  have hf_la : f4 la = .inl (cy 1, 5, .inl gl) := (hfm la hm_la (z_tne hf_la hf_wk (m := 140) (n := 8) rfl rfl (by decide)) (z_tne hf_la hf_ks (m := 140) (n := 204) rfl rfl (by decide)) (z_tne hf_la hf_ct (m := 140) (n := 132) rfl rfl (by decide)) (z_tne hf_la hf_se (m := 140) (n := 132) rfl rfl (by decide)) (Ne.symm ne_ow_la)).trans hf_la
  have hf_sa : f4 sa = .inl (cy 1, 4, .inl gs) := (hfm sa hm_sa (z_tne hf_sa hf_wk (m := 132) (n := 8) rfl rfl (by decide)) (z_tne hf_sa hf_ks (m := 132) (n := 204) rfl rfl (by decide)) (Ne.symm ne_ct_sa) (Ne.symm ne_se_sa) (z_tne hf_sa hf_ow (m := 132) (n := 140) rfl rfl (by decide))).trans hf_sa
  have hf_mi : f4 mi = .inl (cy 1, 36, .inl gm) := (hfm mi hm_mi (z_tne hf_mi hf_wk (m := 388) (n := 8) rfl rfl (by decide)) (z_tne hf_mi hf_ks (m := 388) (n := 204) rfl rfl (by decide)) (z_tne hf_mi hf_ct (m := 388) (n := 132) rfl rfl (by decide)) (z_tne hf_mi hf_se (m := 388) (n := 132) rfl rfl (by decide)) (z_tne hf_mi hf_ow (m := 388) (n := 140) rfl rfl (by decide))).trans hf_mi
  have hf_da : f4 da = .inl (cy 4, 13, .inr (.inr (.inr (.inr gd)))) := (hfm da hm_da (z_tne hf_da hf_wk (m := 206) (n := 8) rfl rfl (by decide)) (z_tne hf_da hf_ks (m := 206) (n := 204) rfl rfl (by decide)) (z_tne hf_da hf_ct (m := 206) (n := 132) rfl rfl (by decide)) (z_tne hf_da hf_se (m := 206) (n := 132) rfl rfl (by decide)) (z_tne hf_da hf_ow (m := 206) (n := 140) rfl rfl (by decide))).trans hf_da
  have hf_wk : f4 wk = .inr (8, [.ref ks, .int w2_5, .ref ct, .ref se, .ref ow, .int t2_6, .int wd, .int wp]) := ha_0
  have hf_ks : f4 ks = .inl (cy 1, 13, .inl k2_7) := ha_1
  have hf_ct : f4 ct = .inl (cy 1, 4, .inl c2_8) := ha_2
  have hf_se : f4 se = .inl (cy 1, 4, .inl q2_9) := ha_3
  have hf_ow : f4 ow = .inl (cy 1, 5, .inl o2_10) := ha_4
  have hbg := hp
  refine lv_aload_n hx hb dX1_sumOf_14 rfl (lv_at hl 0 rfl) ?_
  refine lv_iconst (v := 0) hx hb dX1_sumOf_15 (by decide) ?_
  refine z_put (C := RX1) (T := TX1) (N := 4) (ci := 1) (v := .int 0) (fs' := [.ref wk, .ref bs, .int 0, .long w1]) hx hb hT zin_X1 tyX1_ok nmX1 hown hK hw hm_mx hf_mx rfl 2 (by decide) (hT _ kw_466) rfl rfl rfl (Nat.le_of_ble_eq_true rfl) rfl dX1_sumOf_16 (fun H locs hw => ?_)
  obtain ⟨f11, e_f11⟩ : ∃ z, z = va_up f4 mx (.inr (1, [.ref wk, .ref bs, .int 0, .long w1])) := ⟨_, rfl⟩
  rw [← e_f11] at hw
  have hf_bs : f11 bs = .inl (cy 0, 2376, .inl gb_) := (congrFun e_f11 bs).trans (z_up_ne (z_tne hf_bs hf_mx (m := 19108) (n := 1) rfl rfl (by decide)) hf_bs)
  have hf_wk : f11 wk = .inr (8, [.ref ks, .int w2_5, .ref ct, .ref se, .ref ow, .int t2_6, .int wd, .int wp]) := (congrFun e_f11 wk).trans (z_up_ne (z_tne hf_wk hf_mx (m := 8) (n := 1) rfl rfl (by decide)) hf_wk)
  have hf_ks : f11 ks = .inl (cy 1, 13, .inl k2_7) := (congrFun e_f11 ks).trans (z_up_ne (z_tne hf_ks hf_mx (m := 204) (n := 1) rfl rfl (by decide)) hf_ks)
  have hf_ct : f11 ct = .inl (cy 1, 4, .inl c2_8) := (congrFun e_f11 ct).trans (z_up_ne (z_tne hf_ct hf_mx (m := 132) (n := 1) rfl rfl (by decide)) hf_ct)
  have hf_se : f11 se = .inl (cy 1, 4, .inl q2_9) := (congrFun e_f11 se).trans (z_up_ne (z_tne hf_se hf_mx (m := 132) (n := 1) rfl rfl (by decide)) hf_se)
  have hf_ow : f11 ow = .inl (cy 1, 5, .inl o2_10) := (congrFun e_f11 ow).trans (z_up_ne (z_tne hf_ow hf_mx (m := 140) (n := 1) rfl rfl (by decide)) hf_ow)
  have hf_mo : f11 mo = .inr (2, [.int v0, .int v1, .int v2, .int v3, .int v4, .int v5, .int v6, .ref la, .ref sa, .ref mi, .ref da]) := (congrFun e_f11 mo).trans (z_up_ne (z_tne hf_mo hf_mx (m := 2) (n := 1) rfl rfl (by decide)) hf_mo)
  have hf_la : f11 la = .inl (cy 1, 5, .inl gl) := (congrFun e_f11 la).trans (z_up_ne (z_tne hf_la hf_mx (m := 140) (n := 1) rfl rfl (by decide)) hf_la)
  have hf_sa : f11 sa = .inl (cy 1, 4, .inl gs) := (congrFun e_f11 sa).trans (z_up_ne (z_tne hf_sa hf_mx (m := 132) (n := 1) rfl rfl (by decide)) hf_sa)
  have hf_mi : f11 mi = .inl (cy 1, 36, .inl gm) := (congrFun e_f11 mi).trans (z_up_ne (z_tne hf_mi hf_mx (m := 388) (n := 1) rfl rfl (by decide)) hf_mi)
  have hf_da : f11 da = .inl (cy 4, 13, .inr (.inr (.inr (.inr gd)))) := (congrFun e_f11 da).trans (z_up_ne (z_tne hf_da hf_mx (m := 206) (n := 1) rfl rfl (by decide)) hf_da)
  have hd_da : z_Drv L f11 dv 13 := z_Drv_up hd_da e_f11 hf_mx (m := 1) rfl (by decide)
  have hf_mx : f11 mx = .inr (1, [.ref wk, .ref bs, .int 0, .long w1]) := (congrFun e_f11 mx).trans z_up_self
  have hfr : ∀ b ∈ L, b ≠ mx → b ≠ bs → b ≠ wk → b ≠ ks → b ≠ ct → b ≠ se → b ≠ ow → f11 b = f b := fun b hb h0 h1 h2 h3 h4 h5 h6 => (congrFun e_f11 b).trans (z_up_ne h0 (hfr b hb h0 h1 h2 h3 h4 h5 h6))
  refine lv_iconst (v := 0) hx hb dX1_sumOf_19 (by decide) ?_
  refine lv_istore (lv' := [(4, .int 0), (0, .ref mx), (1, .ref mo), (2, .int sd), (3, .int on)]) hx hb dX1_sumOf_20 hl (by decide) rfl (fun ls hl => ?_)
  refine lv_iconst (v := 0) hx hb dX1_sumOf_22 (by decide) ?_
  refine lv_istore (lv' := [(5, .int 0), (4, .int 0), (0, .ref mx), (1, .ref mo), (2, .int sd), (3, .int on)]) hx hb dX1_sumOf_23 hl (by decide) rfl (fun ls hl => ?_)
  have hzk : (0 : Int32).toInt = 0 := by decide
  refine z_loop (fun n H locs ls => ∃ (K12 : Int32) (G16 : Nat → Int32) (G18 : Nat → Int32) (G19 : Nat → Int32) (MM14 : Int32) (XX15 : Int64) (WT17 : Int32) (V20 : Int32) (f13 : Nat → va_E), (n = (w2_5.toInt - K12.toInt).toNat) ∧ (0 ≤ K12.toInt) ∧ (K12.toInt ≤ w2_5.toInt) ∧ (0 ≤ MM14.toInt ∧ MM14.toInt ≤ 2376) ∧ (0 ≤ XX15.toInt ∧ XX15.toInt < 2147483648) ∧ (∀ j : Nat, z_bst (G16 j)) ∧ (z_H D vwCl (z_A L sz) s.heap L f13 H locs) ∧ (f13 mx = .inr (1, [.ref wk, .ref bs, .int MM14, .long XX15])) ∧ (f13 bs = .inl (cy 0, 2376, .inl G16)) ∧ (f13 wk = .inr (8, [.ref ks, .int w2_5, .ref ct, .ref se, .ref ow, .int WT17, .int wd, .int wp])) ∧ (f13 ks = .inl (cy 1, 13, .inl k2_7)) ∧ (f13 ct = .inl (cy 1, 4, .inl G18)) ∧ (f13 se = .inl (cy 1, 4, .inl G19)) ∧ (f13 ow = .inl (cy 1, 5, .inl o2_10)) ∧ (f13 mo = .inr (2, [.int v0, .int v1, .int v2, .int v3, .int v4, .int v5, .int v6, .ref la, .ref sa, .ref mi, .ref da])) ∧ (f13 la = .inl (cy 1, 5, .inl gl)) ∧ (f13 sa = .inl (cy 1, 4, .inl gs)) ∧ (f13 mi = .inl (cy 1, 36, .inl gm)) ∧ (f13 da = .inl (cy 4, 13, .inr (.inr (.inr (.inr gd))))) ∧ (∀ b ∈ L, b ≠ mx → b ≠ bs → b ≠ wk → b ≠ ks → b ≠ ct → b ≠ se → b ≠ ow → f13 b = f b) ∧ (z_Drv L f13 dv 13) ∧ (lv_has ls 7 [(5, .int K12), (4, .int V20), (0, .ref mx), (1, .ref mo), (2, .int sd), (3, .int on)])) _ ⟨0, gb_, c2_8, q2_9, 0, w1, t2_6, 0, f11, rfl, (by first | decide | omega), (by first | decide | omega), (by decide), (by omega), hbs, hw, hf_mx, hf_bs, hf_wk, hf_ks, hf_ct, hf_se, hf_ow, hf_mo, hf_la, hf_sa, hf_mi, hf_da, hfr, hd_da, (lv_sub hl [0, 1, 2, 3, 4, 5] rfl)⟩ (fun n H locs ls hI ih_25 => ?_)
  obtain ⟨K12, G16, G18, G19, MM14, XX15, WT17, V20, f13, hn, hk0, hk1, hi0, hi1, hi2, hw, hf_mx, hf_bs, hf_wk, hf_ks, hf_ct, hf_se, hf_ow, hf_mo, hf_la, hf_sa, hf_mi, hf_da, hfr, hd_da, hl⟩ := hI
  refine lv_iload hx hb dX1_sumOf_25 (lv_at hl 0 rfl) ?_
  refine lv_aload_n hx hb dX1_sumOf_27 rfl (lv_at hl 2 rfl) ?_
  refine z_get (C := RX1) (T := TX1) (N := 4) (ci := 1) (v := .ref wk) hx hb hT zin_X1 hown hK hw hm_mx hf_mx rfl 0 (by decide) (hT _ kw_464) rfl dX1_sumOf_28 ?_
  refine z_get (C := RX8) (T := TX8) (N := 8) (ci := 8) (v := .int w2_5) hx hb hT zin_X8 hown hK hw hm_wk hf_wk rfl 1 (by decide) (hT _ kw_344) rfl dX1_sumOf_31 ?_
  refine z_icmp_ge (tgt := 131) hx hb rfl rfl dX1_sumOf_34 (by decide) (fun c21 => ?_) (fun c21 => ?_)
  · skip
    refine lv_iload hx hb dX1_sumOf_131 (lv_at hl 1 rfl) ?_
    refine lv_aload_n hx hb dX1_sumOf_133 rfl (lv_at hl 3 rfl) ?_
    refine z_get (C := RX2) (T := TX2) (N := 11) (ci := 2) (v := .ref la) hx hb hT zin_X2 hown hK hw hm_mo hf_mo rfl 7 (by decide) (hT _ kw_231) rfl dX1_sumOf_134 ?_
    refine lv_iconst (v := 4) hx hb dX1_sumOf_137 (by decide) ?_
    refine z_iald hx hb hK hw 1 hm_la hf_la rfl (z_ix (show (4 : Int32).toInt = 4 by decide) (by decide)) dX1_sumOf_138 ?_
    refine lv_topi (fun w22 e_w22 => ?_)
    refine lv_imul hx hb dX1_sumOf_139 ?_
    refine lv_topi (fun w23 e_w23 => ?_)
    exact z_iret hx hb hr hlk (by decide) (by decide) hw (⟨hsub, hfr, MM14, w2_5, WT17, XX15, G16, k2_7, G18, G19, o2_10, hf_mx, hf_bs, hf_wk, hf_ks, hf_ct, hf_se, hf_ow, by omega, by omega, by omega, hi2, hbg.2⟩) dX1_sumOf_140
  · skip
    refine lv_aload_n hx hb dX1_sumOf_37 rfl (lv_at hl 2 rfl) ?_
    refine z_get (C := RX1) (T := TX1) (N := 4) (ci := 1) (v := .ref wk) hx hb hT zin_X1 hown hK hw hm_mx hf_mx rfl 0 (by decide) (hT _ kw_464) rfl dX1_sumOf_38 ?_
    refine z_get (C := RX8) (T := TX8) (N := 8) (ci := 8) (v := .ref ks) hx hb hT zin_X8 hown hK hw hm_wk hf_wk rfl 0 (by decide) (hT _ kw_343) rfl dX1_sumOf_41 ?_
    refine lv_iload hx hb dX1_sumOf_44 (lv_at hl 0 rfl) ?_
    refine z_iald hx hb hK hw 1 hm_ks hf_ks rfl (z_ix rfl (by omega)) dX1_sumOf_46 ?_
    refine lv_topi (fun w24 e_w24 => ?_)
    have hkx : z_key w24 := by rw [e_w24]; exact hbg.2 _
    refine lv_istore (lv' := [(6, .int w24), (5, .int K12), (4, .int V20), (0, .ref mx), (1, .ref mo), (2, .int sd), (3, .int on)]) hx hb dX1_sumOf_47 hl (by decide) rfl (fun ls hl => ?_)
    refine lv_aload_n hx hb dX1_sumOf_49 rfl (lv_at hl 3 rfl) ?_
    refine lv_aload_n hx hb dX1_sumOf_50 rfl (lv_at hl 4 rfl) ?_
    refine z_get (C := RX2) (T := TX2) (N := 11) (ci := 2) (v := .ref da) hx hb hT zin_X2 hown hK hw hm_mo hf_mo rfl 10 (by decide) (hT _ kw_242) rfl dX1_sumOf_51 ?_
    refine lv_iload hx hb dX1_sumOf_54 (lv_at hl 0 rfl) ?_
    refine z_calliS (cells := 0) (slots := 0) (As := [.int w24]) (rest := [.ref da, .ref mx]) ⟨hx, hb, hml, hown, hT⟩ (c_X8_numberOf l hkx) (va_cwS 1 hT (z_goodS (fun _ h => h) kw_1076 kw_791 kw_92 kw_792) rfl rfl rfl (by decide +kernel) ⟨by decide, by decide⟩) z_mv hKK hw hA rfl hl.1 rfl (Nat.le_of_ble_eq_true rfl) dX1_sumOf_56 ⟨by decide, by decide⟩ (fun r25 u H locs hp hw => ?_)
    obtain ⟨rfl, hp⟩ := hp
    have hw : z_H D vwCl (z_A L sz) s.heap L f13 H locs := hw
    obtain ⟨dq26, e_dq26⟩ : ∃ z, z = dv r25.toNatClampNeg := ⟨_, rfl⟩
    have hi_dq26 : r25.toNatClampNeg < 13 := z_clI rfl (by omega)
    refine z_aald (b := dq26) hx hb hK hw 4 hm_da hf_da rfl (z_ix rfl (by omega)) (by rw [e_dq26]; exact hg_da _ hi_dq26) dX1_sumOf_59 ?_
    obtain ⟨hm_dq26, do27, dg28, dd29, dh30, ds31, dl32, dp33, dm34, hf_dq26, hr_do27, hr_dg28, hr_dd29, hr_dh30, hr_ds31, hr_dl32, hr_dp33, hr_dm34⟩ := hd_da _ hi_dq26
    rw [← e_dq26] at hm_dq26 hf_dq26
    refine lv_iload hx hb dX1_sumOf_60 (lv_at hl 0 rfl) ?_
    refine z_calliS (cells := 0) (slots := 0) (As := [.int w24]) (rest := [.ref dq26, .ref mx]) ⟨hx, hb, hml, hown, hT⟩ (c_X8_numberOf l hkx) (va_cwS 1 hT (z_goodS (fun _ h => h) kw_1076 kw_791 kw_92 kw_792) rfl rfl rfl (by decide +kernel) ⟨by decide, by decide⟩) z_mv hKK hw hA rfl hl.1 rfl (Nat.le_of_ble_eq_true rfl) dX1_sumOf_62 ⟨by decide, by decide⟩ (fun r35 u H locs hp hw => ?_)
    obtain ⟨rfl, hp⟩ := hp
    have hw : z_H D vwCl (z_A L sz) s.heap L f13 H locs := hw
    refine z_callvV (cells := 0) (slots := 0) (b := mx) (As := [.ref dq26, .int r35]) (rest := []) (ci := 1) (q0 := (RX1, TX1, 4)) ⟨hx, hb, hml, hown, hT⟩ (c_X1_addDrive l hm_mx hm_bs hm_dq26 hf_mx hf_bs hf_dq26 hi2 (by first | omega | decide | assumption) (by first | omega | decide | assumption) (by first | omega | decide | assumption) (by first | omega | decide | assumption)) (cwV 2 hT (z_goodV (fun _ h => h) kw_1077 kw_1079 kw_26 kw_95 kw_1080) rfl rfl rfl (by decide +kernel) ⟨by decide, by decide⟩) z_mv hKK hK hw hA hm_mx hf_mx rfl rfl rfl hl.1 rfl (Nat.le_of_ble_eq_true rfl) dX1_sumOf_65 ⟨by decide, by decide⟩ (fun u H locs hp hw => ?_)
    obtain ⟨L36, f37⟩ := u
    obtain ⟨hsb, hfm, m2_38, b2_39, ha_0, ha_1, hp⟩ := hp
    have hsb : L = L36 := hsb
    subst hsb
    have hsb : ∀ b ∈ L, b ∈ L := fun _ h => h
    have hw : z_H D vwCl (z_A L sz) s.heap L f37 H locs := hw
    have hfr : ∀ b ∈ L, b ≠ mx → b ≠ bs → b ≠ wk → b ≠ ks → b ≠ ct → b ≠ se → b ≠ ow → f37 b = f b := fun b hb h0 h1 h2 h3 h4 h5 h6 => (hfm b hb h0 h1).trans (hfr b hb h0 h1 h2 h3 h4 h5 h6)
    have hd_da : z_Drv L f37 dv 13 := z_Drv_fr hd_da hsb (fun b hb ht => hfm b hb (z_t0 ht hf_mx (m := 1) rfl (by decide)) (z_t0 ht hf_bs (m := 19108) rfl (by decide)))
    have hf_wk : f37 wk = .inr (8, [.ref ks, .int w2_5, .ref ct, .ref se, .ref ow, .int WT17, .int wd, .int wp]) := (hfm wk hm_wk (z_tne hf_wk hf_mx (m := 8) (n := 1) rfl rfl (by decide)) (z_tne hf_wk hf_bs (m := 8) (n := 19108) rfl rfl (by decide))).trans hf_wk
    have hf_ks : f37 ks = .inl (cy 1, 13, .inl k2_7) := (hfm ks hm_ks (z_tne hf_ks hf_mx (m := 204) (n := 1) rfl rfl (by decide)) (z_tne hf_ks hf_bs (m := 204) (n := 19108) rfl rfl (by decide))).trans hf_ks
    have hf_ct : f37 ct = .inl (cy 1, 4, .inl G18) := (hfm ct hm_ct (z_tne hf_ct hf_mx (m := 132) (n := 1) rfl rfl (by decide)) (z_tne hf_ct hf_bs (m := 132) (n := 19108) rfl rfl (by decide))).trans hf_ct
    have hf_se : f37 se = .inl (cy 1, 4, .inl G19) := (hfm se hm_se (z_tne hf_se hf_mx (m := 132) (n := 1) rfl rfl (by decide)) (z_tne hf_se hf_bs (m := 132) (n := 19108) rfl rfl (by decide))).trans hf_se
    have hf_ow : f37 ow = .inl (cy 1, 5, .inl o2_10) := (hfm ow hm_ow (z_tne hf_ow hf_mx (m := 140) (n := 1) rfl rfl (by decide)) (z_tne hf_ow hf_bs (m := 140) (n := 19108) rfl rfl (by decide))).trans hf_ow
    have hf_mo : f37 mo = .inr (2, [.int v0, .int v1, .int v2, .int v3, .int v4, .int v5, .int v6, .ref la, .ref sa, .ref mi, .ref da]) := (hfm mo hm_mo (z_tne hf_mo hf_mx (m := 2) (n := 1) rfl rfl (by decide)) (z_tne hf_mo hf_bs (m := 2) (n := 19108) rfl rfl (by decide))).trans hf_mo
    have hf_la : f37 la = .inl (cy 1, 5, .inl gl) := (hfm la hm_la (z_tne hf_la hf_mx (m := 140) (n := 1) rfl rfl (by decide)) (z_tne hf_la hf_bs (m := 140) (n := 19108) rfl rfl (by decide))).trans hf_la
    have hf_sa : f37 sa = .inl (cy 1, 4, .inl gs) := (hfm sa hm_sa (z_tne hf_sa hf_mx (m := 132) (n := 1) rfl rfl (by decide)) (z_tne hf_sa hf_bs (m := 132) (n := 19108) rfl rfl (by decide))).trans hf_sa
    have hf_mi : f37 mi = .inl (cy 1, 36, .inl gm) := (hfm mi hm_mi (z_tne hf_mi hf_mx (m := 388) (n := 1) rfl rfl (by decide)) (z_tne hf_mi hf_bs (m := 388) (n := 19108) rfl rfl (by decide))).trans hf_mi
    have hf_da : f37 da = .inl (cy 4, 13, .inr (.inr (.inr (.inr gd)))) := (hfm da hm_da (z_tne hf_da hf_mx (m := 206) (n := 1) rfl rfl (by decide)) (z_tne hf_da hf_bs (m := 206) (n := 19108) rfl rfl (by decide))).trans hf_da
    have hf_dq26 : f37 dq26 = .inr (0, [.int do27, .int dg28, .int dd29, .int dh30, .int ds31, .int dl32, .int dp33, .int dm34]) := (hfm dq26 hm_dq26 (z_tne hf_dq26 hf_mx (m := 0) (n := 1) rfl rfl (by decide)) (z_tne hf_dq26 hf_bs (m := 0) (n := 19108) rfl rfl (by decide))).trans hf_dq26
    have hf_mx : f37 mx = .inr (1, [.ref wk, .ref bs, .int m2_38, .long XX15]) := ha_0
    have hf_bs : f37 bs = .inl (cy 0, 2376, .inl b2_39) := ha_1
    have hadd := hp
    refine lv_iload hx hb dX1_sumOf_68 (lv_at hl 1 rfl) ?_
    refine lv_iconst (v := 1) hx hb dX1_sumOf_70 (by decide) ?_
    refine lv_iadd hx hb dX1_sumOf_71 ?_
    refine lv_topi (fun w40 e_w40 => ?_)
    have i_w40 : w40.toInt = (K12.toInt + 1) := z_add e_w40 rfl (show (1 : Int32).toInt = 1 by decide) (by omega)
    refine lv_aload_n hx hb dX1_sumOf_72 rfl (lv_at hl 3 rfl) ?_
    refine z_get (C := RX1) (T := TX1) (N := 4) (ci := 1) (v := .ref wk) hx hb hT zin_X1 hown hK hw hm_mx hf_mx rfl 0 (by decide) (hT _ kw_464) rfl dX1_sumOf_73 ?_
    refine z_get (C := RX8) (T := TX8) (N := 8) (ci := 8) (v := .int w2_5) hx hb hT zin_X8 hown hK hw hm_wk hf_wk rfl 1 (by decide) (hT _ kw_344) rfl dX1_sumOf_76 ?_
    refine z_icmp_eq (tgt := 103) hx hb i_w40 rfl dX1_sumOf_79 (by decide) (fun c41 => ?_) (fun c41 => ?_)
    · skip
      refine lv_aload_n hx hb dX1_sumOf_103 rfl (lv_at hl 3 rfl) ?_
      refine z_callvV (cells := 0) (slots := 0) (b := mx) (As := []) (rest := []) (ci := 1) (q0 := (RX1, TX1, 4)) ⟨hx, hb, hml, hown, hT⟩ (c_X1_shuffle l hm_mx hm_bs hf_mx hf_bs hadd.2 (by first | omega | decide | assumption) (by first | omega | decide | assumption)) (cwV 0 hT (z_goodV (fun _ h => h) kw_1085 kw_1087 kw_28 kw_95 kw_1088) rfl rfl rfl (by decide +kernel) ⟨by decide, by decide⟩) z_mv hKK hK hw hA hm_mx hf_mx rfl rfl rfl hl.1 rfl (Nat.le_of_ble_eq_true rfl) dX1_sumOf_104 ⟨by decide, by decide⟩ (fun u H locs hp hw => ?_)
      obtain ⟨L42, f43⟩ := u
      obtain ⟨hsb, hfm, x2_44, b2_45, ha_0, ha_1, hp⟩ := hp
      have hsb : L = L42 := hsb
      subst hsb
      have hsb : ∀ b ∈ L, b ∈ L := fun _ h => h
      have hw : z_H D vwCl (z_A L sz) s.heap L f43 H locs := hw
      have hfr : ∀ b ∈ L, b ≠ mx → b ≠ bs → b ≠ wk → b ≠ ks → b ≠ ct → b ≠ se → b ≠ ow → f43 b = f b := fun b hb h0 h1 h2 h3 h4 h5 h6 => (hfm b hb h0 h1).trans (hfr b hb h0 h1 h2 h3 h4 h5 h6)
      have hd_da : z_Drv L f43 dv 13 := z_Drv_fr hd_da hsb (fun b hb ht => hfm b hb (z_t0 ht hf_mx (m := 1) rfl (by decide)) (z_t0 ht hf_bs (m := 19108) rfl (by decide)))
      have hf_wk : f43 wk = .inr (8, [.ref ks, .int w2_5, .ref ct, .ref se, .ref ow, .int WT17, .int wd, .int wp]) := (hfm wk hm_wk (z_tne hf_wk hf_mx (m := 8) (n := 1) rfl rfl (by decide)) (z_tne hf_wk hf_bs (m := 8) (n := 19108) rfl rfl (by decide))).trans hf_wk
      have hf_ks : f43 ks = .inl (cy 1, 13, .inl k2_7) := (hfm ks hm_ks (z_tne hf_ks hf_mx (m := 204) (n := 1) rfl rfl (by decide)) (z_tne hf_ks hf_bs (m := 204) (n := 19108) rfl rfl (by decide))).trans hf_ks
      have hf_ct : f43 ct = .inl (cy 1, 4, .inl G18) := (hfm ct hm_ct (z_tne hf_ct hf_mx (m := 132) (n := 1) rfl rfl (by decide)) (z_tne hf_ct hf_bs (m := 132) (n := 19108) rfl rfl (by decide))).trans hf_ct
      have hf_se : f43 se = .inl (cy 1, 4, .inl G19) := (hfm se hm_se (z_tne hf_se hf_mx (m := 132) (n := 1) rfl rfl (by decide)) (z_tne hf_se hf_bs (m := 132) (n := 19108) rfl rfl (by decide))).trans hf_se
      have hf_ow : f43 ow = .inl (cy 1, 5, .inl o2_10) := (hfm ow hm_ow (z_tne hf_ow hf_mx (m := 140) (n := 1) rfl rfl (by decide)) (z_tne hf_ow hf_bs (m := 140) (n := 19108) rfl rfl (by decide))).trans hf_ow
      have hf_mo : f43 mo = .inr (2, [.int v0, .int v1, .int v2, .int v3, .int v4, .int v5, .int v6, .ref la, .ref sa, .ref mi, .ref da]) := (hfm mo hm_mo (z_tne hf_mo hf_mx (m := 2) (n := 1) rfl rfl (by decide)) (z_tne hf_mo hf_bs (m := 2) (n := 19108) rfl rfl (by decide))).trans hf_mo
      have hf_la : f43 la = .inl (cy 1, 5, .inl gl) := (hfm la hm_la (z_tne hf_la hf_mx (m := 140) (n := 1) rfl rfl (by decide)) (z_tne hf_la hf_bs (m := 140) (n := 19108) rfl rfl (by decide))).trans hf_la
      have hf_sa : f43 sa = .inl (cy 1, 4, .inl gs) := (hfm sa hm_sa (z_tne hf_sa hf_mx (m := 132) (n := 1) rfl rfl (by decide)) (z_tne hf_sa hf_bs (m := 132) (n := 19108) rfl rfl (by decide))).trans hf_sa
      have hf_mi : f43 mi = .inl (cy 1, 36, .inl gm) := (hfm mi hm_mi (z_tne hf_mi hf_mx (m := 388) (n := 1) rfl rfl (by decide)) (z_tne hf_mi hf_bs (m := 388) (n := 19108) rfl rfl (by decide))).trans hf_mi
      have hf_da : f43 da = .inl (cy 4, 13, .inr (.inr (.inr (.inr gd)))) := (hfm da hm_da (z_tne hf_da hf_mx (m := 206) (n := 1) rfl rfl (by decide)) (z_tne hf_da hf_bs (m := 206) (n := 19108) rfl rfl (by decide))).trans hf_da
      have hf_dq26 : f43 dq26 = .inr (0, [.int do27, .int dg28, .int dd29, .int dh30, .int ds31, .int dl32, .int dp33, .int dm34]) := (hfm dq26 hm_dq26 (z_tne hf_dq26 hf_mx (m := 0) (n := 1) rfl rfl (by decide)) (z_tne hf_dq26 hf_bs (m := 0) (n := 19108) rfl rfl (by decide))).trans hf_dq26
      have hf_mx : f43 mx = .inr (1, [.ref wk, .ref bs, .int m2_38, .long x2_44]) := ha_0
      have hf_bs : f43 bs = .inl (cy 0, 2376, .inl b2_45) := ha_1
      have hsh := hp
      refine lv_iload hx hb dX1_sumOf_107 (lv_at hl 2 rfl) ?_
      refine lv_aload_n hx hb dX1_sumOf_109 rfl (lv_at hl 3 rfl) ?_
      refine lv_aload_n hx hb dX1_sumOf_110 rfl (lv_at hl 4 rfl) ?_
      refine lv_iload hx hb dX1_sumOf_111 (lv_at hl 0 rfl) ?_
      refine lv_iload_n hx hb dX1_sumOf_113 rfl (lv_at hl 6 rfl) ?_
      refine z_calliV (cells := 0) (slots := 0) (b := mx) (As := [.ref mo, .int w24, .int on]) (rest := [.int V20]) (ci := 1) (q0 := (RX1, TX1, 4)) ⟨hx, hb, hml, hown, hT⟩ (c_X1_passAll l hm_mx hm_bs hm_wk hm_ct hm_se hm_mo hm_la hm_mi hm_da hf_mx hf_bs hf_wk hf_ct hf_se hf_mo hf_la hf_mi hf_da ne_ct_se hg_da hd_da hkx hgm hsh.2 (by first | omega | decide | assumption)) (cwV 3 hT (z_goodV (fun _ h => h) kw_1097 kw_1099 kw_30 kw_95 kw_1100) rfl rfl rfl (by decide +kernel) ⟨by decide, by decide⟩) z_mv hKK hK hw hA hm_mx hf_mx rfl rfl rfl hl.1 rfl (Nat.le_of_ble_eq_true rfl) dX1_sumOf_114 ⟨by decide, by decide⟩ (fun r46 u H locs hp hw => ?_)
      obtain ⟨L47, f48⟩ := u
      obtain ⟨hsb, hfm, t2_49, c2_50, q2_51, ha_0, ha_1, ha_2, hp⟩ := hp
      have hsb : L = L47 := hsb
      subst hsb
      have hsb : ∀ b ∈ L, b ∈ L := fun _ h => h
      have hw : z_H D vwCl (z_A L sz) s.heap L f48 H locs := hw
      have hfr : ∀ b ∈ L, b ≠ mx → b ≠ bs → b ≠ wk → b ≠ ks → b ≠ ct → b ≠ se → b ≠ ow → f48 b = f b := fun b hb h0 h1 h2 h3 h4 h5 h6 => (hfm b hb h2 h4 h5).trans (hfr b hb h0 h1 h2 h3 h4 h5 h6)
      have hd_da : z_Drv L f48 dv 13 := z_Drv_fr hd_da hsb (fun b hb ht => hfm b hb (z_t0 ht hf_wk (m := 8) rfl (by decide)) (z_t0 ht hf_ct (m := 132) rfl (by decide)) (z_t0 ht hf_se (m := 132) rfl (by decide)))
      have hf_mx : f48 mx = .inr (1, [.ref wk, .ref bs, .int m2_38, .long x2_44]) := (hfm mx hm_mx (z_tne hf_mx hf_wk (m := 1) (n := 8) rfl rfl (by decide)) (z_tne hf_mx hf_ct (m := 1) (n := 132) rfl rfl (by decide)) (z_tne hf_mx hf_se (m := 1) (n := 132) rfl rfl (by decide))).trans hf_mx
      have hf_bs : f48 bs = .inl (cy 0, 2376, .inl b2_45) := (hfm bs hm_bs (z_tne hf_bs hf_wk (m := 19108) (n := 8) rfl rfl (by decide)) (z_tne hf_bs hf_ct (m := 19108) (n := 132) rfl rfl (by decide)) (z_tne hf_bs hf_se (m := 19108) (n := 132) rfl rfl (by decide))).trans hf_bs
      have hf_ks : f48 ks = .inl (cy 1, 13, .inl k2_7) := (hfm ks hm_ks (z_tne hf_ks hf_wk (m := 204) (n := 8) rfl rfl (by decide)) (z_tne hf_ks hf_ct (m := 204) (n := 132) rfl rfl (by decide)) (z_tne hf_ks hf_se (m := 204) (n := 132) rfl rfl (by decide))).trans hf_ks
      have hf_ow : f48 ow = .inl (cy 1, 5, .inl o2_10) := (hfm ow hm_ow (z_tne hf_ow hf_wk (m := 140) (n := 8) rfl rfl (by decide)) (z_tne hf_ow hf_ct (m := 140) (n := 132) rfl rfl (by decide)) (z_tne hf_ow hf_se (m := 140) (n := 132) rfl rfl (by decide))).trans hf_ow
      have hf_mo : f48 mo = .inr (2, [.int v0, .int v1, .int v2, .int v3, .int v4, .int v5, .int v6, .ref la, .ref sa, .ref mi, .ref da]) := (hfm mo hm_mo (z_tne hf_mo hf_wk (m := 2) (n := 8) rfl rfl (by decide)) (z_tne hf_mo hf_ct (m := 2) (n := 132) rfl rfl (by decide)) (z_tne hf_mo hf_se (m := 2) (n := 132) rfl rfl (by decide))).trans hf_mo
      have hf_la : f48 la = .inl (cy 1, 5, .inl gl) := (hfm la hm_la (z_tne hf_la hf_wk (m := 140) (n := 8) rfl rfl (by decide)) (z_tne hf_la hf_ct (m := 140) (n := 132) rfl rfl (by decide)) (z_tne hf_la hf_se (m := 140) (n := 132) rfl rfl (by decide))).trans hf_la
      have hf_sa : f48 sa = .inl (cy 1, 4, .inl gs) := (hfm sa hm_sa (z_tne hf_sa hf_wk (m := 132) (n := 8) rfl rfl (by decide)) (Ne.symm ne_ct_sa) (Ne.symm ne_se_sa)).trans hf_sa
      have hf_mi : f48 mi = .inl (cy 1, 36, .inl gm) := (hfm mi hm_mi (z_tne hf_mi hf_wk (m := 388) (n := 8) rfl rfl (by decide)) (z_tne hf_mi hf_ct (m := 388) (n := 132) rfl rfl (by decide)) (z_tne hf_mi hf_se (m := 388) (n := 132) rfl rfl (by decide))).trans hf_mi
      have hf_da : f48 da = .inl (cy 4, 13, .inr (.inr (.inr (.inr gd)))) := (hfm da hm_da (z_tne hf_da hf_wk (m := 206) (n := 8) rfl rfl (by decide)) (z_tne hf_da hf_ct (m := 206) (n := 132) rfl rfl (by decide)) (z_tne hf_da hf_se (m := 206) (n := 132) rfl rfl (by decide))).trans hf_da
      have hf_dq26 : f48 dq26 = .inr (0, [.int do27, .int dg28, .int dd29, .int dh30, .int ds31, .int dl32, .int dp33, .int dm34]) := (hfm dq26 hm_dq26 (z_tne hf_dq26 hf_wk (m := 0) (n := 8) rfl rfl (by decide)) (z_tne hf_dq26 hf_ct (m := 0) (n := 132) rfl rfl (by decide)) (z_tne hf_dq26 hf_se (m := 0) (n := 132) rfl rfl (by decide))).trans hf_dq26
      have hf_wk : f48 wk = .inr (8, [.ref ks, .int w2_5, .ref ct, .ref se, .ref ow, .int t2_49, .int wd, .int wp]) := ha_0
      have hf_ct : f48 ct = .inl (cy 1, 4, .inl c2_50) := ha_1
      have hf_se : f48 se = .inl (cy 1, 4, .inl q2_51) := ha_2
      refine lv_iadd hx hb dX1_sumOf_117 ?_
      refine lv_topi (fun w52 e_w52 => ?_)
      refine lv_istore (lv' := [(4, .int w52), (6, .int w24), (5, .int K12), (0, .ref mx), (1, .ref mo), (2, .int sd), (3, .int on)]) hx hb dX1_sumOf_118 hl (by decide) rfl (fun ls hl => ?_)
      refine lv_aload_n hx hb dX1_sumOf_120 rfl (lv_at hl 3 rfl) ?_
      refine lv_iconst (v := 0) hx hb dX1_sumOf_121 (by decide) ?_
      refine z_put (C := RX1) (T := TX1) (N := 4) (ci := 1) (v := .int 0) (fs' := [.ref wk, .ref bs, .int 0, .long x2_44]) hx hb hT zin_X1 tyX1_ok nmX1 hown hK hw hm_mx hf_mx rfl 2 (by decide) (hT _ kw_466) rfl rfl rfl (Nat.le_of_ble_eq_true rfl) rfl dX1_sumOf_122 (fun H locs hw => ?_)
      obtain ⟨f53, e_f53⟩ : ∃ z, z = va_up f48 mx (.inr (1, [.ref wk, .ref bs, .int 0, .long x2_44])) := ⟨_, rfl⟩
      rw [← e_f53] at hw
      have hf_bs : f53 bs = .inl (cy 0, 2376, .inl b2_45) := (congrFun e_f53 bs).trans (z_up_ne (z_tne hf_bs hf_mx (m := 19108) (n := 1) rfl rfl (by decide)) hf_bs)
      have hf_wk : f53 wk = .inr (8, [.ref ks, .int w2_5, .ref ct, .ref se, .ref ow, .int t2_49, .int wd, .int wp]) := (congrFun e_f53 wk).trans (z_up_ne (z_tne hf_wk hf_mx (m := 8) (n := 1) rfl rfl (by decide)) hf_wk)
      have hf_ks : f53 ks = .inl (cy 1, 13, .inl k2_7) := (congrFun e_f53 ks).trans (z_up_ne (z_tne hf_ks hf_mx (m := 204) (n := 1) rfl rfl (by decide)) hf_ks)
      have hf_ct : f53 ct = .inl (cy 1, 4, .inl c2_50) := (congrFun e_f53 ct).trans (z_up_ne (z_tne hf_ct hf_mx (m := 132) (n := 1) rfl rfl (by decide)) hf_ct)
      have hf_se : f53 se = .inl (cy 1, 4, .inl q2_51) := (congrFun e_f53 se).trans (z_up_ne (z_tne hf_se hf_mx (m := 132) (n := 1) rfl rfl (by decide)) hf_se)
      have hf_ow : f53 ow = .inl (cy 1, 5, .inl o2_10) := (congrFun e_f53 ow).trans (z_up_ne (z_tne hf_ow hf_mx (m := 140) (n := 1) rfl rfl (by decide)) hf_ow)
      have hf_mo : f53 mo = .inr (2, [.int v0, .int v1, .int v2, .int v3, .int v4, .int v5, .int v6, .ref la, .ref sa, .ref mi, .ref da]) := (congrFun e_f53 mo).trans (z_up_ne (z_tne hf_mo hf_mx (m := 2) (n := 1) rfl rfl (by decide)) hf_mo)
      have hf_la : f53 la = .inl (cy 1, 5, .inl gl) := (congrFun e_f53 la).trans (z_up_ne (z_tne hf_la hf_mx (m := 140) (n := 1) rfl rfl (by decide)) hf_la)
      have hf_sa : f53 sa = .inl (cy 1, 4, .inl gs) := (congrFun e_f53 sa).trans (z_up_ne (z_tne hf_sa hf_mx (m := 132) (n := 1) rfl rfl (by decide)) hf_sa)
      have hf_mi : f53 mi = .inl (cy 1, 36, .inl gm) := (congrFun e_f53 mi).trans (z_up_ne (z_tne hf_mi hf_mx (m := 388) (n := 1) rfl rfl (by decide)) hf_mi)
      have hf_da : f53 da = .inl (cy 4, 13, .inr (.inr (.inr (.inr gd)))) := (congrFun e_f53 da).trans (z_up_ne (z_tne hf_da hf_mx (m := 206) (n := 1) rfl rfl (by decide)) hf_da)
      have hf_dq26 : f53 dq26 = .inr (0, [.int do27, .int dg28, .int dd29, .int dh30, .int ds31, .int dl32, .int dp33, .int dm34]) := (congrFun e_f53 dq26).trans (z_up_ne (z_tne hf_dq26 hf_mx (m := 0) (n := 1) rfl rfl (by decide)) hf_dq26)
      have hd_da : z_Drv L f53 dv 13 := z_Drv_up hd_da e_f53 hf_mx (m := 1) rfl (by decide)
      have hf_mx : f53 mx = .inr (1, [.ref wk, .ref bs, .int 0, .long x2_44]) := (congrFun e_f53 mx).trans z_up_self
      have hfr : ∀ b ∈ L, b ≠ mx → b ≠ bs → b ≠ wk → b ≠ ks → b ≠ ct → b ≠ se → b ≠ ow → f53 b = f b := fun b hb h0 h1 h2 h3 h4 h5 h6 => (congrFun e_f53 b).trans (z_up_ne h0 (hfr b hb h0 h1 h2 h3 h4 h5 h6))
      obtain ⟨k54, e_k54⟩ : ∃ z : Int32, z = K12 + 1 := ⟨_, rfl⟩
      refine lv_iinc (v := k54) (lv' := [(5, .int k54), (4, .int w52), (6, .int w24), (0, .ref mx), (1, .ref mo), (2, .int sd), (3, .int on)]) hx hb dX1_sumOf_125 hl (k := 2) rfl (by rw [e_k54]; rfl) (by decide) rfl (fun ls hl => ?_)
      have i_k54 : k54.toInt = (K12.toInt + 1) := z_add e_k54 rfl (by decide) (by omega)
      refine lv_goto (tgt := 25) hx hb dX1_sumOf_128 (by decide) ?_
      exact ih_25 _ (by omega) _ _ _ ⟨k54, b2_45, c2_50, q2_51, 0, x2_44, t2_49, w52, f53, rfl, (by first | decide | omega), (by first | decide | omega), (by first | omega | decide), (by omega), hsh.2, hw, hf_mx, hf_bs, hf_wk, hf_ks, hf_ct, hf_se, hf_ow, hf_mo, hf_la, hf_sa, hf_mi, hf_da, hfr, hd_da, (lv_sub hl [0, 1, 3, 4, 5, 6] rfl)⟩
    · skip
      refine lv_aload_n hx hb dX1_sumOf_82 rfl (lv_at hl 3 rfl) ?_
      refine z_get (C := RX1) (T := TX1) (N := 4) (ci := 1) (v := .ref wk) hx hb hT zin_X1 hown hK hw hm_mx hf_mx rfl 0 (by decide) (hT _ kw_464) rfl dX1_sumOf_83 ?_
      refine z_get (C := RX8) (T := TX8) (N := 8) (ci := 8) (v := .ref ks) hx hb hT zin_X8 hown hK hw hm_wk hf_wk rfl 0 (by decide) (hT _ kw_343) rfl dX1_sumOf_86 ?_
      refine lv_iload hx hb dX1_sumOf_89 (lv_at hl 1 rfl) ?_
      refine lv_iconst (v := 1) hx hb dX1_sumOf_91 (by decide) ?_
      refine lv_iadd hx hb dX1_sumOf_92 ?_
      refine lv_topi (fun w55 e_w55 => ?_)
      have i_w55 : w55.toInt = (K12.toInt + 1) := z_add e_w55 rfl (show (1 : Int32).toInt = 1 by decide) (by omega)
      refine z_iald hx hb hK hw 1 hm_ks hf_ks rfl (z_ix i_w55 (by omega)) dX1_sumOf_93 ?_
      refine lv_topi (fun w56 e_w56 => ?_)
      refine lv_iconst (v := 4) hx hb dX1_sumOf_94 (by decide) ?_
      refine lv_ishr hx hb dX1_sumOf_95 ?_
      refine lv_topi (fun w57 e_w57 => ?_)
      refine lv_iload hx hb dX1_sumOf_96 (lv_at hl 0 rfl) ?_
      refine lv_iconst (v := 4) hx hb dX1_sumOf_98 (by decide) ?_
      refine lv_ishr hx hb dX1_sumOf_99 ?_
      refine lv_topi (fun w58 e_w58 => ?_)
      refine z_icmp_eq (tgt := 125) hx hb rfl rfl dX1_sumOf_100 (by decide) (fun c59 => ?_) (fun c59 => ?_)
      · skip
        obtain ⟨k60, e_k60⟩ : ∃ z : Int32, z = K12 + 1 := ⟨_, rfl⟩
        refine lv_iinc (v := k60) (lv' := [(5, .int k60), (6, .int w24), (4, .int V20), (0, .ref mx), (1, .ref mo), (2, .int sd), (3, .int on)]) hx hb dX1_sumOf_125 hl (k := 1) rfl (by rw [e_k60]; rfl) (by decide) rfl (fun ls hl => ?_)
        have i_k60 : k60.toInt = (K12.toInt + 1) := z_add e_k60 rfl (by decide) (by omega)
        refine lv_goto (tgt := 25) hx hb dX1_sumOf_128 (by decide) ?_
        exact ih_25 _ (by omega) _ _ _ ⟨k60, b2_39, G18, G19, m2_38, XX15, WT17, V20, f37, rfl, (by first | decide | omega), (by first | decide | omega), (by first | omega | decide), (by omega), hadd.2, hw, hf_mx, hf_bs, hf_wk, hf_ks, hf_ct, hf_se, hf_ow, hf_mo, hf_la, hf_sa, hf_mi, hf_da, hfr, hd_da, (lv_sub hl [0, 2, 3, 4, 5, 6] rfl)⟩
      · skip
        refine lv_aload_n hx hb dX1_sumOf_103 rfl (lv_at hl 3 rfl) ?_
        refine z_callvV (cells := 0) (slots := 0) (b := mx) (As := []) (rest := []) (ci := 1) (q0 := (RX1, TX1, 4)) ⟨hx, hb, hml, hown, hT⟩ (c_X1_shuffle l hm_mx hm_bs hf_mx hf_bs hadd.2 (by first | omega | decide | assumption) (by first | omega | decide | assumption)) (cwV 0 hT (z_goodV (fun _ h => h) kw_1085 kw_1087 kw_28 kw_95 kw_1088) rfl rfl rfl (by decide +kernel) ⟨by decide, by decide⟩) z_mv hKK hK hw hA hm_mx hf_mx rfl rfl rfl hl.1 rfl (Nat.le_of_ble_eq_true rfl) dX1_sumOf_104 ⟨by decide, by decide⟩ (fun u H locs hp hw => ?_)
        obtain ⟨L61, f62⟩ := u
        obtain ⟨hsb, hfm, x2_63, b2_64, ha_0, ha_1, hp⟩ := hp
        have hsb : L = L61 := hsb
        subst hsb
        have hsb : ∀ b ∈ L, b ∈ L := fun _ h => h
        have hw : z_H D vwCl (z_A L sz) s.heap L f62 H locs := hw
        have hfr : ∀ b ∈ L, b ≠ mx → b ≠ bs → b ≠ wk → b ≠ ks → b ≠ ct → b ≠ se → b ≠ ow → f62 b = f b := fun b hb h0 h1 h2 h3 h4 h5 h6 => (hfm b hb h0 h1).trans (hfr b hb h0 h1 h2 h3 h4 h5 h6)
        have hd_da : z_Drv L f62 dv 13 := z_Drv_fr hd_da hsb (fun b hb ht => hfm b hb (z_t0 ht hf_mx (m := 1) rfl (by decide)) (z_t0 ht hf_bs (m := 19108) rfl (by decide)))
        have hf_wk : f62 wk = .inr (8, [.ref ks, .int w2_5, .ref ct, .ref se, .ref ow, .int WT17, .int wd, .int wp]) := (hfm wk hm_wk (z_tne hf_wk hf_mx (m := 8) (n := 1) rfl rfl (by decide)) (z_tne hf_wk hf_bs (m := 8) (n := 19108) rfl rfl (by decide))).trans hf_wk
        have hf_ks : f62 ks = .inl (cy 1, 13, .inl k2_7) := (hfm ks hm_ks (z_tne hf_ks hf_mx (m := 204) (n := 1) rfl rfl (by decide)) (z_tne hf_ks hf_bs (m := 204) (n := 19108) rfl rfl (by decide))).trans hf_ks
        have hf_ct : f62 ct = .inl (cy 1, 4, .inl G18) := (hfm ct hm_ct (z_tne hf_ct hf_mx (m := 132) (n := 1) rfl rfl (by decide)) (z_tne hf_ct hf_bs (m := 132) (n := 19108) rfl rfl (by decide))).trans hf_ct
        have hf_se : f62 se = .inl (cy 1, 4, .inl G19) := (hfm se hm_se (z_tne hf_se hf_mx (m := 132) (n := 1) rfl rfl (by decide)) (z_tne hf_se hf_bs (m := 132) (n := 19108) rfl rfl (by decide))).trans hf_se
        have hf_ow : f62 ow = .inl (cy 1, 5, .inl o2_10) := (hfm ow hm_ow (z_tne hf_ow hf_mx (m := 140) (n := 1) rfl rfl (by decide)) (z_tne hf_ow hf_bs (m := 140) (n := 19108) rfl rfl (by decide))).trans hf_ow
        have hf_mo : f62 mo = .inr (2, [.int v0, .int v1, .int v2, .int v3, .int v4, .int v5, .int v6, .ref la, .ref sa, .ref mi, .ref da]) := (hfm mo hm_mo (z_tne hf_mo hf_mx (m := 2) (n := 1) rfl rfl (by decide)) (z_tne hf_mo hf_bs (m := 2) (n := 19108) rfl rfl (by decide))).trans hf_mo
        have hf_la : f62 la = .inl (cy 1, 5, .inl gl) := (hfm la hm_la (z_tne hf_la hf_mx (m := 140) (n := 1) rfl rfl (by decide)) (z_tne hf_la hf_bs (m := 140) (n := 19108) rfl rfl (by decide))).trans hf_la
        have hf_sa : f62 sa = .inl (cy 1, 4, .inl gs) := (hfm sa hm_sa (z_tne hf_sa hf_mx (m := 132) (n := 1) rfl rfl (by decide)) (z_tne hf_sa hf_bs (m := 132) (n := 19108) rfl rfl (by decide))).trans hf_sa
        have hf_mi : f62 mi = .inl (cy 1, 36, .inl gm) := (hfm mi hm_mi (z_tne hf_mi hf_mx (m := 388) (n := 1) rfl rfl (by decide)) (z_tne hf_mi hf_bs (m := 388) (n := 19108) rfl rfl (by decide))).trans hf_mi
        have hf_da : f62 da = .inl (cy 4, 13, .inr (.inr (.inr (.inr gd)))) := (hfm da hm_da (z_tne hf_da hf_mx (m := 206) (n := 1) rfl rfl (by decide)) (z_tne hf_da hf_bs (m := 206) (n := 19108) rfl rfl (by decide))).trans hf_da
        have hf_dq26 : f62 dq26 = .inr (0, [.int do27, .int dg28, .int dd29, .int dh30, .int ds31, .int dl32, .int dp33, .int dm34]) := (hfm dq26 hm_dq26 (z_tne hf_dq26 hf_mx (m := 0) (n := 1) rfl rfl (by decide)) (z_tne hf_dq26 hf_bs (m := 0) (n := 19108) rfl rfl (by decide))).trans hf_dq26
        have hf_mx : f62 mx = .inr (1, [.ref wk, .ref bs, .int m2_38, .long x2_63]) := ha_0
        have hf_bs : f62 bs = .inl (cy 0, 2376, .inl b2_64) := ha_1
        have hsh := hp
        refine lv_iload hx hb dX1_sumOf_107 (lv_at hl 2 rfl) ?_
        refine lv_aload_n hx hb dX1_sumOf_109 rfl (lv_at hl 3 rfl) ?_
        refine lv_aload_n hx hb dX1_sumOf_110 rfl (lv_at hl 4 rfl) ?_
        refine lv_iload hx hb dX1_sumOf_111 (lv_at hl 0 rfl) ?_
        refine lv_iload_n hx hb dX1_sumOf_113 rfl (lv_at hl 6 rfl) ?_
        refine z_calliV (cells := 0) (slots := 0) (b := mx) (As := [.ref mo, .int w24, .int on]) (rest := [.int V20]) (ci := 1) (q0 := (RX1, TX1, 4)) ⟨hx, hb, hml, hown, hT⟩ (c_X1_passAll l hm_mx hm_bs hm_wk hm_ct hm_se hm_mo hm_la hm_mi hm_da hf_mx hf_bs hf_wk hf_ct hf_se hf_mo hf_la hf_mi hf_da ne_ct_se hg_da hd_da hkx hgm hsh.2 (by first | omega | decide | assumption)) (cwV 3 hT (z_goodV (fun _ h => h) kw_1097 kw_1099 kw_30 kw_95 kw_1100) rfl rfl rfl (by decide +kernel) ⟨by decide, by decide⟩) z_mv hKK hK hw hA hm_mx hf_mx rfl rfl rfl hl.1 rfl (Nat.le_of_ble_eq_true rfl) dX1_sumOf_114 ⟨by decide, by decide⟩ (fun r65 u H locs hp hw => ?_)
        obtain ⟨L66, f67⟩ := u
        obtain ⟨hsb, hfm, t2_68, c2_69, q2_70, ha_0, ha_1, ha_2, hp⟩ := hp
        have hsb : L = L66 := hsb
        subst hsb
        have hsb : ∀ b ∈ L, b ∈ L := fun _ h => h
        have hw : z_H D vwCl (z_A L sz) s.heap L f67 H locs := hw
        have hfr : ∀ b ∈ L, b ≠ mx → b ≠ bs → b ≠ wk → b ≠ ks → b ≠ ct → b ≠ se → b ≠ ow → f67 b = f b := fun b hb h0 h1 h2 h3 h4 h5 h6 => (hfm b hb h2 h4 h5).trans (hfr b hb h0 h1 h2 h3 h4 h5 h6)
        have hd_da : z_Drv L f67 dv 13 := z_Drv_fr hd_da hsb (fun b hb ht => hfm b hb (z_t0 ht hf_wk (m := 8) rfl (by decide)) (z_t0 ht hf_ct (m := 132) rfl (by decide)) (z_t0 ht hf_se (m := 132) rfl (by decide)))
        have hf_mx : f67 mx = .inr (1, [.ref wk, .ref bs, .int m2_38, .long x2_63]) := (hfm mx hm_mx (z_tne hf_mx hf_wk (m := 1) (n := 8) rfl rfl (by decide)) (z_tne hf_mx hf_ct (m := 1) (n := 132) rfl rfl (by decide)) (z_tne hf_mx hf_se (m := 1) (n := 132) rfl rfl (by decide))).trans hf_mx
        have hf_bs : f67 bs = .inl (cy 0, 2376, .inl b2_64) := (hfm bs hm_bs (z_tne hf_bs hf_wk (m := 19108) (n := 8) rfl rfl (by decide)) (z_tne hf_bs hf_ct (m := 19108) (n := 132) rfl rfl (by decide)) (z_tne hf_bs hf_se (m := 19108) (n := 132) rfl rfl (by decide))).trans hf_bs
        have hf_ks : f67 ks = .inl (cy 1, 13, .inl k2_7) := (hfm ks hm_ks (z_tne hf_ks hf_wk (m := 204) (n := 8) rfl rfl (by decide)) (z_tne hf_ks hf_ct (m := 204) (n := 132) rfl rfl (by decide)) (z_tne hf_ks hf_se (m := 204) (n := 132) rfl rfl (by decide))).trans hf_ks
        have hf_ow : f67 ow = .inl (cy 1, 5, .inl o2_10) := (hfm ow hm_ow (z_tne hf_ow hf_wk (m := 140) (n := 8) rfl rfl (by decide)) (z_tne hf_ow hf_ct (m := 140) (n := 132) rfl rfl (by decide)) (z_tne hf_ow hf_se (m := 140) (n := 132) rfl rfl (by decide))).trans hf_ow
        have hf_mo : f67 mo = .inr (2, [.int v0, .int v1, .int v2, .int v3, .int v4, .int v5, .int v6, .ref la, .ref sa, .ref mi, .ref da]) := (hfm mo hm_mo (z_tne hf_mo hf_wk (m := 2) (n := 8) rfl rfl (by decide)) (z_tne hf_mo hf_ct (m := 2) (n := 132) rfl rfl (by decide)) (z_tne hf_mo hf_se (m := 2) (n := 132) rfl rfl (by decide))).trans hf_mo
        have hf_la : f67 la = .inl (cy 1, 5, .inl gl) := (hfm la hm_la (z_tne hf_la hf_wk (m := 140) (n := 8) rfl rfl (by decide)) (z_tne hf_la hf_ct (m := 140) (n := 132) rfl rfl (by decide)) (z_tne hf_la hf_se (m := 140) (n := 132) rfl rfl (by decide))).trans hf_la
        have hf_sa : f67 sa = .inl (cy 1, 4, .inl gs) := (hfm sa hm_sa (z_tne hf_sa hf_wk (m := 132) (n := 8) rfl rfl (by decide)) (Ne.symm ne_ct_sa) (Ne.symm ne_se_sa)).trans hf_sa
        have hf_mi : f67 mi = .inl (cy 1, 36, .inl gm) := (hfm mi hm_mi (z_tne hf_mi hf_wk (m := 388) (n := 8) rfl rfl (by decide)) (z_tne hf_mi hf_ct (m := 388) (n := 132) rfl rfl (by decide)) (z_tne hf_mi hf_se (m := 388) (n := 132) rfl rfl (by decide))).trans hf_mi
        have hf_da : f67 da = .inl (cy 4, 13, .inr (.inr (.inr (.inr gd)))) := (hfm da hm_da (z_tne hf_da hf_wk (m := 206) (n := 8) rfl rfl (by decide)) (z_tne hf_da hf_ct (m := 206) (n := 132) rfl rfl (by decide)) (z_tne hf_da hf_se (m := 206) (n := 132) rfl rfl (by decide))).trans hf_da
        have hf_dq26 : f67 dq26 = .inr (0, [.int do27, .int dg28, .int dd29, .int dh30, .int ds31, .int dl32, .int dp33, .int dm34]) := (hfm dq26 hm_dq26 (z_tne hf_dq26 hf_wk (m := 0) (n := 8) rfl rfl (by decide)) (z_tne hf_dq26 hf_ct (m := 0) (n := 132) rfl rfl (by decide)) (z_tne hf_dq26 hf_se (m := 0) (n := 132) rfl rfl (by decide))).trans hf_dq26
        have hf_wk : f67 wk = .inr (8, [.ref ks, .int w2_5, .ref ct, .ref se, .ref ow, .int t2_68, .int wd, .int wp]) := ha_0
        have hf_ct : f67 ct = .inl (cy 1, 4, .inl c2_69) := ha_1
        have hf_se : f67 se = .inl (cy 1, 4, .inl q2_70) := ha_2
        refine lv_iadd hx hb dX1_sumOf_117 ?_
        refine lv_topi (fun w71 e_w71 => ?_)
        refine lv_istore (lv' := [(4, .int w71), (6, .int w24), (5, .int K12), (0, .ref mx), (1, .ref mo), (2, .int sd), (3, .int on)]) hx hb dX1_sumOf_118 hl (by decide) rfl (fun ls hl => ?_)
        refine lv_aload_n hx hb dX1_sumOf_120 rfl (lv_at hl 3 rfl) ?_
        refine lv_iconst (v := 0) hx hb dX1_sumOf_121 (by decide) ?_
        refine z_put (C := RX1) (T := TX1) (N := 4) (ci := 1) (v := .int 0) (fs' := [.ref wk, .ref bs, .int 0, .long x2_63]) hx hb hT zin_X1 tyX1_ok nmX1 hown hK hw hm_mx hf_mx rfl 2 (by decide) (hT _ kw_466) rfl rfl rfl (Nat.le_of_ble_eq_true rfl) rfl dX1_sumOf_122 (fun H locs hw => ?_)
        obtain ⟨f72, e_f72⟩ : ∃ z, z = va_up f67 mx (.inr (1, [.ref wk, .ref bs, .int 0, .long x2_63])) := ⟨_, rfl⟩
        rw [← e_f72] at hw
        have hf_bs : f72 bs = .inl (cy 0, 2376, .inl b2_64) := (congrFun e_f72 bs).trans (z_up_ne (z_tne hf_bs hf_mx (m := 19108) (n := 1) rfl rfl (by decide)) hf_bs)
        have hf_wk : f72 wk = .inr (8, [.ref ks, .int w2_5, .ref ct, .ref se, .ref ow, .int t2_68, .int wd, .int wp]) := (congrFun e_f72 wk).trans (z_up_ne (z_tne hf_wk hf_mx (m := 8) (n := 1) rfl rfl (by decide)) hf_wk)
        have hf_ks : f72 ks = .inl (cy 1, 13, .inl k2_7) := (congrFun e_f72 ks).trans (z_up_ne (z_tne hf_ks hf_mx (m := 204) (n := 1) rfl rfl (by decide)) hf_ks)
        have hf_ct : f72 ct = .inl (cy 1, 4, .inl c2_69) := (congrFun e_f72 ct).trans (z_up_ne (z_tne hf_ct hf_mx (m := 132) (n := 1) rfl rfl (by decide)) hf_ct)
        have hf_se : f72 se = .inl (cy 1, 4, .inl q2_70) := (congrFun e_f72 se).trans (z_up_ne (z_tne hf_se hf_mx (m := 132) (n := 1) rfl rfl (by decide)) hf_se)
        have hf_ow : f72 ow = .inl (cy 1, 5, .inl o2_10) := (congrFun e_f72 ow).trans (z_up_ne (z_tne hf_ow hf_mx (m := 140) (n := 1) rfl rfl (by decide)) hf_ow)
        have hf_mo : f72 mo = .inr (2, [.int v0, .int v1, .int v2, .int v3, .int v4, .int v5, .int v6, .ref la, .ref sa, .ref mi, .ref da]) := (congrFun e_f72 mo).trans (z_up_ne (z_tne hf_mo hf_mx (m := 2) (n := 1) rfl rfl (by decide)) hf_mo)
        have hf_la : f72 la = .inl (cy 1, 5, .inl gl) := (congrFun e_f72 la).trans (z_up_ne (z_tne hf_la hf_mx (m := 140) (n := 1) rfl rfl (by decide)) hf_la)
        have hf_sa : f72 sa = .inl (cy 1, 4, .inl gs) := (congrFun e_f72 sa).trans (z_up_ne (z_tne hf_sa hf_mx (m := 132) (n := 1) rfl rfl (by decide)) hf_sa)
        have hf_mi : f72 mi = .inl (cy 1, 36, .inl gm) := (congrFun e_f72 mi).trans (z_up_ne (z_tne hf_mi hf_mx (m := 388) (n := 1) rfl rfl (by decide)) hf_mi)
        have hf_da : f72 da = .inl (cy 4, 13, .inr (.inr (.inr (.inr gd)))) := (congrFun e_f72 da).trans (z_up_ne (z_tne hf_da hf_mx (m := 206) (n := 1) rfl rfl (by decide)) hf_da)
        have hf_dq26 : f72 dq26 = .inr (0, [.int do27, .int dg28, .int dd29, .int dh30, .int ds31, .int dl32, .int dp33, .int dm34]) := (congrFun e_f72 dq26).trans (z_up_ne (z_tne hf_dq26 hf_mx (m := 0) (n := 1) rfl rfl (by decide)) hf_dq26)
        have hd_da : z_Drv L f72 dv 13 := z_Drv_up hd_da e_f72 hf_mx (m := 1) rfl (by decide)
        have hf_mx : f72 mx = .inr (1, [.ref wk, .ref bs, .int 0, .long x2_63]) := (congrFun e_f72 mx).trans z_up_self
        have hfr : ∀ b ∈ L, b ≠ mx → b ≠ bs → b ≠ wk → b ≠ ks → b ≠ ct → b ≠ se → b ≠ ow → f72 b = f b := fun b hb h0 h1 h2 h3 h4 h5 h6 => (congrFun e_f72 b).trans (z_up_ne h0 (hfr b hb h0 h1 h2 h3 h4 h5 h6))
        obtain ⟨k73, e_k73⟩ : ∃ z : Int32, z = K12 + 1 := ⟨_, rfl⟩
        refine lv_iinc (v := k73) (lv' := [(5, .int k73), (4, .int w71), (6, .int w24), (0, .ref mx), (1, .ref mo), (2, .int sd), (3, .int on)]) hx hb dX1_sumOf_125 hl (k := 2) rfl (by rw [e_k73]; rfl) (by decide) rfl (fun ls hl => ?_)
        have i_k73 : k73.toInt = (K12.toInt + 1) := z_add e_k73 rfl (by decide) (by omega)
        refine lv_goto (tgt := 25) hx hb dX1_sumOf_128 (by decide) ?_
        exact ih_25 _ (by omega) _ _ _ ⟨k73, b2_64, c2_69, q2_70, 0, x2_63, t2_68, w71, f72, rfl, (by first | decide | omega), (by first | decide | omega), (by first | omega | decide), (by omega), hsh.2, hw, hf_mx, hf_bs, hf_wk, hf_ks, hf_ct, hf_se, hf_ow, hf_mo, hf_la, hf_sa, hf_mi, hf_da, hfr, hd_da, (lv_sub hl [0, 1, 3, 4, 5, 6] rfl)⟩
