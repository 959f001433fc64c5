set_option maxHeartbeats 2000000 in
set_option maxRecDepth 100000 in
theorem c_X5_isBlank (l : Launch) {D : va_G} {cy : Nat → ClassId} {L : List Nat} {f : Nat → va_E} {sz : Nat} {adK adV : Nat → Nat} {sg : Int32}  : Met l yX5_isBlank (z_ws yX5_isBlank cX5_isBlank 1 (some .boolean)) (z_R 1 0 0) (va_Pc [.int sg] (z_Pre D vwCl (z_KK D cy adK adV) L f sz)) (z_Qi D vwCl (fun r u => u = (L, f) ∧ ((r = 1 ∧ True) ∨ (r = 0 ∧ True))) L sz) 0 0 (z_A L sz) := by
  refine z_met (cc := cX5_isBlank) (maxL := 1) (ret := (some .boolean)) (lv := [(0, .int sg)]) (by decide) rfl (Nat.le_of_ble_eq_true rfl) rfl ?_
  intro p e s m below meth c ls hx hb hr hlk hml hown hnm hts hKK hA hw hl
  have hK := hKK.1.1
  have hown : s.vm.findClass RX5 = some m.cls := hown
  have hT : ∀ w ∈ lw_all, w.before ([.int sg] : List Value).toArray s = true := fun w h => hts w (z_cons w h)
  refine lv_iload_n hx hb dX5_isBlank_0 rfl (lv_at hl 0 rfl) ?_
  refine lv_bipush (v := 32) hx hb dX5_isBlank_1 (by decide) ?_
  refine z_icmp_eq (tgt := 12) hx hb rfl (show (32 : Int32).toInt = 32 by decide) dX5_isBlank_3 (by decide) (fun c1 => ?_) (fun c1 => ?_)
  · skip
    refine lv_iconst (v := 1) hx hb dX5_isBlank_12 (by decide) ?_
    refine lv_goto (tgt := 17) hx hb dX5_isBlank_13 (by decide) ?_
    exact z_zret hx hb hr rfl hlk (by decide) (by decide) hw (⟨rfl, Or.inl ⟨rfl, trivial⟩⟩) dX5_isBlank_17
  · skip
    refine lv_iload_n hx hb dX5_isBlank_6 rfl (lv_at hl 0 rfl) ?_
    refine lv_bipush (v := 10) hx hb dX5_isBlank_7 (by decide) ?_
    refine z_icmp_ne (tgt := 16) hx hb rfl (show (10 : Int32).toInt = 10 by decide) dX5_isBlank_9 (by decide) (fun c2 => ?_) (fun c2 => ?_)
    · skip
      refine lv_iconst (v := 0) hx hb dX5_isBlank_16 (by decide) ?_
      exact z_zret hx hb hr rfl hlk (by decide) (by decide) hw (⟨rfl, Or.inr ⟨rfl, trivial⟩⟩) dX5_isBlank_17
    · skip
      refine lv_iconst (v := 1) hx hb dX5_isBlank_12 (by decide) ?_
      refine lv_goto (tgt := 17) hx hb dX5_isBlank_13 (by decide) ?_
      exact z_zret hx hb hr rfl hlk (by decide) (by decide) hw (⟨rfl, Or.inl ⟨rfl, trivial⟩⟩) dX5_isBlank_17

set_option maxHeartbeats 2000000 in
set_option maxRecDepth 100000 in
theorem c_X5_isLetter (l : Launch) {D : va_G} {cy : Nat → ClassId} {L : List Nat} {f : Nat → va_E} {sz : Nat} {adK adV : Nat → Nat} {sg : Int32}  : Met l yX5_isLetter (z_ws yX5_isLetter cX5_isLetter 1 (some .boolean)) (z_R 1 0 0) (va_Pc [.int sg] (z_Pre D vwCl (z_KK D cy adK adV) L f sz)) (z_Qi D vwCl (fun r u => u = (L, f) ∧ ((r = 1 ∧ True) ∨ (r = 0 ∧ True))) L sz) 0 0 (z_A L sz) := by
  refine z_met (cc := cX5_isLetter) (maxL := 1) (ret := (some .boolean)) (lv := [(0, .int sg)]) (by decide) rfl (Nat.le_of_ble_eq_true rfl) rfl ?_
  intro p e s m below meth c ls hx hb hr hlk hml hown hnm hts hKK hA hw hl
  have hK := hKK.1.1
  have hown : s.vm.findClass RX5 = some m.cls := hown
  have hT : ∀ w ∈ lw_all, w.before ([.int sg] : List Value).toArray s = true := fun w h => hts w (z_cons w h)
  refine lv_iload_n hx hb dX5_isLetter_0 rfl (lv_at hl 0 rfl) ?_
  refine lv_bipush (v := 97) hx hb dX5_isLetter_1 (by decide) ?_
  refine z_icmp_lt (tgt := 16) hx hb rfl (show (97 : Int32).toInt = 97 by decide) dX5_isLetter_3 (by decide) (fun c1 => ?_) (fun c1 => ?_)
  · skip
    refine lv_iconst (v := 0) hx hb dX5_isLetter_16 (by decide) ?_
    exact z_zret hx hb hr rfl hlk (by decide) (by decide) hw (⟨rfl, Or.inr ⟨rfl, trivial⟩⟩) dX5_isLetter_17
  · skip
    refine lv_iload_n hx hb dX5_isLetter_6 rfl (lv_at hl 0 rfl) ?_
    refine lv_bipush (v := 122) hx hb dX5_isLetter_7 (by decide) ?_
    refine z_icmp_gt (tgt := 16) hx hb rfl (show (122 : Int32).toInt = 122 by decide) dX5_isLetter_9 (by decide) (fun c2 => ?_) (fun c2 => ?_)
    · skip
      refine lv_iconst (v := 0) hx hb dX5_isLetter_16 (by decide) ?_
      exact z_zret hx hb hr rfl hlk (by decide) (by decide) hw (⟨rfl, Or.inr ⟨rfl, trivial⟩⟩) dX5_isLetter_17
    · skip
      refine lv_iconst (v := 1) hx hb dX5_isLetter_12 (by decide) ?_
      refine lv_goto (tgt := 17) hx hb dX5_isLetter_13 (by decide) ?_
      exact z_zret hx hb hr rfl hlk (by decide) (by decide) hw (⟨rfl, Or.inl ⟨rfl, trivial⟩⟩) dX5_isLetter_17

set_option maxHeartbeats 2000000 in
set_option maxRecDepth 100000 in
theorem c_X5_isDigit (l : Launch) {D : va_G} {cy : Nat → ClassId} {L : List Nat} {f : Nat → va_E} {sz : Nat} {adK adV : Nat → Nat} {sg : Int32}  : Met l yX5_isDigit (z_ws yX5_isDigit cX5_isDigit 1 (some .boolean)) (z_R 1 0 0) (va_Pc [.int sg] (z_Pre D vwCl (z_KK D cy adK adV) L f sz)) (z_Qi D vwCl (fun r u => u = (L, f) ∧ ((r = 1 ∧ True) ∨ (r = 0 ∧ True))) L sz) 0 0 (z_A L sz) := by
  refine z_met (cc := cX5_isDigit) (maxL := 1) (ret := (some .boolean)) (lv := [(0, .int sg)]) (by decide) rfl (Nat.le_of_ble_eq_true rfl) rfl ?_
  intro p e s m below meth c ls hx hb hr hlk hml hown hnm hts hKK hA hw hl
  have hK := hKK.1.1
  have hown : s.vm.findClass RX5 = some m.cls := hown
  have hT : ∀ w ∈ lw_all, w.before ([.int sg] : List Value).toArray s = true := fun w h => hts w (z_cons w h)
  refine lv_iload_n hx hb dX5_isDigit_0 rfl (lv_at hl 0 rfl) ?_
  refine lv_bipush (v := 48) hx hb dX5_isDigit_1 (by decide) ?_
  refine z_icmp_lt (tgt := 16) hx hb rfl (show (48 : Int32).toInt = 48 by decide) dX5_isDigit_3 (by decide) (fun c1 => ?_) (fun c1 => ?_)
  · skip
    refine lv_iconst (v := 0) hx hb dX5_isDigit_16 (by decide) ?_
    exact z_zret hx hb hr rfl hlk (by decide) (by decide) hw (⟨rfl, Or.inr ⟨rfl, trivial⟩⟩) dX5_isDigit_17
  · skip
    refine lv_iload_n hx hb dX5_isDigit_6 rfl (lv_at hl 0 rfl) ?_
    refine lv_bipush (v := 57) hx hb dX5_isDigit_7 (by decide) ?_
    refine z_icmp_gt (tgt := 16) hx hb rfl (show (57 : Int32).toInt = 57 by decide) dX5_isDigit_9 (by decide) (fun c2 => ?_) (fun c2 => ?_)
    · skip
      refine lv_iconst (v := 0) hx hb dX5_isDigit_16 (by decide) ?_
      exact z_zret hx hb hr rfl hlk (by decide) (by decide) hw (⟨rfl, Or.inr ⟨rfl, trivial⟩⟩) dX5_isDigit_17
    · skip
      refine lv_iconst (v := 1) hx hb dX5_isDigit_12 (by decide) ?_
      refine lv_goto (tgt := 17) hx hb dX5_isDigit_13 (by decide) ?_
      exact z_zret hx hb hr rfl hlk (by decide) (by decide) hw (⟨rfl, Or.inl ⟨rfl, trivial⟩⟩) dX5_isDigit_17

set_option maxHeartbeats 2000000 in
set_option maxRecDepth 100000 in
theorem c_X5_step (l : Launch) {D : va_G} {cy : Nat → ClassId} {L : List Nat} {f : Nat → va_E} {sz : Nat} {adK adV : Nat → Nat} {rd tp tb mo : Nat} {fa fp ot_ ki ra rn rv : Int32} {tl : Int32} {gt : Nat → Int32} (hm_rd : rd ∈ L) (hm_tp : tp ∈ L) (hm_tb : tb ∈ L) (hf_rd : f rd = .inr (5, [.int fa, .int fp, .ref tp, .ref mo, .int ot_, .int ki, .int ra, .int rn, .int rv])) (hf_tp : f tp = .inr (7, [.ref tb, .int tl])) (hf_tb : f tb = .inl (cy 0, 1600, .inl gt)) (htl : 0 ≤ tl.toInt ∧ tl.toInt ≤ 1600) (hrr : (0 ≤ ra.toInt ∧ ra.toInt ≤ 1600) ∧ (0 ≤ rn.toInt ∧ rn.toInt ≤ 1600)) : Met l yX5_step (z_ws yX5_step cX5_step 3 none) (z_R 2 0 0) (va_Pc [.ref rd] (z_Pre D vwCl (z_KK D cy adK adV) L f sz)) (z_Qv D vwCl (fun u => L = u.1 ∧ (∀ b ∈ L, b ≠ rd → u.2 b = f b) ∧ (∃ (k2 a2 n2 z2 : Int32), (u.2 rd = .inr (5, [.int fa, .int fp, .ref tp, .ref mo, .int ot_, .int k2, .int a2, .int n2, .int z2])) ∧ ((0 ≤ a2.toInt ∧ a2.toInt ≤ 1600) ∧ (0 ≤ n2.toInt ∧ n2.toInt ≤ 1600)))) L sz) 0 0 (z_A L sz) := by
  refine z_met (cc := cX5_step) (maxL := 3) (ret := none) (lv := [(0, .ref rd)]) (by decide) rfl (Nat.le_of_ble_eq_true rfl) rfl ?_
  intro p e s m below meth c ls hx hb hr hlk hml hown hnm hts hKK hA hw hl
  have hK := hKK.1.1
  have hown : s.vm.findClass RX5 = some m.cls := hown
  have hT : ∀ w ∈ lw_all, w.before ([.ref rd] : List Value).toArray s = true := fun w h => hts w (z_cons w h)
  have hsub : L = L := rfl
  have hfr : ∀ b ∈ L, b ≠ rd → f b = f b := fun _ _ _ => rfl
  refine lv_aload_n hx hb dX5_step_0 rfl (lv_at hl 0 rfl) ?_
  refine z_get (C := RX5) (T := TX5) (N := 9) (ci := 5) (v := .ref tp) hx hb hT zin_X5 hown hK hw hm_rd hf_rd rfl 2 (by decide) (hT _ kw_281) rfl dX5_step_1 ?_
  refine z_get (C := RX7) (T := TX7) (N := 2) (ci := 7) (v := .ref tb) hx hb hT zin_X7 hown hK hw hm_tp hf_tp rfl 0 (by decide) (hT _ kw_118) rfl dX5_step_4 ?_
  refine lv_astore_n (lv' := [(1, .ref tb), (0, .ref rd)]) hx hb dX5_step_7 rfl hl (by decide) rfl (fun ls hl => ?_)
  refine lv_aload_n hx hb dX5_step_8 rfl (lv_at hl 1 rfl) ?_
  refine z_get (C := RX5) (T := TX5) (N := 9) (ci := 5) (v := .ref tp) hx hb hT zin_X5 hown hK hw hm_rd hf_rd rfl 2 (by decide) (hT _ kw_281) rfl dX5_step_9 ?_
  refine z_get (C := RX7) (T := TX7) (N := 2) (ci := 7) (v := .int tl) hx hb hT zin_X7 hown hK hw hm_tp hf_tp rfl 1 (by decide) (hT _ kw_121) rfl dX5_step_12 ?_
  refine lv_sipush (v := 1600) hx hb dX5_step_15 (by decide) ?_
  have hz1 := (show (1600 : Int32).toInt = 1600 by decide)
  refine va_mmin hx hb (by rw [hml]; exact hl.1.symm) hown (hT _ km_l) (hT _ km_s) (hT _ km_i) (hT _ km_c) (by decide) (Nat.le_of_ble_eq_true rfl) (by decide) (by decide) dX5_step_18 ?_
  obtain ⟨mn2, e_mn2⟩ : ∃ z, z = (if (1600 : Int32) < tl then 1600 else tl) := ⟨_, rfl⟩
  refine z_lit (y := mn2) e_mn2.symm ?_
  have hx_mn2 := z_mnI e_mn2
  refine lv_istore_n (lv' := [(2, .int mn2), (1, .ref tb), (0, .ref rd)]) hx hb dX5_step_21 rfl hl (by decide) rfl (fun ls hl => ?_)
  refine z_loop (fun n H locs ls => ∃  (NX5 : Int32) (f4 : Nat → va_E), (n = (1600 - NX5.toInt).toNat) ∧ (0 ≤ NX5.toInt) ∧ (NX5.toInt ≤ 1600) ∧ (z_H D vwCl (z_A L sz) s.heap L f4 H locs) ∧ (f4 rd = .inr (5, [.int fa, .int fp, .ref tp, .ref mo, .int ot_, .int ki, .int ra, .int NX5, .int rv])) ∧ (f4 tp = .inr (7, [.ref tb, .int tl])) ∧ (f4 tb = .inl (cy 0, 1600, .inl gt)) ∧ (∀ b ∈ L, b ≠ rd → f4 b = f b) ∧ (lv_has ls 3 [(2, .int mn2), (1, .ref tb), (0, .ref rd)])) _ ⟨rn, f, rfl, (by first | decide | omega), (by first | decide | omega), hw, hf_rd, hf_tp, hf_tb, hfr, (lv_sub hl [0, 1, 2] rfl)⟩ (fun n H locs ls hI ih_22 => ?_)
  obtain ⟨NX5, f4, hn, hk0, hk1, hw, hf_rd, hf_tp, hf_tb, hfr, hl⟩ := hI
  refine lv_aload_n hx hb dX5_step_22 rfl (lv_at hl 2 rfl) ?_
  refine z_get (C := RX5) (T := TX5) (N := 9) (ci := 5) (v := .int NX5) hx hb hT zin_X5 hown hK hw hm_rd hf_rd rfl 7 (by decide) (hT _ kw_286) rfl dX5_step_23 ?_
  refine lv_iload_n hx hb dX5_step_26 rfl (lv_at hl 0 rfl) ?_
  refine z_icmp_ge (tgt := 55) hx hb rfl rfl dX5_step_27 (by decide) (fun c6 => ?_) (fun c6 => ?_)
  · skip
    refine lv_aload_n hx hb dX5_step_55 rfl (lv_at hl 2 rfl) ?_
    refine lv_aload_n hx hb dX5_step_56 rfl (lv_at hl 2 rfl) ?_
    refine z_get (C := RX5) (T := TX5) (N := 9) (ci := 5) (v := .int NX5) hx hb hT zin_X5 hown hK hw hm_rd hf_rd rfl 7 (by decide) (hT _ kw_286) rfl dX5_step_57 ?_
    refine z_put (C := RX5) (T := TX5) (N := 9) (ci := 5) (v := .int NX5) (fs' := [.int fa, .int fp, .ref tp, .ref mo, .int ot_, .int ki, .int NX5, .int NX5, .int rv]) hx hb hT zin_X5 tyX5_ok nmX5 hown hK hw hm_rd hf_rd rfl 6 (by decide) (hT _ kw_285) rfl rfl rfl (Nat.le_of_ble_eq_true rfl) rfl dX5_step_60 (fun H locs hw => ?_)
    obtain ⟨f7, e_f7⟩ : ∃ z, z = va_up f4 rd (.inr (5, [.int fa, .int fp, .ref tp, .ref mo, .int ot_, .int ki, .int NX5, .int NX5, .int rv])) := ⟨_, rfl⟩
    rw [← e_f7] at hw
    have hf_tp : f7 tp = .inr (7, [.ref tb, .int tl]) := (congrFun e_f7 tp).trans (z_up_ne (z_tne hf_tp hf_rd (m := 7) (n := 5) rfl rfl (by decide)) hf_tp)
    have hf_tb : f7 tb = .inl (cy 0, 1600, .inl gt) := (congrFun e_f7 tb).trans (z_up_ne (z_tne hf_tb hf_rd (m := 12900) (n := 5) rfl rfl (by decide)) hf_tb)
    have hf_rd : f7 rd = .inr (5, [.int fa, .int fp, .ref tp, .ref mo, .int ot_, .int ki, .int NX5, .int NX5, .int rv]) := (congrFun e_f7 rd).trans z_up_self
    have hfr : ∀ b ∈ L, b ≠ rd → f7 b = f b := fun b hb h0 => (congrFun e_f7 b).trans (z_up_ne h0 (hfr b hb h0))
    refine lv_aload_n hx hb dX5_step_63 rfl (lv_at hl 2 rfl) ?_
    refine z_get (C := RX5) (T := TX5) (N := 9) (ci := 5) (v := .int NX5) hx hb hT zin_X5 hown hK hw hm_rd hf_rd rfl 6 (by decide) (hT _ kw_285) rfl dX5_step_64 ?_
    refine lv_iload_n hx hb dX5_step_67 rfl (lv_at hl 0 rfl) ?_
    refine z_icmp_lt (tgt := 79) hx hb rfl rfl dX5_step_68 (by decide) (fun c8 => ?_) (fun c8 => ?_)
    · skip
      refine lv_aload_n hx hb dX5_step_79 rfl (lv_at hl 1 rfl) ?_
      refine lv_aload_n hx hb dX5_step_80 rfl (lv_at hl 2 rfl) ?_
      refine z_get (C := RX5) (T := TX5) (N := 9) (ci := 5) (v := .int NX5) hx hb hT zin_X5 hown hK hw hm_rd hf_rd rfl 6 (by decide) (hT _ kw_285) rfl dX5_step_81 ?_
      refine z_bald hx hb hK hw 0 hm_tb hf_tb rfl (z_ix rfl (by omega)) dX5_step_84 ?_
      refine lv_topi (fun w9 e_w9 => ?_)
      refine z_calliS (cells := 0) (slots := 0) (As := [.int w9]) (rest := []) ⟨hx, hb, hml, hown, hT⟩ (c_X5_isLetter l ) (va_cwS 1 hT (z_goodS (fun _ h => h) kw_546 kw_547 kw_89 kw_548) rfl rfl rfl (by decide +kernel) ⟨by decide, by decide⟩) z_mv hKK hw hA rfl hl.1 rfl (Nat.le_of_ble_eq_true rfl) dX5_step_85 ⟨by decide, by decide⟩ (fun r10 u H locs hp hw => ?_)
      obtain ⟨rfl, hp⟩ := hp
      have hw : z_H D vwCl (z_A L sz) s.heap L f7 H locs := hw
      rcases hp with ⟨rfl, h11⟩ | ⟨rfl, h11⟩
      · skip
        refine z_if_eq (tgt := 129) hx hb (show (1 : Int32).toInt = 1 by decide) dX5_step_88 (by decide) (fun h => absurd h (by decide)) (fun _ => ?_)
        refine lv_aload_n hx hb dX5_step_91 rfl (lv_at hl 2 rfl) ?_
        refine lv_iconst (v := 1) hx hb dX5_step_92 (by decide) ?_
        refine z_put (C := RX5) (T := TX5) (N := 9) (ci := 5) (v := .int 1) (fs' := [.int fa, .int fp, .ref tp, .ref mo, .int ot_, .int 1, .int NX5, .int NX5, .int rv]) hx hb hT zin_X5 tyX5_ok nmX5 hown hK hw hm_rd hf_rd rfl 5 (by decide) (hT _ kw_284) rfl rfl rfl (Nat.le_of_ble_eq_true rfl) rfl dX5_step_93 (fun H locs hw => ?_)
        obtain ⟨f12, e_f12⟩ : ∃ z, z = va_up f7 rd (.inr (5, [.int fa, .int fp, .ref tp, .ref mo, .int ot_, .int 1, .int NX5, .int NX5, .int rv])) := ⟨_, rfl⟩
        rw [← e_f12] at hw
        have hf_tp : f12 tp = .inr (7, [.ref tb, .int tl]) := (congrFun e_f12 tp).trans (z_up_ne (z_tne hf_tp hf_rd (m := 7) (n := 5) rfl rfl (by decide)) hf_tp)
        have hf_tb : f12 tb = .inl (cy 0, 1600, .inl gt) := (congrFun e_f12 tb).trans (z_up_ne (z_tne hf_tb hf_rd (m := 12900) (n := 5) rfl rfl (by decide)) hf_tb)
        have hf_rd : f12 rd = .inr (5, [.int fa, .int fp, .ref tp, .ref mo, .int ot_, .int 1, .int NX5, .int NX5, .int rv]) := (congrFun e_f12 rd).trans z_up_self
        have hfr : ∀ b ∈ L, b ≠ rd → f12 b = f b := fun b hb h0 => (congrFun e_f12 b).trans (z_up_ne h0 (hfr b hb h0))
        refine z_loop (fun n H locs ls => ∃  (NX15 : Int32) (f14 : Nat → va_E), (n = (1600 - NX15.toInt).toNat) ∧ (0 ≤ NX15.toInt) ∧ (NX15.toInt ≤ 1600) ∧ (z_H D vwCl (z_A L sz) s.heap L f14 H locs) ∧ (f14 rd = .inr (5, [.int fa, .int fp, .ref tp, .ref mo, .int ot_, .int 1, .int NX5, .int NX15, .int rv])) ∧ (f14 tp = .inr (7, [.ref tb, .int tl])) ∧ (f14 tb = .inl (cy 0, 1600, .inl gt)) ∧ (∀ b ∈ L, b ≠ rd → f14 b = f b) ∧ (lv_has ls 3 [(2, .int mn2), (1, .ref tb), (0, .ref rd)])) _ ⟨NX5, f12, rfl, (by first | decide | omega), (by first | decide | omega), hw, hf_rd, hf_tp, hf_tb, hfr, (lv_sub hl [0, 1, 2] rfl)⟩ (fun n H locs ls hI ih_96 => ?_)
        obtain ⟨NX15, f14, hn, hk0, hk1, hw, hf_rd, hf_tp, hf_tb, hfr, hl⟩ := hI
        refine lv_aload_n hx hb dX5_step_96 rfl (lv_at hl 2 rfl) ?_
        refine z_get (C := RX5) (T := TX5) (N := 9) (ci := 5) (v := .int NX15) hx hb hT zin_X5 hown hK hw hm_rd hf_rd rfl 7 (by decide) (hT _ kw_286) rfl dX5_step_97 ?_
        refine lv_iload_n hx hb dX5_step_100 rfl (lv_at hl 0 rfl) ?_
        refine z_icmp_ge (tgt := 240) hx hb rfl rfl dX5_step_101 (by decide) (fun c16 => ?_) (fun c16 => ?_)
        · skip
          exact z_vret hx hb hr hlk (by decide) (by decide) hw (⟨hsub, hfr, 1, NX5, NX15, rv, hf_rd, by omega, by omega⟩) dX5_step_240
        · skip
          refine lv_aload_n hx hb dX5_step_104 rfl (lv_at hl 1 rfl) ?_
          refine lv_aload_n hx hb dX5_step_105 rfl (lv_at hl 2 rfl) ?_
          refine z_get (C := RX5) (T := TX5) (N := 9) (ci := 5) (v := .int NX15) hx hb hT zin_X5 hown hK hw hm_rd hf_rd rfl 7 (by decide) (hT _ kw_286) rfl dX5_step_106 ?_
          refine z_bald hx hb hK hw 0 hm_tb hf_tb rfl (z_ix rfl (by omega)) dX5_step_109 ?_
          refine lv_topi (fun w17 e_w17 => ?_)
          refine z_calliS (cells := 0) (slots := 0) (As := [.int w17]) (rest := []) ⟨hx, hb, hml, hown, hT⟩ (c_X5_isLetter l ) (va_cwS 1 hT (z_goodS (fun _ h => h) kw_546 kw_547 kw_89 kw_548) rfl rfl rfl (by decide +kernel) ⟨by decide, by decide⟩) z_mv hKK hw hA rfl hl.1 rfl (Nat.le_of_ble_eq_true rfl) dX5_step_110 ⟨by decide, by decide⟩ (fun r18 u H locs hp hw => ?_)
          obtain ⟨rfl, hp⟩ := hp
          have hw : z_H D vwCl (z_A L sz) s.heap L f14 H locs := hw
          rcases hp with ⟨rfl, h19⟩ | ⟨rfl, h19⟩
          · skip
            refine z_if_eq (tgt := 240) hx hb (show (1 : Int32).toInt = 1 by decide) dX5_step_113 (by decide) (fun h => absurd h (by decide)) (fun _ => ?_)
            refine lv_aload_n hx hb dX5_step_116 rfl (lv_at hl 2 rfl) ?_
            refine lv_dup hx hb dX5_step_117 rfl ?_
            refine z_get (C := RX5) (T := TX5) (N := 9) (ci := 5) (v := .int NX15) hx hb hT zin_X5 hown hK hw hm_rd hf_rd rfl 7 (by decide) (hT _ kw_286) rfl dX5_step_118 ?_
            refine lv_iconst (v := 1) hx hb dX5_step_121 (by decide) ?_
            refine lv_iadd hx hb dX5_step_122 ?_
            refine lv_topi (fun w20 e_w20 => ?_)
            have i_w20 : w20.toInt = (NX15.toInt + 1) := z_add e_w20 rfl (show (1 : Int32).toInt = 1 by decide) (by omega)
            refine z_put (C := RX5) (T := TX5) (N := 9) (ci := 5) (v := .int w20) (fs' := [.int fa, .int fp, .ref tp, .ref mo, .int ot_, .int 1, .int NX5, .int w20, .int rv]) hx hb hT zin_X5 tyX5_ok nmX5 hown hK hw hm_rd hf_rd rfl 7 (by decide) (hT _ kw_286) rfl rfl rfl (Nat.le_of_ble_eq_true rfl) rfl dX5_step_123 (fun H locs hw => ?_)
            obtain ⟨f21, e_f21⟩ : ∃ z, z = va_up f14 rd (.inr (5, [.int fa, .int fp, .ref tp, .ref mo, .int ot_, .int 1, .int NX5, .int w20, .int rv])) := ⟨_, rfl⟩
            rw [← e_f21] at hw
            have hf_tp : f21 tp = .inr (7, [.ref tb, .int tl]) := (congrFun e_f21 tp).trans (z_up_ne (z_tne hf_tp hf_rd (m := 7) (n := 5) rfl rfl (by decide)) hf_tp)
            have hf_tb : f21 tb = .inl (cy 0, 1600, .inl gt) := (congrFun e_f21 tb).trans (z_up_ne (z_tne hf_tb hf_rd (m := 12900) (n := 5) rfl rfl (by decide)) hf_tb)
            have hf_rd : f21 rd = .inr (5, [.int fa, .int fp, .ref tp, .ref mo, .int ot_, .int 1, .int NX5, .int w20, .int rv]) := (congrFun e_f21 rd).trans z_up_self
            have hfr : ∀ b ∈ L, b ≠ rd → f21 b = f b := fun b hb h0 => (congrFun e_f21 b).trans (z_up_ne h0 (hfr b hb h0))
            refine lv_goto (tgt := 96) hx hb dX5_step_126 (by decide) ?_
            exact ih_96 _ (by omega) _ _ _ ⟨w20, f21, rfl, (by first | decide | omega), (by first | decide | omega), hw, hf_rd, hf_tp, hf_tb, hfr, (lv_sub hl [0, 1, 2] rfl)⟩
          · skip
            refine z_if_eq (tgt := 240) hx hb (show (0 : Int32).toInt = 0 by decide) dX5_step_113 (by decide) (fun _ => ?_) (fun h => absurd h (by decide))
            exact z_vret hx hb hr hlk (by decide) (by decide) hw (⟨hsub, hfr, 1, NX5, NX15, rv, hf_rd, by omega, by omega⟩) dX5_step_240
      · skip
        refine z_if_eq (tgt := 129) hx hb (show (0 : Int32).toInt = 0 by decide) dX5_step_88 (by decide) (fun _ => ?_) (fun h => absurd h (by decide))
        refine lv_aload_n hx hb dX5_step_129 rfl (lv_at hl 1 rfl) ?_
        refine lv_aload_n hx hb dX5_step_130 rfl (lv_at hl 2 rfl) ?_
        refine z_get (C := RX5) (T := TX5) (N := 9) (ci := 5) (v := .int NX5) hx hb hT zin_X5 hown hK hw hm_rd hf_rd rfl 6 (by decide) (hT _ kw_285) rfl dX5_step_131 ?_
        refine z_bald hx hb hK hw 0 hm_tb hf_tb rfl (z_ix rfl (by omega)) dX5_step_134 ?_
        refine lv_topi (fun w22 e_w22 => ?_)
        refine z_calliS (cells := 0) (slots := 0) (As := [.int w22]) (rest := []) ⟨hx, hb, hml, hown, hT⟩ (c_X5_isDigit l ) (va_cwS 1 hT (z_goodS (fun _ h => h) kw_549 kw_550 kw_89 kw_551) rfl rfl rfl (by decide +kernel) ⟨by decide, by decide⟩) z_mv hKK hw hA rfl hl.1 rfl (Nat.le_of_ble_eq_true rfl) dX5_step_135 ⟨by decide, by decide⟩ (fun r23 u H locs hp hw => ?_)
        obtain ⟨rfl, hp⟩ := hp
        have hw : z_H D vwCl (z_A L sz) s.heap L f7 H locs := hw
        rcases hp with ⟨rfl, h24⟩ | ⟨rfl, h24⟩
        · skip
          refine z_if_eq (tgt := 210) hx hb (show (1 : Int32).toInt = 1 by decide) dX5_step_138 (by decide) (fun h => absurd h (by decide)) (fun _ => ?_)
          refine lv_aload_n hx hb dX5_step_141 rfl (lv_at hl 2 rfl) ?_
          refine lv_iconst (v := 2) hx hb dX5_step_142 (by decide) ?_
          refine z_put (C := RX5) (T := TX5) (N := 9) (ci := 5) (v := .int 2) (fs' := [.int fa, .int fp, .ref tp, .ref mo, .int ot_, .int 2, .int NX5, .int NX5, .int rv]) hx hb hT zin_X5 tyX5_ok nmX5 hown hK hw hm_rd hf_rd rfl 5 (by decide) (hT _ kw_284) rfl rfl rfl (Nat.le_of_ble_eq_true rfl) rfl dX5_step_143 (fun H locs hw => ?_)
          obtain ⟨f25, e_f25⟩ : ∃ z, z = va_up f7 rd (.inr (5, [.int fa, .int fp, .ref tp, .ref mo, .int ot_, .int 2, .int NX5, .int NX5, .int rv])) := ⟨_, rfl⟩
          rw [← e_f25] at hw
          have hf_tp : f25 tp = .inr (7, [.ref tb, .int tl]) := (congrFun e_f25 tp).trans (z_up_ne (z_tne hf_tp hf_rd (m := 7) (n := 5) rfl rfl (by decide)) hf_tp)
          have hf_tb : f25 tb = .inl (cy 0, 1600, .inl gt) := (congrFun e_f25 tb).trans (z_up_ne (z_tne hf_tb hf_rd (m := 12900) (n := 5) rfl rfl (by decide)) hf_tb)
          have hf_rd : f25 rd = .inr (5, [.int fa, .int fp, .ref tp, .ref mo, .int ot_, .int 2, .int NX5, .int NX5, .int rv]) := (congrFun e_f25 rd).trans z_up_self
          have hfr : ∀ b ∈ L, b ≠ rd → f25 b = f b := fun b hb h0 => (congrFun e_f25 b).trans (z_up_ne h0 (hfr b hb h0))
          refine lv_aload_n hx hb dX5_step_146 rfl (lv_at hl 2 rfl) ?_
          refine lv_iconst (v := 0) hx hb dX5_step_147 (by decide) ?_
          refine z_put (C := RX5) (T := TX5) (N := 9) (ci := 5) (v := .int 0) (fs' := [.int fa, .int fp, .ref tp, .ref mo, .int ot_, .int 2, .int NX5, .int NX5, .int 0]) hx hb hT zin_X5 tyX5_ok nmX5 hown hK hw hm_rd hf_rd rfl 8 (by decide) (hT _ kw_287) rfl rfl rfl (Nat.le_of_ble_eq_true rfl) rfl dX5_step_148 (fun H locs hw => ?_)
          obtain ⟨f26, e_f26⟩ : ∃ z, z = va_up f25 rd (.inr (5, [.int fa, .int fp, .ref tp, .ref mo, .int ot_, .int 2, .int NX5, .int NX5, .int 0])) := ⟨_, rfl⟩
          rw [← e_f26] at hw
          have hf_tp : f26 tp = .inr (7, [.ref tb, .int tl]) := (congrFun e_f26 tp).trans (z_up_ne (z_tne hf_tp hf_rd (m := 7) (n := 5) rfl rfl (by decide)) hf_tp)
          have hf_tb : f26 tb = .inl (cy 0, 1600, .inl gt) := (congrFun e_f26 tb).trans (z_up_ne (z_tne hf_tb hf_rd (m := 12900) (n := 5) rfl rfl (by decide)) hf_tb)
          have hf_rd : f26 rd = .inr (5, [.int fa, .int fp, .ref tp, .ref mo, .int ot_, .int 2, .int NX5, .int NX5, .int 0]) := (congrFun e_f26 rd).trans z_up_self
          have hfr : ∀ b ∈ L, b ≠ rd → f26 b = f b := fun b hb h0 => (congrFun e_f26 b).trans (z_up_ne h0 (hfr b hb h0))
          refine z_loop (fun n H locs ls => ∃  (NX29 : Int32) (RV30 : Int32) (f28 : Nat → va_E), (n = (1600 - NX29.toInt).toNat) ∧ (0 ≤ NX29.toInt) ∧ (NX29.toInt ≤ 1600) ∧ (z_H D vwCl (z_A L sz) s.heap L f28 H locs) ∧ (f28 rd = .inr (5, [.int fa, .int fp, .ref tp, .ref mo, .int ot_, .int 2, .int NX5, .int NX29, .int RV30])) ∧ (f28 tp = .inr (7, [.ref tb, .int tl])) ∧ (f28 tb = .inl (cy 0, 1600, .inl gt)) ∧ (∀ b ∈ L, b ≠ rd → f28 b = f b) ∧ (lv_has ls 3 [(2, .int mn2), (1, .ref tb), (0, .ref rd)])) _ ⟨NX5, 0, f26, rfl, (by first | decide | omega), (by first | decide | omega), hw, hf_rd, hf_tp, hf_tb, hfr, (lv_sub hl [0, 1, 2] rfl)⟩ (fun n H locs ls hI ih_151 => ?_)
          obtain ⟨NX29, RV30, f28, hn, hk0, hk1, hw, hf_rd, hf_tp, hf_tb, hfr, hl⟩ := hI
          refine lv_aload_n hx hb dX5_step_151 rfl (lv_at hl 2 rfl) ?_
          refine z_get (C := RX5) (T := TX5) (N := 9) (ci := 5) (v := .int NX29) hx hb hT zin_X5 hown hK hw hm_rd hf_rd rfl 7 (by decide) (hT _ kw_286) rfl dX5_step_152 ?_
          refine lv_iload_n hx hb dX5_step_155 rfl (lv_at hl 0 rfl) ?_
          refine z_icmp_ge (tgt := 240) hx hb rfl rfl dX5_step_156 (by decide) (fun c31 => ?_) (fun c31 => ?_)
          · skip
            exact z_vret hx hb hr hlk (by decide) (by decide) hw (⟨hsub, hfr, 2, NX5, NX29, RV30, hf_rd, by omega, by omega⟩) dX5_step_240
          · skip
            refine lv_aload_n hx hb dX5_step_159 rfl (lv_at hl 1 rfl) ?_
            refine lv_aload_n hx hb dX5_step_160 rfl (lv_at hl 2 rfl) ?_
            refine z_get (C := RX5) (T := TX5) (N := 9) (ci := 5) (v := .int NX29) hx hb hT zin_X5 hown hK hw hm_rd hf_rd rfl 7 (by decide) (hT _ kw_286) rfl dX5_step_161 ?_
            refine z_bald hx hb hK hw 0 hm_tb hf_tb rfl (z_ix rfl (by omega)) dX5_step_164 ?_
            refine lv_topi (fun w32 e_w32 => ?_)
            refine z_calliS (cells := 0) (slots := 0) (As := [.int w32]) (rest := []) ⟨hx, hb, hml, hown, hT⟩ (c_X5_isDigit l ) (va_cwS 1 hT (z_goodS (fun _ h => h) kw_549 kw_550 kw_89 kw_551) rfl rfl rfl (by decide +kernel) ⟨by decide, by decide⟩) z_mv hKK hw hA rfl hl.1 rfl (Nat.le_of_ble_eq_true rfl) dX5_step_165 ⟨by decide, by decide⟩ (fun r33 u H locs hp hw => ?_)
            obtain ⟨rfl, hp⟩ := hp
            have hw : z_H D vwCl (z_A L sz) s.heap L f28 H locs := hw
            rcases hp with ⟨rfl, h34⟩ | ⟨rfl, h34⟩
            · skip
              refine z_if_eq (tgt := 240) hx hb (show (1 : Int32).toInt = 1 by decide) dX5_step_168 (by decide) (fun h => absurd h (by decide)) (fun _ => ?_)
              refine lv_aload_n hx hb dX5_step_171 rfl (lv_at hl 2 rfl) ?_
              refine lv_ldc (v := 100000) hx hb hown (hT _ kw_552) dX5_step_172 ?_
              refine lv_bipush (v := 10) hx hb dX5_step_174 (by decide) ?_
              refine lv_aload_n hx hb dX5_step_176 rfl (lv_at hl 2 rfl) ?_
              refine z_get (C := RX5) (T := TX5) (N := 9) (ci := 5) (v := .int RV30) hx hb hT zin_X5 hown hK hw hm_rd hf_rd rfl 8 (by decide) (hT _ kw_287) rfl dX5_step_177 ?_
              refine lv_imul hx hb dX5_step_180 ?_
              refine lv_topi (fun w35 e_w35 => ?_)
              refine lv_aload_n hx hb dX5_step_181 rfl (lv_at hl 1 rfl) ?_
              refine lv_aload_n hx hb dX5_step_182 rfl (lv_at hl 2 rfl) ?_
              refine z_get (C := RX5) (T := TX5) (N := 9) (ci := 5) (v := .int NX29) hx hb hT zin_X5 hown hK hw hm_rd hf_rd rfl 7 (by decide) (hT _ kw_286) rfl dX5_step_183 ?_
              refine z_bald hx hb hK hw 0 hm_tb hf_tb rfl (z_ix rfl (by omega)) dX5_step_186 ?_
              refine lv_topi (fun w36 e_w36 => ?_)
              refine lv_iadd hx hb dX5_step_187 ?_
              refine lv_topi (fun w37 e_w37 => ?_)
              refine lv_bipush (v := 48) hx hb dX5_step_188 (by decide) ?_
              refine lv_isub hx hb dX5_step_190 ?_
              refine lv_topi (fun w38 e_w38 => ?_)
              have hz39 := (show (100000 : Int32).toInt = 100000 by decide)
              refine va_mmin hx hb (by rw [hml]; exact hl.1.symm) hown (hT _ km_l) (hT _ km_s) (hT _ km_i) (hT _ km_c) (by decide) (Nat.le_of_ble_eq_true rfl) (by decide) (by decide) dX5_step_191 ?_
              obtain ⟨mn40, e_mn40⟩ : ∃ z, z = (if (w38 : Int32) < 100000 then w38 else 100000) := ⟨_, rfl⟩
              refine z_lit (y := mn40) e_mn40.symm ?_
              have hx_mn40 := z_mnI e_mn40
              refine z_put (C := RX5) (T := TX5) (N := 9) (ci := 5) (v := .int mn40) (fs' := [.int fa, .int fp, .ref tp, .ref mo, .int ot_, .int 2, .int NX5, .int NX29, .int mn40]) hx hb hT zin_X5 tyX5_ok nmX5 hown hK hw hm_rd hf_rd rfl 8 (by decide) (hT _ kw_287) rfl rfl rfl (Nat.le_of_ble_eq_true rfl) rfl dX5_step_194 (fun H locs hw => ?_)
              obtain ⟨f41, e_f41⟩ : ∃ z, z = va_up f28 rd (.inr (5, [.int fa, .int fp, .ref tp, .ref mo, .int ot_, .int 2, .int NX5, .int NX29, .int mn40])) := ⟨_, rfl⟩
              rw [← e_f41] at hw
              have hf_tp : f41 tp = .inr (7, [.ref tb, .int tl]) := (congrFun e_f41 tp).trans (z_up_ne (z_tne hf_tp hf_rd (m := 7) (n := 5) rfl rfl (by decide)) hf_tp)
              have hf_tb : f41 tb = .inl (cy 0, 1600, .inl gt) := (congrFun e_f41 tb).trans (z_up_ne (z_tne hf_tb hf_rd (m := 12900) (n := 5) rfl rfl (by decide)) hf_tb)
              have hf_rd : f41 rd = .inr (5, [.int fa, .int fp, .ref tp, .ref mo, .int ot_, .int 2, .int NX5, .int NX29, .int mn40]) := (congrFun e_f41 rd).trans z_up_self
              have hfr : ∀ b ∈ L, b ≠ rd → f41 b = f b := fun b hb h0 => (congrFun e_f41 b).trans (z_up_ne h0 (hfr b hb h0))
              refine lv_aload_n hx hb dX5_step_197 rfl (lv_at hl 2 rfl) ?_
              refine lv_dup hx hb dX5_step_198 rfl ?_
              refine z_get (C := RX5) (T := TX5) (N := 9) (ci := 5) (v := .int NX29) hx hb hT zin_X5 hown hK hw hm_rd hf_rd rfl 7 (by decide) (hT _ kw_286) rfl dX5_step_199 ?_
              refine lv_iconst (v := 1) hx hb dX5_step_202 (by decide) ?_
              refine lv_iadd hx hb dX5_step_203 ?_
              refine lv_topi (fun w42 e_w42 => ?_)
              have i_w42 : w42.toInt = (NX29.toInt + 1) := z_add e_w42 rfl (show (1 : Int32).toInt = 1 by decide) (by omega)
              refine z_put (C := RX5) (T := TX5) (N := 9) (ci := 5) (v := .int w42) (fs' := [.int fa, .int fp, .ref tp, .ref mo, .int ot_, .int 2, .int NX5, .int w42, .int mn40]) hx hb hT zin_X5 tyX5_ok nmX5 hown hK hw hm_rd hf_rd rfl 7 (by decide) (hT _ kw_286) rfl rfl rfl (Nat.le_of_ble_eq_true rfl) rfl dX5_step_204 (fun H locs hw => ?_)
              obtain ⟨f43, e_f43⟩ : ∃ z, z = va_up f41 rd (.inr (5, [.int fa, .int fp, .ref tp, .ref mo, .int ot_, .int 2, .int NX5, .int w42, .int mn40])) := ⟨_, rfl⟩
              rw [← e_f43] at hw
              have hf_tp : f43 tp = .inr (7, [.ref tb, .int tl]) := (congrFun e_f43 tp).trans (z_up_ne (z_tne hf_tp hf_rd (m := 7) (n := 5) rfl rfl (by decide)) hf_tp)
              have hf_tb : f43 tb = .inl (cy 0, 1600, .inl gt) := (congrFun e_f43 tb).trans (z_up_ne (z_tne hf_tb hf_rd (m := 12900) (n := 5) rfl rfl (by decide)) hf_tb)
              have hf_rd : f43 rd = .inr (5, [.int fa, .int fp, .ref tp, .ref mo, .int ot_, .int 2, .int NX5, .int w42, .int mn40]) := (congrFun e_f43 rd).trans z_up_self
              have hfr : ∀ b ∈ L, b ≠ rd → f43 b = f b := fun b hb h0 => (congrFun e_f43 b).trans (z_up_ne h0 (hfr b hb h0))
              refine lv_goto (tgt := 151) hx hb dX5_step_207 (by decide) ?_
              exact ih_151 _ (by omega) _ _ _ ⟨w42, mn40, f43, rfl, (by first | decide | omega), (by first | decide | omega), hw, hf_rd, hf_tp, hf_tb, hfr, (lv_sub hl [0, 1, 2] rfl)⟩
            · skip
              refine z_if_eq (tgt := 240) hx hb (show (0 : Int32).toInt = 0 by decide) dX5_step_168 (by decide) (fun _ => ?_) (fun h => absurd h (by decide))
              exact z_vret hx hb hr hlk (by decide) (by decide) hw (⟨hsub, hfr, 2, NX5, NX29, RV30, hf_rd, by omega, by omega⟩) dX5_step_240
        · skip
          refine z_if_eq (tgt := 210) hx hb (show (0 : Int32).toInt = 0 by decide) dX5_step_138 (by decide) (fun _ => ?_) (fun h => absurd h (by decide))
          refine lv_aload_n hx hb dX5_step_210 rfl (lv_at hl 2 rfl) ?_
          refine lv_aload_n hx hb dX5_step_211 rfl (lv_at hl 1 rfl) ?_
          refine lv_aload_n hx hb dX5_step_212 rfl (lv_at hl 2 rfl) ?_
          refine z_get (C := RX5) (T := TX5) (N := 9) (ci := 5) (v := .int NX5) hx hb hT zin_X5 hown hK hw hm_rd hf_rd rfl 6 (by decide) (hT _ kw_285) rfl dX5_step_213 ?_
          refine z_bald hx hb hK hw 0 hm_tb hf_tb rfl (z_ix rfl (by omega)) dX5_step_216 ?_
          refine lv_topi (fun w44 e_w44 => ?_)
          refine lv_bipush (v := 59) hx hb dX5_step_217 (by decide) ?_
          refine z_icmp_ne (tgt := 226) hx hb rfl (show (59 : Int32).toInt = 59 by decide) dX5_step_219 (by decide) (fun c45 => ?_) (fun c45 => ?_)
          · skip
            refine lv_iconst (v := 4) hx hb dX5_step_226 (by decide) ?_
            refine z_put (C := RX5) (T := TX5) (N := 9) (ci := 5) (v := .int 4) (fs' := [.int fa, .int fp, .ref tp, .ref mo, .int ot_, .int 4, .int NX5, .int NX5, .int rv]) hx hb hT zin_X5 tyX5_ok nmX5 hown hK hw hm_rd hf_rd rfl 5 (by decide) (hT _ kw_284) rfl rfl rfl (Nat.le_of_ble_eq_true rfl) rfl dX5_step_227 (fun H locs hw => ?_)
            obtain ⟨f46, e_f46⟩ : ∃ z, z = va_up f7 rd (.inr (5, [.int fa, .int fp, .ref tp, .ref mo, .int ot_, .int 4, .int NX5, .int NX5, .int rv])) := ⟨_, rfl⟩
            rw [← e_f46] at hw
            have hf_tp : f46 tp = .inr (7, [.ref tb, .int tl]) := (congrFun e_f46 tp).trans (z_up_ne (z_tne hf_tp hf_rd (m := 7) (n := 5) rfl rfl (by decide)) hf_tp)
            have hf_tb : f46 tb = .inl (cy 0, 1600, .inl gt) := (congrFun e_f46 tb).trans (z_up_ne (z_tne hf_tb hf_rd (m := 12900) (n := 5) rfl rfl (by decide)) hf_tb)
            have hf_rd : f46 rd = .inr (5, [.int fa, .int fp, .ref tp, .ref mo, .int ot_, .int 4, .int NX5, .int NX5, .int rv]) := (congrFun e_f46 rd).trans z_up_self
            have hfr : ∀ b ∈ L, b ≠ rd → f46 b = f b := fun b hb h0 => (congrFun e_f46 b).trans (z_up_ne h0 (hfr b hb h0))
            refine lv_aload_n hx hb dX5_step_230 rfl (lv_at hl 2 rfl) ?_
            refine lv_dup hx hb dX5_step_231 rfl ?_
            refine z_get (C := RX5) (T := TX5) (N := 9) (ci := 5) (v := .int NX5) hx hb hT zin_X5 hown hK hw hm_rd hf_rd rfl 7 (by decide) (hT _ kw_286) rfl dX5_step_232 ?_
            refine lv_iconst (v := 1) hx hb dX5_step_235 (by decide) ?_
            refine lv_iadd hx hb dX5_step_236 ?_
            refine lv_topi (fun w47 e_w47 => ?_)
            have i_w47 : w47.toInt = (NX5.toInt + 1) := z_add e_w47 rfl (show (1 : Int32).toInt = 1 by decide) (by omega)
            refine z_put (C := RX5) (T := TX5) (N := 9) (ci := 5) (v := .int w47) (fs' := [.int fa, .int fp, .ref tp, .ref mo, .int ot_, .int 4, .int NX5, .int w47, .int rv]) hx hb hT zin_X5 tyX5_ok nmX5 hown hK hw hm_rd hf_rd rfl 7 (by decide) (hT _ kw_286) rfl rfl rfl (Nat.le_of_ble_eq_true rfl) rfl dX5_step_237 (fun H locs hw => ?_)
            obtain ⟨f48, e_f48⟩ : ∃ z, z = va_up f46 rd (.inr (5, [.int fa, .int fp, .ref tp, .ref mo, .int ot_, .int 4, .int NX5, .int w47, .int rv])) := ⟨_, rfl⟩
            rw [← e_f48] at hw
            have hf_tp : f48 tp = .inr (7, [.ref tb, .int tl]) := (congrFun e_f48 tp).trans (z_up_ne (z_tne hf_tp hf_rd (m := 7) (n := 5) rfl rfl (by decide)) hf_tp)
            have hf_tb : f48 tb = .inl (cy 0, 1600, .inl gt) := (congrFun e_f48 tb).trans (z_up_ne (z_tne hf_tb hf_rd (m := 12900) (n := 5) rfl rfl (by decide)) hf_tb)
            have hf_rd : f48 rd = .inr (5, [.int fa, .int fp, .ref tp, .ref mo, .int ot_, .int 4, .int NX5, .int w47, .int rv]) := (congrFun e_f48 rd).trans z_up_self
            have hfr : ∀ b ∈ L, b ≠ rd → f48 b = f b := fun b hb h0 => (congrFun e_f48 b).trans (z_up_ne h0 (hfr b hb h0))
            exact z_vret hx hb hr hlk (by decide) (by decide) hw (⟨hsub, hfr, 4, NX5, w47, rv, hf_rd, by omega, by omega⟩) dX5_step_240
          · skip
            refine lv_iconst (v := 3) hx hb dX5_step_222 (by decide) ?_
            refine lv_goto (tgt := 227) hx hb dX5_step_223 (by decide) ?_
            refine z_put (C := RX5) (T := TX5) (N := 9) (ci := 5) (v := .int 3) (fs' := [.int fa, .int fp, .ref tp, .ref mo, .int ot_, .int 3, .int NX5, .int NX5, .int rv]) hx hb hT zin_X5 tyX5_ok nmX5 hown hK hw hm_rd hf_rd rfl 5 (by decide) (hT _ kw_284) rfl rfl rfl (Nat.le_of_ble_eq_true rfl) rfl dX5_step_227 (fun H locs hw => ?_)
            obtain ⟨f49, e_f49⟩ : ∃ z, z = va_up f7 rd (.inr (5, [.int fa, .int fp, .ref tp, .ref mo, .int ot_, .int 3, .int NX5, .int NX5, .int rv])) := ⟨_, rfl⟩
            rw [← e_f49] at hw
            have hf_tp : f49 tp = .inr (7, [.ref tb, .int tl]) := (congrFun e_f49 tp).trans (z_up_ne (z_tne hf_tp hf_rd (m := 7) (n := 5) rfl rfl (by decide)) hf_tp)
            have hf_tb : f49 tb = .inl (cy 0, 1600, .inl gt) := (congrFun e_f49 tb).trans (z_up_ne (z_tne hf_tb hf_rd (m := 12900) (n := 5) rfl rfl (by decide)) hf_tb)
            have hf_rd : f49 rd = .inr (5, [.int fa, .int fp, .ref tp, .ref mo, .int ot_, .int 3, .int NX5, .int NX5, .int rv]) := (congrFun e_f49 rd).trans z_up_self
            have hfr : ∀ b ∈ L, b ≠ rd → f49 b = f b := fun b hb h0 => (congrFun e_f49 b).trans (z_up_ne h0 (hfr b hb h0))
            refine lv_aload_n hx hb dX5_step_230 rfl (lv_at hl 2 rfl) ?_
            refine lv_dup hx hb dX5_step_231 rfl ?_
            refine z_get (C := RX5) (T := TX5) (N := 9) (ci := 5) (v := .int NX5) hx hb hT zin_X5 hown hK hw hm_rd hf_rd rfl 7 (by decide) (hT _ kw_286) rfl dX5_step_232 ?_
            refine lv_iconst (v := 1) hx hb dX5_step_235 (by decide) ?_
            refine lv_iadd hx hb dX5_step_236 ?_
            refine lv_topi (fun w50 e_w50 => ?_)
            have i_w50 : w50.toInt = (NX5.toInt + 1) := z_add e_w50 rfl (show (1 : Int32).toInt = 1 by decide) (by omega)
            refine z_put (C := RX5) (T := TX5) (N := 9) (ci := 5) (v := .int w50) (fs' := [.int fa, .int fp, .ref tp, .ref mo, .int ot_, .int 3, .int NX5, .int w50, .int rv]) hx hb hT zin_X5 tyX5_ok nmX5 hown hK hw hm_rd hf_rd rfl 7 (by decide) (hT _ kw_286) rfl rfl rfl (Nat.le_of_ble_eq_true rfl) rfl dX5_step_237 (fun H locs hw => ?_)
            obtain ⟨f51, e_f51⟩ : ∃ z, z = va_up f49 rd (.inr (5, [.int fa, .int fp, .ref tp, .ref mo, .int ot_, .int 3, .int NX5, .int w50, .int rv])) := ⟨_, rfl⟩
            rw [← e_f51] at hw
            have hf_tp : f51 tp = .inr (7, [.ref tb, .int tl]) := (congrFun e_f51 tp).trans (z_up_ne (z_tne hf_tp hf_rd (m := 7) (n := 5) rfl rfl (by decide)) hf_tp)
            have hf_tb : f51 tb = .inl (cy 0, 1600, .inl gt) := (congrFun e_f51 tb).trans (z_up_ne (z_tne hf_tb hf_rd (m := 12900) (n := 5) rfl rfl (by decide)) hf_tb)
            have hf_rd : f51 rd = .inr (5, [.int fa, .int fp, .ref tp, .ref mo, .int ot_, .int 3, .int NX5, .int w50, .int rv]) := (congrFun e_f51 rd).trans z_up_self
            have hfr : ∀ b ∈ L, b ≠ rd → f51 b = f b := fun b hb h0 => (congrFun e_f51 b).trans (z_up_ne h0 (hfr b hb h0))
            exact z_vret hx hb hr hlk (by decide) (by decide) hw (⟨hsub, hfr, 3, NX5, w50, rv, hf_rd, by omega, by omega⟩) dX5_step_240
    · skip
      refine lv_aload_n hx hb dX5_step_71 rfl (lv_at hl 2 rfl) ?_
      refine lv_iconst (v := 0) hx hb dX5_step_72 (by decide) ?_
      refine z_put (C := RX5) (T := TX5) (N := 9) (ci := 5) (v := .int 0) (fs' := [.int fa, .int fp, .ref tp, .ref mo, .int ot_, .int 0, .int NX5, .int NX5, .int rv]) hx hb hT zin_X5 tyX5_ok nmX5 hown hK hw hm_rd hf_rd rfl 5 (by decide) (hT _ kw_284) rfl rfl rfl (Nat.le_of_ble_eq_true rfl) rfl dX5_step_73 (fun H locs hw => ?_)
      obtain ⟨f52, e_f52⟩ : ∃ z, z = va_up f7 rd (.inr (5, [.int fa, .int fp, .ref tp, .ref mo, .int ot_, .int 0, .int NX5, .int NX5, .int rv])) := ⟨_, rfl⟩
      rw [← e_f52] at hw
      have hf_tp : f52 tp = .inr (7, [.ref tb, .int tl]) := (congrFun e_f52 tp).trans (z_up_ne (z_tne hf_tp hf_rd (m := 7) (n := 5) rfl rfl (by decide)) hf_tp)
      have hf_tb : f52 tb = .inl (cy 0, 1600, .inl gt) := (congrFun e_f52 tb).trans (z_up_ne (z_tne hf_tb hf_rd (m := 12900) (n := 5) rfl rfl (by decide)) hf_tb)
      have hf_rd : f52 rd = .inr (5, [.int fa, .int fp, .ref tp, .ref mo, .int ot_, .int 0, .int NX5, .int NX5, .int rv]) := (congrFun e_f52 rd).trans z_up_self
      have hfr : ∀ b ∈ L, b ≠ rd → f52 b = f b := fun b hb h0 => (congrFun e_f52 b).trans (z_up_ne h0 (hfr b hb h0))
      refine lv_goto (tgt := 240) hx hb dX5_step_76 (by decide) ?_
      exact z_vret hx hb hr hlk (by decide) (by decide) hw (⟨hsub, hfr, 0, NX5, NX5, rv, hf_rd, by omega, by omega⟩) dX5_step_240
  · skip
    refine lv_aload_n hx hb dX5_step_30 rfl (lv_at hl 1 rfl) ?_
    refine lv_aload_n hx hb dX5_step_31 rfl (lv_at hl 2 rfl) ?_
    refine z_get (C := RX5) (T := TX5) (N := 9) (ci := 5) (v := .int NX5) hx hb hT zin_X5 hown hK hw hm_rd hf_rd rfl 7 (by decide) (hT _ kw_286) rfl dX5_step_32 ?_
    refine z_bald hx hb hK hw 0 hm_tb hf_tb rfl (z_ix rfl (by omega)) dX5_step_35 ?_
    refine lv_topi (fun w53 e_w53 => ?_)
    refine z_calliS (cells := 0) (slots := 0) (As := [.int w53]) (rest := []) ⟨hx, hb, hml, hown, hT⟩ (c_X5_isBlank l ) (va_cwS 1 hT (z_goodS (fun _ h => h) kw_543 kw_544 kw_89 kw_545) rfl rfl rfl (by decide +kernel) ⟨by decide, by decide⟩) z_mv hKK hw hA rfl hl.1 rfl (Nat.le_of_ble_eq_true rfl) dX5_step_36 ⟨by decide, by decide⟩ (fun r54 u H locs hp hw => ?_)
    obtain ⟨rfl, hp⟩ := hp
    have hw : z_H D vwCl (z_A L sz) s.heap L f4 H locs := hw
    rcases hp with ⟨rfl, h55⟩ | ⟨rfl, h55⟩
    · skip
      refine z_if_eq (tgt := 55) hx hb (show (1 : Int32).toInt = 1 by decide) dX5_step_39 (by decide) (fun h => absurd h (by decide)) (fun _ => ?_)
      refine lv_aload_n hx hb dX5_step_42 rfl (lv_at hl 2 rfl) ?_
      refine lv_dup hx hb dX5_step_43 rfl ?_
      refine z_get (C := RX5) (T := TX5) (N := 9) (ci := 5) (v := .int NX5) hx hb hT zin_X5 hown hK hw hm_rd hf_rd rfl 7 (by decide) (hT _ kw_286) rfl dX5_step_44 ?_
      refine lv_iconst (v := 1) hx hb dX5_step_47 (by decide) ?_
      refine lv_iadd hx hb dX5_step_48 ?_
      refine lv_topi (fun w56 e_w56 => ?_)
      have i_w56 : w56.toInt = (NX5.toInt + 1) := z_add e_w56 rfl (show (1 : Int32).toInt = 1 by decide) (by omega)
      refine z_put (C := RX5) (T := TX5) (N := 9) (ci := 5) (v := .int w56) (fs' := [.int fa, .int fp, .ref tp, .ref mo, .int ot_, .int ki, .int ra, .int w56, .int rv]) hx hb hT zin_X5 tyX5_ok nmX5 hown hK hw hm_rd hf_rd rfl 7 (by decide) (hT _ kw_286) rfl rfl rfl (Nat.le_of_ble_eq_true rfl) rfl dX5_step_49 (fun H locs hw => ?_)
      obtain ⟨f57, e_f57⟩ : ∃ z, z = va_up f4 rd (.inr (5, [.int fa, .int fp, .ref tp, .ref mo, .int ot_, .int ki, .int ra, .int w56, .int rv])) := ⟨_, rfl⟩
      rw [← e_f57] at hw
      have hf_tp : f57 tp = .inr (7, [.ref tb, .int tl]) := (congrFun e_f57 tp).trans (z_up_ne (z_tne hf_tp hf_rd (m := 7) (n := 5) rfl rfl (by decide)) hf_tp)
      have hf_tb : f57 tb = .inl (cy 0, 1600, .inl gt) := (congrFun e_f57 tb).trans (z_up_ne (z_tne hf_tb hf_rd (m := 12900) (n := 5) rfl rfl (by decide)) hf_tb)
      have hf_rd : f57 rd = .inr (5, [.int fa, .int fp, .ref tp, .ref mo, .int ot_, .int ki, .int ra, .int w56, .int rv]) := (congrFun e_f57 rd).trans z_up_self
      have hfr : ∀ b ∈ L, b ≠ rd → f57 b = f b := fun b hb h0 => (congrFun e_f57 b).trans (z_up_ne h0 (hfr b hb h0))
      refine lv_goto (tgt := 22) hx hb dX5_step_52 (by decide) ?_
      exact ih_22 _ (by omega) _ _ _ ⟨w56, f57, rfl, (by first | decide | omega), (by first | decide | omega), hw, hf_rd, hf_tp, hf_tb, hfr, (lv_sub hl [0, 1, 2] rfl)⟩
    · skip
      refine z_if_eq (tgt := 55) hx hb (show (0 : Int32).toInt = 0 by decide) dX5_step_39 (by decide) (fun _ => ?_) (fun h => absurd h (by decide))
      refine lv_aload_n hx hb dX5_step_55 rfl (lv_at hl 2 rfl) ?_
      refine lv_aload_n hx hb dX5_step_56 rfl (lv_at hl 2 rfl) ?_
      refine z_get (C := RX5) (T := TX5) (N := 9) (ci := 5) (v := .int NX5) hx hb hT zin_X5 hown hK hw hm_rd hf_rd rfl 7 (by decide) (hT _ kw_286) rfl dX5_step_57 ?_
      refine z_put (C := RX5) (T := TX5) (N := 9) (ci := 5) (v := .int NX5) (fs' := [.int fa, .int fp, .ref tp, .ref mo, .int ot_, .int ki, .int NX5, .int NX5, .int rv]) hx hb hT zin_X5 tyX5_ok nmX5 hown hK hw hm_rd hf_rd rfl 6 (by decide) (hT _ kw_285) rfl rfl rfl (Nat.le_of_ble_eq_true rfl) rfl dX5_step_60 (fun H locs hw => ?_)
      obtain ⟨f58, e_f58⟩ : ∃ z, z = va_up f4 rd (.inr (5, [.int fa, .int fp, .ref tp, .ref mo, .int ot_, .int ki, .int NX5, .int NX5, .int rv])) := ⟨_, rfl⟩
      rw [← e_f58] at hw
      have hf_tp : f58 tp = .inr (7, [.ref tb, .int tl]) := (congrFun e_f58 tp).trans (z_up_ne (z_tne hf_tp hf_rd (m := 7) (n := 5) rfl rfl (by decide)) hf_tp)
      have hf_tb : f58 tb = .inl (cy 0, 1600, .inl gt) := (congrFun e_f58 tb).trans (z_up_ne (z_tne hf_tb hf_rd (m := 12900) (n := 5) rfl rfl (by decide)) hf_tb)
      have hf_rd : f58 rd = .inr (5, [.int fa, .int fp, .ref tp, .ref mo, .int ot_, .int ki, .int NX5, .int NX5, .int rv]) := (congrFun e_f58 rd).trans z_up_self
      have hfr : ∀ b ∈ L, b ≠ rd → f58 b = f b := fun b hb h0 => (congrFun e_f58 b).trans (z_up_ne h0 (hfr b hb h0))
      refine lv_aload_n hx hb dX5_step_63 rfl (lv_at hl 2 rfl) ?_
      refine z_get (C := RX5) (T := TX5) (N := 9) (ci := 5) (v := .int NX5) hx hb hT zin_X5 hown hK hw hm_rd hf_rd rfl 6 (by decide) (hT _ kw_285) rfl dX5_step_64 ?_
      refine lv_iload_n hx hb dX5_step_67 rfl (lv_at hl 0 rfl) ?_
      refine z_icmp_lt (tgt := 79) hx hb rfl rfl dX5_step_68 (by decide) (fun c59 => ?_) (fun c59 => ?_)
      · skip
        refine lv_aload_n hx hb dX5_step_79 rfl (lv_at hl 1 rfl) ?_
        refine lv_aload_n hx hb dX5_step_80 rfl (lv_at hl 2 rfl) ?_
        refine z_get (C := RX5) (T := TX5) (N := 9) (ci := 5) (v := .int NX5) hx hb hT zin_X5 hown hK hw hm_rd hf_rd rfl 6 (by decide) (hT _ kw_285) rfl dX5_step_81 ?_
        refine z_bald hx hb hK hw 0 hm_tb hf_tb rfl (z_ix rfl (by omega)) dX5_step_84 ?_
        refine lv_topi (fun w60 e_w60 => ?_)
        refine z_calliS (cells := 0) (slots := 0) (As := [.int w60]) (rest := []) ⟨hx, hb, hml, hown, hT⟩ (c_X5_isLetter l ) (va_cwS 1 hT (z_goodS (fun _ h => h) kw_546 kw_547 kw_89 kw_548) rfl rfl rfl (by decide +kernel) ⟨by decide, by decide⟩) z_mv hKK hw hA rfl hl.1 rfl (Nat.le_of_ble_eq_true rfl) dX5_step_85 ⟨by decide, by decide⟩ (fun r61 u H locs hp hw => ?_)
        obtain ⟨rfl, hp⟩ := hp
        have hw : z_H D vwCl (z_A L sz) s.heap L f58 H locs := hw
        rcases hp with ⟨rfl, h62⟩ | ⟨rfl, h62⟩
        · skip
          refine z_if_eq (tgt := 129) hx hb (show (1 : Int32).toInt = 1 by decide) dX5_step_88 (by decide) (fun h => absurd h (by decide)) (fun _ => ?_)
          refine lv_aload_n hx hb dX5_step_91 rfl (lv_at hl 2 rfl) ?_
          refine lv_iconst (v := 1) hx hb dX5_step_92 (by decide) ?_
          refine z_put (C := RX5) (T := TX5) (N := 9) (ci := 5) (v := .int 1) (fs' := [.int fa, .int fp, .ref tp, .ref mo, .int ot_, .int 1, .int NX5, .int NX5, .int rv]) hx hb hT zin_X5 tyX5_ok nmX5 hown hK hw hm_rd hf_rd rfl 5 (by decide) (hT _ kw_284) rfl rfl rfl (Nat.le_of_ble_eq_true rfl) rfl dX5_step_93 (fun H locs hw => ?_)
          obtain ⟨f63, e_f63⟩ : ∃ z, z = va_up f58 rd (.inr (5, [.int fa, .int fp, .ref tp, .ref mo, .int ot_, .int 1, .int NX5, .int NX5, .int rv])) := ⟨_, rfl⟩
          rw [← e_f63] at hw
          have hf_tp : f63 tp = .inr (7, [.ref tb, .int tl]) := (congrFun e_f63 tp).trans (z_up_ne (z_tne hf_tp hf_rd (m := 7) (n := 5) rfl rfl (by decide)) hf_tp)
          have hf_tb : f63 tb = .inl (cy 0, 1600, .inl gt) := (congrFun e_f63 tb).trans (z_up_ne (z_tne hf_tb hf_rd (m := 12900) (n := 5) rfl rfl (by decide)) hf_tb)
          have hf_rd : f63 rd = .inr (5, [.int fa, .int fp, .ref tp, .ref mo, .int ot_, .int 1, .int NX5, .int NX5, .int rv]) := (congrFun e_f63 rd).trans z_up_self
          have hfr : ∀ b ∈ L, b ≠ rd → f63 b = f b := fun b hb h0 => (congrFun e_f63 b).trans (z_up_ne h0 (hfr b hb h0))
          refine z_loop (fun n H locs ls => ∃  (NX66 : Int32) (f65 : Nat → va_E), (n = (1600 - NX66.toInt).toNat) ∧ (0 ≤ NX66.toInt) ∧ (NX66.toInt ≤ 1600) ∧ (z_H D vwCl (z_A L sz) s.heap L f65 H locs) ∧ (f65 rd = .inr (5, [.int fa, .int fp, .ref tp, .ref mo, .int ot_, .int 1, .int NX5, .int NX66, .int rv])) ∧ (f65 tp = .inr (7, [.ref tb, .int tl])) ∧ (f65 tb = .inl (cy 0, 1600, .inl gt)) ∧ (∀ b ∈ L, b ≠ rd → f65 b = f b) ∧ (lv_has ls 3 [(2, .int mn2), (1, .ref tb), (0, .ref rd)])) _ ⟨NX5, f63, rfl, (by first | decide | omega), (by first | decide | omega), hw, hf_rd, hf_tp, hf_tb, hfr, (lv_sub hl [0, 1, 2] rfl)⟩ (fun n H locs ls hI ih_96 => ?_)
          obtain ⟨NX66, f65, hn, hk0, hk1, hw, hf_rd, hf_tp, hf_tb, hfr, hl⟩ := hI
          refine lv_aload_n hx hb dX5_step_96 rfl (lv_at hl 2 rfl) ?_
          refine z_get (C := RX5) (T := TX5) (N := 9) (ci := 5) (v := .int NX66) hx hb hT zin_X5 hown hK hw hm_rd hf_rd rfl 7 (by decide) (hT _ kw_286) rfl dX5_step_97 ?_
          refine lv_iload_n hx hb dX5_step_100 rfl (lv_at hl 0 rfl) ?_
          refine z_icmp_ge (tgt := 240) hx hb rfl rfl dX5_step_101 (by decide) (fun c67 => ?_) (fun c67 => ?_)
          · skip
            exact z_vret hx hb hr hlk (by decide) (by decide) hw (⟨hsub, hfr, 1, NX5, NX66, rv, hf_rd, by omega, by omega⟩) dX5_step_240
          · skip
            refine lv_aload_n hx hb dX5_step_104 rfl (lv_at hl 1 rfl) ?_
            refine lv_aload_n hx hb dX5_step_105 rfl (lv_at hl 2 rfl) ?_
            refine z_get (C := RX5) (T := TX5) (N := 9) (ci := 5) (v := .int NX66) hx hb hT zin_X5 hown hK hw hm_rd hf_rd rfl 7 (by decide) (hT _ kw_286) rfl dX5_step_106 ?_
            refine z_bald hx hb hK hw 0 hm_tb hf_tb rfl (z_ix rfl (by omega)) dX5_step_109 ?_
            refine lv_topi (fun w68 e_w68 => ?_)
            refine z_calliS (cells := 0) (slots := 0) (As := [.int w68]) (rest := []) ⟨hx, hb, hml, hown, hT⟩ (c_X5_isLetter l ) (va_cwS 1 hT (z_goodS (fun _ h => h) kw_546 kw_547 kw_89 kw_548) rfl rfl rfl (by decide +kernel) ⟨by decide, by decide⟩) z_mv hKK hw hA rfl hl.1 rfl (Nat.le_of_ble_eq_true rfl) dX5_step_110 ⟨by decide, by decide⟩ (fun r69 u H locs hp hw => ?_)
            obtain ⟨rfl, hp⟩ := hp
            have hw : z_H D vwCl (z_A L sz) s.heap L f65 H locs := hw
            rcases hp with ⟨rfl, h70⟩ | ⟨rfl, h70⟩
            · skip
              refine z_if_eq (tgt := 240) hx hb (show (1 : Int32).toInt = 1 by decide) dX5_step_113 (by decide) (fun h => absurd h (by decide)) (fun _ => ?_)
              refine lv_aload_n hx hb dX5_step_116 rfl (lv_at hl 2 rfl) ?_
              refine lv_dup hx hb dX5_step_117 rfl ?_
              refine z_get (C := RX5) (T := TX5) (N := 9) (ci := 5) (v := .int NX66) hx hb hT zin_X5 hown hK hw hm_rd hf_rd rfl 7 (by decide) (hT _ kw_286) rfl dX5_step_118 ?_
              refine lv_iconst (v := 1) hx hb dX5_step_121 (by decide) ?_
              refine lv_iadd hx hb dX5_step_122 ?_
              refine lv_topi (fun w71 e_w71 => ?_)
              have i_w71 : w71.toInt = (NX66.toInt + 1) := z_add e_w71 rfl (show (1 : Int32).toInt = 1 by decide) (by omega)
              refine z_put (C := RX5) (T := TX5) (N := 9) (ci := 5) (v := .int w71) (fs' := [.int fa, .int fp, .ref tp, .ref mo, .int ot_, .int 1, .int NX5, .int w71, .int rv]) hx hb hT zin_X5 tyX5_ok nmX5 hown hK hw hm_rd hf_rd rfl 7 (by decide) (hT _ kw_286) rfl rfl rfl (Nat.le_of_ble_eq_true rfl) rfl dX5_step_123 (fun H locs hw => ?_)
              obtain ⟨f72, e_f72⟩ : ∃ z, z = va_up f65 rd (.inr (5, [.int fa, .int fp, .ref tp, .ref mo, .int ot_, .int 1, .int NX5, .int w71, .int rv])) := ⟨_, rfl⟩
              rw [← e_f72] at hw
              have hf_tp : f72 tp = .inr (7, [.ref tb, .int tl]) := (congrFun e_f72 tp).trans (z_up_ne (z_tne hf_tp hf_rd (m := 7) (n := 5) rfl rfl (by decide)) hf_tp)
              have hf_tb : f72 tb = .inl (cy 0, 1600, .inl gt) := (congrFun e_f72 tb).trans (z_up_ne (z_tne hf_tb hf_rd (m := 12900) (n := 5) rfl rfl (by decide)) hf_tb)
              have hf_rd : f72 rd = .inr (5, [.int fa, .int fp, .ref tp, .ref mo, .int ot_, .int 1, .int NX5, .int w71, .int rv]) := (congrFun e_f72 rd).trans z_up_self
              have hfr : ∀ b ∈ L, b ≠ rd → f72 b = f b := fun b hb h0 => (congrFun e_f72 b).trans (z_up_ne h0 (hfr b hb h0))
              refine lv_goto (tgt := 96) hx hb dX5_step_126 (by decide) ?_
              exact ih_96 _ (by omega) _ _ _ ⟨w71, f72, rfl, (by first | decide | omega), (by first | decide | omega), hw, hf_rd, hf_tp, hf_tb, hfr, (lv_sub hl [0, 1, 2] rfl)⟩
            · skip
              refine z_if_eq (tgt := 240) hx hb (show (0 : Int32).toInt = 0 by decide) dX5_step_113 (by decide) (fun _ => ?_) (fun h => absurd h (by decide))
              exact z_vret hx hb hr hlk (by decide) (by decide) hw (⟨hsub, hfr, 1, NX5, NX66, rv, hf_rd, by omega, by omega⟩) dX5_step_240
        · skip
          refine z_if_eq (tgt := 129) hx hb (show (0 : Int32).toInt = 0 by decide) dX5_step_88 (by decide) (fun _ => ?_) (fun h => absurd h (by decide))
          refine lv_aload_n hx hb dX5_step_129 rfl (lv_at hl 1 rfl) ?_
          refine lv_aload_n hx hb dX5_step_130 rfl (lv_at hl 2 rfl) ?_
          refine z_get (C := RX5) (T := TX5) (N := 9) (ci := 5) (v := .int NX5) hx hb hT zin_X5 hown hK hw hm_rd hf_rd rfl 6 (by decide) (hT _ kw_285) rfl dX5_step_131 ?_
          refine z_bald hx hb hK hw 0 hm_tb hf_tb rfl (z_ix rfl (by omega)) dX5_step_134 ?_
          refine lv_topi (fun w73 e_w73 => ?_)
          refine z_calliS (cells := 0) (slots := 0) (As := [.int w73]) (rest := []) ⟨hx, hb, hml, hown, hT⟩ (c_X5_isDigit l ) (va_cwS 1 hT (z_goodS (fun _ h => h) kw_549 kw_550 kw_89 kw_551) rfl rfl rfl (by decide +kernel) ⟨by decide, by decide⟩) z_mv hKK hw hA rfl hl.1 rfl (Nat.le_of_ble_eq_true rfl) dX5_step_135 ⟨by decide, by decide⟩ (fun r74 u H locs hp hw => ?_)
          obtain ⟨rfl, hp⟩ := hp
          have hw : z_H D vwCl (z_A L sz) s.heap L f58 H locs := hw
          rcases hp with ⟨rfl, h75⟩ | ⟨rfl, h75⟩
          · skip
            refine z_if_eq (tgt := 210) hx hb (show (1 : Int32).toInt = 1 by decide) dX5_step_138 (by decide) (fun h => absurd h (by decide)) (fun _ => ?_)
            refine lv_aload_n hx hb dX5_step_141 rfl (lv_at hl 2 rfl) ?_
            refine lv_iconst (v := 2) hx hb dX5_step_142 (by decide) ?_
            refine z_put (C := RX5) (T := TX5) (N := 9) (ci := 5) (v := .int 2) (fs' := [.int fa, .int fp, .ref tp, .ref mo, .int ot_, .int 2, .int NX5, .int NX5, .int rv]) hx hb hT zin_X5 tyX5_ok nmX5 hown hK hw hm_rd hf_rd rfl 5 (by decide) (hT _ kw_284) rfl rfl rfl (Nat.le_of_ble_eq_true rfl) rfl dX5_step_143 (fun H locs hw => ?_)
            obtain ⟨f76, e_f76⟩ : ∃ z, z = va_up f58 rd (.inr (5, [.int fa, .int fp, .ref tp, .ref mo, .int ot_, .int 2, .int NX5, .int NX5, .int rv])) := ⟨_, rfl⟩
            rw [← e_f76] at hw
            have hf_tp : f76 tp = .inr (7, [.ref tb, .int tl]) := (congrFun e_f76 tp).trans (z_up_ne (z_tne hf_tp hf_rd (m := 7) (n := 5) rfl rfl (by decide)) hf_tp)
            have hf_tb : f76 tb = .inl (cy 0, 1600, .inl gt) := (congrFun e_f76 tb).trans (z_up_ne (z_tne hf_tb hf_rd (m := 12900) (n := 5) rfl rfl (by decide)) hf_tb)
            have hf_rd : f76 rd = .inr (5, [.int fa, .int fp, .ref tp, .ref mo, .int ot_, .int 2, .int NX5, .int NX5, .int rv]) := (congrFun e_f76 rd).trans z_up_self
            have hfr : ∀ b ∈ L, b ≠ rd → f76 b = f b := fun b hb h0 => (congrFun e_f76 b).trans (z_up_ne h0 (hfr b hb h0))
            refine lv_aload_n hx hb dX5_step_146 rfl (lv_at hl 2 rfl) ?_
            refine lv_iconst (v := 0) hx hb dX5_step_147 (by decide) ?_
            refine z_put (C := RX5) (T := TX5) (N := 9) (ci := 5) (v := .int 0) (fs' := [.int fa, .int fp, .ref tp, .ref mo, .int ot_, .int 2, .int NX5, .int NX5, .int 0]) hx hb hT zin_X5 tyX5_ok nmX5 hown hK hw hm_rd hf_rd rfl 8 (by decide) (hT _ kw_287) rfl rfl rfl (Nat.le_of_ble_eq_true rfl) rfl dX5_step_148 (fun H locs hw => ?_)
            obtain ⟨f77, e_f77⟩ : ∃ z, z = va_up f76 rd (.inr (5, [.int fa, .int fp, .ref tp, .ref mo, .int ot_, .int 2, .int NX5, .int NX5, .int 0])) := ⟨_, rfl⟩
            rw [← e_f77] at hw
            have hf_tp : f77 tp = .inr (7, [.ref tb, .int tl]) := (congrFun e_f77 tp).trans (z_up_ne (z_tne hf_tp hf_rd (m := 7) (n := 5) rfl rfl (by decide)) hf_tp)
            have hf_tb : f77 tb = .inl (cy 0, 1600, .inl gt) := (congrFun e_f77 tb).trans (z_up_ne (z_tne hf_tb hf_rd (m := 12900) (n := 5) rfl rfl (by decide)) hf_tb)
            have hf_rd : f77 rd = .inr (5, [.int fa, .int fp, .ref tp, .ref mo, .int ot_, .int 2, .int NX5, .int NX5, .int 0]) := (congrFun e_f77 rd).trans z_up_self
            have hfr : ∀ b ∈ L, b ≠ rd → f77 b = f b := fun b hb h0 => (congrFun e_f77 b).trans (z_up_ne h0 (hfr b hb h0))
            refine z_loop (fun n H locs ls => ∃  (NX80 : Int32) (RV81 : Int32) (f79 : Nat → va_E), (n = (1600 - NX80.toInt).toNat) ∧ (0 ≤ NX80.toInt) ∧ (NX80.toInt ≤ 1600) ∧ (z_H D vwCl (z_A L sz) s.heap L f79 H locs) ∧ (f79 rd = .inr (5, [.int fa, .int fp, .ref tp, .ref mo, .int ot_, .int 2, .int NX5, .int NX80, .int RV81])) ∧ (f79 tp = .inr (7, [.ref tb, .int tl])) ∧ (f79 tb = .inl (cy 0, 1600, .inl gt)) ∧ (∀ b ∈ L, b ≠ rd → f79 b = f b) ∧ (lv_has ls 3 [(2, .int mn2), (1, .ref tb), (0, .ref rd)])) _ ⟨NX5, 0, f77, rfl, (by first | decide | omega), (by first | decide | omega), hw, hf_rd, hf_tp, hf_tb, hfr, (lv_sub hl [0, 1, 2] rfl)⟩ (fun n H locs ls hI ih_151 => ?_)
            obtain ⟨NX80, RV81, f79, hn, hk0, hk1, hw, hf_rd, hf_tp, hf_tb, hfr, hl⟩ := hI
            refine lv_aload_n hx hb dX5_step_151 rfl (lv_at hl 2 rfl) ?_
            refine z_get (C := RX5) (T := TX5) (N := 9) (ci := 5) (v := .int NX80) hx hb hT zin_X5 hown hK hw hm_rd hf_rd rfl 7 (by decide) (hT _ kw_286) rfl dX5_step_152 ?_
            refine lv_iload_n hx hb dX5_step_155 rfl (lv_at hl 0 rfl) ?_
            refine z_icmp_ge (tgt := 240) hx hb rfl rfl dX5_step_156 (by decide) (fun c82 => ?_) (fun c82 => ?_)
            · skip
              exact z_vret hx hb hr hlk (by decide) (by decide) hw (⟨hsub, hfr, 2, NX5, NX80, RV81, hf_rd, by omega, by omega⟩) dX5_step_240
            · skip
              refine lv_aload_n hx hb dX5_step_159 rfl (lv_at hl 1 rfl) ?_
              refine lv_aload_n hx hb dX5_step_160 rfl (lv_at hl 2 rfl) ?_
              refine z_get (C := RX5) (T := TX5) (N := 9) (ci := 5) (v := .int NX80) hx hb hT zin_X5 hown hK hw hm_rd hf_rd rfl 7 (by decide) (hT _ kw_286) rfl dX5_step_161 ?_
              refine z_bald hx hb hK hw 0 hm_tb hf_tb rfl (z_ix rfl (by omega)) dX5_step_164 ?_
              refine lv_topi (fun w83 e_w83 => ?_)
              refine z_calliS (cells := 0) (slots := 0) (As := [.int w83]) (rest := []) ⟨hx, hb, hml, hown, hT⟩ (c_X5_isDigit l ) (va_cwS 1 hT (z_goodS (fun _ h => h) kw_549 kw_550 kw_89 kw_551) rfl rfl rfl (by decide +kernel) ⟨by decide, by decide⟩) z_mv hKK hw hA rfl hl.1 rfl (Nat.le_of_ble_eq_true rfl) dX5_step_165 ⟨by decide, by decide⟩ (fun r84 u H locs hp hw => ?_)
              obtain ⟨rfl, hp⟩ := hp
              have hw : z_H D vwCl (z_A L sz) s.heap L f79 H locs := hw
              rcases hp with ⟨rfl, h85⟩ | ⟨rfl, h85⟩
              · skip
                refine z_if_eq (tgt := 240) hx hb (show (1 : Int32).toInt = 1 by decide) dX5_step_168 (by decide) (fun h => absurd h (by decide)) (fun _ => ?_)
                refine lv_aload_n hx hb dX5_step_171 rfl (lv_at hl 2 rfl) ?_
                refine lv_ldc (v := 100000) hx hb hown (hT _ kw_552) dX5_step_172 ?_
                refine lv_bipush (v := 10) hx hb dX5_step_174 (by decide) ?_
                refine lv_aload_n hx hb dX5_step_176 rfl (lv_at hl 2 rfl) ?_
                refine z_get (C := RX5) (T := TX5) (N := 9) (ci := 5) (v := .int RV81) hx hb hT zin_X5 hown hK hw hm_rd hf_rd rfl 8 (by decide) (hT _ kw_287) rfl dX5_step_177 ?_
                refine lv_imul hx hb dX5_step_180 ?_
                refine lv_topi (fun w86 e_w86 => ?_)
                refine lv_aload_n hx hb dX5_step_181 rfl (lv_at hl 1 rfl) ?_
                refine lv_aload_n hx hb dX5_step_182 rfl (lv_at hl 2 rfl) ?_
                refine z_get (C := RX5) (T := TX5) (N := 9) (ci := 5) (v := .int NX80) hx hb hT zin_X5 hown hK hw hm_rd hf_rd rfl 7 (by decide) (hT _ kw_286) rfl dX5_step_183 ?_
                refine z_bald hx hb hK hw 0 hm_tb hf_tb rfl (z_ix rfl (by omega)) dX5_step_186 ?_
                refine lv_topi (fun w87 e_w87 => ?_)
                refine lv_iadd hx hb dX5_step_187 ?_
                refine lv_topi (fun w88 e_w88 => ?_)
                refine lv_bipush (v := 48) hx hb dX5_step_188 (by decide) ?_
                refine lv_isub hx hb dX5_step_190 ?_
                refine lv_topi (fun w89 e_w89 => ?_)
                have hz90 := (show (100000 : Int32).toInt = 100000 by decide)
                refine va_mmin hx hb (by rw [hml]; exact hl.1.symm) hown (hT _ km_l) (hT _ km_s) (hT _ km_i) (hT _ km_c) (by decide) (Nat.le_of_ble_eq_true rfl) (by decide) (by decide) dX5_step_191 ?_
                obtain ⟨mn91, e_mn91⟩ : ∃ z, z = (if (w89 : Int32) < 100000 then w89 else 100000) := ⟨_, rfl⟩
                refine z_lit (y := mn91) e_mn91.symm ?_
                have hx_mn91 := z_mnI e_mn91
                refine z_put (C := RX5) (T := TX5) (N := 9) (ci := 5) (v := .int mn91) (fs' := [.int fa, .int fp, .ref tp, .ref mo, .int ot_, .int 2, .int NX5, .int NX80, .int mn91]) hx hb hT zin_X5 tyX5_ok nmX5 hown hK hw hm_rd hf_rd rfl 8 (by decide) (hT _ kw_287) rfl rfl rfl (Nat.le_of_ble_eq_true rfl) rfl dX5_step_194 (fun H locs hw => ?_)
                obtain ⟨f92, e_f92⟩ : ∃ z, z = va_up f79 rd (.inr (5, [.int fa, .int fp, .ref tp, .ref mo, .int ot_, .int 2, .int NX5, .int NX80, .int mn91])) := ⟨_, rfl⟩
                rw [← e_f92] at hw
                have hf_tp : f92 tp = .inr (7, [.ref tb, .int tl]) := (congrFun e_f92 tp).trans (z_up_ne (z_tne hf_tp hf_rd (m := 7) (n := 5) rfl rfl (by decide)) hf_tp)
                have hf_tb : f92 tb = .inl (cy 0, 1600, .inl gt) := (congrFun e_f92 tb).trans (z_up_ne (z_tne hf_tb hf_rd (m := 12900) (n := 5) rfl rfl (by decide)) hf_tb)
                have hf_rd : f92 rd = .inr (5, [.int fa, .int fp, .ref tp, .ref mo, .int ot_, .int 2, .int NX5, .int NX80, .int mn91]) := (congrFun e_f92 rd).trans z_up_self
                have hfr : ∀ b ∈ L, b ≠ rd → f92 b = f b := fun b hb h0 => (congrFun e_f92 b).trans (z_up_ne h0 (hfr b hb h0))
                refine lv_aload_n hx hb dX5_step_197 rfl (lv_at hl 2 rfl) ?_
                refine lv_dup hx hb dX5_step_198 rfl ?_
                refine z_get (C := RX5) (T := TX5) (N := 9) (ci := 5) (v := .int NX80) hx hb hT zin_X5 hown hK hw hm_rd hf_rd rfl 7 (by decide) (hT _ kw_286) rfl dX5_step_199 ?_
                refine lv_iconst (v := 1) hx hb dX5_step_202 (by decide) ?_
                refine lv_iadd hx hb dX5_step_203 ?_
                refine lv_topi (fun w93 e_w93 => ?_)
                have i_w93 : w93.toInt = (NX80.toInt + 1) := z_add e_w93 rfl (show (1 : Int32).toInt = 1 by decide) (by omega)
                refine z_put (C := RX5) (T := TX5) (N := 9) (ci := 5) (v := .int w93) (fs' := [.int fa, .int fp, .ref tp, .ref mo, .int ot_, .int 2, .int NX5, .int w93, .int mn91]) hx hb hT zin_X5 tyX5_ok nmX5 hown hK hw hm_rd hf_rd rfl 7 (by decide) (hT _ kw_286) rfl rfl rfl (Nat.le_of_ble_eq_true rfl) rfl dX5_step_204 (fun H locs hw => ?_)
                obtain ⟨f94, e_f94⟩ : ∃ z, z = va_up f92 rd (.inr (5, [.int fa, .int fp, .ref tp, .ref mo, .int ot_, .int 2, .int NX5, .int w93, .int mn91])) := ⟨_, rfl⟩
                rw [← e_f94] at hw
                have hf_tp : f94 tp = .inr (7, [.ref tb, .int tl]) := (congrFun e_f94 tp).trans (z_up_ne (z_tne hf_tp hf_rd (m := 7) (n := 5) rfl rfl (by decide)) hf_tp)
                have hf_tb : f94 tb = .inl (cy 0, 1600, .inl gt) := (congrFun e_f94 tb).trans (z_up_ne (z_tne hf_tb hf_rd (m := 12900) (n := 5) rfl rfl (by decide)) hf_tb)
                have hf_rd : f94 rd = .inr (5, [.int fa, .int fp, .ref tp, .ref mo, .int ot_, .int 2, .int NX5, .int w93, .int mn91]) := (congrFun e_f94 rd).trans z_up_self
                have hfr : ∀ b ∈ L, b ≠ rd → f94 b = f b := fun b hb h0 => (congrFun e_f94 b).trans (z_up_ne h0 (hfr b hb h0))
                refine lv_goto (tgt := 151) hx hb dX5_step_207 (by decide) ?_
                exact ih_151 _ (by omega) _ _ _ ⟨w93, mn91, f94, rfl, (by first | decide | omega), (by first | decide | omega), hw, hf_rd, hf_tp, hf_tb, hfr, (lv_sub hl [0, 1, 2] rfl)⟩
              · skip
                refine z_if_eq (tgt := 240) hx hb (show (0 : Int32).toInt = 0 by decide) dX5_step_168 (by decide) (fun _ => ?_) (fun h => absurd h (by decide))
                exact z_vret hx hb hr hlk (by decide) (by decide) hw (⟨hsub, hfr, 2, NX5, NX80, RV81, hf_rd, by omega, by omega⟩) dX5_step_240
          · skip
            refine z_if_eq (tgt := 210) hx hb (show (0 : Int32).toInt = 0 by decide) dX5_step_138 (by decide) (fun _ => ?_) (fun h => absurd h (by decide))
            refine lv_aload_n hx hb dX5_step_210 rfl (lv_at hl 2 rfl) ?_
            refine lv_aload_n hx hb dX5_step_211 rfl (lv_at hl 1 rfl) ?_
            refine lv_aload_n hx hb dX5_step_212 rfl (lv_at hl 2 rfl) ?_
            refine z_get (C := RX5) (T := TX5) (N := 9) (ci := 5) (v := .int NX5) hx hb hT zin_X5 hown hK hw hm_rd hf_rd rfl 6 (by decide) (hT _ kw_285) rfl dX5_step_213 ?_
            refine z_bald hx hb hK hw 0 hm_tb hf_tb rfl (z_ix rfl (by omega)) dX5_step_216 ?_
            refine lv_topi (fun w95 e_w95 => ?_)
            refine lv_bipush (v := 59) hx hb dX5_step_217 (by decide) ?_
            refine z_icmp_ne (tgt := 226) hx hb rfl (show (59 : Int32).toInt = 59 by decide) dX5_step_219 (by decide) (fun c96 => ?_) (fun c96 => ?_)
            · skip
              refine lv_iconst (v := 4) hx hb dX5_step_226 (by decide) ?_
              refine z_put (C := RX5) (T := TX5) (N := 9) (ci := 5) (v := .int 4) (fs' := [.int fa, .int fp, .ref tp, .ref mo, .int ot_, .int 4, .int NX5, .int NX5, .int rv]) hx hb hT zin_X5 tyX5_ok nmX5 hown hK hw hm_rd hf_rd rfl 5 (by decide) (hT _ kw_284) rfl rfl rfl (Nat.le_of_ble_eq_true rfl) rfl dX5_step_227 (fun H locs hw => ?_)
              obtain ⟨f97, e_f97⟩ : ∃ z, z = va_up f58 rd (.inr (5, [.int fa, .int fp, .ref tp, .ref mo, .int ot_, .int 4, .int NX5, .int NX5, .int rv])) := ⟨_, rfl⟩
              rw [← e_f97] at hw
              have hf_tp : f97 tp = .inr (7, [.ref tb, .int tl]) := (congrFun e_f97 tp).trans (z_up_ne (z_tne hf_tp hf_rd (m := 7) (n := 5) rfl rfl (by decide)) hf_tp)
              have hf_tb : f97 tb = .inl (cy 0, 1600, .inl gt) := (congrFun e_f97 tb).trans (z_up_ne (z_tne hf_tb hf_rd (m := 12900) (n := 5) rfl rfl (by decide)) hf_tb)
              have hf_rd : f97 rd = .inr (5, [.int fa, .int fp, .ref tp, .ref mo, .int ot_, .int 4, .int NX5, .int NX5, .int rv]) := (congrFun e_f97 rd).trans z_up_self
              have hfr : ∀ b ∈ L, b ≠ rd → f97 b = f b := fun b hb h0 => (congrFun e_f97 b).trans (z_up_ne h0 (hfr b hb h0))
              refine lv_aload_n hx hb dX5_step_230 rfl (lv_at hl 2 rfl) ?_
              refine lv_dup hx hb dX5_step_231 rfl ?_
              refine z_get (C := RX5) (T := TX5) (N := 9) (ci := 5) (v := .int NX5) hx hb hT zin_X5 hown hK hw hm_rd hf_rd rfl 7 (by decide) (hT _ kw_286) rfl dX5_step_232 ?_
              refine lv_iconst (v := 1) hx hb dX5_step_235 (by decide) ?_
              refine lv_iadd hx hb dX5_step_236 ?_
              refine lv_topi (fun w98 e_w98 => ?_)
              have i_w98 : w98.toInt = (NX5.toInt + 1) := z_add e_w98 rfl (show (1 : Int32).toInt = 1 by decide) (by omega)
              refine z_put (C := RX5) (T := TX5) (N := 9) (ci := 5) (v := .int w98) (fs' := [.int fa, .int fp, .ref tp, .ref mo, .int ot_, .int 4, .int NX5, .int w98, .int rv]) hx hb hT zin_X5 tyX5_ok nmX5 hown hK hw hm_rd hf_rd rfl 7 (by decide) (hT _ kw_286) rfl rfl rfl (Nat.le_of_ble_eq_true rfl) rfl dX5_step_237 (fun H locs hw => ?_)
              obtain ⟨f99, e_f99⟩ : ∃ z, z = va_up f97 rd (.inr (5, [.int fa, .int fp, .ref tp, .ref mo, .int ot_, .int 4, .int NX5, .int w98, .int rv])) := ⟨_, rfl⟩
              rw [← e_f99] at hw
              have hf_tp : f99 tp = .inr (7, [.ref tb, .int tl]) := (congrFun e_f99 tp).trans (z_up_ne (z_tne hf_tp hf_rd (m := 7) (n := 5) rfl rfl (by decide)) hf_tp)
              have hf_tb : f99 tb = .inl (cy 0, 1600, .inl gt) := (congrFun e_f99 tb).trans (z_up_ne (z_tne hf_tb hf_rd (m := 12900) (n := 5) rfl rfl (by decide)) hf_tb)
              have hf_rd : f99 rd = .inr (5, [.int fa, .int fp, .ref tp, .ref mo, .int ot_, .int 4, .int NX5, .int w98, .int rv]) := (congrFun e_f99 rd).trans z_up_self
              have hfr : ∀ b ∈ L, b ≠ rd → f99 b = f b := fun b hb h0 => (congrFun e_f99 b).trans (z_up_ne h0 (hfr b hb h0))
              exact z_vret hx hb hr hlk (by decide) (by decide) hw (⟨hsub, hfr, 4, NX5, w98, rv, hf_rd, by omega, by omega⟩) dX5_step_240
            · skip
              refine lv_iconst (v := 3) hx hb dX5_step_222 (by decide) ?_
              refine lv_goto (tgt := 227) hx hb dX5_step_223 (by decide) ?_
              refine z_put (C := RX5) (T := TX5) (N := 9) (ci := 5) (v := .int 3) (fs' := [.int fa, .int fp, .ref tp, .ref mo, .int ot_, .int 3, .int NX5, .int NX5, .int rv]) hx hb hT zin_X5 tyX5_ok nmX5 hown hK hw hm_rd hf_rd rfl 5 (by decide) (hT _ kw_284) rfl rfl rfl (Nat.le_of_ble_eq_true rfl) rfl dX5_step_227 (fun H locs hw => ?_)
              obtain ⟨f100, e_f100⟩ : ∃ z, z = va_up f58 rd (.inr (5, [.int fa, .int fp, .ref tp, .ref mo, .int ot_, .int 3, .int NX5, .int NX5, .int rv])) := ⟨_, rfl⟩
              rw [← e_f100] at hw
              have hf_tp : f100 tp = .inr (7, [.ref tb, .int tl]) := (congrFun e_f100 tp).trans (z_up_ne (z_tne hf_tp hf_rd (m := 7) (n := 5) rfl rfl (by decide)) hf_tp)
              have hf_tb : f100 tb = .inl (cy 0, 1600, .inl gt) := (congrFun e_f100 tb).trans (z_up_ne (z_tne hf_tb hf_rd (m := 12900) (n := 5) rfl rfl (by decide)) hf_tb)
              have hf_rd : f100 rd = .inr (5, [.int fa, .int fp, .ref tp, .ref mo, .int ot_, .int 3, .int NX5, .int NX5, .int rv]) := (congrFun e_f100 rd).trans z_up_self
              have hfr : ∀ b ∈ L, b ≠ rd → f100 b = f b := fun b hb h0 => (congrFun e_f100 b).trans (z_up_ne h0 (hfr b hb h0))
              refine lv_aload_n hx hb dX5_step_230 rfl (lv_at hl 2 rfl) ?_
              refine lv_dup hx hb dX5_step_231 rfl ?_
              refine z_get (C := RX5) (T := TX5) (N := 9) (ci := 5) (v := .int NX5) hx hb hT zin_X5 hown hK hw hm_rd hf_rd rfl 7 (by decide) (hT _ kw_286) rfl dX5_step_232 ?_
              refine lv_iconst (v := 1) hx hb dX5_step_235 (by decide) ?_
              refine lv_iadd hx hb dX5_step_236 ?_
              refine lv_topi (fun w101 e_w101 => ?_)
              have i_w101 : w101.toInt = (NX5.toInt + 1) := z_add e_w101 rfl (show (1 : Int32).toInt = 1 by decide) (by omega)
              refine z_put (C := RX5) (T := TX5) (N := 9) (ci := 5) (v := .int w101) (fs' := [.int fa, .int fp, .ref tp, .ref mo, .int ot_, .int 3, .int NX5, .int w101, .int rv]) hx hb hT zin_X5 tyX5_ok nmX5 hown hK hw hm_rd hf_rd rfl 7 (by decide) (hT _ kw_286) rfl rfl rfl (Nat.le_of_ble_eq_true rfl) rfl dX5_step_237 (fun H locs hw => ?_)
              obtain ⟨f102, e_f102⟩ : ∃ z, z = va_up f100 rd (.inr (5, [.int fa, .int fp, .ref tp, .ref mo, .int ot_, .int 3, .int NX5, .int w101, .int rv])) := ⟨_, rfl⟩
              rw [← e_f102] at hw
              have hf_tp : f102 tp = .inr (7, [.ref tb, .int tl]) := (congrFun e_f102 tp).trans (z_up_ne (z_tne hf_tp hf_rd (m := 7) (n := 5) rfl rfl (by decide)) hf_tp)
              have hf_tb : f102 tb = .inl (cy 0, 1600, .inl gt) := (congrFun e_f102 tb).trans (z_up_ne (z_tne hf_tb hf_rd (m := 12900) (n := 5) rfl rfl (by decide)) hf_tb)
              have hf_rd : f102 rd = .inr (5, [.int fa, .int fp, .ref tp, .ref mo, .int ot_, .int 3, .int NX5, .int w101, .int rv]) := (congrFun e_f102 rd).trans z_up_self
              have hfr : ∀ b ∈ L, b ≠ rd → f102 b = f b := fun b hb h0 => (congrFun e_f102 b).trans (z_up_ne h0 (hfr b hb h0))
              exact z_vret hx hb hr hlk (by decide) (by decide) hw (⟨hsub, hfr, 3, NX5, w101, rv, hf_rd, by omega, by omega⟩) dX5_step_240
      · skip
        refine lv_aload_n hx hb dX5_step_71 rfl (lv_at hl 2 rfl) ?_
        refine lv_iconst (v := 0) hx hb dX5_step_72 (by decide) ?_
        refine z_put (C := RX5) (T := TX5) (N := 9) (ci := 5) (v := .int 0) (fs' := [.int fa, .int fp, .ref tp, .ref mo, .int ot_, .int 0, .int NX5, .int NX5, .int rv]) hx hb hT zin_X5 tyX5_ok nmX5 hown hK hw hm_rd hf_rd rfl 5 (by decide) (hT _ kw_284) rfl rfl rfl (Nat.le_of_ble_eq_true rfl) rfl dX5_step_73 (fun H locs hw => ?_)
        obtain ⟨f103, e_f103⟩ : ∃ z, z = va_up f58 rd (.inr (5, [.int fa, .int fp, .ref tp, .ref mo, .int ot_, .int 0, .int NX5, .int NX5, .int rv])) := ⟨_, rfl⟩
        rw [← e_f103] at hw
        have hf_tp : f103 tp = .inr (7, [.ref tb, .int tl]) := (congrFun e_f103 tp).trans (z_up_ne (z_tne hf_tp hf_rd (m := 7) (n := 5) rfl rfl (by decide)) hf_tp)
        have hf_tb : f103 tb = .inl (cy 0, 1600, .inl gt) := (congrFun e_f103 tb).trans (z_up_ne (z_tne hf_tb hf_rd (m := 12900) (n := 5) rfl rfl (by decide)) hf_tb)
        have hf_rd : f103 rd = .inr (5, [.int fa, .int fp, .ref tp, .ref mo, .int ot_, .int 0, .int NX5, .int NX5, .int rv]) := (congrFun e_f103 rd).trans z_up_self
        have hfr : ∀ b ∈ L, b ≠ rd → f103 b = f b := fun b hb h0 => (congrFun e_f103 b).trans (z_up_ne h0 (hfr b hb h0))
        refine lv_goto (tgt := 240) hx hb dX5_step_76 (by decide) ?_
        exact z_vret hx hb hr hlk (by decide) (by decide) hw (⟨hsub, hfr, 0, NX5, NX5, rv, hf_rd, by omega, by omega⟩) dX5_step_240

set_option maxHeartbeats 2000000 in
set_option maxRecDepth 100000 in
theorem c_X5_sees (l : Launch) {D : va_G} {cy : Nat → ClassId} {L : List Nat} {f : Nat → va_E} {sz : Nat} {adK adV : Nat → Nat} {rd tp tb mo : Nat} {fa fp ot_ ki ra rn rv : Int32} {tl : Int32} {gt : Nat → Int32} {wi : Nat} (hm_rd : rd ∈ L) (hm_tp : tp ∈ L) (hm_tb : tb ∈ L) (hf_rd : f rd = .inr (5, [.int fa, .int fp, .ref tp, .ref mo, .int ot_, .int ki, .int ra, .int rn, .int rv])) (hf_tp : f tp = .inr (7, [.ref tb, .int tl])) (hf_tb : f tb = .inl (cy 0, 1600, .inl gt)) (htl : 0 ≤ tl.toInt ∧ tl.toInt ≤ 1600) (hrr : (0 ≤ ra.toInt ∧ ra.toInt ≤ 1600) ∧ (0 ≤ rn.toInt ∧ rn.toInt ≤ 1600)) (hwi : wi < 25) : Met l yX5_sees (z_ws yX5_sees cX5_sees 3 (some .boolean)) (z_R 5 0 0) (va_Pc [.ref rd, .ref (adK wi)] (z_Pre D vwCl (z_KK D cy adK adV) L f sz)) (z_Qi D vwCl (fun r u => u = (L, f) ∧ ((r = 1 ∧ fa.toInt = 0) ∨ (r = 0 ∧ True))) L sz) 0 0 (z_A L sz) := by
  refine z_met (cc := cX5_sees) (maxL := 3) (ret := (some .boolean)) (lv := [(0, .ref rd), (1, .ref (adK wi))]) (by decide) rfl (Nat.le_of_ble_eq_true rfl) rfl ?_
  intro p e s m below meth c ls hx hb hr hlk hml hown hnm hts hKK hA hw hl
  have hK := hKK.1.1
  have hown : s.vm.findClass RX5 = some m.cls := hown
  have hT : ∀ w ∈ lw_all, w.before ([.ref rd, .ref (adK wi)] : List Value).toArray s = true := fun w h => hts w (z_cons w h)
  have hs7 := z_s7 hwi
  refine lv_aload_n hx hb dX5_sees_0 rfl (lv_at hl 0 rfl) ?_
  refine z_get (C := RX5) (T := TX5) (N := 9) (ci := 5) (v := .int fa) hx hb hT zin_X5 hown hK hw hm_rd hf_rd rfl 0 (by decide) (hT _ kw_277) rfl dX5_sees_1 ?_
  refine z_if_ne (tgt := 31) hx hb rfl dX5_sees_4 (by decide) (fun c1 => ?_) (fun c1 => ?_)
  · skip
    refine lv_iconst (v := 0) hx hb dX5_sees_31 (by decide) ?_
    exact z_zret hx hb hr rfl hlk (by decide) (by decide) hw (⟨rfl, Or.inr ⟨rfl, trivial⟩⟩) dX5_sees_32
  · skip
    refine lv_aload_n hx hb dX5_sees_7 rfl (lv_at hl 0 rfl) ?_
    refine z_get (C := RX5) (T := TX5) (N := 9) (ci := 5) (v := .int ki) hx hb hT zin_X5 hown hK hw hm_rd hf_rd rfl 5 (by decide) (hT _ kw_284) rfl dX5_sees_8 ?_
    refine lv_iconst (v := 1) hx hb dX5_sees_11 (by decide) ?_
    refine z_icmp_ne (tgt := 31) hx hb rfl (show (1 : Int32).toInt = 1 by decide) dX5_sees_12 (by decide) (fun c2 => ?_) (fun c2 => ?_)
    · skip
      refine lv_iconst (v := 0) hx hb dX5_sees_31 (by decide) ?_
      exact z_zret hx hb hr rfl hlk (by decide) (by decide) hw (⟨rfl, Or.inr ⟨rfl, trivial⟩⟩) dX5_sees_32
    · skip
      refine lv_aload_n hx hb dX5_sees_15 rfl (lv_at hl 0 rfl) ?_
      refine z_get (C := RX5) (T := TX5) (N := 9) (ci := 5) (v := .int rn) hx hb hT zin_X5 hown hK hw hm_rd hf_rd rfl 7 (by decide) (hT _ kw_286) rfl dX5_sees_16 ?_
      refine lv_aload_n hx hb dX5_sees_19 rfl (lv_at hl 0 rfl) ?_
      refine z_get (C := RX5) (T := TX5) (N := 9) (ci := 5) (v := .int ra) hx hb hT zin_X5 hown hK hw hm_rd hf_rd rfl 6 (by decide) (hT _ kw_285) rfl dX5_sees_20 ?_
      refine lv_isub hx hb dX5_sees_23 ?_
      refine lv_topi (fun w3 e_w3 => ?_)
      have i_w3 : w3.toInt = (rn.toInt - ra.toInt) := z_subI e_w3 rfl rfl (by omega)
      refine lv_aload_n hx hb dX5_sees_24 rfl (lv_at hl 1 rfl) ?_
      refine z_calliX (cells := 0) (slots := 0) (b := (adK wi)) (As := []) (rest := [.int w3]) ⟨hx, hb, hml, hown, hT⟩ (c_J0_length_8abf5 l (by first | omega | decide | assumption)) (cwV 0 hT (z_goodV (fun _ h => h) kw_574 kw_575 kw_576 kw_98 kw_577) rfl rfl rfl (by decide +kernel) ⟨by decide, by decide⟩) z_mv hKK hw hA (vk_recv hKK.2.1 (i := wi) (by first | omega | decide | assumption) hw.2.2) rfl hl.1 rfl (Nat.le_of_ble_eq_true rfl) dX5_sees_25 ⟨by decide, by decide⟩ (fun r4 u H locs hp hw => ?_)
      obtain ⟨rfl, hp⟩ := hp
      have hw : z_H D vwCl (z_A L sz) s.heap L f H locs := hw
      have hq5 := hp
      refine z_icmp_eq (tgt := 33) hx hb i_w3 rfl dX5_sees_28 (by decide) (fun c6 => ?_) (fun c6 => ?_)
      · skip
        refine lv_iconst (v := 0) hx hb dX5_sees_33 (by decide) ?_
        refine lv_istore_n (lv' := [(2, .int 0), (0, .ref rd), (1, .ref (adK wi))]) hx hb dX5_sees_34 rfl hl (by decide) rfl (fun ls hl => ?_)
        have hzk : (0 : Int32).toInt = 0 := by decide
        refine z_loop (fun n H locs ls => ∃ (K7 : Int32), (n = (((z_sL.getD wi 0 : Nat) : Int) - K7.toInt).toNat) ∧ (0 ≤ K7.toInt) ∧ (K7.toInt ≤ ((z_sL.getD wi 0 : Nat) : Int)) ∧ (z_H D vwCl (z_A L sz) s.heap L f H locs) ∧ (lv_has ls 3 [(2, .int K7), (0, .ref rd), (1, .ref (adK wi))])) _ ⟨0, rfl, (by first | decide | omega), (by first | decide | omega), hw, (lv_sub hl [0, 1, 2] rfl)⟩ (fun n H locs ls hI ih_35 => ?_)
        obtain ⟨K7, hn, hk0, hk1, hw, hl⟩ := hI
        refine lv_iload_n hx hb dX5_sees_35 rfl (lv_at hl 0 rfl) ?_
        refine lv_aload_n hx hb dX5_sees_36 rfl (lv_at hl 2 rfl) ?_
        refine z_calliX (cells := 0) (slots := 0) (b := (adK wi)) (As := []) (rest := [.int K7]) ⟨hx, hb, hml, hown, hT⟩ (c_J0_length_8abf5 l (by first | omega | decide | assumption)) (cwV 0 hT (z_goodV (fun _ h => h) kw_574 kw_575 kw_576 kw_98 kw_577) rfl rfl rfl (by decide +kernel) ⟨by decide, by decide⟩) z_mv hKK hw hA (vk_recv hKK.2.1 (i := wi) (by first | omega | decide | assumption) hw.2.2) rfl hl.1 rfl (Nat.le_of_ble_eq_true rfl) dX5_sees_37 ⟨by decide, by decide⟩ (fun r8 u H locs hp hw => ?_)
        obtain ⟨rfl, hp⟩ := hp
        have hw : z_H D vwCl (z_A L sz) s.heap L f H locs := hw
        have hq9 := hp
        refine z_icmp_ge (tgt := 73) hx hb rfl rfl dX5_sees_40 (by decide) (fun c10 => ?_) (fun c10 => ?_)
        · skip
          refine lv_iconst (v := 1) hx hb dX5_sees_73 (by decide) ?_
          exact z_zret hx hb hr rfl hlk (by decide) (by decide) hw (⟨rfl, Or.inl ⟨rfl, by omega⟩⟩) dX5_sees_74
        · skip
          refine lv_aload_n hx hb dX5_sees_43 rfl (lv_at hl 1 rfl) ?_
          refine z_get (C := RX5) (T := TX5) (N := 9) (ci := 5) (v := .ref tp) hx hb hT zin_X5 hown hK hw hm_rd hf_rd rfl 2 (by decide) (hT _ kw_281) rfl dX5_sees_44 ?_
          refine z_get (C := RX7) (T := TX7) (N := 2) (ci := 7) (v := .ref tb) hx hb hT zin_X7 hown hK hw hm_tp hf_tp rfl 0 (by decide) (hT _ kw_118) rfl dX5_sees_47 ?_
          refine lv_aload_n hx hb dX5_sees_50 rfl (lv_at hl 1 rfl) ?_
          refine z_get (C := RX5) (T := TX5) (N := 9) (ci := 5) (v := .int ra) hx hb hT zin_X5 hown hK hw hm_rd hf_rd rfl 6 (by decide) (hT _ kw_285) rfl dX5_sees_51 ?_
          refine lv_iload_n hx hb dX5_sees_54 rfl (lv_at hl 0 rfl) ?_
          refine lv_iadd hx hb dX5_sees_55 ?_
          refine lv_topi (fun w11 e_w11 => ?_)
          have i_w11 : w11.toInt = (ra.toInt + K7.toInt) := z_add e_w11 rfl rfl (by omega)
          refine z_bald hx hb hK hw 0 hm_tb hf_tb rfl (z_ix i_w11 (by omega)) dX5_sees_56 ?_
          refine lv_topi (fun w12 e_w12 => ?_)
          refine lv_aload_n hx hb dX5_sees_57 rfl (lv_at hl 2 rfl) ?_
          refine lv_iload_n hx hb dX5_sees_58 rfl (lv_at hl 0 rfl) ?_
          refine z_calliX (cells := 0) (slots := 0) (b := (adK wi)) (As := [.int K7]) (rest := [.int w12]) ⟨hx, hb, hml, hown, hT⟩ (c_J0_charAt_5068e l (by first | omega | decide | assumption) (by first | omega | decide | assumption)) (cwV 1 hT (z_goodV (fun _ h => h) kw_584 kw_585 kw_586 kw_98 kw_587) rfl rfl rfl (by decide +kernel) ⟨by decide, by decide⟩) z_mv hKK hw hA (vk_recv hKK.2.1 (i := wi) (by first | omega | decide | assumption) hw.2.2) rfl hl.1 rfl (Nat.le_of_ble_eq_true rfl) dX5_sees_59 ⟨by decide, by decide⟩ (fun r13 u H locs hp hw => ?_)
          obtain ⟨rfl, hp⟩ := hp
          have hw : z_H D vwCl (z_A L sz) s.heap L f H locs := hw
          refine z_icmp_eq (tgt := 67) hx hb rfl rfl dX5_sees_62 (by decide) (fun c14 => ?_) (fun c14 => ?_)
          · skip
            obtain ⟨k15, e_k15⟩ : ∃ z : Int32, z = K7 + 1 := ⟨_, rfl⟩
            refine lv_iinc (v := k15) (lv' := [(2, .int k15), (0, .ref rd), (1, .ref (adK wi))]) hx hb dX5_sees_67 hl (k := 0) rfl (by rw [e_k15]; rfl) (by decide) rfl (fun ls hl => ?_)
            have i_k15 : k15.toInt = (K7.toInt + 1) := z_add e_k15 rfl (by decide) (by omega)
            refine lv_goto (tgt := 35) hx hb dX5_sees_70 (by decide) ?_
            exact ih_35 _ (by omega) _ _ _ ⟨k15, rfl, (by first | decide | omega), (by first | decide | omega), hw, (lv_sub hl [0, 1, 2] rfl)⟩
          · skip
            refine lv_iconst (v := 0) hx hb dX5_sees_65 (by decide) ?_
            exact z_zret hx hb hr rfl hlk (by decide) (by decide) hw (⟨rfl, Or.inr ⟨rfl, trivial⟩⟩) dX5_sees_66
      · skip
        refine lv_iconst (v := 0) hx hb dX5_sees_31 (by decide) ?_
        exact z_zret hx hb hr rfl hlk (by decide) (by decide) hw (⟨rfl, Or.inr ⟨rfl, trivial⟩⟩) dX5_sees_32

set_option maxHeartbeats 2000000 in
set_option maxRecDepth 100000 in
theorem c_X5_refuse (l : Launch) {D : va_G} {cy : Nat → ClassId} {L : List Nat} {f : Nat → va_E} {sz : Nat} {adK adV : Nat → Nat} {rd tp mo : Nat} {fa fp ot_ ki ra rn rv : Int32}   {wh : Int32} (hm_rd : rd ∈ L) (hf_rd : f rd = .inr (5, [.int fa, .int fp, .ref tp, .ref mo, .int ot_, .int ki, .int ra, .int rn, .int rv])) (hwh : wh.toInt ≠ 0) : Met l yX5_refuse (z_ws yX5_refuse cX5_refuse 2 none) (z_R 1 0 0) (va_Pc [.ref rd, .int wh] (z_Pre D vwCl (z_KK D cy adK adV) L f sz)) (z_Qv D vwCl (fun u => L = u.1 ∧ (∀ b ∈ L, b ≠ rd → u.2 b = f b) ∧ (∃ (f2 p2 : Int32), (u.2 rd = .inr (5, [.int f2, .int p2, .ref tp, .ref mo, .int ot_, .int ki, .int ra, .int rn, .int rv])) ∧ (f2.toInt ≠ 0))) L sz) 0 0 (z_A L sz) := by
  refine z_met (cc := cX5_refuse) (maxL := 2) (ret := none) (lv := [(0, .ref rd), (1, .int wh)]) (by decide) rfl (Nat.le_of_ble_eq_true rfl) rfl ?_
  intro p e s m below meth c ls hx hb hr hlk hml hown hnm hts hKK hA hw hl
  have hK := hKK.1.1
  have hown : s.vm.findClass RX5 = some m.cls := hown
  have hT : ∀ w ∈ lw_all, w.before ([.ref rd, .int wh] : List Value).toArray s = true := fun w h => hts w (z_cons w h)
  have hsub : L = L := rfl
  have hfr : ∀ b ∈ L, b ≠ rd → f b = f b := fun _ _ _ => rfl
  refine lv_aload_n hx hb dX5_refuse_0 rfl (lv_at hl 0 rfl) ?_
  refine z_get (C := RX5) (T := TX5) (N := 9) (ci := 5) (v := .int fa) hx hb hT zin_X5 hown hK hw hm_rd hf_rd rfl 0 (by decide) (hT _ kw_277) rfl dX5_refuse_1 ?_
  refine z_if_ne (tgt := 20) hx hb rfl dX5_refuse_4 (by decide) (fun c1 => ?_) (fun c1 => ?_)
  · skip
    exact z_vret hx hb hr hlk (by decide) (by decide) hw (⟨hsub, hfr, fa, fp, hf_rd, by omega⟩) dX5_refuse_20
  · skip
    refine lv_aload_n hx hb dX5_refuse_7 rfl (lv_at hl 0 rfl) ?_
    refine lv_iload_n hx hb dX5_refuse_8 rfl (lv_at hl 1 rfl) ?_
    refine z_put (C := RX5) (T := TX5) (N := 9) (ci := 5) (v := .int wh) (fs' := [.int wh, .int fp, .ref tp, .ref mo, .int ot_, .int ki, .int ra, .int rn, .int rv]) hx hb hT zin_X5 tyX5_ok nmX5 hown hK hw hm_rd hf_rd rfl 0 (by decide) (hT _ kw_277) rfl rfl rfl (Nat.le_of_ble_eq_true rfl) rfl dX5_refuse_9 (fun H locs hw => ?_)
    obtain ⟨f2, e_f2⟩ : ∃ z, z = va_up f rd (.inr (5, [.int wh, .int fp, .ref tp, .ref mo, .int ot_, .int ki, .int ra, .int rn, .int rv])) := ⟨_, rfl⟩
    rw [← e_f2] at hw
    have hf_rd : f2 rd = .inr (5, [.int wh, .int fp, .ref tp, .ref mo, .int ot_, .int ki, .int ra, .int rn, .int rv]) := (congrFun e_f2 rd).trans z_up_self
    have hfr : ∀ b ∈ L, b ≠ rd → f2 b = f b := fun b hb h0 => (congrFun e_f2 b).trans (z_up_ne h0 (hfr b hb h0))
    refine lv_aload_n hx hb dX5_refuse_12 rfl (lv_at hl 0 rfl) ?_
    refine lv_aload_n hx hb dX5_refuse_13 rfl (lv_at hl 0 rfl) ?_
    refine z_get (C := RX5) (T := TX5) (N := 9) (ci := 5) (v := .int ra) hx hb hT zin_X5 hown hK hw hm_rd hf_rd rfl 6 (by decide) (hT _ kw_285) rfl dX5_refuse_14 ?_
    refine z_put (C := RX5) (T := TX5) (N := 9) (ci := 5) (v := .int ra) (fs' := [.int wh, .int ra, .ref tp, .ref mo, .int ot_, .int ki, .int ra, .int rn, .int rv]) hx hb hT zin_X5 tyX5_ok nmX5 hown hK hw hm_rd hf_rd rfl 1 (by decide) (hT _ kw_279) rfl rfl rfl (Nat.le_of_ble_eq_true rfl) rfl dX5_refuse_17 (fun H locs hw => ?_)
    obtain ⟨f3, e_f3⟩ : ∃ z, z = va_up f2 rd (.inr (5, [.int wh, .int ra, .ref tp, .ref mo, .int ot_, .int ki, .int ra, .int rn, .int rv])) := ⟨_, rfl⟩
    rw [← e_f3] at hw
    have hf_rd : f3 rd = .inr (5, [.int wh, .int ra, .ref tp, .ref mo, .int ot_, .int ki, .int ra, .int rn, .int rv]) := (congrFun e_f3 rd).trans z_up_self
    have hfr : ∀ b ∈ L, b ≠ rd → f3 b = f b := fun b hb h0 => (congrFun e_f3 b).trans (z_up_ne h0 (hfr b hb h0))
    exact z_vret hx hb hr hlk (by decide) (by decide) hw (⟨hsub, hfr, wh, ra, hf_rd, by omega⟩) dX5_refuse_20

set_option maxHeartbeats 2000000 in
set_option maxRecDepth 100000 in
theorem c_X5_tries (l : Launch) {D : va_G} {cy : Nat → ClassId} {L : List Nat} {f : Nat → va_E} {sz : Nat} {adK adV : Nat → Nat} {rd tp tb mo : Nat} {fa fp ot_ ki ra rn rv : Int32} {tl : Int32} {gt : Nat → Int32} {wi : Nat} (hm_rd : rd ∈ L) (hm_tp : tp ∈ L) (hm_tb : tb ∈ L) (hf_rd : f rd = .inr (5, [.int fa, .int fp, .ref tp, .ref mo, .int ot_, .int ki, .int ra, .int rn, .int rv])) (hf_tp : f tp = .inr (7, [.ref tb, .int tl])) (hf_tb : f tb = .inl (cy 0, 1600, .inl gt)) (htl : 0 ≤ tl.toInt ∧ tl.toInt ≤ 1600) (hrr : (0 ≤ ra.toInt ∧ ra.toInt ≤ 1600) ∧ (0 ≤ rn.toInt ∧ rn.toInt ≤ 1600)) (hwi : wi < 25) : Met l yX5_tries (z_ws yX5_tries cX5_tries 2 (some .boolean)) (z_R 6 0 0) (va_Pc [.ref rd, .ref (adK wi)] (z_Pre D vwCl (z_KK D cy adK adV) L f sz)) (z_Qi D vwCl (fun r u => L = u.1 ∧ (∀ b ∈ L, b ≠ rd → u.2 b = f b) ∧ (∃ (k2 a2 n2 z2 : Int32), (u.2 rd = .inr (5, [.int fa, .int fp, .ref tp, .ref mo, .int ot_, .int k2, .int a2, .int n2, .int z2])) ∧ (((r = 1 ∧ fa.toInt = 0) ∨ (r = 0 ∧ True)) ∧ (0 ≤ a2.toInt ∧ a2.toInt ≤ 1600) ∧ (0 ≤ n2.toInt ∧ n2.toInt ≤ 1600)))) L sz) 0 0 (z_A L sz) := by
  refine z_met (cc := cX5_tries) (maxL := 2) (ret := (some .boolean)) (lv := [(0, .ref rd), (1, .ref (adK wi))]) (by decide) rfl (Nat.le_of_ble_eq_true rfl) rfl ?_
  intro p e s m below meth c ls hx hb hr hlk hml hown hnm hts hKK hA hw hl
  have hK := hKK.1.1
  have hown : s.vm.findClass RX5 = some m.cls := hown
  have hT : ∀ w ∈ lw_all, w.before ([.ref rd, .ref (adK wi)] : List Value).toArray s = true := fun w h => hts w (z_cons w h)
  have hsub : L = L := rfl
  have hfr : ∀ b ∈ L, b ≠ rd → f b = f b := fun _ _ _ => rfl
  refine lv_aload_n hx hb dX5_tries_0 rfl (lv_at hl 0 rfl) ?_
  refine lv_aload_n hx hb dX5_tries_1 rfl (lv_at hl 1 rfl) ?_
  refine z_calliV (cells := 0) (slots := 0) (b := rd) (As := [.ref (adK wi)]) (rest := []) (ci := 5) (q0 := (RX5, TX5, 9)) ⟨hx, hb, hml, hown, hT⟩ (c_X5_sees l hm_rd hm_tp hm_tb hf_rd hf_tp hf_tb (by first | omega | decide | assumption) (by first | omega | decide | assumption) (by first | omega | decide | assumption)) (cwV 1 hT (z_goodV (fun _ h => h) kw_570 kw_572 kw_3 kw_89 kw_573) rfl rfl rfl (by decide +kernel) ⟨by decide, by decide⟩) z_mv hKK hK hw hA hm_rd hf_rd rfl rfl rfl hl.1 rfl (Nat.le_of_ble_eq_true rfl) dX5_tries_2 ⟨by decide, by decide⟩ (fun r1 u H locs hp hw => ?_)
  obtain ⟨rfl, hp⟩ := hp
  have hw : z_H D vwCl (z_A L sz) s.heap L f H locs := hw
  rcases hp with ⟨rfl, h2⟩ | ⟨rfl, h2⟩
  · skip
    refine z_if_ne (tgt := 10) hx hb (show (1 : Int32).toInt = 1 by decide) dX5_tries_5 (by decide) (fun _ => ?_) (fun h => absurd h (by decide))
    refine lv_aload_n hx hb dX5_tries_10 rfl (lv_at hl 0 rfl) ?_
    refine z_callvV (cells := 0) (slots := 0) (b := rd) (As := []) (rest := []) (ci := 5) (q0 := (RX5, TX5, 9)) ⟨hx, hb, hml, hown, hT⟩ (c_X5_step l hm_rd hm_tp hm_tb hf_rd hf_tp hf_tb (by first | omega | decide | assumption) (by first | omega | decide | assumption)) (cwV 0 hT (z_goodV (fun _ h => h) kw_536 kw_538 kw_0 kw_89 kw_539) rfl rfl rfl (by decide +kernel) ⟨by decide, by decide⟩) z_mv hKK hK hw hA hm_rd hf_rd rfl rfl rfl hl.1 rfl (Nat.le_of_ble_eq_true rfl) dX5_tries_11 ⟨by decide, by decide⟩ (fun u H locs hp hw => ?_)
    obtain ⟨L3, f4⟩ := u
    obtain ⟨hsb, hfm, k2_5, a2_6, n2_7, z2_8, ha_0, hp⟩ := hp
    have hsb : L = L3 := hsb
    subst hsb
    have hsb : ∀ b ∈ L, b ∈ L := fun _ h => h
    have hw : z_H D vwCl (z_A L sz) s.heap L f4 H locs := hw
    have hfr : ∀ b ∈ L, b ≠ rd → f4 b = f b := fun b hb h0 => (hfm b hb h0).trans (hfr b hb h0)
    have hf_tp : f4 tp = .inr (7, [.ref tb, .int tl]) := (hfm tp hm_tp (z_tne hf_tp hf_rd (m := 7) (n := 5) rfl rfl (by decide))).trans hf_tp
    have hf_tb : f4 tb = .inl (cy 0, 1600, .inl gt) := (hfm tb hm_tb (z_tne hf_tb hf_rd (m := 12900) (n := 5) rfl rfl (by decide))).trans hf_tb
    have hf_rd : f4 rd = .inr (5, [.int fa, .int fp, .ref tp, .ref mo, .int ot_, .int k2_5, .int a2_6, .int n2_7, .int z2_8]) := ha_0
    refine lv_iconst (v := 1) hx hb dX5_tries_14 (by decide) ?_
    exact z_zret hx hb hr rfl hlk (by decide) (by decide) hw (⟨hsub, hfr, k2_5, a2_6, n2_7, z2_8, hf_rd, Or.inl ⟨rfl, by omega⟩, by omega, by omega⟩) dX5_tries_15
  · skip
    refine z_if_ne (tgt := 10) hx hb (show (0 : Int32).toInt = 0 by decide) dX5_tries_5 (by decide) (fun h => absurd h (by decide)) (fun _ => ?_)
    refine lv_iconst (v := 0) hx hb dX5_tries_8 (by decide) ?_
    exact z_zret hx hb hr rfl hlk (by decide) (by decide) hw (⟨hsub, hfr, ki, ra, rn, rv, hf_rd, Or.inr ⟨rfl, trivial⟩, by omega, by omega⟩) dX5_tries_9

set_option maxHeartbeats 2000000 in
set_option maxRecDepth 100000 in
theorem c_X5_take (l : Launch) {D : va_G} {cy : Nat → ClassId} {L : List Nat} {f : Nat → va_E} {sz : Nat} {adK adV : Nat → Nat} {rd tp tb mo : Nat} {fa fp ot_ ki ra rn rv : Int32} {tl : Int32} {gt : Nat → Int32} {wi : Nat} (hm_rd : rd ∈ L) (hm_tp : tp ∈ L) (hm_tb : tb ∈ L) (hf_rd : f rd = .inr (5, [.int fa, .int fp, .ref tp, .ref mo, .int ot_, .int ki, .int ra, .int rn, .int rv])) (hf_tp : f tp = .inr (7, [.ref tb, .int tl])) (hf_tb : f tb = .inl (cy 0, 1600, .inl gt)) (htl : 0 ≤ tl.toInt ∧ tl.toInt ≤ 1600) (hrr : (0 ≤ ra.toInt ∧ ra.toInt ≤ 1600) ∧ (0 ≤ rn.toInt ∧ rn.toInt ≤ 1600)) (hwi : wi < 25) : Met l yX5_take (z_ws yX5_take cX5_take 2 none) (z_R 6 0 0) (va_Pc [.ref rd, .ref (adK wi)] (z_Pre D vwCl (z_KK D cy adK adV) L f sz)) (z_Qv D vwCl (fun u => L = u.1 ∧ (∀ b ∈ L, b ≠ rd → u.2 b = f b) ∧ (∃ (f2 p2 k2 a2 n2 z2 : Int32), (u.2 rd = .inr (5, [.int f2, .int p2, .ref tp, .ref mo, .int ot_, .int k2, .int a2, .int n2, .int z2])) ∧ ((f2.toInt ≠ 0 ∨ fa.toInt = 0) ∧ (0 ≤ a2.toInt ∧ a2.toInt ≤ 1600) ∧ (0 ≤ n2.toInt ∧ n2.toInt ≤ 1600)))) L sz) 0 0 (z_A L sz) := by
  refine z_met (cc := cX5_take) (maxL := 2) (ret := none) (lv := [(0, .ref rd), (1, .ref (adK wi))]) (by decide) rfl (Nat.le_of_ble_eq_true rfl) rfl ?_
  intro p e s m below meth c ls hx hb hr hlk hml hown hnm hts hKK hA hw hl
  have hK := hKK.1.1
  have hown : s.vm.findClass RX5 = some m.cls := hown
  have hT : ∀ w ∈ lw_all, w.before ([.ref rd, .ref (adK wi)] : List Value).toArray s = true := fun w h => hts w (z_cons w h)
  have hsub : L = L := rfl
  have hfr : ∀ b ∈ L, b ≠ rd → f b = f b := fun _ _ _ => rfl
  refine lv_aload_n hx hb dX5_take_0 rfl (lv_at hl 0 rfl) ?_
  refine lv_aload_n hx hb dX5_take_1 rfl (lv_at hl 1 rfl) ?_
  refine z_calliV (cells := 0) (slots := 0) (b := rd) (As := [.ref (adK wi)]) (rest := []) (ci := 5) (q0 := (RX5, TX5, 9)) ⟨hx, hb, hml, hown, hT⟩ (c_X5_sees l hm_rd hm_tp hm_tb hf_rd hf_tp hf_tb (by first | omega | decide | assumption) (by first | omega | decide | assumption) (by first | omega | decide | assumption)) (cwV 1 hT (z_goodV (fun _ h => h) kw_570 kw_572 kw_3 kw_89 kw_573) rfl rfl rfl (by decide +kernel) ⟨by decide, by decide⟩) z_mv hKK hK hw hA hm_rd hf_rd rfl rfl rfl hl.1 rfl (Nat.le_of_ble_eq_true rfl) dX5_take_2 ⟨by decide, by decide⟩ (fun r1 u H locs hp hw => ?_)
  obtain ⟨rfl, hp⟩ := hp
  have hw : z_H D vwCl (z_A L sz) s.heap L f H locs := hw
  rcases hp with ⟨rfl, h2⟩ | ⟨rfl, h2⟩
  · skip
    refine z_if_eq (tgt := 15) hx hb (show (1 : Int32).toInt = 1 by decide) dX5_take_5 (by decide) (fun h => absurd h (by decide)) (fun _ => ?_)
    refine lv_aload_n hx hb dX5_take_8 rfl (lv_at hl 0 rfl) ?_
    refine z_callvV (cells := 0) (slots := 0) (b := rd) (As := []) (rest := []) (ci := 5) (q0 := (RX5, TX5, 9)) ⟨hx, hb, hml, hown, hT⟩ (c_X5_step l hm_rd hm_tp hm_tb hf_rd hf_tp hf_tb (by first | omega | decide | assumption) (by first | omega | decide | assumption)) (cwV 0 hT (z_goodV (fun _ h => h) kw_536 kw_538 kw_0 kw_89 kw_539) rfl rfl rfl (by decide +kernel) ⟨by decide, by decide⟩) z_mv hKK hK hw hA hm_rd hf_rd rfl rfl rfl hl.1 rfl (Nat.le_of_ble_eq_true rfl) dX5_take_9 ⟨by decide, by decide⟩ (fun u H locs hp hw => ?_)
    obtain ⟨L3, f4⟩ := u
    obtain ⟨hsb, hfm, k2_5, a2_6, n2_7, z2_8, ha_0, hp⟩ := hp
    have hsb : L = L3 := hsb
    subst hsb
    have hsb : ∀ b ∈ L, b ∈ L := fun _ h => h
    have hw : z_H D vwCl (z_A L sz) s.heap L f4 H locs := hw
    have hfr : ∀ b ∈ L, b ≠ rd → f4 b = f b := fun b hb h0 => (hfm b hb h0).trans (hfr b hb h0)
    have hf_tp : f4 tp = .inr (7, [.ref tb, .int tl]) := (hfm tp hm_tp (z_tne hf_tp hf_rd (m := 7) (n := 5) rfl rfl (by decide))).trans hf_tp
    have hf_tb : f4 tb = .inl (cy 0, 1600, .inl gt) := (hfm tb hm_tb (z_tne hf_tb hf_rd (m := 12900) (n := 5) rfl rfl (by decide))).trans hf_tb
    have hf_rd : f4 rd = .inr (5, [.int fa, .int fp, .ref tp, .ref mo, .int ot_, .int k2_5, .int a2_6, .int n2_7, .int z2_8]) := ha_0
    refine lv_goto (tgt := 20) hx hb dX5_take_12 (by decide) ?_
    exact z_vret hx hb hr hlk (by decide) (by decide) hw (⟨hsub, hfr, fa, fp, k2_5, a2_6, n2_7, z2_8, hf_rd, by omega, by omega, by omega⟩) dX5_take_20
  · skip
    refine z_if_eq (tgt := 15) hx hb (show (0 : Int32).toInt = 0 by decide) dX5_take_5 (by decide) (fun _ => ?_) (fun h => absurd h (by decide))
    refine lv_aload_n hx hb dX5_take_15 rfl (lv_at hl 0 rfl) ?_
    refine lv_iconst (v := 1) hx hb dX5_take_16 (by decide) ?_
    have hz9 := (show (1 : Int32).toInt = 1 by decide)
    refine z_callvV (cells := 0) (slots := 0) (b := rd) (As := [.int 1]) (rest := []) (ci := 5) (q0 := (RX5, TX5, 9)) ⟨hx, hb, hml, hown, hT⟩ (c_X5_refuse l hm_rd hf_rd (by first | omega | decide | assumption)) (cwV 1 hT (z_goodV (fun _ h => h) kw_622 kw_624 kw_4 kw_89 kw_625) rfl rfl rfl (by decide +kernel) ⟨by decide, by decide⟩) z_mv hKK hK hw hA hm_rd hf_rd rfl rfl rfl hl.1 rfl (Nat.le_of_ble_eq_true rfl) dX5_take_17 ⟨by decide, by decide⟩ (fun u H locs hp hw => ?_)
    obtain ⟨L10, f11⟩ := u
    obtain ⟨hsb, hfm, f2_12, p2_13, ha_0, hp⟩ := hp
    have hsb : L = L10 := hsb
    subst hsb
    have hsb : ∀ b ∈ L, b ∈ L := fun _ h => h
    have hw : z_H D vwCl (z_A L sz) s.heap L f11 H locs := hw
    have hfr : ∀ b ∈ L, b ≠ rd → f11 b = f b := fun b hb h0 => (hfm b hb h0).trans (hfr b hb h0)
    have hf_tp : f11 tp = .inr (7, [.ref tb, .int tl]) := (hfm tp hm_tp (z_tne hf_tp hf_rd (m := 7) (n := 5) rfl rfl (by decide))).trans hf_tp
    have hf_tb : f11 tb = .inl (cy 0, 1600, .inl gt) := (hfm tb hm_tb (z_tne hf_tb hf_rd (m := 12900) (n := 5) rfl rfl (by decide))).trans hf_tb
    have hf_rd : f11 rd = .inr (5, [.int f2_12, .int p2_13, .ref tp, .ref mo, .int ot_, .int ki, .int ra, .int rn, .int rv]) := ha_0
    have hq14 := hp
    exact z_vret hx hb hr hlk (by decide) (by decide) hw (⟨hsub, hfr, f2_12, p2_13, ki, ra, rn, rv, hf_rd, by omega, by omega, by omega⟩) dX5_take_20

set_option maxHeartbeats 2000000 in
set_option maxRecDepth 100000 in
theorem c_X5_takeSign (l : Launch) {D : va_G} {cy : Nat → ClassId} {L : List Nat} {f : Nat → va_E} {sz : Nat} {adK adV : Nat → Nat} {rd tp tb mo : Nat} {fa fp ot_ ki ra rn rv : Int32} {tl : Int32} {gt : Nat → Int32} (hm_rd : rd ∈ L) (hm_tp : tp ∈ L) (hm_tb : tb ∈ L) (hf_rd : f rd = .inr (5, [.int fa, .int fp, .ref tp, .ref mo, .int ot_, .int ki, .int ra, .int rn, .int rv])) (hf_tp : f tp = .inr (7, [.ref tb, .int tl])) (hf_tb : f tb = .inl (cy 0, 1600, .inl gt)) (htl : 0 ≤ tl.toInt ∧ tl.toInt ≤ 1600) (hrr : (0 ≤ ra.toInt ∧ ra.toInt ≤ 1600) ∧ (0 ≤ rn.toInt ∧ rn.toInt ≤ 1600)) : Met l yX5_takeSign (z_ws yX5_takeSign cX5_takeSign 1 none) (z_R 3 0 0) (va_Pc [.ref rd] (z_Pre D vwCl (z_KK D cy adK adV) L f sz)) (z_Qv D vwCl (fun u => L = u.1 ∧ (∀ b ∈ L, b ≠ rd → u.2 b = f b) ∧ (∃ (f2 p2 k2 a2 n2 z2 : Int32), (u.2 rd = .inr (5, [.int f2, .int p2, .ref tp, .ref mo, .int ot_, .int k2, .int a2, .int n2, .int z2])) ∧ ((f2.toInt ≠ 0 ∨ fa.toInt = 0) ∧ (0 ≤ a2.toInt ∧ a2.toInt ≤ 1600) ∧ (0 ≤ n2.toInt ∧ n2.toInt ≤ 1600)))) L sz) 0 0 (z_A L sz) := by
  refine z_met (cc := cX5_takeSign) (maxL := 1) (ret := none) (lv := [(0, .ref rd)]) (by decide) rfl (Nat.le_of_ble_eq_true rfl) rfl ?_
  intro p e s m below meth c ls hx hb hr hlk hml hown hnm hts hKK hA hw hl
  have hK := hKK.1.1
  have hown : s.vm.findClass RX5 = some m.cls := hown
  have hT : ∀ w ∈ lw_all, w.before ([.ref rd] : List Value).toArray s = true := fun w h => hts w (z_cons w h)
  have hsub : L = L := rfl
  have hfr : ∀ b ∈ L, b ≠ rd → f b = f b := fun _ _ _ => rfl
  refine lv_aload_n hx hb dX5_takeSign_0 rfl (lv_at hl 0 rfl) ?_
  refine z_get (C := RX5) (T := TX5) (N := 9) (ci := 5) (v := .int fa) hx hb hT zin_X5 hown hK hw hm_rd hf_rd rfl 0 (by decide) (hT _ kw_277) rfl dX5_takeSign_1 ?_
  refine z_if_eq (tgt := 8) hx hb rfl dX5_takeSign_4 (by decide) (fun c1 => ?_) (fun c1 => ?_)
  · skip
    refine lv_aload_n hx hb dX5_takeSign_8 rfl (lv_at hl 0 rfl) ?_
    refine z_get (C := RX5) (T := TX5) (N := 9) (ci := 5) (v := .int ki) hx hb hT zin_X5 hown hK hw hm_rd hf_rd rfl 5 (by decide) (hT _ kw_284) rfl dX5_takeSign_9 ?_
    refine lv_iconst (v := 3) hx hb dX5_takeSign_12 (by decide) ?_
    refine z_icmp_ne (tgt := 23) hx hb rfl (show (3 : Int32).toInt = 3 by decide) dX5_takeSign_13 (by decide) (fun c2 => ?_) (fun c2 => ?_)
    · skip
      refine lv_aload_n hx hb dX5_takeSign_23 rfl (lv_at hl 0 rfl) ?_
      refine lv_iconst (v := 1) hx hb dX5_takeSign_24 (by decide) ?_
      have hz3 := (show (1 : Int32).toInt = 1 by decide)
      refine z_callvV (cells := 0) (slots := 0) (b := rd) (As := [.int 1]) (rest := []) (ci := 5) (q0 := (RX5, TX5, 9)) ⟨hx, hb, hml, hown, hT⟩ (c_X5_refuse l hm_rd hf_rd (by first | omega | decide | assumption)) (cwV 1 hT (z_goodV (fun _ h => h) kw_622 kw_624 kw_4 kw_89 kw_625) rfl rfl rfl (by decide +kernel) ⟨by decide, by decide⟩) z_mv hKK hK hw hA hm_rd hf_rd rfl rfl rfl hl.1 rfl (Nat.le_of_ble_eq_true rfl) dX5_takeSign_25 ⟨by decide, by decide⟩ (fun u H locs hp hw => ?_)
      obtain ⟨L4, f5⟩ := u
      obtain ⟨hsb, hfm, f2_6, p2_7, ha_0, hp⟩ := hp
      have hsb : L = L4 := hsb
      subst hsb
      have hsb : ∀ b ∈ L, b ∈ L := fun _ h => h
      have hw : z_H D vwCl (z_A L sz) s.heap L f5 H locs := hw
      have hfr : ∀ b ∈ L, b ≠ rd → f5 b = f b := fun b hb h0 => (hfm b hb h0).trans (hfr b hb h0)
      have hf_tp : f5 tp = .inr (7, [.ref tb, .int tl]) := (hfm tp hm_tp (z_tne hf_tp hf_rd (m := 7) (n := 5) rfl rfl (by decide))).trans hf_tp
      have hf_tb : f5 tb = .inl (cy 0, 1600, .inl gt) := (hfm tb hm_tb (z_tne hf_tb hf_rd (m := 12900) (n := 5) rfl rfl (by decide))).trans hf_tb
      have hf_rd : f5 rd = .inr (5, [.int f2_6, .int p2_7, .ref tp, .ref mo, .int ot_, .int ki, .int ra, .int rn, .int rv]) := ha_0
      have hq8 := hp
      exact z_vret hx hb hr hlk (by decide) (by decide) hw (⟨hsub, hfr, f2_6, p2_7, ki, ra, rn, rv, hf_rd, by omega, by omega, by omega⟩) dX5_takeSign_28
    · skip
      refine lv_aload_n hx hb dX5_takeSign_16 rfl (lv_at hl 0 rfl) ?_
      refine z_callvV (cells := 0) (slots := 0) (b := rd) (As := []) (rest := []) (ci := 5) (q0 := (RX5, TX5, 9)) ⟨hx, hb, hml, hown, hT⟩ (c_X5_step l hm_rd hm_tp hm_tb hf_rd hf_tp hf_tb (by first | omega | decide | assumption) (by first | omega | decide | assumption)) (cwV 0 hT (z_goodV (fun _ h => h) kw_536 kw_538 kw_0 kw_89 kw_539) rfl rfl rfl (by decide +kernel) ⟨by decide, by decide⟩) z_mv hKK hK hw hA hm_rd hf_rd rfl rfl rfl hl.1 rfl (Nat.le_of_ble_eq_true rfl) dX5_takeSign_17 ⟨by decide, by decide⟩ (fun u H locs hp hw => ?_)
      obtain ⟨L9, f10⟩ := u
      obtain ⟨hsb, hfm, k2_11, a2_12, n2_13, z2_14, ha_0, hp⟩ := hp
      have hsb : L = L9 := hsb
      subst hsb
      have hsb : ∀ b ∈ L, b ∈ L := fun _ h => h
      have hw : z_H D vwCl (z_A L sz) s.heap L f10 H locs := hw
      have hfr : ∀ b ∈ L, b ≠ rd → f10 b = f b := fun b hb h0 => (hfm b hb h0).trans (hfr b hb h0)
      have hf_tp : f10 tp = .inr (7, [.ref tb, .int tl]) := (hfm tp hm_tp (z_tne hf_tp hf_rd (m := 7) (n := 5) rfl rfl (by decide))).trans hf_tp
      have hf_tb : f10 tb = .inl (cy 0, 1600, .inl gt) := (hfm tb hm_tb (z_tne hf_tb hf_rd (m := 12900) (n := 5) rfl rfl (by decide))).trans hf_tb
      have hf_rd : f10 rd = .inr (5, [.int fa, .int fp, .ref tp, .ref mo, .int ot_, .int k2_11, .int a2_12, .int n2_13, .int z2_14]) := ha_0
      refine lv_goto (tgt := 28) hx hb dX5_takeSign_20 (by decide) ?_
      exact z_vret hx hb hr hlk (by decide) (by decide) hw (⟨hsub, hfr, fa, fp, k2_11, a2_12, n2_13, z2_14, hf_rd, by omega, by omega, by omega⟩) dX5_takeSign_28
  · skip
    exact z_vret hx hb hr hlk (by decide) (by decide) hw (⟨hsub, hfr, fa, fp, ki, ra, rn, rv, hf_rd, by omega, by omega, by omega⟩) dX5_takeSign_7

set_option maxHeartbeats 2000000 in
set_option maxRecDepth 100000 in
theorem c_X5_take_ (l : Launch) {D : va_G} {cy : Nat → ClassId} {L : List Nat} {f : Nat → va_E} {sz : Nat} {adK adV : Nat → Nat} {rd tp tb mo : Nat} {fa fp ot_ ki ra rn rv : Int32} {tl : Int32} {gt : Nat → Int32} {le mx : Int32} (hm_rd : rd ∈ L) (hm_tp : tp ∈ L) (hm_tb : tb ∈ L) (hf_rd : f rd = .inr (5, [.int fa, .int fp, .ref tp, .ref mo, .int ot_, .int ki, .int ra, .int rn, .int rv])) (hf_tp : f tp = .inr (7, [.ref tb, .int tl])) (hf_tb : f tb = .inl (cy 0, 1600, .inl gt)) (htl : 0 ≤ tl.toInt ∧ tl.toInt ≤ 1600) (hrr : (0 ≤ ra.toInt ∧ ra.toInt ≤ 1600) ∧ (0 ≤ rn.toInt ∧ rn.toInt ≤ 1600)) : Met l yX5_take_ (z_ws yX5_take_ cX5_take_ 4 (some .int)) (z_R 3 0 0) (va_Pc [.ref rd, .int le, .int mx] (z_Pre D vwCl (z_KK D cy adK adV) L f sz)) (z_Qi D vwCl (fun r u => L = u.1 ∧ (∀ b ∈ L, b ≠ rd → u.2 b = f b) ∧ (∃ (f2 p2 k2 a2 n2 z2 : Int32), (u.2 rd = .inr (5, [.int f2, .int p2, .ref tp, .ref mo, .int ot_, .int k2, .int a2, .int n2, .int z2])) ∧ (((f2.toInt = 0 ∧ fa.toInt = 0 ∧ le.toInt ≤ r.toInt ∧ r.toInt ≤ mx.toInt) ∨ (f2.toInt ≠ 0 ∧ r.toInt = -1)) ∧ (0 ≤ a2.toInt ∧ a2.toInt ≤ 1600) ∧ (0 ≤ n2.toInt ∧ n2.toInt ≤ 1600)))) L sz) 0 0 (z_A L sz) := by
  refine z_met (cc := cX5_take_) (maxL := 4) (ret := (some .int)) (lv := [(0, .ref rd), (1, .int le), (2, .int mx)]) (by decide) rfl (Nat.le_of_ble_eq_true rfl) rfl ?_
  intro p e s m below meth c ls hx hb hr hlk hml hown hnm hts hKK hA hw hl
  have hK := hKK.1.1
  have hown : s.vm.findClass RX5 = some m.cls := hown
  have hT : ∀ w ∈ lw_all, w.before ([.ref rd, .int le, .int mx] : List Value).toArray s = true := fun w h => hts w (z_cons w h)
  have hsub : L = L := rfl
  have hfr : ∀ b ∈ L, b ≠ rd → f b = f b := fun _ _ _ => rfl
  refine lv_aload_n hx hb dX5_take__0 rfl (lv_at hl 0 rfl) ?_
  refine z_get (C := RX5) (T := TX5) (N := 9) (ci := 5) (v := .int fa) hx hb hT zin_X5 hown hK hw hm_rd hf_rd rfl 0 (by decide) (hT _ kw_277) rfl dX5_take__1 ?_
  refine z_if_ne (tgt := 23) hx hb rfl dX5_take__4 (by decide) (fun c1 => ?_) (fun c1 => ?_)
  · skip
    refine lv_aload_n hx hb dX5_take__23 rfl (lv_at hl 0 rfl) ?_
    refine z_get (C := RX5) (T := TX5) (N := 9) (ci := 5) (v := .int fa) hx hb hT zin_X5 hown hK hw hm_rd hf_rd rfl 0 (by decide) (hT _ kw_277) rfl dX5_take__24 ?_
    refine z_if_ne (tgt := 51) hx hb rfl dX5_take__27 (by decide) (fun c2 => ?_) (fun c2 => ?_)
    · skip
      refine lv_aload_n hx hb dX5_take__51 rfl (lv_at hl 0 rfl) ?_
      refine z_get (C := RX5) (T := TX5) (N := 9) (ci := 5) (v := .int fa) hx hb hT zin_X5 hown hK hw hm_rd hf_rd rfl 0 (by decide) (hT _ kw_277) rfl dX5_take__52 ?_
      refine z_if_eq (tgt := 60) hx hb rfl dX5_take__55 (by decide) (fun c3 => ?_) (fun c3 => ?_)
      · skip
        refine lv_aload_n hx hb dX5_take__60 rfl (lv_at hl 0 rfl) ?_
        refine z_get (C := RX5) (T := TX5) (N := 9) (ci := 5) (v := .int rv) hx hb hT zin_X5 hown hK hw hm_rd hf_rd rfl 8 (by decide) (hT _ kw_287) rfl dX5_take__61 ?_
        refine lv_istore_n (lv' := [(3, .int rv), (0, .ref rd), (1, .int le), (2, .int mx)]) hx hb dX5_take__64 rfl hl (by decide) rfl (fun ls hl => ?_)
        refine lv_aload_n hx hb dX5_take__65 rfl (lv_at hl 1 rfl) ?_
        refine z_callvV (cells := 0) (slots := 0) (b := rd) (As := []) (rest := []) (ci := 5) (q0 := (RX5, TX5, 9)) ⟨hx, hb, hml, hown, hT⟩ (c_X5_step l hm_rd hm_tp hm_tb hf_rd hf_tp hf_tb (by first | omega | decide | assumption) (by first | omega | decide | assumption)) (cwV 0 hT (z_goodV (fun _ h => h) kw_536 kw_538 kw_0 kw_89 kw_539) rfl rfl rfl (by decide +kernel) ⟨by decide, by decide⟩) z_mv hKK hK hw hA hm_rd hf_rd rfl rfl rfl hl.1 rfl (Nat.le_of_ble_eq_true rfl) dX5_take__66 ⟨by decide, by decide⟩ (fun u H locs hp hw => ?_)
        obtain ⟨L4, f5⟩ := u
        obtain ⟨hsb, hfm, k2_6, a2_7, n2_8, z2_9, ha_0, hp⟩ := hp
        have hsb : L = L4 := hsb
        subst hsb
        have hsb : ∀ b ∈ L, b ∈ L := fun _ h => h
        have hw : z_H D vwCl (z_A L sz) s.heap L f5 H locs := hw
        have hfr : ∀ b ∈ L, b ≠ rd → f5 b = f b := fun b hb h0 => (hfm b hb h0).trans (hfr b hb h0)
        have hf_tp : f5 tp = .inr (7, [.ref tb, .int tl]) := (hfm tp hm_tp (z_tne hf_tp hf_rd (m := 7) (n := 5) rfl rfl (by decide))).trans hf_tp
        have hf_tb : f5 tb = .inl (cy 0, 1600, .inl gt) := (hfm tb hm_tb (z_tne hf_tb hf_rd (m := 12900) (n := 5) rfl rfl (by decide))).trans hf_tb
        have hf_rd : f5 rd = .inr (5, [.int fa, .int fp, .ref tp, .ref mo, .int ot_, .int k2_6, .int a2_7, .int n2_8, .int z2_9]) := ha_0
        have hq10 := hp
        refine lv_iload_n hx hb dX5_take__69 rfl (lv_at hl 0 rfl) ?_
        exact z_iret hx hb hr hlk (by decide) (by decide) hw (⟨hsub, hfr, fa, fp, k2_6, a2_7, n2_8, z2_9, hf_rd, by first | omega | (right; exact ⟨by omega, by decide⟩), by omega, by omega⟩) dX5_take__70
      · skip
        refine lv_iconst (v := (-1)) hx hb dX5_take__58 (by decide) ?_
        exact z_iret hx hb hr hlk (by decide) (by decide) hw (⟨hsub, hfr, fa, fp, ki, ra, rn, rv, hf_rd, by first | omega | (right; exact ⟨by omega, by decide⟩), by omega, by omega⟩) dX5_take__59
    · skip
      refine lv_aload_n hx hb dX5_take__30 rfl (lv_at hl 0 rfl) ?_
      refine z_get (C := RX5) (T := TX5) (N := 9) (ci := 5) (v := .int rv) hx hb hT zin_X5 hown hK hw hm_rd hf_rd rfl 8 (by decide) (hT _ kw_287) rfl dX5_take__31 ?_
      refine lv_iload_n hx hb dX5_take__34 rfl (lv_at hl 1 rfl) ?_
      refine z_icmp_lt (tgt := 46) hx hb rfl rfl dX5_take__35 (by decide) (fun c11 => ?_) (fun c11 => ?_)
      · skip
        refine lv_aload_n hx hb dX5_take__46 rfl (lv_at hl 0 rfl) ?_
        refine lv_iconst (v := 2) hx hb dX5_take__47 (by decide) ?_
        have hz12 := (show (2 : Int32).toInt = 2 by decide)
        refine z_callvV (cells := 0) (slots := 0) (b := rd) (As := [.int 2]) (rest := []) (ci := 5) (q0 := (RX5, TX5, 9)) ⟨hx, hb, hml, hown, hT⟩ (c_X5_refuse l hm_rd hf_rd (by first | omega | decide | assumption)) (cwV 1 hT (z_goodV (fun _ h => h) kw_622 kw_624 kw_4 kw_89 kw_625) rfl rfl rfl (by decide +kernel) ⟨by decide, by decide⟩) z_mv hKK hK hw hA hm_rd hf_rd rfl rfl rfl hl.1 rfl (Nat.le_of_ble_eq_true rfl) dX5_take__48 ⟨by decide, by decide⟩ (fun u H locs hp hw => ?_)
        obtain ⟨L13, f14⟩ := u
        obtain ⟨hsb, hfm, f2_15, p2_16, ha_0, hp⟩ := hp
        have hsb : L = L13 := hsb
        subst hsb
        have hsb : ∀ b ∈ L, b ∈ L := fun _ h => h
        have hw : z_H D vwCl (z_A L sz) s.heap L f14 H locs := hw
        have hfr : ∀ b ∈ L, b ≠ rd → f14 b = f b := fun b hb h0 => (hfm b hb h0).trans (hfr b hb h0)
        have hf_tp : f14 tp = .inr (7, [.ref tb, .int tl]) := (hfm tp hm_tp (z_tne hf_tp hf_rd (m := 7) (n := 5) rfl rfl (by decide))).trans hf_tp
        have hf_tb : f14 tb = .inl (cy 0, 1600, .inl gt) := (hfm tb hm_tb (z_tne hf_tb hf_rd (m := 12900) (n := 5) rfl rfl (by decide))).trans hf_tb
        have hf_rd : f14 rd = .inr (5, [.int f2_15, .int p2_16, .ref tp, .ref mo, .int ot_, .int ki, .int ra, .int rn, .int rv]) := ha_0
        have hq17 := hp
        refine lv_aload_n hx hb dX5_take__51 rfl (lv_at hl 0 rfl) ?_
        refine z_get (C := RX5) (T := TX5) (N := 9) (ci := 5) (v := .int f2_15) hx hb hT zin_X5 hown hK hw hm_rd hf_rd rfl 0 (by decide) (hT _ kw_277) rfl dX5_take__52 ?_
        refine z_if_eq (tgt := 60) hx hb rfl dX5_take__55 (by decide) (fun c18 => ?_) (fun c18 => ?_)
        · skip
          refine lv_aload_n hx hb dX5_take__60 rfl (lv_at hl 0 rfl) ?_
          refine z_get (C := RX5) (T := TX5) (N := 9) (ci := 5) (v := .int rv) hx hb hT zin_X5 hown hK hw hm_rd hf_rd rfl 8 (by decide) (hT _ kw_287) rfl dX5_take__61 ?_
          refine lv_istore_n (lv' := [(3, .int rv), (0, .ref rd), (1, .int le), (2, .int mx)]) hx hb dX5_take__64 rfl hl (by decide) rfl (fun ls hl => ?_)
          refine lv_aload_n hx hb dX5_take__65 rfl (lv_at hl 1 rfl) ?_
          refine z_callvV (cells := 0) (slots := 0) (b := rd) (As := []) (rest := []) (ci := 5) (q0 := (RX5, TX5, 9)) ⟨hx, hb, hml, hown, hT⟩ (c_X5_step l hm_rd hm_tp hm_tb hf_rd hf_tp hf_tb (by first | omega | decide | assumption) (by first | omega | decide | assumption)) (cwV 0 hT (z_goodV (fun _ h => h) kw_536 kw_538 kw_0 kw_89 kw_539) rfl rfl rfl (by decide +kernel) ⟨by decide, by decide⟩) z_mv hKK hK hw hA hm_rd hf_rd rfl rfl rfl hl.1 rfl (Nat.le_of_ble_eq_true rfl) dX5_take__66 ⟨by decide, by decide⟩ (fun u H locs hp hw => ?_)
          obtain ⟨L19, f20⟩ := u
          obtain ⟨hsb, hfm, k2_21, a2_22, n2_23, z2_24, ha_0, hp⟩ := hp
          have hsb : L = L19 := hsb
          subst hsb
          have hsb : ∀ b ∈ L, b ∈ L := fun _ h => h
          have hw : z_H D vwCl (z_A L sz) s.heap L f20 H locs := hw
          have hfr : ∀ b ∈ L, b ≠ rd → f20 b = f b := fun b hb h0 => (hfm b hb h0).trans (hfr b hb h0)
          have hf_tp : f20 tp = .inr (7, [.ref tb, .int tl]) := (hfm tp hm_tp (z_tne hf_tp hf_rd (m := 7) (n := 5) rfl rfl (by decide))).trans hf_tp
          have hf_tb : f20 tb = .inl (cy 0, 1600, .inl gt) := (hfm tb hm_tb (z_tne hf_tb hf_rd (m := 12900) (n := 5) rfl rfl (by decide))).trans hf_tb
          have hf_rd : f20 rd = .inr (5, [.int f2_15, .int p2_16, .ref tp, .ref mo, .int ot_, .int k2_21, .int a2_22, .int n2_23, .int z2_24]) := ha_0
          have hq25 := hp
          refine lv_iload_n hx hb dX5_take__69 rfl (lv_at hl 0 rfl) ?_
          exact z_iret hx hb hr hlk (by decide) (by decide) hw (⟨hsub, hfr, f2_15, p2_16, k2_21, a2_22, n2_23, z2_24, hf_rd, by first | omega | (right; exact ⟨by omega, by decide⟩), by omega, by omega⟩) dX5_take__70
        · skip
          refine lv_iconst (v := (-1)) hx hb dX5_take__58 (by decide) ?_
          exact z_iret hx hb hr hlk (by decide) (by decide) hw (⟨hsub, hfr, f2_15, p2_16, ki, ra, rn, rv, hf_rd, by first | omega | (right; exact ⟨by omega, by decide⟩), by omega, by omega⟩) dX5_take__59
      · skip
        refine lv_aload_n hx hb dX5_take__38 rfl (lv_at hl 0 rfl) ?_
        refine z_get (C := RX5) (T := TX5) (N := 9) (ci := 5) (v := .int rv) hx hb hT zin_X5 hown hK hw hm_rd hf_rd rfl 8 (by decide) (hT _ kw_287) rfl dX5_take__39 ?_
        refine lv_iload_n hx hb dX5_take__42 rfl (lv_at hl 2 rfl) ?_
        refine z_icmp_le (tgt := 51) hx hb rfl rfl dX5_take__43 (by decide) (fun c26 => ?_) (fun c26 => ?_)
        · skip
          refine lv_aload_n hx hb dX5_take__51 rfl (lv_at hl 0 rfl) ?_
          refine z_get (C := RX5) (T := TX5) (N := 9) (ci := 5) (v := .int fa) hx hb hT zin_X5 hown hK hw hm_rd hf_rd rfl 0 (by decide) (hT _ kw_277) rfl dX5_take__52 ?_
          refine z_if_eq (tgt := 60) hx hb rfl dX5_take__55 (by decide) (fun c27 => ?_) (fun c27 => ?_)
          · skip
            refine lv_aload_n hx hb dX5_take__60 rfl (lv_at hl 0 rfl) ?_
            refine z_get (C := RX5) (T := TX5) (N := 9) (ci := 5) (v := .int rv) hx hb hT zin_X5 hown hK hw hm_rd hf_rd rfl 8 (by decide) (hT _ kw_287) rfl dX5_take__61 ?_
            refine lv_istore_n (lv' := [(3, .int rv), (0, .ref rd), (1, .int le), (2, .int mx)]) hx hb dX5_take__64 rfl hl (by decide) rfl (fun ls hl => ?_)
            refine lv_aload_n hx hb dX5_take__65 rfl (lv_at hl 1 rfl) ?_
            refine z_callvV (cells := 0) (slots := 0) (b := rd) (As := []) (rest := []) (ci := 5) (q0 := (RX5, TX5, 9)) ⟨hx, hb, hml, hown, hT⟩ (c_X5_step l hm_rd hm_tp hm_tb hf_rd hf_tp hf_tb (by first | omega | decide | assumption) (by first | omega | decide | assumption)) (cwV 0 hT (z_goodV (fun _ h => h) kw_536 kw_538 kw_0 kw_89 kw_539) rfl rfl rfl (by decide +kernel) ⟨by decide, by decide⟩) z_mv hKK hK hw hA hm_rd hf_rd rfl rfl rfl hl.1 rfl (Nat.le_of_ble_eq_true rfl) dX5_take__66 ⟨by decide, by decide⟩ (fun u H locs hp hw => ?_)
            obtain ⟨L28, f29⟩ := u
            obtain ⟨hsb, hfm, k2_30, a2_31, n2_32, z2_33, ha_0, hp⟩ := hp
            have hsb : L = L28 := hsb
            subst hsb
            have hsb : ∀ b ∈ L, b ∈ L := fun _ h => h
            have hw : z_H D vwCl (z_A L sz) s.heap L f29 H locs := hw
            have hfr : ∀ b ∈ L, b ≠ rd → f29 b = f b := fun b hb h0 => (hfm b hb h0).trans (hfr b hb h0)
            have hf_tp : f29 tp = .inr (7, [.ref tb, .int tl]) := (hfm tp hm_tp (z_tne hf_tp hf_rd (m := 7) (n := 5) rfl rfl (by decide))).trans hf_tp
            have hf_tb : f29 tb = .inl (cy 0, 1600, .inl gt) := (hfm tb hm_tb (z_tne hf_tb hf_rd (m := 12900) (n := 5) rfl rfl (by decide))).trans hf_tb
            have hf_rd : f29 rd = .inr (5, [.int fa, .int fp, .ref tp, .ref mo, .int ot_, .int k2_30, .int a2_31, .int n2_32, .int z2_33]) := ha_0
            have hq34 := hp
            refine lv_iload_n hx hb dX5_take__69 rfl (lv_at hl 0 rfl) ?_
            exact z_iret hx hb hr hlk (by decide) (by decide) hw (⟨hsub, hfr, fa, fp, k2_30, a2_31, n2_32, z2_33, hf_rd, by first | omega | (right; exact ⟨by omega, by decide⟩), by omega, by omega⟩) dX5_take__70
          · skip
            refine lv_iconst (v := (-1)) hx hb dX5_take__58 (by decide) ?_
            exact z_iret hx hb hr hlk (by decide) (by decide) hw (⟨hsub, hfr, fa, fp, ki, ra, rn, rv, hf_rd, by first | omega | (right; exact ⟨by omega, by decide⟩), by omega, by omega⟩) dX5_take__59
        · skip
          refine lv_aload_n hx hb dX5_take__46 rfl (lv_at hl 0 rfl) ?_
          refine lv_iconst (v := 2) hx hb dX5_take__47 (by decide) ?_
          have hz35 := (show (2 : Int32).toInt = 2 by decide)
          refine z_callvV (cells := 0) (slots := 0) (b := rd) (As := [.int 2]) (rest := []) (ci := 5) (q0 := (RX5, TX5, 9)) ⟨hx, hb, hml, hown, hT⟩ (c_X5_refuse l hm_rd hf_rd (by first | omega | decide | assumption)) (cwV 1 hT (z_goodV (fun _ h => h) kw_622 kw_624 kw_4 kw_89 kw_625) rfl rfl rfl (by decide +kernel) ⟨by decide, by decide⟩) z_mv hKK hK hw hA hm_rd hf_rd rfl rfl rfl hl.1 rfl (Nat.le_of_ble_eq_true rfl) dX5_take__48 ⟨by decide, by decide⟩ (fun u H locs hp hw => ?_)
          obtain ⟨L36, f37⟩ := u
          obtain ⟨hsb, hfm, f2_38, p2_39, ha_0, hp⟩ := hp
          have hsb : L = L36 := hsb
          subst hsb
          have hsb : ∀ b ∈ L, b ∈ L := fun _ h => h
          have hw : z_H D vwCl (z_A L sz) s.heap L f37 H locs := hw
          have hfr : ∀ b ∈ L, b ≠ rd → f37 b = f b := fun b hb h0 => (hfm b hb h0).trans (hfr b hb h0)
          have hf_tp : f37 tp = .inr (7, [.ref tb, .int tl]) := (hfm tp hm_tp (z_tne hf_tp hf_rd (m := 7) (n := 5) rfl rfl (by decide))).trans hf_tp
          have hf_tb : f37 tb = .inl (cy 0, 1600, .inl gt) := (hfm tb hm_tb (z_tne hf_tb hf_rd (m := 12900) (n := 5) rfl rfl (by decide))).trans hf_tb
          have hf_rd : f37 rd = .inr (5, [.int f2_38, .int p2_39, .ref tp, .ref mo, .int ot_, .int ki, .int ra, .int rn, .int rv]) := ha_0
          have hq40 := hp
          refine lv_aload_n hx hb dX5_take__51 rfl (lv_at hl 0 rfl) ?_
          refine z_get (C := RX5) (T := TX5) (N := 9) (ci := 5) (v := .int f2_38) hx hb hT zin_X5 hown hK hw hm_rd hf_rd rfl 0 (by decide) (hT _ kw_277) rfl dX5_take__52 ?_
          refine z_if_eq (tgt := 60) hx hb rfl dX5_take__55 (by decide) (fun c41 => ?_) (fun c41 => ?_)
          · skip
            refine lv_aload_n hx hb dX5_take__60 rfl (lv_at hl 0 rfl) ?_
            refine z_get (C := RX5) (T := TX5) (N := 9) (ci := 5) (v := .int rv) hx hb hT zin_X5 hown hK hw hm_rd hf_rd rfl 8 (by decide) (hT _ kw_287) rfl dX5_take__61 ?_
            refine lv_istore_n (lv' := [(3, .int rv), (0, .ref rd), (1, .int le), (2, .int mx)]) hx hb dX5_take__64 rfl hl (by decide) rfl (fun ls hl => ?_)
            refine lv_aload_n hx hb dX5_take__65 rfl (lv_at hl 1 rfl) ?_
            refine z_callvV (cells := 0) (slots := 0) (b := rd) (As := []) (rest := []) (ci := 5) (q0 := (RX5, TX5, 9)) ⟨hx, hb, hml, hown, hT⟩ (c_X5_step l hm_rd hm_tp hm_tb hf_rd hf_tp hf_tb (by first | omega | decide | assumption) (by first | omega | decide | assumption)) (cwV 0 hT (z_goodV (fun _ h => h) kw_536 kw_538 kw_0 kw_89 kw_539) rfl rfl rfl (by decide +kernel) ⟨by decide, by decide⟩) z_mv hKK hK hw hA hm_rd hf_rd rfl rfl rfl hl.1 rfl (Nat.le_of_ble_eq_true rfl) dX5_take__66 ⟨by decide, by decide⟩ (fun u H locs hp hw => ?_)
            obtain ⟨L42, f43⟩ := u
            obtain ⟨hsb, hfm, k2_44, a2_45, n2_46, z2_47, ha_0, hp⟩ := hp
            have hsb : L = L42 := hsb
            subst hsb
            have hsb : ∀ b ∈ L, b ∈ L := fun _ h => h
            have hw : z_H D vwCl (z_A L sz) s.heap L f43 H locs := hw
            have hfr : ∀ b ∈ L, b ≠ rd → f43 b = f b := fun b hb h0 => (hfm b hb h0).trans (hfr b hb h0)
            have hf_tp : f43 tp = .inr (7, [.ref tb, .int tl]) := (hfm tp hm_tp (z_tne hf_tp hf_rd (m := 7) (n := 5) rfl rfl (by decide))).trans hf_tp
            have hf_tb : f43 tb = .inl (cy 0, 1600, .inl gt) := (hfm tb hm_tb (z_tne hf_tb hf_rd (m := 12900) (n := 5) rfl rfl (by decide))).trans hf_tb
            have hf_rd : f43 rd = .inr (5, [.int f2_38, .int p2_39, .ref tp, .ref mo, .int ot_, .int k2_44, .int a2_45, .int n2_46, .int z2_47]) := ha_0
            have hq48 := hp
            refine lv_iload_n hx hb dX5_take__69 rfl (lv_at hl 0 rfl) ?_
            exact z_iret hx hb hr hlk (by decide) (by decide) hw (⟨hsub, hfr, f2_38, p2_39, k2_44, a2_45, n2_46, z2_47, hf_rd, by first | omega | (right; exact ⟨by omega, by decide⟩), by omega, by omega⟩) dX5_take__70
          · skip
            refine lv_iconst (v := (-1)) hx hb dX5_take__58 (by decide) ?_
            exact z_iret hx hb hr hlk (by decide) (by decide) hw (⟨hsub, hfr, f2_38, p2_39, ki, ra, rn, rv, hf_rd, by first | omega | (right; exact ⟨by omega, by decide⟩), by omega, by omega⟩) dX5_take__59
  · skip
    refine lv_aload_n hx hb dX5_take__7 rfl (lv_at hl 0 rfl) ?_
    refine z_get (C := RX5) (T := TX5) (N := 9) (ci := 5) (v := .int ki) hx hb hT zin_X5 hown hK hw hm_rd hf_rd rfl 5 (by decide) (hT _ kw_284) rfl dX5_take__8 ?_
    refine lv_iconst (v := 2) hx hb dX5_take__11 (by decide) ?_
    refine z_icmp_eq (tgt := 23) hx hb rfl (show (2 : Int32).toInt = 2 by decide) dX5_take__12 (by decide) (fun c49 => ?_) (fun c49 => ?_)
    · skip
      refine lv_aload_n hx hb dX5_take__23 rfl (lv_at hl 0 rfl) ?_
      refine z_get (C := RX5) (T := TX5) (N := 9) (ci := 5) (v := .int fa) hx hb hT zin_X5 hown hK hw hm_rd hf_rd rfl 0 (by decide) (hT _ kw_277) rfl dX5_take__24 ?_
      refine z_if_ne (tgt := 51) hx hb rfl dX5_take__27 (by decide) (fun c50 => ?_) (fun c50 => ?_)
      · skip
        refine lv_aload_n hx hb dX5_take__51 rfl (lv_at hl 0 rfl) ?_
        refine z_get (C := RX5) (T := TX5) (N := 9) (ci := 5) (v := .int fa) hx hb hT zin_X5 hown hK hw hm_rd hf_rd rfl 0 (by decide) (hT _ kw_277) rfl dX5_take__52 ?_
        refine z_if_eq (tgt := 60) hx hb rfl dX5_take__55 (by decide) (fun c51 => ?_) (fun c51 => ?_)
        · skip
          refine lv_aload_n hx hb dX5_take__60 rfl (lv_at hl 0 rfl) ?_
          refine z_get (C := RX5) (T := TX5) (N := 9) (ci := 5) (v := .int rv) hx hb hT zin_X5 hown hK hw hm_rd hf_rd rfl 8 (by decide) (hT _ kw_287) rfl dX5_take__61 ?_
          refine lv_istore_n (lv' := [(3, .int rv), (0, .ref rd), (1, .int le), (2, .int mx)]) hx hb dX5_take__64 rfl hl (by decide) rfl (fun ls hl => ?_)
          refine lv_aload_n hx hb dX5_take__65 rfl (lv_at hl 1 rfl) ?_
          refine z_callvV (cells := 0) (slots := 0) (b := rd) (As := []) (rest := []) (ci := 5) (q0 := (RX5, TX5, 9)) ⟨hx, hb, hml, hown, hT⟩ (c_X5_step l hm_rd hm_tp hm_tb hf_rd hf_tp hf_tb (by first | omega | decide | assumption) (by first | omega | decide | assumption)) (cwV 0 hT (z_goodV (fun _ h => h) kw_536 kw_538 kw_0 kw_89 kw_539) rfl rfl rfl (by decide +kernel) ⟨by decide, by decide⟩) z_mv hKK hK hw hA hm_rd hf_rd rfl rfl rfl hl.1 rfl (Nat.le_of_ble_eq_true rfl) dX5_take__66 ⟨by decide, by decide⟩ (fun u H locs hp hw => ?_)
          obtain ⟨L52, f53⟩ := u
          obtain ⟨hsb, hfm, k2_54, a2_55, n2_56, z2_57, ha_0, hp⟩ := hp
          have hsb : L = L52 := hsb
          subst hsb
          have hsb : ∀ b ∈ L, b ∈ L := fun _ h => h
          have hw : z_H D vwCl (z_A L sz) s.heap L f53 H locs := hw
          have hfr : ∀ b ∈ L, b ≠ rd → f53 b = f b := fun b hb h0 => (hfm b hb h0).trans (hfr b hb h0)
          have hf_tp : f53 tp = .inr (7, [.ref tb, .int tl]) := (hfm tp hm_tp (z_tne hf_tp hf_rd (m := 7) (n := 5) rfl rfl (by decide))).trans hf_tp
          have hf_tb : f53 tb = .inl (cy 0, 1600, .inl gt) := (hfm tb hm_tb (z_tne hf_tb hf_rd (m := 12900) (n := 5) rfl rfl (by decide))).trans hf_tb
          have hf_rd : f53 rd = .inr (5, [.int fa, .int fp, .ref tp, .ref mo, .int ot_, .int k2_54, .int a2_55, .int n2_56, .int z2_57]) := ha_0
          have hq58 := hp
          refine lv_iload_n hx hb dX5_take__69 rfl (lv_at hl 0 rfl) ?_
          exact z_iret hx hb hr hlk (by decide) (by decide) hw (⟨hsub, hfr, fa, fp, k2_54, a2_55, n2_56, z2_57, hf_rd, by first | omega | (right; exact ⟨by omega, by decide⟩), by omega, by omega⟩) dX5_take__70
        · skip
          refine lv_iconst (v := (-1)) hx hb dX5_take__58 (by decide) ?_
          exact z_iret hx hb hr hlk (by decide) (by decide) hw (⟨hsub, hfr, fa, fp, ki, ra, rn, rv, hf_rd, by first | omega | (right; exact ⟨by omega, by decide⟩), by omega, by omega⟩) dX5_take__59
      · skip
        refine lv_aload_n hx hb dX5_take__30 rfl (lv_at hl 0 rfl) ?_
        refine z_get (C := RX5) (T := TX5) (N := 9) (ci := 5) (v := .int rv) hx hb hT zin_X5 hown hK hw hm_rd hf_rd rfl 8 (by decide) (hT _ kw_287) rfl dX5_take__31 ?_
        refine lv_iload_n hx hb dX5_take__34 rfl (lv_at hl 1 rfl) ?_
        refine z_icmp_lt (tgt := 46) hx hb rfl rfl dX5_take__35 (by decide) (fun c59 => ?_) (fun c59 => ?_)
        · skip
          refine lv_aload_n hx hb dX5_take__46 rfl (lv_at hl 0 rfl) ?_
          refine lv_iconst (v := 2) hx hb dX5_take__47 (by decide) ?_
          have hz60 := (show (2 : Int32).toInt = 2 by decide)
          refine z_callvV (cells := 0) (slots := 0) (b := rd) (As := [.int 2]) (rest := []) (ci := 5) (q0 := (RX5, TX5, 9)) ⟨hx, hb, hml, hown, hT⟩ (c_X5_refuse l hm_rd hf_rd (by first | omega | decide | assumption)) (cwV 1 hT (z_goodV (fun _ h => h) kw_622 kw_624 kw_4 kw_89 kw_625) rfl rfl rfl (by decide +kernel) ⟨by decide, by decide⟩) z_mv hKK hK hw hA hm_rd hf_rd rfl rfl rfl hl.1 rfl (Nat.le_of_ble_eq_true rfl) dX5_take__48 ⟨by decide, by decide⟩ (fun u H locs hp hw => ?_)
          obtain ⟨L61, f62⟩ := u
          obtain ⟨hsb, hfm, f2_63, p2_64, ha_0, hp⟩ := hp
          have hsb : L = L61 := hsb
          subst hsb
          have hsb : ∀ b ∈ L, b ∈ L := fun _ h => h
          have hw : z_H D vwCl (z_A L sz) s.heap L f62 H locs := hw
          have hfr : ∀ b ∈ L, b ≠ rd → f62 b = f b := fun b hb h0 => (hfm b hb h0).trans (hfr b hb h0)
          have hf_tp : f62 tp = .inr (7, [.ref tb, .int tl]) := (hfm tp hm_tp (z_tne hf_tp hf_rd (m := 7) (n := 5) rfl rfl (by decide))).trans hf_tp
          have hf_tb : f62 tb = .inl (cy 0, 1600, .inl gt) := (hfm tb hm_tb (z_tne hf_tb hf_rd (m := 12900) (n := 5) rfl rfl (by decide))).trans hf_tb
          have hf_rd : f62 rd = .inr (5, [.int f2_63, .int p2_64, .ref tp, .ref mo, .int ot_, .int ki, .int ra, .int rn, .int rv]) := ha_0
          have hq65 := hp
          refine lv_aload_n hx hb dX5_take__51 rfl (lv_at hl 0 rfl) ?_
          refine z_get (C := RX5) (T := TX5) (N := 9) (ci := 5) (v := .int f2_63) hx hb hT zin_X5 hown hK hw hm_rd hf_rd rfl 0 (by decide) (hT _ kw_277) rfl dX5_take__52 ?_
          refine z_if_eq (tgt := 60) hx hb rfl dX5_take__55 (by decide) (fun c66 => ?_) (fun c66 => ?_)
          · skip
            refine lv_aload_n hx hb dX5_take__60 rfl (lv_at hl 0 rfl) ?_
            refine z_get (C := RX5) (T := TX5) (N := 9) (ci := 5) (v := .int rv) hx hb hT zin_X5 hown hK hw hm_rd hf_rd rfl 8 (by decide) (hT _ kw_287) rfl dX5_take__61 ?_
            refine lv_istore_n (lv' := [(3, .int rv), (0, .ref rd), (1, .int le), (2, .int mx)]) hx hb dX5_take__64 rfl hl (by decide) rfl (fun ls hl => ?_)
            refine lv_aload_n hx hb dX5_take__65 rfl (lv_at hl 1 rfl) ?_
            refine z_callvV (cells := 0) (slots := 0) (b := rd) (As := []) (rest := []) (ci := 5) (q0 := (RX5, TX5, 9)) ⟨hx, hb, hml, hown, hT⟩ (c_X5_step l hm_rd hm_tp hm_tb hf_rd hf_tp hf_tb (by first | omega | decide | assumption) (by first | omega | decide | assumption)) (cwV 0 hT (z_goodV (fun _ h => h) kw_536 kw_538 kw_0 kw_89 kw_539) rfl rfl rfl (by decide +kernel) ⟨by decide, by decide⟩) z_mv hKK hK hw hA hm_rd hf_rd rfl rfl rfl hl.1 rfl (Nat.le_of_ble_eq_true rfl) dX5_take__66 ⟨by decide, by decide⟩ (fun u H locs hp hw => ?_)
            obtain ⟨L67, f68⟩ := u
            obtain ⟨hsb, hfm, k2_69, a2_70, n2_71, z2_72, ha_0, hp⟩ := hp
            have hsb : L = L67 := hsb
            subst hsb
            have hsb : ∀ b ∈ L, b ∈ L := fun _ h => h
            have hw : z_H D vwCl (z_A L sz) s.heap L f68 H locs := hw
            have hfr : ∀ b ∈ L, b ≠ rd → f68 b = f b := fun b hb h0 => (hfm b hb h0).trans (hfr b hb h0)
            have hf_tp : f68 tp = .inr (7, [.ref tb, .int tl]) := (hfm tp hm_tp (z_tne hf_tp hf_rd (m := 7) (n := 5) rfl rfl (by decide))).trans hf_tp
            have hf_tb : f68 tb = .inl (cy 0, 1600, .inl gt) := (hfm tb hm_tb (z_tne hf_tb hf_rd (m := 12900) (n := 5) rfl rfl (by decide))).trans hf_tb
            have hf_rd : f68 rd = .inr (5, [.int f2_63, .int p2_64, .ref tp, .ref mo, .int ot_, .int k2_69, .int a2_70, .int n2_71, .int z2_72]) := ha_0
            have hq73 := hp
            refine lv_iload_n hx hb dX5_take__69 rfl (lv_at hl 0 rfl) ?_
            exact z_iret hx hb hr hlk (by decide) (by decide) hw (⟨hsub, hfr, f2_63, p2_64, k2_69, a2_70, n2_71, z2_72, hf_rd, by first | omega | (right; exact ⟨by omega, by decide⟩), by omega, by omega⟩) dX5_take__70
          · skip
            refine lv_iconst (v := (-1)) hx hb dX5_take__58 (by decide) ?_
            exact z_iret hx hb hr hlk (by decide) (by decide) hw (⟨hsub, hfr, f2_63, p2_64, ki, ra, rn, rv, hf_rd, by first | omega | (right; exact ⟨by omega, by decide⟩), by omega, by omega⟩) dX5_take__59
        · skip
          refine lv_aload_n hx hb dX5_take__38 rfl (lv_at hl 0 rfl) ?_
          refine z_get (C := RX5) (T := TX5) (N := 9) (ci := 5) (v := .int rv) hx hb hT zin_X5 hown hK hw hm_rd hf_rd rfl 8 (by decide) (hT _ kw_287) rfl dX5_take__39 ?_
          refine lv_iload_n hx hb dX5_take__42 rfl (lv_at hl 2 rfl) ?_
          refine z_icmp_le (tgt := 51) hx hb rfl rfl dX5_take__43 (by decide) (fun c74 => ?_) (fun c74 => ?_)
          · skip
            refine lv_aload_n hx hb dX5_take__51 rfl (lv_at hl 0 rfl) ?_
            refine z_get (C := RX5) (T := TX5) (N := 9) (ci := 5) (v := .int fa) hx hb hT zin_X5 hown hK hw hm_rd hf_rd rfl 0 (by decide) (hT _ kw_277) rfl dX5_take__52 ?_
            refine z_if_eq (tgt := 60) hx hb rfl dX5_take__55 (by decide) (fun c75 => ?_) (fun c75 => ?_)
            · skip
              refine lv_aload_n hx hb dX5_take__60 rfl (lv_at hl 0 rfl) ?_
              refine z_get (C := RX5) (T := TX5) (N := 9) (ci := 5) (v := .int rv) hx hb hT zin_X5 hown hK hw hm_rd hf_rd rfl 8 (by decide) (hT _ kw_287) rfl dX5_take__61 ?_
              refine lv_istore_n (lv' := [(3, .int rv), (0, .ref rd), (1, .int le), (2, .int mx)]) hx hb dX5_take__64 rfl hl (by decide) rfl (fun ls hl => ?_)
              refine lv_aload_n hx hb dX5_take__65 rfl (lv_at hl 1 rfl) ?_
              refine z_callvV (cells := 0) (slots := 0) (b := rd) (As := []) (rest := []) (ci := 5) (q0 := (RX5, TX5, 9)) ⟨hx, hb, hml, hown, hT⟩ (c_X5_step l hm_rd hm_tp hm_tb hf_rd hf_tp hf_tb (by first | omega | decide | assumption) (by first | omega | decide | assumption)) (cwV 0 hT (z_goodV (fun _ h => h) kw_536 kw_538 kw_0 kw_89 kw_539) rfl rfl rfl (by decide +kernel) ⟨by decide, by decide⟩) z_mv hKK hK hw hA hm_rd hf_rd rfl rfl rfl hl.1 rfl (Nat.le_of_ble_eq_true rfl) dX5_take__66 ⟨by decide, by decide⟩ (fun u H locs hp hw => ?_)
              obtain ⟨L76, f77⟩ := u
              obtain ⟨hsb, hfm, k2_78, a2_79, n2_80, z2_81, ha_0, hp⟩ := hp
              have hsb : L = L76 := hsb
              subst hsb
              have hsb : ∀ b ∈ L, b ∈ L := fun _ h => h
              have hw : z_H D vwCl (z_A L sz) s.heap L f77 H locs := hw
              have hfr : ∀ b ∈ L, b ≠ rd → f77 b = f b := fun b hb h0 => (hfm b hb h0).trans (hfr b hb h0)
              have hf_tp : f77 tp = .inr (7, [.ref tb, .int tl]) := (hfm tp hm_tp (z_tne hf_tp hf_rd (m := 7) (n := 5) rfl rfl (by decide))).trans hf_tp
              have hf_tb : f77 tb = .inl (cy 0, 1600, .inl gt) := (hfm tb hm_tb (z_tne hf_tb hf_rd (m := 12900) (n := 5) rfl rfl (by decide))).trans hf_tb
              have hf_rd : f77 rd = .inr (5, [.int fa, .int fp, .ref tp, .ref mo, .int ot_, .int k2_78, .int a2_79, .int n2_80, .int z2_81]) := ha_0
              have hq82 := hp
              refine lv_iload_n hx hb dX5_take__69 rfl (lv_at hl 0 rfl) ?_
              exact z_iret hx hb hr hlk (by decide) (by decide) hw (⟨hsub, hfr, fa, fp, k2_78, a2_79, n2_80, z2_81, hf_rd, by first | omega | (right; exact ⟨by omega, by decide⟩), by omega, by omega⟩) dX5_take__70
            · skip
              refine lv_iconst (v := (-1)) hx hb dX5_take__58 (by decide) ?_
              exact z_iret hx hb hr hlk (by decide) (by decide) hw (⟨hsub, hfr, fa, fp, ki, ra, rn, rv, hf_rd, by first | omega | (right; exact ⟨by omega, by decide⟩), by omega, by omega⟩) dX5_take__59
          · skip
            refine lv_aload_n hx hb dX5_take__46 rfl (lv_at hl 0 rfl) ?_
            refine lv_iconst (v := 2) hx hb dX5_take__47 (by decide) ?_
            have hz83 := (show (2 : Int32).toInt = 2 by decide)
            refine z_callvV (cells := 0) (slots := 0) (b := rd) (As := [.int 2]) (rest := []) (ci := 5) (q0 := (RX5, TX5, 9)) ⟨hx, hb, hml, hown, hT⟩ (c_X5_refuse l hm_rd hf_rd (by first | omega | decide | assumption)) (cwV 1 hT (z_goodV (fun _ h => h) kw_622 kw_624 kw_4 kw_89 kw_625) rfl rfl rfl (by decide +kernel) ⟨by decide, by decide⟩) z_mv hKK hK hw hA hm_rd hf_rd rfl rfl rfl hl.1 rfl (Nat.le_of_ble_eq_true rfl) dX5_take__48 ⟨by decide, by decide⟩ (fun u H locs hp hw => ?_)
            obtain ⟨L84, f85⟩ := u
            obtain ⟨hsb, hfm, f2_86, p2_87, ha_0, hp⟩ := hp
            have hsb : L = L84 := hsb
            subst hsb
            have hsb : ∀ b ∈ L, b ∈ L := fun _ h => h
            have hw : z_H D vwCl (z_A L sz) s.heap L f85 H locs := hw
            have hfr : ∀ b ∈ L, b ≠ rd → f85 b = f b := fun b hb h0 => (hfm b hb h0).trans (hfr b hb h0)
            have hf_tp : f85 tp = .inr (7, [.ref tb, .int tl]) := (hfm tp hm_tp (z_tne hf_tp hf_rd (m := 7) (n := 5) rfl rfl (by decide))).trans hf_tp
            have hf_tb : f85 tb = .inl (cy 0, 1600, .inl gt) := (hfm tb hm_tb (z_tne hf_tb hf_rd (m := 12900) (n := 5) rfl rfl (by decide))).trans hf_tb
            have hf_rd : f85 rd = .inr (5, [.int f2_86, .int p2_87, .ref tp, .ref mo, .int ot_, .int ki, .int ra, .int rn, .int rv]) := ha_0
            have hq88 := hp
            refine lv_aload_n hx hb dX5_take__51 rfl (lv_at hl 0 rfl) ?_
            refine z_get (C := RX5) (T := TX5) (N := 9) (ci := 5) (v := .int f2_86) hx hb hT zin_X5 hown hK hw hm_rd hf_rd rfl 0 (by decide) (hT _ kw_277) rfl dX5_take__52 ?_
            refine z_if_eq (tgt := 60) hx hb rfl dX5_take__55 (by decide) (fun c89 => ?_) (fun c89 => ?_)
            · skip
              refine lv_aload_n hx hb dX5_take__60 rfl (lv_at hl 0 rfl) ?_
              refine z_get (C := RX5) (T := TX5) (N := 9) (ci := 5) (v := .int rv) hx hb hT zin_X5 hown hK hw hm_rd hf_rd rfl 8 (by decide) (hT _ kw_287) rfl dX5_take__61 ?_
              refine lv_istore_n (lv' := [(3, .int rv), (0, .ref rd), (1, .int le), (2, .int mx)]) hx hb dX5_take__64 rfl hl (by decide) rfl (fun ls hl => ?_)
              refine lv_aload_n hx hb dX5_take__65 rfl (lv_at hl 1 rfl) ?_
              refine z_callvV (cells := 0) (slots := 0) (b := rd) (As := []) (rest := []) (ci := 5) (q0 := (RX5, TX5, 9)) ⟨hx, hb, hml, hown, hT⟩ (c_X5_step l hm_rd hm_tp hm_tb hf_rd hf_tp hf_tb (by first | omega | decide | assumption) (by first | omega | decide | assumption)) (cwV 0 hT (z_goodV (fun _ h => h) kw_536 kw_538 kw_0 kw_89 kw_539) rfl rfl rfl (by decide +kernel) ⟨by decide, by decide⟩) z_mv hKK hK hw hA hm_rd hf_rd rfl rfl rfl hl.1 rfl (Nat.le_of_ble_eq_true rfl) dX5_take__66 ⟨by decide, by decide⟩ (fun u H locs hp hw => ?_)
              obtain ⟨L90, f91⟩ := u
              obtain ⟨hsb, hfm, k2_92, a2_93, n2_94, z2_95, ha_0, hp⟩ := hp
              have hsb : L = L90 := hsb
              subst hsb
              have hsb : ∀ b ∈ L, b ∈ L := fun _ h => h
              have hw : z_H D vwCl (z_A L sz) s.heap L f91 H locs := hw
              have hfr : ∀ b ∈ L, b ≠ rd → f91 b = f b := fun b hb h0 => (hfm b hb h0).trans (hfr b hb h0)
              have hf_tp : f91 tp = .inr (7, [.ref tb, .int tl]) := (hfm tp hm_tp (z_tne hf_tp hf_rd (m := 7) (n := 5) rfl rfl (by decide))).trans hf_tp
              have hf_tb : f91 tb = .inl (cy 0, 1600, .inl gt) := (hfm tb hm_tb (z_tne hf_tb hf_rd (m := 12900) (n := 5) rfl rfl (by decide))).trans hf_tb
              have hf_rd : f91 rd = .inr (5, [.int f2_86, .int p2_87, .ref tp, .ref mo, .int ot_, .int k2_92, .int a2_93, .int n2_94, .int z2_95]) := ha_0
              have hq96 := hp
              refine lv_iload_n hx hb dX5_take__69 rfl (lv_at hl 0 rfl) ?_
              exact z_iret hx hb hr hlk (by decide) (by decide) hw (⟨hsub, hfr, f2_86, p2_87, k2_92, a2_93, n2_94, z2_95, hf_rd, by first | omega | (right; exact ⟨by omega, by decide⟩), by omega, by omega⟩) dX5_take__70
            · skip
              refine lv_iconst (v := (-1)) hx hb dX5_take__58 (by decide) ?_
              exact z_iret hx hb hr hlk (by decide) (by decide) hw (⟨hsub, hfr, f2_86, p2_87, ki, ra, rn, rv, hf_rd, by first | omega | (right; exact ⟨by omega, by decide⟩), by omega, by omega⟩) dX5_take__59
    · skip
      refine lv_aload_n hx hb dX5_take__15 rfl (lv_at hl 0 rfl) ?_
      refine lv_iconst (v := 1) hx hb dX5_take__16 (by decide) ?_
      have hz97 := (show (1 : Int32).toInt = 1 by decide)
      refine z_callvV (cells := 0) (slots := 0) (b := rd) (As := [.int 1]) (rest := []) (ci := 5) (q0 := (RX5, TX5, 9)) ⟨hx, hb, hml, hown, hT⟩ (c_X5_refuse l hm_rd hf_rd (by first | omega | decide | assumption)) (cwV 1 hT (z_goodV (fun _ h => h) kw_622 kw_624 kw_4 kw_89 kw_625) rfl rfl rfl (by decide +kernel) ⟨by decide, by decide⟩) z_mv hKK hK hw hA hm_rd hf_rd rfl rfl rfl hl.1 rfl (Nat.le_of_ble_eq_true rfl) dX5_take__17 ⟨by decide, by decide⟩ (fun u H locs hp hw => ?_)
      obtain ⟨L98, f99⟩ := u
      obtain ⟨hsb, hfm, f2_100, p2_101, ha_0, hp⟩ := hp
      have hsb : L = L98 := hsb
      subst hsb
      have hsb : ∀ b ∈ L, b ∈ L := fun _ h => h
      have hw : z_H D vwCl (z_A L sz) s.heap L f99 H locs := hw
      have hfr : ∀ b ∈ L, b ≠ rd → f99 b = f b := fun b hb h0 => (hfm b hb h0).trans (hfr b hb h0)
      have hf_tp : f99 tp = .inr (7, [.ref tb, .int tl]) := (hfm tp hm_tp (z_tne hf_tp hf_rd (m := 7) (n := 5) rfl rfl (by decide))).trans hf_tp
      have hf_tb : f99 tb = .inl (cy 0, 1600, .inl gt) := (hfm tb hm_tb (z_tne hf_tb hf_rd (m := 12900) (n := 5) rfl rfl (by decide))).trans hf_tb
      have hf_rd : f99 rd = .inr (5, [.int f2_100, .int p2_101, .ref tp, .ref mo, .int ot_, .int ki, .int ra, .int rn, .int rv]) := ha_0
      have hq102 := hp
      refine lv_goto (tgt := 51) hx hb dX5_take__20 (by decide) ?_
      refine lv_aload_n hx hb dX5_take__51 rfl (lv_at hl 0 rfl) ?_
      refine z_get (C := RX5) (T := TX5) (N := 9) (ci := 5) (v := .int f2_100) hx hb hT zin_X5 hown hK hw hm_rd hf_rd rfl 0 (by decide) (hT _ kw_277) rfl dX5_take__52 ?_
      refine z_if_eq (tgt := 60) hx hb rfl dX5_take__55 (by decide) (fun c103 => ?_) (fun c103 => ?_)
      · skip
        refine lv_aload_n hx hb dX5_take__60 rfl (lv_at hl 0 rfl) ?_
        refine z_get (C := RX5) (T := TX5) (N := 9) (ci := 5) (v := .int rv) hx hb hT zin_X5 hown hK hw hm_rd hf_rd rfl 8 (by decide) (hT _ kw_287) rfl dX5_take__61 ?_
        refine lv_istore_n (lv' := [(3, .int rv), (0, .ref rd), (1, .int le), (2, .int mx)]) hx hb dX5_take__64 rfl hl (by decide) rfl (fun ls hl => ?_)
        refine lv_aload_n hx hb dX5_take__65 rfl (lv_at hl 1 rfl) ?_
        refine z_callvV (cells := 0) (slots := 0) (b := rd) (As := []) (rest := []) (ci := 5) (q0 := (RX5, TX5, 9)) ⟨hx, hb, hml, hown, hT⟩ (c_X5_step l hm_rd hm_tp hm_tb hf_rd hf_tp hf_tb (by first | omega | decide | assumption) (by first | omega | decide | assumption)) (cwV 0 hT (z_goodV (fun _ h => h) kw_536 kw_538 kw_0 kw_89 kw_539) rfl rfl rfl (by decide +kernel) ⟨by decide, by decide⟩) z_mv hKK hK hw hA hm_rd hf_rd rfl rfl rfl hl.1 rfl (Nat.le_of_ble_eq_true rfl) dX5_take__66 ⟨by decide, by decide⟩ (fun u H locs hp hw => ?_)
        obtain ⟨L104, f105⟩ := u
        obtain ⟨hsb, hfm, k2_106, a2_107, n2_108, z2_109, ha_0, hp⟩ := hp
        have hsb : L = L104 := hsb
        subst hsb
        have hsb : ∀ b ∈ L, b ∈ L := fun _ h => h
        have hw : z_H D vwCl (z_A L sz) s.heap L f105 H locs := hw
        have hfr : ∀ b ∈ L, b ≠ rd → f105 b = f b := fun b hb h0 => (hfm b hb h0).trans (hfr b hb h0)
        have hf_tp : f105 tp = .inr (7, [.ref tb, .int tl]) := (hfm tp hm_tp (z_tne hf_tp hf_rd (m := 7) (n := 5) rfl rfl (by decide))).trans hf_tp
        have hf_tb : f105 tb = .inl (cy 0, 1600, .inl gt) := (hfm tb hm_tb (z_tne hf_tb hf_rd (m := 12900) (n := 5) rfl rfl (by decide))).trans hf_tb
        have hf_rd : f105 rd = .inr (5, [.int f2_100, .int p2_101, .ref tp, .ref mo, .int ot_, .int k2_106, .int a2_107, .int n2_108, .int z2_109]) := ha_0
        have hq110 := hp
        refine lv_iload_n hx hb dX5_take__69 rfl (lv_at hl 0 rfl) ?_
        exact z_iret hx hb hr hlk (by decide) (by decide) hw (⟨hsub, hfr, f2_100, p2_101, k2_106, a2_107, n2_108, z2_109, hf_rd, by first | omega | (right; exact ⟨by omega, by decide⟩), by omega, by omega⟩) dX5_take__70
      · skip
        refine lv_iconst (v := (-1)) hx hb dX5_take__58 (by decide) ?_
        exact z_iret hx hb hr hlk (by decide) (by decide) hw (⟨hsub, hfr, f2_100, p2_101, ki, ra, rn, rv, hf_rd, by first | omega | (right; exact ⟨by omega, by decide⟩), by omega, by omega⟩) dX5_take__59

set_option maxHeartbeats 2000000 in
set_option maxRecDepth 100000 in
theorem c_X5_takeNamed (l : Launch) {D : va_G} {cy : Nat → ClassId} {L : List Nat} {f : Nat → va_E} {sz : Nat} {adK adV : Nat → Nat} {rd tp tb mo : Nat} {fa fp ot_ ki ra rn rv : Int32} {tl : Int32} {gt : Nat → Int32} {wi : Nat} {le mx : Int32} (hm_rd : rd ∈ L) (hm_tp : tp ∈ L) (hm_tb : tb ∈ L) (hf_rd : f rd = .inr (5, [.int fa, .int fp, .ref tp, .ref mo, .int ot_, .int ki, .int ra, .int rn, .int rv])) (hf_tp : f tp = .inr (7, [.ref tb, .int tl])) (hf_tb : f tb = .inl (cy 0, 1600, .inl gt)) (htl : 0 ≤ tl.toInt ∧ tl.toInt ≤ 1600) (hrr : (0 ≤ ra.toInt ∧ ra.toInt ≤ 1600) ∧ (0 ≤ rn.toInt ∧ rn.toInt ≤ 1600)) (hwi : wi < 25) : Met l yX5_takeNamed (z_ws yX5_takeNamed cX5_takeNamed 4 (some .int)) (z_R 7 0 0) (va_Pc [.ref rd, .ref (adK wi), .int le, .int mx] (z_Pre D vwCl (z_KK D cy adK adV) L f sz)) (z_Qi D vwCl (fun r u => L = u.1 ∧ (∀ b ∈ L, b ≠ rd → u.2 b = f b) ∧ (∃ (f2 p2 k2 a2 n2 z2 : Int32), (u.2 rd = .inr (5, [.int f2, .int p2, .ref tp, .ref mo, .int ot_, .int k2, .int a2, .int n2, .int z2])) ∧ (((f2.toInt = 0 ∧ fa.toInt = 0 ∧ le.toInt ≤ r.toInt ∧ r.toInt ≤ mx.toInt) ∨ (f2.toInt ≠ 0 ∧ r.toInt = -1)) ∧ (0 ≤ a2.toInt ∧ a2.toInt ≤ 1600) ∧ (0 ≤ n2.toInt ∧ n2.toInt ≤ 1600)))) L sz) 0 0 (z_A L sz) := by
  refine z_met (cc := cX5_takeNamed) (maxL := 4) (ret := (some .int)) (lv := [(0, .ref rd), (1, .ref (adK wi)), (2, .int le), (3, .int mx)]) (by decide) rfl (Nat.le_of_ble_eq_true rfl) rfl ?_
  intro p e s m below meth c ls hx hb hr hlk hml hown hnm hts hKK hA hw hl
  have hK := hKK.1.1
  have hown : s.vm.findClass RX5 = some m.cls := hown
  have hT : ∀ w ∈ lw_all, w.before ([.ref rd, .ref (adK wi), .int le, .int mx] : List Value).toArray s = true := fun w h => hts w (z_cons w h)
  have hsub : L = L := rfl
  have hfr : ∀ b ∈ L, b ≠ rd → f b = f b := fun _ _ _ => rfl
  refine lv_aload_n hx hb dX5_takeNamed_0 rfl (lv_at hl 0 rfl) ?_
  refine lv_aload_n hx hb dX5_takeNamed_1 rfl (lv_at hl 1 rfl) ?_
  refine z_callvV (cells := 0) (slots := 0) (b := rd) (As := [.ref (adK wi)]) (rest := []) (ci := 5) (q0 := (RX5, TX5, 9)) ⟨hx, hb, hml, hown, hT⟩ (c_X5_take l hm_rd hm_tp hm_tb hf_rd hf_tp hf_tb (by first | omega | decide | assumption) (by first | omega | decide | assumption) (by first | omega | decide | assumption)) (cwV 1 hT (z_goodV (fun _ h => h) kw_566 kw_568 kw_2 kw_89 kw_569) rfl rfl rfl (by decide +kernel) ⟨by decide, by decide⟩) z_mv hKK hK hw hA hm_rd hf_rd rfl rfl rfl hl.1 rfl (Nat.le_of_ble_eq_true rfl) dX5_takeNamed_2 ⟨by decide, by decide⟩ (fun u H locs hp hw => ?_)
  obtain ⟨L1, f2⟩ := u
  obtain ⟨hsb, hfm, f2_3, p2_4, k2_5, a2_6, n2_7, z2_8, ha_0, hp⟩ := hp
  have hsb : L = L1 := hsb
  subst hsb
  have hsb : ∀ b ∈ L, b ∈ L := fun _ h => h
  have hw : z_H D vwCl (z_A L sz) s.heap L f2 H locs := hw
  have hfr : ∀ b ∈ L, b ≠ rd → f2 b = f b := fun b hb h0 => (hfm b hb h0).trans (hfr b hb h0)
  have hf_tp : f2 tp = .inr (7, [.ref tb, .int tl]) := (hfm tp hm_tp (z_tne hf_tp hf_rd (m := 7) (n := 5) rfl rfl (by decide))).trans hf_tp
  have hf_tb : f2 tb = .inl (cy 0, 1600, .inl gt) := (hfm tb hm_tb (z_tne hf_tb hf_rd (m := 12900) (n := 5) rfl rfl (by decide))).trans hf_tb
  have hf_rd : f2 rd = .inr (5, [.int f2_3, .int p2_4, .ref tp, .ref mo, .int ot_, .int k2_5, .int a2_6, .int n2_7, .int z2_8]) := ha_0
  have hq9 := hp
  refine lv_aload_n hx hb dX5_takeNamed_5 rfl (lv_at hl 0 rfl) ?_
  refine lv_iload_n hx hb dX5_takeNamed_6 rfl (lv_at hl 2 rfl) ?_
  refine lv_iload_n hx hb dX5_takeNamed_7 rfl (lv_at hl 3 rfl) ?_
  refine z_calliV (cells := 0) (slots := 0) (b := rd) (As := [.int le, .int mx]) (rest := []) (ci := 5) (q0 := (RX5, TX5, 9)) ⟨hx, hb, hml, hown, hT⟩ (c_X5_take_ l hm_rd hm_tp hm_tb hf_rd hf_tp hf_tb (by first | omega | decide | assumption) (by first | omega | decide | assumption)) (cwV 2 hT (z_goodV (fun _ h => h) kw_631 kw_633 kw_6 kw_89 kw_634) rfl rfl rfl (by decide +kernel) ⟨by decide, by decide⟩) z_mv hKK hK hw hA hm_rd hf_rd rfl rfl rfl hl.1 rfl (Nat.le_of_ble_eq_true rfl) dX5_takeNamed_8 ⟨by decide, by decide⟩ (fun r10 u H locs hp hw => ?_)
  obtain ⟨L11, f12⟩ := u
  obtain ⟨hsb, hfm, f2_13, p2_14, k2_15, a2_16, n2_17, z2_18, ha_0, hp⟩ := hp
  have hsb : L = L11 := hsb
  subst hsb
  have hsb : ∀ b ∈ L, b ∈ L := fun _ h => h
  have hw : z_H D vwCl (z_A L sz) s.heap L f12 H locs := hw
  have hfr : ∀ b ∈ L, b ≠ rd → f12 b = f b := fun b hb h0 => (hfm b hb h0).trans (hfr b hb h0)
  have hf_tp : f12 tp = .inr (7, [.ref tb, .int tl]) := (hfm tp hm_tp (z_tne hf_tp hf_rd (m := 7) (n := 5) rfl rfl (by decide))).trans hf_tp
  have hf_tb : f12 tb = .inl (cy 0, 1600, .inl gt) := (hfm tb hm_tb (z_tne hf_tb hf_rd (m := 12900) (n := 5) rfl rfl (by decide))).trans hf_tb
  have hf_rd : f12 rd = .inr (5, [.int f2_13, .int p2_14, .ref tp, .ref mo, .int ot_, .int k2_15, .int a2_16, .int n2_17, .int z2_18]) := ha_0
  have hq19 := hp
  exact z_iret hx hb hr hlk (by decide) (by decide) hw (⟨hsub, hfr, f2_13, p2_14, k2_15, a2_16, n2_17, z2_18, hf_rd, by first | omega | (right; exact ⟨by omega, by decide⟩), by omega, by omega⟩) dX5_takeNamed_11

set_option maxHeartbeats 2000000 in
set_option maxRecDepth 100000 in
theorem c_X5_takePainter (l : Launch) {D : va_G} {cy : Nat → ClassId} {L : List Nat} {f : Nat → va_E} {sz : Nat} {adK adV : Nat → Nat} {rd tp tb mo : Nat} {fa fp ot_ ki ra rn rv : Int32} {tl : Int32} {gt : Nat → Int32} {la sa mi da : Nat} {v0 v1 v2 v3 v4 v5 v6 : Int32} {on : Int32} (hm_rd : rd ∈ L) (hm_tp : tp ∈ L) (hm_tb : tb ∈ L) (hm_mo : mo ∈ L) (hf_rd : f rd = .inr (5, [.int fa, .int fp, .ref tp, .ref mo, .int ot_, .int ki, .int ra, .int rn, .int rv])) (hf_tp : f tp = .inr (7, [.ref tb, .int tl])) (hf_tb : f tb = .inl (cy 0, 1600, .inl gt)) (hf_mo : f mo = .inr (2, [.int v0, .int v1, .int v2, .int v3, .int v4, .int v5, .int v6, .ref la, .ref sa, .ref mi, .ref da])) (htl : 0 ≤ tl.toInt ∧ tl.toInt ≤ 1600) (hrr : (0 ≤ ra.toInt ∧ ra.toInt ≤ 1600) ∧ (0 ≤ rn.toInt ∧ rn.toInt ≤ 1600)) (hv3 : -1 ≤ v3.toInt ∧ v3.toInt ≤ 5) : Met l yX5_takePainter (z_ws yX5_takePainter cX5_takePainter 2 (some .int)) (z_R 4 0 0) (va_Pc [.ref rd, .int on] (z_Pre D vwCl (z_KK D cy adK adV) L f sz)) (z_Qi D vwCl (fun r u => L = u.1 ∧ (∀ b ∈ L, b ≠ rd → u.2 b = f b) ∧ (∃ (f2 p2 k2 a2 n2 z2 : Int32), (u.2 rd = .inr (5, [.int f2, .int p2, .ref tp, .ref mo, .int ot_, .int k2, .int a2, .int n2, .int z2])) ∧ (((f2.toInt = 0 ∧ fa.toInt = 0 ∧ 0 ≤ r.toInt ∧ r.toInt ≤ v3.toInt - 1) ∨ (f2.toInt ≠ 0 ∧ r.toInt = -1)) ∧ (0 ≤ a2.toInt ∧ a2.toInt ≤ 1600) ∧ (0 ≤ n2.toInt ∧ n2.toInt ≤ 1600)))) L sz) 0 0 (z_A L sz) := by
  refine z_met (cc := cX5_takePainter) (maxL := 2) (ret := (some .int)) (lv := [(0, .ref rd), (1, .int on)]) (by decide) rfl (Nat.le_of_ble_eq_true rfl) rfl ?_
  intro p e s m below meth c ls hx hb hr hlk hml hown hnm hts hKK hA hw hl
  have hK := hKK.1.1
  have hown : s.vm.findClass RX5 = some m.cls := hown
  have hT : ∀ w ∈ lw_all, w.before ([.ref rd, .int on] : List Value).toArray s = true := fun w h => hts w (z_cons w h)
  have hsub : L = L := rfl
  have hfr : ∀ b ∈ L, b ≠ rd → f b = f b := fun _ _ _ => rfl
  refine lv_aload_n hx hb dX5_takePainter_0 rfl (lv_at hl 0 rfl) ?_
  refine z_get (C := RX5) (T := TX5) (N := 9) (ci := 5) (v := .int ki) hx hb hT zin_X5 hown hK hw hm_rd hf_rd rfl 5 (by decide) (hT _ kw_284) rfl dX5_takePainter_1 ?_
  refine lv_iconst (v := 2) hx hb dX5_takePainter_4 (by decide) ?_
  refine z_icmp_ne (tgt := 21) hx hb rfl (show (2 : Int32).toInt = 2 by decide) dX5_takePainter_5 (by decide) (fun c1 => ?_) (fun c1 => ?_)
  · skip
    refine lv_aload_n hx hb dX5_takePainter_21 rfl (lv_at hl 0 rfl) ?_
    refine lv_iconst (v := 0) hx hb dX5_takePainter_22 (by decide) ?_
    refine lv_aload_n hx hb dX5_takePainter_23 rfl (lv_at hl 0 rfl) ?_
    refine z_get (C := RX5) (T := TX5) (N := 9) (ci := 5) (v := .ref mo) hx hb hT zin_X5 hown hK hw hm_rd hf_rd rfl 3 (by decide) (hT _ kw_282) rfl dX5_takePainter_24 ?_
    refine z_get (C := RX2) (T := TX2) (N := 11) (ci := 2) (v := .int v3) hx hb hT zin_X2 hown hK hw hm_mo hf_mo rfl 3 (by decide) (hT _ kw_216) rfl dX5_takePainter_27 ?_
    refine lv_iconst (v := 1) hx hb dX5_takePainter_30 (by decide) ?_
    refine lv_isub hx hb dX5_takePainter_31 ?_
    refine lv_topi (fun w2 e_w2 => ?_)
    have i_w2 : w2.toInt = (v3.toInt - 1) := z_subI e_w2 rfl (show (1 : Int32).toInt = 1 by decide) (by omega)
    have hz3 := (show (0 : Int32).toInt = 0 by decide)
    refine z_calliV (cells := 0) (slots := 0) (b := rd) (As := [.int 0, .int w2]) (rest := []) (ci := 5) (q0 := (RX5, TX5, 9)) ⟨hx, hb, hml, hown, hT⟩ (c_X5_take_ l hm_rd hm_tp hm_tb hf_rd hf_tp hf_tb (by first | omega | decide | assumption) (by first | omega | decide | assumption)) (cwV 2 hT (z_goodV (fun _ h => h) kw_631 kw_633 kw_6 kw_89 kw_634) rfl rfl rfl (by decide +kernel) ⟨by decide, by decide⟩) z_mv hKK hK hw hA hm_rd hf_rd rfl rfl rfl hl.1 rfl (Nat.le_of_ble_eq_true rfl) dX5_takePainter_32 ⟨by decide, by decide⟩ (fun r4 u H locs hp hw => ?_)
    obtain ⟨L5, f6⟩ := u
    obtain ⟨hsb, hfm, f2_7, p2_8, k2_9, a2_10, n2_11, z2_12, ha_0, hp⟩ := hp
    have hsb : L = L5 := hsb
    subst hsb
    have hsb : ∀ b ∈ L, b ∈ L := fun _ h => h
    have hw : z_H D vwCl (z_A L sz) s.heap L f6 H locs := hw
    have hfr : ∀ b ∈ L, b ≠ rd → f6 b = f b := fun b hb h0 => (hfm b hb h0).trans (hfr b hb h0)
    have hf_tp : f6 tp = .inr (7, [.ref tb, .int tl]) := (hfm tp hm_tp (z_tne hf_tp hf_rd (m := 7) (n := 5) rfl rfl (by decide))).trans hf_tp
    have hf_tb : f6 tb = .inl (cy 0, 1600, .inl gt) := (hfm tb hm_tb (z_tne hf_tb hf_rd (m := 12900) (n := 5) rfl rfl (by decide))).trans hf_tb
    have hf_mo : f6 mo = .inr (2, [.int v0, .int v1, .int v2, .int v3, .int v4, .int v5, .int v6, .ref la, .ref sa, .ref mi, .ref da]) := (hfm mo hm_mo (z_tne hf_mo hf_rd (m := 2) (n := 5) rfl rfl (by decide))).trans hf_mo
    have hf_rd : f6 rd = .inr (5, [.int f2_7, .int p2_8, .ref tp, .ref mo, .int ot_, .int k2_9, .int a2_10, .int n2_11, .int z2_12]) := ha_0
    have hq13 := hp
    exact z_iret hx hb hr hlk (by decide) (by decide) hw (⟨hsub, hfr, f2_7, p2_8, k2_9, a2_10, n2_11, z2_12, hf_rd, by first | omega | (right; exact ⟨by omega, by decide⟩), by omega, by omega⟩) dX5_takePainter_35
  · skip
    refine lv_aload_n hx hb dX5_takePainter_8 rfl (lv_at hl 0 rfl) ?_
    refine z_get (C := RX5) (T := TX5) (N := 9) (ci := 5) (v := .int rv) hx hb hT zin_X5 hown hK hw hm_rd hf_rd rfl 8 (by decide) (hT _ kw_287) rfl dX5_takePainter_9 ?_
    refine lv_iload_n hx hb dX5_takePainter_12 rfl (lv_at hl 1 rfl) ?_
    refine z_icmp_ne (tgt := 21) hx hb rfl rfl dX5_takePainter_13 (by decide) (fun c14 => ?_) (fun c14 => ?_)
    · skip
      refine lv_aload_n hx hb dX5_takePainter_21 rfl (lv_at hl 0 rfl) ?_
      refine lv_iconst (v := 0) hx hb dX5_takePainter_22 (by decide) ?_
      refine lv_aload_n hx hb dX5_takePainter_23 rfl (lv_at hl 0 rfl) ?_
      refine z_get (C := RX5) (T := TX5) (N := 9) (ci := 5) (v := .ref mo) hx hb hT zin_X5 hown hK hw hm_rd hf_rd rfl 3 (by decide) (hT _ kw_282) rfl dX5_takePainter_24 ?_
      refine z_get (C := RX2) (T := TX2) (N := 11) (ci := 2) (v := .int v3) hx hb hT zin_X2 hown hK hw hm_mo hf_mo rfl 3 (by decide) (hT _ kw_216) rfl dX5_takePainter_27 ?_
      refine lv_iconst (v := 1) hx hb dX5_takePainter_30 (by decide) ?_
      refine lv_isub hx hb dX5_takePainter_31 ?_
      refine lv_topi (fun w15 e_w15 => ?_)
      have i_w15 : w15.toInt = (v3.toInt - 1) := z_subI e_w15 rfl (show (1 : Int32).toInt = 1 by decide) (by omega)
      have hz16 := (show (0 : Int32).toInt = 0 by decide)
      refine z_calliV (cells := 0) (slots := 0) (b := rd) (As := [.int 0, .int w15]) (rest := []) (ci := 5) (q0 := (RX5, TX5, 9)) ⟨hx, hb, hml, hown, hT⟩ (c_X5_take_ l hm_rd hm_tp hm_tb hf_rd hf_tp hf_tb (by first | omega | decide | assumption) (by first | omega | decide | assumption)) (cwV 2 hT (z_goodV (fun _ h => h) kw_631 kw_633 kw_6 kw_89 kw_634) rfl rfl rfl (by decide +kernel) ⟨by decide, by decide⟩) z_mv hKK hK hw hA hm_rd hf_rd rfl rfl rfl hl.1 rfl (Nat.le_of_ble_eq_true rfl) dX5_takePainter_32 ⟨by decide, by decide⟩ (fun r17 u H locs hp hw => ?_)
      obtain ⟨L18, f19⟩ := u
      obtain ⟨hsb, hfm, f2_20, p2_21, k2_22, a2_23, n2_24, z2_25, ha_0, hp⟩ := hp
      have hsb : L = L18 := hsb
      subst hsb
      have hsb : ∀ b ∈ L, b ∈ L := fun _ h => h
      have hw : z_H D vwCl (z_A L sz) s.heap L f19 H locs := hw
      have hfr : ∀ b ∈ L, b ≠ rd → f19 b = f b := fun b hb h0 => (hfm b hb h0).trans (hfr b hb h0)
      have hf_tp : f19 tp = .inr (7, [.ref tb, .int tl]) := (hfm tp hm_tp (z_tne hf_tp hf_rd (m := 7) (n := 5) rfl rfl (by decide))).trans hf_tp
      have hf_tb : f19 tb = .inl (cy 0, 1600, .inl gt) := (hfm tb hm_tb (z_tne hf_tb hf_rd (m := 12900) (n := 5) rfl rfl (by decide))).trans hf_tb
      have hf_mo : f19 mo = .inr (2, [.int v0, .int v1, .int v2, .int v3, .int v4, .int v5, .int v6, .ref la, .ref sa, .ref mi, .ref da]) := (hfm mo hm_mo (z_tne hf_mo hf_rd (m := 2) (n := 5) rfl rfl (by decide))).trans hf_mo
      have hf_rd : f19 rd = .inr (5, [.int f2_20, .int p2_21, .ref tp, .ref mo, .int ot_, .int k2_22, .int a2_23, .int n2_24, .int z2_25]) := ha_0
      have hq26 := hp
      exact z_iret hx hb hr hlk (by decide) (by decide) hw (⟨hsub, hfr, f2_20, p2_21, k2_22, a2_23, n2_24, z2_25, hf_rd, by first | omega | (right; exact ⟨by omega, by decide⟩), by omega, by omega⟩) dX5_takePainter_35
    · skip
      refine lv_aload_n hx hb dX5_takePainter_16 rfl (lv_at hl 0 rfl) ?_
      refine lv_iconst (v := 2) hx hb dX5_takePainter_17 (by decide) ?_
      have hz27 := (show (2 : Int32).toInt = 2 by decide)
      refine z_callvV (cells := 0) (slots := 0) (b := rd) (As := [.int 2]) (rest := []) (ci := 5) (q0 := (RX5, TX5, 9)) ⟨hx, hb, hml, hown, hT⟩ (c_X5_refuse l hm_rd hf_rd (by first | omega | decide | assumption)) (cwV 1 hT (z_goodV (fun _ h => h) kw_622 kw_624 kw_4 kw_89 kw_625) rfl rfl rfl (by decide +kernel) ⟨by decide, by decide⟩) z_mv hKK hK hw hA hm_rd hf_rd rfl rfl rfl hl.1 rfl (Nat.le_of_ble_eq_true rfl) dX5_takePainter_18 ⟨by decide, by decide⟩ (fun u H locs hp hw => ?_)
      obtain ⟨L28, f29⟩ := u
      obtain ⟨hsb, hfm, f2_30, p2_31, ha_0, hp⟩ := hp
      have hsb : L = L28 := hsb
      subst hsb
      have hsb : ∀ b ∈ L, b ∈ L := fun _ h => h
      have hw : z_H D vwCl (z_A L sz) s.heap L f29 H locs := hw
      have hfr : ∀ b ∈ L, b ≠ rd → f29 b = f b := fun b hb h0 => (hfm b hb h0).trans (hfr b hb h0)
      have hf_tp : f29 tp = .inr (7, [.ref tb, .int tl]) := (hfm tp hm_tp (z_tne hf_tp hf_rd (m := 7) (n := 5) rfl rfl (by decide))).trans hf_tp
      have hf_tb : f29 tb = .inl (cy 0, 1600, .inl gt) := (hfm tb hm_tb (z_tne hf_tb hf_rd (m := 12900) (n := 5) rfl rfl (by decide))).trans hf_tb
      have hf_mo : f29 mo = .inr (2, [.int v0, .int v1, .int v2, .int v3, .int v4, .int v5, .int v6, .ref la, .ref sa, .ref mi, .ref da]) := (hfm mo hm_mo (z_tne hf_mo hf_rd (m := 2) (n := 5) rfl rfl (by decide))).trans hf_mo
      have hf_rd : f29 rd = .inr (5, [.int f2_30, .int p2_31, .ref tp, .ref mo, .int ot_, .int ki, .int ra, .int rn, .int rv]) := ha_0
      have hq32 := hp
      refine lv_aload_n hx hb dX5_takePainter_21 rfl (lv_at hl 0 rfl) ?_
      refine lv_iconst (v := 0) hx hb dX5_takePainter_22 (by decide) ?_
      refine lv_aload_n hx hb dX5_takePainter_23 rfl (lv_at hl 0 rfl) ?_
      refine z_get (C := RX5) (T := TX5) (N := 9) (ci := 5) (v := .ref mo) hx hb hT zin_X5 hown hK hw hm_rd hf_rd rfl 3 (by decide) (hT _ kw_282) rfl dX5_takePainter_24 ?_
      refine z_get (C := RX2) (T := TX2) (N := 11) (ci := 2) (v := .int v3) hx hb hT zin_X2 hown hK hw hm_mo hf_mo rfl 3 (by decide) (hT _ kw_216) rfl dX5_takePainter_27 ?_
      refine lv_iconst (v := 1) hx hb dX5_takePainter_30 (by decide) ?_
      refine lv_isub hx hb dX5_takePainter_31 ?_
      refine lv_topi (fun w33 e_w33 => ?_)
      have i_w33 : w33.toInt = (v3.toInt - 1) := z_subI e_w33 rfl (show (1 : Int32).toInt = 1 by decide) (by omega)
      have hz34 := (show (0 : Int32).toInt = 0 by decide)
      refine z_calliV (cells := 0) (slots := 0) (b := rd) (As := [.int 0, .int w33]) (rest := []) (ci := 5) (q0 := (RX5, TX5, 9)) ⟨hx, hb, hml, hown, hT⟩ (c_X5_take_ l hm_rd hm_tp hm_tb hf_rd hf_tp hf_tb (by first | omega | decide | assumption) (by first | omega | decide | assumption)) (cwV 2 hT (z_goodV (fun _ h => h) kw_631 kw_633 kw_6 kw_89 kw_634) rfl rfl rfl (by decide +kernel) ⟨by decide, by decide⟩) z_mv hKK hK hw hA hm_rd hf_rd rfl rfl rfl hl.1 rfl (Nat.le_of_ble_eq_true rfl) dX5_takePainter_32 ⟨by decide, by decide⟩ (fun r35 u H locs hp hw => ?_)
      obtain ⟨L36, f37⟩ := u
      obtain ⟨hsb, hfm, f2_38, p2_39, k2_40, a2_41, n2_42, z2_43, ha_0, hp⟩ := hp
      have hsb : L = L36 := hsb
      subst hsb
      have hsb : ∀ b ∈ L, b ∈ L := fun _ h => h
      have hw : z_H D vwCl (z_A L sz) s.heap L f37 H locs := hw
      have hfr : ∀ b ∈ L, b ≠ rd → f37 b = f b := fun b hb h0 => (hfm b hb h0).trans (hfr b hb h0)
      have hf_tp : f37 tp = .inr (7, [.ref tb, .int tl]) := (hfm tp hm_tp (z_tne hf_tp hf_rd (m := 7) (n := 5) rfl rfl (by decide))).trans hf_tp
      have hf_tb : f37 tb = .inl (cy 0, 1600, .inl gt) := (hfm tb hm_tb (z_tne hf_tb hf_rd (m := 12900) (n := 5) rfl rfl (by decide))).trans hf_tb
      have hf_mo : f37 mo = .inr (2, [.int v0, .int v1, .int v2, .int v3, .int v4, .int v5, .int v6, .ref la, .ref sa, .ref mi, .ref da]) := (hfm mo hm_mo (z_tne hf_mo hf_rd (m := 2) (n := 5) rfl rfl (by decide))).trans hf_mo
      have hf_rd : f37 rd = .inr (5, [.int f2_38, .int p2_39, .ref tp, .ref mo, .int ot_, .int k2_40, .int a2_41, .int n2_42, .int z2_43]) := ha_0
      have hq44 := hp
      exact z_iret hx hb hr hlk (by decide) (by decide) hw (⟨hsub, hfr, f2_38, p2_39, k2_40, a2_41, n2_42, z2_43, hf_rd, by first | omega | (right; exact ⟨by omega, by decide⟩), by omega, by omega⟩) dX5_takePainter_35
