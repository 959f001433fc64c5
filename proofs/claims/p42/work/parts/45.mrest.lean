set_option maxHeartbeats 2000000 in
set_option maxRecDepth 100000 in
theorem c_X10_whyNotCounts (l : Launch) {D : va_G} {cy : Nat → ClassId} {L : List Nat} {f : Nat → va_E} {sz : Nat} {adK adV : Nat → Nat} {mm wd my ce mv ta li ha lw st fo dr ik ro ct se th cn be du db pn wg wh tn he tr fd po : Nat} {m0 m6 m7 m8 m9 m10 m12 m13 m14 m15 m22 m24 m25 m27 m28 m30 m36 m38 m40 m41 m42 m48 m52 m53 : Int32} {m11 m26 : Int64} {gwd gmy gha : Nat → Int32} {gce : Nat → Int64} {sn dy : Int32} (hm_mm : mm ∈ L) (hm_ha : ha ∈ L) (hm_wd : wd ∈ L) (hm_my : my ∈ L) (hm_ce : ce ∈ L) (hf_mm : f mm = .inr (10, [.int m0, .ref wd, .ref my, .ref ce, .ref mv, .ref ta, .int m6, .int m7, .int m8, .int m9, .int m10, .long m11, .int m12, .int m13, .int m14, .int m15, .ref li, .ref ha, .ref lw, .ref st, .ref fo, .ref dr, .int m22, .ref ik, .int m24, .int m25, .long m26, .int m27, .int m28, .ref ro, .int m30, .ref ct, .ref se, .ref th, .ref cn, .ref be, .int m36, .ref du, .int m38, .ref db, .int m40, .int m41, .int m42, .ref pn, .ref wg, .ref wh, .ref tn, .ref he, .int m48, .ref tr, .ref fd, .ref po, .int m52, .int m53])) (hf_ha : f ha = .inl (cy 1, 30, .inl gha)) (hf_wd : f wd = .inl (cy 1, 4, .inl gwd)) (hf_my : f my = .inl (cy 1, 4, .inl gmy)) (hf_ce : f ce = .inl (cy 2, 240, .inr (.inl gce))) (ne_wd_my : wd ≠ my) (hq_ha : ∀ j : Nat, q_has j (gha j)) (hq_my : ∀ j : Nat, q_60 j (gmy j)) : Met l yX10_whyNotCounts (z_ws yX10_whyNotCounts cX10_whyNotCounts 4 (some .int)) (z_R 3 0 0) (va_Pc [.ref mm, .int sn, .int dy] (z_Pre D vwCl (z_KK D cy adK adV) L f sz)) (z_Qi D vwCl (fun r u => u = (L, f) ∧ (r.toInt ≠ 0 ∨ ((0 ≤ sn.toInt ∧ sn.toInt ≤ 3) ∧ (0 ≤ dy.toInt ∧ dy.toInt ≤ (gha 1).toInt - 1)))) L sz) 0 0 (z_A L sz) := by
  refine z_met (cc := cX10_whyNotCounts) (maxL := 4) (ret := (some .int)) (lv := [(0, .ref mm), (1, .int sn), (2, .int dy)]) (by decide) rfl (Nat.le_of_ble_eq_true rfl) rfl ?_
  intro p e s m below meth c ls hx hb hr hlk hml hown hnm hts hKK hA hw hl
  have hK := hKK.1.1
  have hown : s.vm.findClass RX10 = some m.cls := hown
  have hT : ∀ w ∈ lw_all, w.before ([.ref mm, .int sn, .int dy] : List Value).toArray s = true := fun w h => hts w (z_cons w h)
  have hz_m7 : (-7 : Int32).toInt = -7 := by decide
  have hz_m6 : (-6 : Int32).toInt = -6 := by decide
  have hz_m2 : (-2 : Int32).toInt = -2 := by decide
  have hz_0 : (0 : Int32).toInt = 0 := by decide
  refine lv_iload_n hx hb dX10_whyNotCounts_0 rfl (lv_at hl 1 rfl) ?_
  refine z_calliS (cells := 0) (slots := 0) (As := [.int sn]) (rest := []) ⟨hx, hb, hml, hown, hT⟩ (c_X10_isSlot l ) (va_cwS 1 hT (z_goodS (fun _ h => h) kw_1335 kw_1336 kw_96 kw_1337) rfl rfl rfl (by decide +kernel) ⟨by decide, by decide⟩) z_mv hKK hw hA rfl hl.1 rfl (Nat.le_of_ble_eq_true rfl) dX10_whyNotCounts_1 ⟨by decide, by decide⟩ (fun r1 u H locs hp hw => ?_)
  obtain ⟨rfl, hp⟩ := hp
  have hw : z_H D vwCl (z_A L sz) s.heap L f H locs := hw
  rcases hp with ⟨rfl, h2⟩ | ⟨rfl, h2⟩
  · skip
    refine z_if_eq (tgt := 15) hx hb (show (1 : Int32).toInt = 1 by decide) dX10_whyNotCounts_4 (by decide) (fun h => absurd h (by decide)) (fun _ => ?_)
    refine lv_aload_n hx hb dX10_whyNotCounts_7 rfl (lv_at hl 0 rfl) ?_
    refine lv_iload_n hx hb dX10_whyNotCounts_8 rfl (lv_at hl 2 rfl) ?_
    refine z_calliV (cells := 0) (slots := 0) (b := mm) (As := [.int dy]) (rest := []) (ci := 10) (q0 := (RX10, TX10, 54)) ⟨hx, hb, hml, hown, hT⟩ (c_X10_isDay l hm_mm hm_ha hf_mm hf_ha hq_ha) (cwV 1 hT (z_goodV (fun _ h => h) kw_1535 kw_1537 kw_57 kw_96 kw_1538) rfl rfl rfl (by decide +kernel) ⟨by decide, by decide⟩) z_mv hKK hK hw hA hm_mm hf_mm rfl rfl rfl hl.1 rfl (Nat.le_of_ble_eq_true rfl) dX10_whyNotCounts_9 ⟨by decide, by decide⟩ (fun r3 u H locs hp hw => ?_)
    obtain ⟨rfl, hp⟩ := hp
    have hw : z_H D vwCl (z_A L sz) s.heap L f H locs := hw
    rcases hp with ⟨rfl, h4⟩ | ⟨rfl, h4⟩
    · skip
      refine z_if_ne (tgt := 18) hx hb (show (1 : Int32).toInt = 1 by decide) dX10_whyNotCounts_12 (by decide) (fun _ => ?_) (fun h => absurd h (by decide))
      refine lv_aload_n hx hb dX10_whyNotCounts_18 rfl (lv_at hl 0 rfl) ?_
      refine z_get (C := RX10) (T := TX10) (N := 54) (ci := 10) (v := .ref wd) hx hb hT zin_X10 hown hK hw hm_mm hf_mm rfl 1 (by decide) (hT _ kw_1169) rfl dX10_whyNotCounts_19 ?_
      refine lv_iload_n hx hb dX10_whyNotCounts_22 rfl (lv_at hl 1 rfl) ?_
      refine z_iald hx hb hK hw 1 hm_wd hf_wd rfl (z_ix rfl (by omega)) dX10_whyNotCounts_23 ?_
      refine lv_topi (fun w5 e_w5 => ?_)
      refine lv_iconst (v := (-1)) hx hb dX10_whyNotCounts_24 (by decide) ?_
      refine z_icmp_ne (tgt := 31) hx hb rfl (show ((-1) : Int32).toInt = (-1) by decide) dX10_whyNotCounts_25 (by decide) (fun c6 => ?_) (fun c6 => ?_)
      · skip
        refine lv_aload_n hx hb dX10_whyNotCounts_31 rfl (lv_at hl 0 rfl) ?_
        refine z_get (C := RX10) (T := TX10) (N := 54) (ci := 10) (v := .ref my) hx hb hT zin_X10 hown hK hw hm_mm hf_mm rfl 2 (by decide) (hT _ kw_1170) rfl dX10_whyNotCounts_32 ?_
        refine lv_iload_n hx hb dX10_whyNotCounts_35 rfl (lv_at hl 1 rfl) ?_
        refine z_iald hx hb hK hw 1 hm_my hf_my rfl (z_ix rfl (by omega)) dX10_whyNotCounts_36 ?_
        refine lv_topi (fun w7 e_w7 => ?_)
        have hv_w7 : 0 ≤ w7.toInt ∧ w7.toInt ≤ 60 := by rw [e_w7]; exact hq_my _
        refine lv_aload_n hx hb dX10_whyNotCounts_37 rfl (lv_at hl 0 rfl) ?_
        refine z_get (C := RX10) (T := TX10) (N := 54) (ci := 10) (v := .ref ha) hx hb hT zin_X10 hown hK hw hm_mm hf_mm rfl 17 (by decide) (hT _ kw_1185) rfl dX10_whyNotCounts_38 ?_
        refine lv_iconst (v := 0) hx hb dX10_whyNotCounts_41 (by decide) ?_
        refine z_iald hx hb hK hw 1 hm_ha hf_ha rfl (z_ix (show (0 : Int32).toInt = 0 by decide) (by decide)) dX10_whyNotCounts_42 ?_
        refine lv_topi (fun w8 e_w8 => ?_)
        have hv_w8 : 0 ≤ w8.toInt ∧ w8.toInt ≤ 4 := by rw [e_w8]; exact (hq_ha _).1 rfl
        refine z_icmp_eq (tgt := 49) hx hb rfl rfl dX10_whyNotCounts_43 (by decide) (fun c9 => ?_) (fun c9 => ?_)
        · skip
          refine lv_iconst (v := 0) hx hb dX10_whyNotCounts_49 (by decide) ?_
          refine lv_istore_n (lv' := [(3, .int 0), (0, .ref mm), (1, .int sn), (2, .int dy)]) hx hb dX10_whyNotCounts_50 rfl hl (by decide) rfl (fun ls hl => ?_)
          have hzk : (0 : Int32).toInt = 0 := by decide
          refine z_loop (fun n H locs ls => ∃ (K10 : Int32), (n = (4 - K10.toInt).toNat) ∧ (0 ≤ K10.toInt) ∧ (K10.toInt ≤ 4) ∧ (z_H D vwCl (z_A L sz) s.heap L f H locs) ∧ (lv_has ls 4 [(3, .int K10), (0, .ref mm), (1, .int sn), (2, .int dy)])) _ ⟨0, rfl, (by first | decide | omega), (by first | decide | omega), hw, (lv_sub hl [0, 1, 2, 3] rfl)⟩ (fun n H locs ls hI ih_51 => ?_)
          obtain ⟨K10, hn, hk0, hk1, hw, hl⟩ := hI
          refine lv_iload_n hx hb dX10_whyNotCounts_51 rfl (lv_at hl 0 rfl) ?_
          refine lv_aload_n hx hb dX10_whyNotCounts_52 rfl (lv_at hl 1 rfl) ?_
          refine z_get (C := RX10) (T := TX10) (N := 54) (ci := 10) (v := .ref ha) hx hb hT zin_X10 hown hK hw hm_mm hf_mm rfl 17 (by decide) (hT _ kw_1185) rfl dX10_whyNotCounts_53 ?_
          refine lv_iconst (v := 0) hx hb dX10_whyNotCounts_56 (by decide) ?_
          refine z_iald hx hb hK hw 1 hm_ha hf_ha rfl (z_ix (show (0 : Int32).toInt = 0 by decide) (by decide)) dX10_whyNotCounts_57 ?_
          refine lv_topi (fun w11 e_w11 => ?_)
          have hv_w11 : 0 ≤ w11.toInt ∧ w11.toInt ≤ 4 := by rw [e_w11]; exact (hq_ha _).1 rfl
          refine z_icmp_ge (tgt := 91) hx hb rfl rfl dX10_whyNotCounts_58 (by decide) (fun c12 => ?_) (fun c12 => ?_)
          · skip
            refine lv_iconst (v := 0) hx hb dX10_whyNotCounts_91 (by decide) ?_
            exact z_iret hx hb hr hlk (by decide) (by decide) hw (⟨rfl, by omega⟩) dX10_whyNotCounts_92
          · skip
            refine lv_aload_n hx hb dX10_whyNotCounts_61 rfl (lv_at hl 1 rfl) ?_
            refine z_get (C := RX10) (T := TX10) (N := 54) (ci := 10) (v := .ref ce) hx hb hT zin_X10 hown hK hw hm_mm hf_mm rfl 3 (by decide) (hT _ kw_1171) rfl dX10_whyNotCounts_62 ?_
            refine lv_bipush (v := 60) hx hb dX10_whyNotCounts_65 (by decide) ?_
            refine lv_iload_n hx hb dX10_whyNotCounts_67 rfl (lv_at hl 2 rfl) ?_
            refine lv_imul hx hb dX10_whyNotCounts_68 ?_
            refine lv_topi (fun w13 e_w13 => ?_)
            have i_w13 : w13.toInt = (60 * sn.toInt) := z_mul e_w13 (show (60 : Int32).toInt = 60 by decide) rfl (by omega)
            refine lv_iload_n hx hb dX10_whyNotCounts_69 rfl (lv_at hl 0 rfl) ?_
            refine lv_iadd hx hb dX10_whyNotCounts_70 ?_
            refine lv_topi (fun w14 e_w14 => ?_)
            have i_w14 : w14.toInt = ((60 * sn.toInt) + K10.toInt) := z_add e_w14 i_w13 rfl (by omega)
            refine z_lald hx hb hK hw 2 hm_ce hf_ce rfl (z_ix i_w14 (by omega)) dX10_whyNotCounts_71 ?_
            refine lv_topl (fun w15 e_w15 => ?_)
            refine lv_lconst (v := 0) hx hb dX10_whyNotCounts_72 (by decide) ?_
            refine lv_ldc2 (v := 9999) hx hb hown (hT _ kw_1726) dX10_whyNotCounts_73 ?_
            have hz16 := (show (0 : Int64).toInt = 0 by decide)
            have hz17 := (show (9999 : Int64).toInt = 9999 by decide)
            refine z_calliS (cells := 0) (slots := 0) (As := [.long w15, .long 0, .long 9999]) (rest := []) ⟨hx, hb, hml, hown, hT⟩ (c_X10_in l ) (va_cwS 3 hT (z_goodS (fun _ h => h) kw_1339 kw_1340 kw_96 kw_1341) rfl rfl rfl (by decide +kernel) ⟨by decide, by decide⟩) z_mv hKK hw hA rfl hl.1 rfl (Nat.le_of_ble_eq_true rfl) dX10_whyNotCounts_76 ⟨by decide, by decide⟩ (fun r18 u H locs hp hw => ?_)
            obtain ⟨rfl, hp⟩ := hp
            have hw : z_H D vwCl (z_A L sz) s.heap L f H locs := hw
            rcases hp with ⟨rfl, h19⟩ | ⟨rfl, h19⟩
            · skip
              refine z_if_ne (tgt := 85) hx hb (show (1 : Int32).toInt = 1 by decide) dX10_whyNotCounts_79 (by decide) (fun _ => ?_) (fun h => absurd h (by decide))
              obtain ⟨k20, e_k20⟩ : ∃ z : Int32, z = K10 + 1 := ⟨_, rfl⟩
              refine lv_iinc (v := k20) (lv' := [(3, .int k20), (0, .ref mm), (1, .int sn), (2, .int dy)]) hx hb dX10_whyNotCounts_85 hl (k := 0) rfl (by rw [e_k20]; rfl) (by decide) rfl (fun ls hl => ?_)
              have i_k20 : k20.toInt = (K10.toInt + 1) := z_add e_k20 rfl (by decide) (by omega)
              refine lv_goto (tgt := 51) hx hb dX10_whyNotCounts_88 (by decide) ?_
              exact ih_51 _ (by omega) _ _ _ ⟨k20, rfl, (by first | decide | omega), (by first | decide | omega), hw, (lv_sub hl [0, 1, 2, 3] rfl)⟩
            · skip
              refine z_if_ne (tgt := 85) hx hb (show (0 : Int32).toInt = 0 by decide) dX10_whyNotCounts_79 (by decide) (fun h => absurd h (by decide)) (fun _ => ?_)
              refine lv_bipush (v := (-2)) hx hb dX10_whyNotCounts_82 (by decide) ?_
              exact z_iret hx hb hr hlk (by decide) (by decide) hw (⟨rfl, by omega⟩) dX10_whyNotCounts_84
        · skip
          refine lv_bipush (v := (-7)) hx hb dX10_whyNotCounts_46 (by decide) ?_
          exact z_iret hx hb hr hlk (by decide) (by decide) hw (⟨rfl, by omega⟩) dX10_whyNotCounts_48
      · skip
        refine lv_bipush (v := (-6)) hx hb dX10_whyNotCounts_28 (by decide) ?_
        exact z_iret hx hb hr hlk (by decide) (by decide) hw (⟨rfl, by omega⟩) dX10_whyNotCounts_30
    · skip
      refine z_if_ne (tgt := 18) hx hb (show (0 : Int32).toInt = 0 by decide) dX10_whyNotCounts_12 (by decide) (fun h => absurd h (by decide)) (fun _ => ?_)
      refine lv_bipush (v := (-2)) hx hb dX10_whyNotCounts_15 (by decide) ?_
      exact z_iret hx hb hr hlk (by decide) (by decide) hw (⟨rfl, by omega⟩) dX10_whyNotCounts_17
  · skip
    refine z_if_eq (tgt := 15) hx hb (show (0 : Int32).toInt = 0 by decide) dX10_whyNotCounts_4 (by decide) (fun _ => ?_) (fun h => absurd h (by decide))
    refine lv_bipush (v := (-2)) hx hb dX10_whyNotCounts_15 (by decide) ?_
    exact z_iret hx hb hr hlk (by decide) (by decide) hw (⟨rfl, by omega⟩) dX10_whyNotCounts_17

set_option maxHeartbeats 2000000 in
set_option maxRecDepth 100000 in
theorem c_X10_wrong (l : Launch) {D : va_G} {cy : Nat → ClassId} {L : List Nat} {f : Nat → va_E} {sz : Nat} {adK adV : Nat → Nat} {mm wd my ce mv ta li ha lw st fo dr ik ro ct se th cn be du db pn wg wh tn he tr fd po : Nat} {m0 m6 m7 m8 m9 m10 m12 m13 m14 m15 m22 m24 m25 m27 m28 m30 m36 m38 m40 m41 m42 m48 m52 m53 : Int32} {m11 m26 : Int64} {gwd gmy gha glw gst gfo gdr gro gct gse gth gcn gbe gdu gdb : Nat → Int32} {gce : Nat → Int64} {sn dy : Int32} (hm_mm : mm ∈ L) (hm_ha : ha ∈ L) (hm_dr : dr ∈ L) (hm_ro : ro ∈ L) (hm_lw : lw ∈ L) (hm_st : st ∈ L) (hm_ct : ct ∈ L) (hm_se : se ∈ L) (hm_th : th ∈ L) (hm_cn : cn ∈ L) (hm_db : db ∈ L) (hm_be : be ∈ L) (hm_du : du ∈ L) (hm_fo : fo ∈ L) (hm_wd : wd ∈ L) (hm_my : my ∈ L) (hm_ce : ce ∈ L) (hf_mm : f mm = .inr (10, [.int m0, .ref wd, .ref my, .ref ce, .ref mv, .ref ta, .int m6, .int m7, .int m8, .int m9, .int m10, .long m11, .int m12, .int m13, .int m14, .int m15, .ref li, .ref ha, .ref lw, .ref st, .ref fo, .ref dr, .int m22, .ref ik, .int m24, .int m25, .long m26, .int m27, .int m28, .ref ro, .int m30, .ref ct, .ref se, .ref th, .ref cn, .ref be, .int m36, .ref du, .int m38, .ref db, .int m40, .int m41, .int m42, .ref pn, .ref wg, .ref wh, .ref tn, .ref he, .int m48, .ref tr, .ref fd, .ref po, .int m52, .int m53])) (hf_ha : f ha = .inl (cy 1, 30, .inl gha)) (hf_dr : f dr = .inl (cy 1, 520, .inl gdr)) (hf_ro : f ro = .inl (cy 1, 13, .inl gro)) (hf_lw : f lw = .inl (cy 1, 25, .inl glw)) (hf_st : f st = .inl (cy 1, 20, .inl gst)) (hf_ct : f ct = .inl (cy 1, 4, .inl gct)) (hf_se : f se = .inl (cy 1, 36, .inl gse)) (hf_th : f th = .inl (cy 1, 36, .inl gth)) (hf_cn : f cn = .inl (cy 1, 36, .inl gcn)) (hf_db : f db = .inl (cy 1, 5, .inl gdb)) (hf_be : f be = .inl (cy 1, 2574, .inl gbe)) (hf_du : f du = .inl (cy 1, 5200, .inl gdu)) (hf_fo : f fo = .inl (cy 1, 180, .inl gfo)) (hf_wd : f wd = .inl (cy 1, 4, .inl gwd)) (hf_my : f my = .inl (cy 1, 4, .inl gmy)) (hf_ce : f ce = .inl (cy 2, 240, .inr (.inl gce))) (ne_ct_wd : ct ≠ wd) (ne_ct_my : ct ≠ my) (ne_se_th : se ≠ th) (ne_se_cn : se ≠ cn) (ne_th_cn : th ≠ cn) (ne_wd_my : wd ≠ my) (hq_ha : ∀ j : Nat, q_has j (gha j)) (hq_dr : ∀ j : Nat, q_drv j (gdr j)) (hq_ro : ∀ j : Nat, q_12 j (gro j)) (hq_lw : ∀ j : Nat, q_law j (glw j)) (hq_st : ∀ j : Nat, q_law j (gst j)) (hq_ct : ∀ j : Nat, q_law j (gct j)) (hq_be : ∀ j : Nat, q_be j (gbe j)) (hq_du : ∀ j : Nat, q_du j (gdu j)) (hq_my : ∀ j : Nat, q_60 j (gmy j)) (hxx : 0 ≤ m26.toInt ∧ m26.toInt < 2147483648) (hea : ∀ m : Nat, m < 5 → z_ea gha glw m) : Met l yX10_wrong (z_ws yX10_wrong cX10_wrong 6 (some .int)) (z_R 7 0 0) (va_Pc [.ref mm, .int sn, .int dy] (z_Pre D vwCl (z_KK D cy adK adV) L f sz)) (z_Qi D vwCl (fun r u => L = u.1 ∧ (∀ b ∈ L, b ≠ mm → b ≠ ro → b ≠ ct → b ≠ se → b ≠ th → b ≠ cn → b ≠ db → b ≠ be → b ≠ du → u.2 b = f b) ∧ (∃ (o2 mn2 i2 u2 n2 d2 y2 : Int32) (x2 : Int64) (nro nct nse nth ncn ndb nbe ndu : Nat → Int32), (u.2 mm = .inr (10, [.int 0, .ref wd, .ref my, .ref ce, .ref mv, .ref ta, .int m6, .int m7, .int m8, .int m9, .int m10, .long m11, .int m12, .int m13, .int m14, .int m15, .ref li, .ref ha, .ref lw, .ref st, .ref fo, .ref dr, .int m22, .ref ik, .int o2, .int mn2, .long x2, .int i2, .int u2, .ref ro, .int n2, .ref ct, .ref se, .ref th, .ref cn, .ref be, .int y2, .ref du, .int d2, .ref db, .int m40, .int m41, .int m42, .ref pn, .ref wg, .ref wh, .ref tn, .ref he, .int m48, .ref tr, .ref fd, .ref po, .int m52, .int m53])) ∧ (u.2 ro = .inl (cy 1, 13, .inl nro)) ∧ (u.2 ct = .inl (cy 1, 4, .inl nct)) ∧ (u.2 se = .inl (cy 1, 36, .inl nse)) ∧ (u.2 th = .inl (cy 1, 36, .inl nth)) ∧ (u.2 cn = .inl (cy 1, 36, .inl ncn)) ∧ (u.2 db = .inl (cy 1, 5, .inl ndb)) ∧ (u.2 be = .inl (cy 1, 2574, .inl nbe)) ∧ (u.2 du = .inl (cy 1, 5200, .inl ndu)) ∧ (∀ j : Nat, q_12 j (nro j)) ∧ (∀ j : Nat, q_law j (nct j)) ∧ (∀ j : Nat, q_be j (nbe j)) ∧ (∀ j : Nat, q_du j (ndu j)) ∧ (0 ≤ x2.toInt ∧ x2.toInt < 2147483648))) L sz) 0 0 (z_A L sz) := by
  refine z_met (cc := cX10_wrong) (maxL := 6) (ret := (some .int)) (lv := [(0, .ref mm), (1, .int sn), (2, .int dy)]) (by decide) rfl (Nat.le_of_ble_eq_true rfl) rfl ?_
  intro p e s m below meth c ls hx hb hr hlk hml hown hnm hts hKK hA hw hl
  have hK := hKK.1.1
  have hown : s.vm.findClass RX10 = some m.cls := hown
  have hT : ∀ w ∈ lw_all, w.before ([.ref mm, .int sn, .int dy] : List Value).toArray s = true := fun w h => hts w (z_cons w h)
  have hsub : L = L := rfl
  have hfr : ∀ b ∈ L, b ≠ mm → b ≠ ro → b ≠ ct → b ≠ se → b ≠ th → b ≠ cn → b ≠ db → b ≠ be → b ≠ du → f b = f b := fun _ _ _ _ _ _ _ _ _ _ _ => rfl
  have hh0 := (hq_ha 0).1 rfl
  have hh1 := (hq_ha 1).2.1 rfl
  have hh2 := (hq_ha 2).2.2.1 rfl
  have hh3 := (hq_ha 3).2.2.2 rfl
  have hea0 : 2 ≤ (glw 3).toInt ∨ ((gha 3).toInt = 0 ∧ (gha 0).toInt = 0) := hea 0 (by decide)
  have hz_m2 : (-2 : Int32).toInt = -2 := by decide
  have hz_m1 : (-1 : Int32).toInt = -1 := by decide
  have hz_0 : (0 : Int32).toInt = 0 := by decide
  refine lv_aload_n hx hb dX10_wrong_0 rfl (lv_at hl 0 rfl) ?_
  refine lv_iconst (v := 0) hx hb dX10_wrong_1 (by decide) ?_
  refine z_put (C := RX10) (T := TX10) (N := 54) (ci := 10) (v := .int 0) (fs' := [.int 0, .ref wd, .ref my, .ref ce, .ref mv, .ref ta, .int m6, .int m7, .int m8, .int m9, .int m10, .long m11, .int m12, .int m13, .int m14, .int m15, .ref li, .ref ha, .ref lw, .ref st, .ref fo, .ref dr, .int m22, .ref ik, .int m24, .int m25, .long m26, .int m27, .int m28, .ref ro, .int m30, .ref ct, .ref se, .ref th, .ref cn, .ref be, .int m36, .ref du, .int m38, .ref db, .int m40, .int m41, .int m42, .ref pn, .ref wg, .ref wh, .ref tn, .ref he, .int m48, .ref tr, .ref fd, .ref po, .int m52, .int m53]) hx hb hT zin_X10 tyX10_ok nmX10 hown hK hw hm_mm hf_mm rfl 0 (by decide) (hT _ kw_1168) rfl rfl rfl (Nat.le_of_ble_eq_true rfl) rfl dX10_wrong_2 (fun H locs hw => ?_)
  obtain ⟨f1, e_f1⟩ : ∃ z, z = va_up f mm (.inr (10, [.int 0, .ref wd, .ref my, .ref ce, .ref mv, .ref ta, .int m6, .int m7, .int m8, .int m9, .int m10, .long m11, .int m12, .int m13, .int m14, .int m15, .ref li, .ref ha, .ref lw, .ref st, .ref fo, .ref dr, .int m22, .ref ik, .int m24, .int m25, .long m26, .int m27, .int m28, .ref ro, .int m30, .ref ct, .ref se, .ref th, .ref cn, .ref be, .int m36, .ref du, .int m38, .ref db, .int m40, .int m41, .int m42, .ref pn, .ref wg, .ref wh, .ref tn, .ref he, .int m48, .ref tr, .ref fd, .ref po, .int m52, .int m53])) := ⟨_, rfl⟩
  rw [← e_f1] at hw
  have hf_ha : f1 ha = .inl (cy 1, 30, .inl gha) := (congrFun e_f1 ha).trans (z_up_ne (z_tne hf_ha hf_mm (m := 340) (n := 10) rfl rfl (by decide)) hf_ha)
  have hf_dr : f1 dr = .inl (cy 1, 520, .inl gdr) := (congrFun e_f1 dr).trans (z_up_ne (z_tne hf_dr hf_mm (m := 4260) (n := 10) rfl rfl (by decide)) hf_dr)
  have hf_ro : f1 ro = .inl (cy 1, 13, .inl gro) := (congrFun e_f1 ro).trans (z_up_ne (z_tne hf_ro hf_mm (m := 204) (n := 10) rfl rfl (by decide)) hf_ro)
  have hf_lw : f1 lw = .inl (cy 1, 25, .inl glw) := (congrFun e_f1 lw).trans (z_up_ne (z_tne hf_lw hf_mm (m := 300) (n := 10) rfl rfl (by decide)) hf_lw)
  have hf_st : f1 st = .inl (cy 1, 20, .inl gst) := (congrFun e_f1 st).trans (z_up_ne (z_tne hf_st hf_mm (m := 260) (n := 10) rfl rfl (by decide)) hf_st)
  have hf_ct : f1 ct = .inl (cy 1, 4, .inl gct) := (congrFun e_f1 ct).trans (z_up_ne (z_tne hf_ct hf_mm (m := 132) (n := 10) rfl rfl (by decide)) hf_ct)
  have hf_se : f1 se = .inl (cy 1, 36, .inl gse) := (congrFun e_f1 se).trans (z_up_ne (z_tne hf_se hf_mm (m := 388) (n := 10) rfl rfl (by decide)) hf_se)
  have hf_th : f1 th = .inl (cy 1, 36, .inl gth) := (congrFun e_f1 th).trans (z_up_ne (z_tne hf_th hf_mm (m := 388) (n := 10) rfl rfl (by decide)) hf_th)
  have hf_cn : f1 cn = .inl (cy 1, 36, .inl gcn) := (congrFun e_f1 cn).trans (z_up_ne (z_tne hf_cn hf_mm (m := 388) (n := 10) rfl rfl (by decide)) hf_cn)
  have hf_db : f1 db = .inl (cy 1, 5, .inl gdb) := (congrFun e_f1 db).trans (z_up_ne (z_tne hf_db hf_mm (m := 140) (n := 10) rfl rfl (by decide)) hf_db)
  have hf_be : f1 be = .inl (cy 1, 2574, .inl gbe) := (congrFun e_f1 be).trans (z_up_ne (z_tne hf_be hf_mm (m := 20692) (n := 10) rfl rfl (by decide)) hf_be)
  have hf_du : f1 du = .inl (cy 1, 5200, .inl gdu) := (congrFun e_f1 du).trans (z_up_ne (z_tne hf_du hf_mm (m := 41700) (n := 10) rfl rfl (by decide)) hf_du)
  have hf_fo : f1 fo = .inl (cy 1, 180, .inl gfo) := (congrFun e_f1 fo).trans (z_up_ne (z_tne hf_fo hf_mm (m := 1540) (n := 10) rfl rfl (by decide)) hf_fo)
  have hf_wd : f1 wd = .inl (cy 1, 4, .inl gwd) := (congrFun e_f1 wd).trans (z_up_ne (z_tne hf_wd hf_mm (m := 132) (n := 10) rfl rfl (by decide)) hf_wd)
  have hf_my : f1 my = .inl (cy 1, 4, .inl gmy) := (congrFun e_f1 my).trans (z_up_ne (z_tne hf_my hf_mm (m := 132) (n := 10) rfl rfl (by decide)) hf_my)
  have hf_ce : f1 ce = .inl (cy 2, 240, .inr (.inl gce)) := (congrFun e_f1 ce).trans (z_up_ne (z_tne hf_ce hf_mm (m := 2021) (n := 10) rfl rfl (by decide)) hf_ce)
  have hf_mm : f1 mm = .inr (10, [.int 0, .ref wd, .ref my, .ref ce, .ref mv, .ref ta, .int m6, .int m7, .int m8, .int m9, .int m10, .long m11, .int m12, .int m13, .int m14, .int m15, .ref li, .ref ha, .ref lw, .ref st, .ref fo, .ref dr, .int m22, .ref ik, .int m24, .int m25, .long m26, .int m27, .int m28, .ref ro, .int m30, .ref ct, .ref se, .ref th, .ref cn, .ref be, .int m36, .ref du, .int m38, .ref db, .int m40, .int m41, .int m42, .ref pn, .ref wg, .ref wh, .ref tn, .ref he, .int m48, .ref tr, .ref fd, .ref po, .int m52, .int m53]) := (congrFun e_f1 mm).trans z_up_self
  have hfr : ∀ b ∈ L, b ≠ mm → b ≠ ro → b ≠ ct → b ≠ se → b ≠ th → b ≠ cn → b ≠ db → b ≠ be → b ≠ du → f1 b = f b := fun b hb h0 h1 h2 h3 h4 h5 h6 h7 h8 => (congrFun e_f1 b).trans (z_up_ne h0 (hfr b hb h0 h1 h2 h3 h4 h5 h6 h7 h8))
  refine lv_aload_n hx hb dX10_wrong_5 rfl (lv_at hl 0 rfl) ?_
  refine lv_iload_n hx hb dX10_wrong_6 rfl (lv_at hl 1 rfl) ?_
  refine lv_iload_n hx hb dX10_wrong_7 rfl (lv_at hl 2 rfl) ?_
  refine z_calliV (cells := 0) (slots := 0) (b := mm) (As := [.int sn, .int dy]) (rest := []) (ci := 10) (q0 := (RX10, TX10, 54)) ⟨hx, hb, hml, hown, hT⟩ (c_X10_whyNotCounts l hm_mm hm_ha hm_wd hm_my hm_ce hf_mm hf_ha hf_wd hf_my hf_ce ne_wd_my hq_ha hq_my) (cwV 2 hT (z_goodV (fun _ h => h) kw_1722 kw_1724 kw_81 kw_96 kw_1725) rfl rfl rfl (by decide +kernel) ⟨by decide, by decide⟩) z_mv hKK hK hw hA hm_mm hf_mm rfl rfl rfl hl.1 rfl (Nat.le_of_ble_eq_true rfl) dX10_wrong_8 ⟨by decide, by decide⟩ (fun r2 u H locs hp hw => ?_)
  obtain ⟨rfl, hp⟩ := hp
  have hw : z_H D vwCl (z_A L sz) s.heap L f1 H locs := hw
  have hq3 := hp
  refine lv_istore_n (lv' := [(3, .int r2), (0, .ref mm), (1, .int sn), (2, .int dy)]) hx hb dX10_wrong_11 rfl hl (by decide) rfl (fun ls hl => ?_)
  refine lv_iload_n hx hb dX10_wrong_12 rfl (lv_at hl 0 rfl) ?_
  refine z_if_eq (tgt := 18) hx hb rfl dX10_wrong_13 (by decide) (fun c4 => ?_) (fun c4 => ?_)
  · skip
    refine lv_aload_n hx hb dX10_wrong_18 rfl (lv_at hl 1 rfl) ?_
    refine z_callvV (cells := 0) (slots := 0) (b := mm) (As := []) (rest := []) (ci := 10) (q0 := (RX10, TX10, 54)) ⟨hx, hb, hml, hown, hT⟩ (c_X10_asTold l hm_mm hm_ha hm_dr hm_ro hm_lw hm_st hm_ct hm_se hm_th hm_cn hm_db hm_be hm_du hm_fo hf_mm hf_ha hf_dr hf_ro hf_lw hf_st hf_ct hf_se hf_th hf_cn hf_db hf_be hf_du hf_fo ne_se_th ne_se_cn ne_th_cn hq_ha hq_dr hq_ro hq_lw hq_st hq_ct hq_be hq_du (by first | omega | decide | assumption) hea) (cwV 0 hT (z_goodV (fun _ h => h) kw_1587 kw_1589 kw_68 kw_96 kw_1590) rfl rfl rfl (by decide +kernel) ⟨by decide, by decide⟩) z_mv hKK hK hw hA hm_mm hf_mm rfl rfl rfl hl.1 rfl (Nat.le_of_ble_eq_true rfl) dX10_wrong_19 ⟨by decide, by decide⟩ (fun u H locs hp hw => ?_)
    obtain ⟨L5, f6⟩ := u
    obtain ⟨hsb, hfm, mn2_7, n2_8, d2_9, y2_10, x2_11, nro_12, nct_13, nse_14, nth_15, ncn_16, ndb_17, nbe_18, ndu_19, ha_0, ha_1, ha_2, ha_3, ha_4, ha_5, ha_6, ha_7, ha_8, hq_ro, hq_ct, hq_be, hq_du, hp⟩ := hp
    have hsb : L = L5 := hsb
    subst hsb
    have hsb : ∀ b ∈ L, b ∈ L := fun _ h => h
    have hw : z_H D vwCl (z_A L sz) s.heap L f6 H locs := hw
    have hfr : ∀ b ∈ L, b ≠ mm → b ≠ ro → b ≠ ct → b ≠ se → b ≠ th → b ≠ cn → b ≠ db → b ≠ be → b ≠ du → f6 b = f b := fun b hb h0 h1 h2 h3 h4 h5 h6 h7 h8 => (hfm b hb h0 h1 h2 h3 h4 h5 h6 h7 h8).trans (hfr b hb h0 h1 h2 h3 h4 h5 h6 h7 h8)
    have hf_ha : f6 ha = .inl (cy 1, 30, .inl gha) := (hfm ha hm_ha (z_tne hf_ha hf_mm (m := 340) (n := 10) rfl rfl (by decide)) (z_tne hf_ha hf_ro (m := 340) (n := 204) rfl rfl (by decide)) (z_tne hf_ha hf_ct (m := 340) (n := 132) rfl rfl (by decide)) (z_tne hf_ha hf_se (m := 340) (n := 388) rfl rfl (by decide)) (z_tne hf_ha hf_th (m := 340) (n := 388) rfl rfl (by decide)) (z_tne hf_ha hf_cn (m := 340) (n := 388) rfl rfl (by decide)) (z_tne hf_ha hf_db (m := 340) (n := 140) rfl rfl (by decide)) (z_tne hf_ha hf_be (m := 340) (n := 20692) rfl rfl (by decide)) (z_tne hf_ha hf_du (m := 340) (n := 41700) rfl rfl (by decide))).trans hf_ha
    have hf_dr : f6 dr = .inl (cy 1, 520, .inl gdr) := (hfm dr hm_dr (z_tne hf_dr hf_mm (m := 4260) (n := 10) rfl rfl (by decide)) (z_tne hf_dr hf_ro (m := 4260) (n := 204) rfl rfl (by decide)) (z_tne hf_dr hf_ct (m := 4260) (n := 132) rfl rfl (by decide)) (z_tne hf_dr hf_se (m := 4260) (n := 388) rfl rfl (by decide)) (z_tne hf_dr hf_th (m := 4260) (n := 388) rfl rfl (by decide)) (z_tne hf_dr hf_cn (m := 4260) (n := 388) rfl rfl (by decide)) (z_tne hf_dr hf_db (m := 4260) (n := 140) rfl rfl (by decide)) (z_tne hf_dr hf_be (m := 4260) (n := 20692) rfl rfl (by decide)) (z_tne hf_dr hf_du (m := 4260) (n := 41700) rfl rfl (by decide))).trans hf_dr
    have hf_lw : f6 lw = .inl (cy 1, 25, .inl glw) := (hfm lw hm_lw (z_tne hf_lw hf_mm (m := 300) (n := 10) rfl rfl (by decide)) (z_tne hf_lw hf_ro (m := 300) (n := 204) rfl rfl (by decide)) (z_tne hf_lw hf_ct (m := 300) (n := 132) rfl rfl (by decide)) (z_tne hf_lw hf_se (m := 300) (n := 388) rfl rfl (by decide)) (z_tne hf_lw hf_th (m := 300) (n := 388) rfl rfl (by decide)) (z_tne hf_lw hf_cn (m := 300) (n := 388) rfl rfl (by decide)) (z_tne hf_lw hf_db (m := 300) (n := 140) rfl rfl (by decide)) (z_tne hf_lw hf_be (m := 300) (n := 20692) rfl rfl (by decide)) (z_tne hf_lw hf_du (m := 300) (n := 41700) rfl rfl (by decide))).trans hf_lw
    have hf_st : f6 st = .inl (cy 1, 20, .inl gst) := (hfm st hm_st (z_tne hf_st hf_mm (m := 260) (n := 10) rfl rfl (by decide)) (z_tne hf_st hf_ro (m := 260) (n := 204) rfl rfl (by decide)) (z_tne hf_st hf_ct (m := 260) (n := 132) rfl rfl (by decide)) (z_tne hf_st hf_se (m := 260) (n := 388) rfl rfl (by decide)) (z_tne hf_st hf_th (m := 260) (n := 388) rfl rfl (by decide)) (z_tne hf_st hf_cn (m := 260) (n := 388) rfl rfl (by decide)) (z_tne hf_st hf_db (m := 260) (n := 140) rfl rfl (by decide)) (z_tne hf_st hf_be (m := 260) (n := 20692) rfl rfl (by decide)) (z_tne hf_st hf_du (m := 260) (n := 41700) rfl rfl (by decide))).trans hf_st
    have hf_fo : f6 fo = .inl (cy 1, 180, .inl gfo) := (hfm fo hm_fo (z_tne hf_fo hf_mm (m := 1540) (n := 10) rfl rfl (by decide)) (z_tne hf_fo hf_ro (m := 1540) (n := 204) rfl rfl (by decide)) (z_tne hf_fo hf_ct (m := 1540) (n := 132) rfl rfl (by decide)) (z_tne hf_fo hf_se (m := 1540) (n := 388) rfl rfl (by decide)) (z_tne hf_fo hf_th (m := 1540) (n := 388) rfl rfl (by decide)) (z_tne hf_fo hf_cn (m := 1540) (n := 388) rfl rfl (by decide)) (z_tne hf_fo hf_db (m := 1540) (n := 140) rfl rfl (by decide)) (z_tne hf_fo hf_be (m := 1540) (n := 20692) rfl rfl (by decide)) (z_tne hf_fo hf_du (m := 1540) (n := 41700) rfl rfl (by decide))).trans hf_fo
    have hf_wd : f6 wd = .inl (cy 1, 4, .inl gwd) := (hfm wd hm_wd (z_tne hf_wd hf_mm (m := 132) (n := 10) rfl rfl (by decide)) (z_tne hf_wd hf_ro (m := 132) (n := 204) rfl rfl (by decide)) (Ne.symm ne_ct_wd) (z_tne hf_wd hf_se (m := 132) (n := 388) rfl rfl (by decide)) (z_tne hf_wd hf_th (m := 132) (n := 388) rfl rfl (by decide)) (z_tne hf_wd hf_cn (m := 132) (n := 388) rfl rfl (by decide)) (z_tne hf_wd hf_db (m := 132) (n := 140) rfl rfl (by decide)) (z_tne hf_wd hf_be (m := 132) (n := 20692) rfl rfl (by decide)) (z_tne hf_wd hf_du (m := 132) (n := 41700) rfl rfl (by decide))).trans hf_wd
    have hf_my : f6 my = .inl (cy 1, 4, .inl gmy) := (hfm my hm_my (z_tne hf_my hf_mm (m := 132) (n := 10) rfl rfl (by decide)) (z_tne hf_my hf_ro (m := 132) (n := 204) rfl rfl (by decide)) (Ne.symm ne_ct_my) (z_tne hf_my hf_se (m := 132) (n := 388) rfl rfl (by decide)) (z_tne hf_my hf_th (m := 132) (n := 388) rfl rfl (by decide)) (z_tne hf_my hf_cn (m := 132) (n := 388) rfl rfl (by decide)) (z_tne hf_my hf_db (m := 132) (n := 140) rfl rfl (by decide)) (z_tne hf_my hf_be (m := 132) (n := 20692) rfl rfl (by decide)) (z_tne hf_my hf_du (m := 132) (n := 41700) rfl rfl (by decide))).trans hf_my
    have hf_ce : f6 ce = .inl (cy 2, 240, .inr (.inl gce)) := (hfm ce hm_ce (z_tne hf_ce hf_mm (m := 2021) (n := 10) rfl rfl (by decide)) (z_tne hf_ce hf_ro (m := 2021) (n := 204) rfl rfl (by decide)) (z_tne hf_ce hf_ct (m := 2021) (n := 132) rfl rfl (by decide)) (z_tne hf_ce hf_se (m := 2021) (n := 388) rfl rfl (by decide)) (z_tne hf_ce hf_th (m := 2021) (n := 388) rfl rfl (by decide)) (z_tne hf_ce hf_cn (m := 2021) (n := 388) rfl rfl (by decide)) (z_tne hf_ce hf_db (m := 2021) (n := 140) rfl rfl (by decide)) (z_tne hf_ce hf_be (m := 2021) (n := 20692) rfl rfl (by decide)) (z_tne hf_ce hf_du (m := 2021) (n := 41700) rfl rfl (by decide))).trans hf_ce
    have hf_mm : f6 mm = .inr (10, [.int 0, .ref wd, .ref my, .ref ce, .ref mv, .ref ta, .int m6, .int m7, .int m8, .int m9, .int m10, .long m11, .int m12, .int m13, .int m14, .int m15, .ref li, .ref ha, .ref lw, .ref st, .ref fo, .ref dr, .int m22, .ref ik, .int (-1), .int mn2_7, .long x2_11, .int 0, .int 1000, .ref ro, .int n2_8, .ref ct, .ref se, .ref th, .ref cn, .ref be, .int y2_10, .ref du, .int d2_9, .ref db, .int m40, .int m41, .int m42, .ref pn, .ref wg, .ref wh, .ref tn, .ref he, .int m48, .ref tr, .ref fd, .ref po, .int m52, .int m53]) := ha_0
    have hf_ro : f6 ro = .inl (cy 1, 13, .inl nro_12) := ha_1
    have hf_ct : f6 ct = .inl (cy 1, 4, .inl nct_13) := ha_2
    have hf_se : f6 se = .inl (cy 1, 36, .inl nse_14) := ha_3
    have hf_th : f6 th = .inl (cy 1, 36, .inl nth_15) := ha_4
    have hf_cn : f6 cn = .inl (cy 1, 36, .inl ncn_16) := ha_5
    have hf_db : f6 db = .inl (cy 1, 5, .inl ndb_17) := ha_6
    have hf_be : f6 be = .inl (cy 1, 2574, .inl nbe_18) := ha_7
    have hf_du : f6 du = .inl (cy 1, 5200, .inl ndu_19) := ha_8
    have hto := hp
    refine lv_iconst (v := 0) hx hb dX10_wrong_22 (by decide) ?_
    refine lv_istore (lv' := [(4, .int 0), (3, .int r2), (0, .ref mm), (1, .int sn), (2, .int dy)]) hx hb dX10_wrong_23 hl (by decide) rfl (fun ls hl => ?_)
    refine lv_iconst (v := 0) hx hb dX10_wrong_25 (by decide) ?_
    refine lv_istore (lv' := [(5, .int 0), (4, .int 0), (3, .int r2), (0, .ref mm), (1, .int sn), (2, .int dy)]) hx hb dX10_wrong_26 hl (by decide) rfl (fun ls hl => ?_)
    have hzk : (0 : Int32).toInt = 0 := by decide
    refine z_loop (fun n H locs ls => ∃ (K20 : Int32) (V22 : Int32) (f21 : Nat → va_E), (n = (4 - K20.toInt).toNat) ∧ (0 ≤ K20.toInt) ∧ (K20.toInt ≤ 4) ∧ (z_H D vwCl (z_A L sz) s.heap L f21 H locs) ∧ (f21 mm = .inr (10, [.int 0, .ref wd, .ref my, .ref ce, .ref mv, .ref ta, .int m6, .int m7, .int m8, .int m9, .int m10, .long m11, .int m12, .int m13, .int m14, .int m15, .ref li, .ref ha, .ref lw, .ref st, .ref fo, .ref dr, .int m22, .ref ik, .int (-1), .int mn2_7, .long x2_11, .int 0, .int 1000, .ref ro, .int n2_8, .ref ct, .ref se, .ref th, .ref cn, .ref be, .int y2_10, .ref du, .int d2_9, .ref db, .int m40, .int m41, .int m42, .ref pn, .ref wg, .ref wh, .ref tn, .ref he, .int m48, .ref tr, .ref fd, .ref po, .int m52, .int m53])) ∧ (f21 ha = .inl (cy 1, 30, .inl gha)) ∧ (f21 dr = .inl (cy 1, 520, .inl gdr)) ∧ (f21 ro = .inl (cy 1, 13, .inl nro_12)) ∧ (f21 lw = .inl (cy 1, 25, .inl glw)) ∧ (f21 st = .inl (cy 1, 20, .inl gst)) ∧ (f21 ct = .inl (cy 1, 4, .inl nct_13)) ∧ (f21 se = .inl (cy 1, 36, .inl nse_14)) ∧ (f21 th = .inl (cy 1, 36, .inl nth_15)) ∧ (f21 cn = .inl (cy 1, 36, .inl ncn_16)) ∧ (f21 db = .inl (cy 1, 5, .inl ndb_17)) ∧ (f21 be = .inl (cy 1, 2574, .inl nbe_18)) ∧ (f21 du = .inl (cy 1, 5200, .inl ndu_19)) ∧ (f21 fo = .inl (cy 1, 180, .inl gfo)) ∧ (f21 wd = .inl (cy 1, 4, .inl gwd)) ∧ (f21 my = .inl (cy 1, 4, .inl gmy)) ∧ (f21 ce = .inl (cy 2, 240, .inr (.inl gce))) ∧ (∀ b ∈ L, b ≠ mm → b ≠ ro → b ≠ ct → b ≠ se → b ≠ th → b ≠ cn → b ≠ db → b ≠ be → b ≠ du → f21 b = f b) ∧ (lv_has ls 6 [(5, .int K20), (4, .int V22), (3, .int r2), (0, .ref mm), (1, .int sn), (2, .int dy)])) _ ⟨0, 0, f6, rfl, (by first | decide | omega), (by first | decide | omega), hw, hf_mm, hf_ha, hf_dr, hf_ro, hf_lw, hf_st, hf_ct, hf_se, hf_th, hf_cn, hf_db, hf_be, hf_du, hf_fo, hf_wd, hf_my, hf_ce, hfr, (lv_sub hl [0, 1, 2, 3, 4, 5] rfl)⟩ (fun n H locs ls hI ih_28 => ?_)
    obtain ⟨K20, V22, f21, hn, hk0, hk1, hw, hf_mm, hf_ha, hf_dr, hf_ro, hf_lw, hf_st, hf_ct, hf_se, hf_th, hf_cn, hf_db, hf_be, hf_du, hf_fo, hf_wd, hf_my, hf_ce, hfr, hl⟩ := hI
    refine lv_iload hx hb dX10_wrong_28 (lv_at hl 0 rfl) ?_
    refine lv_aload_n hx hb dX10_wrong_30 rfl (lv_at hl 3 rfl) ?_
    refine z_get (C := RX10) (T := TX10) (N := 54) (ci := 10) (v := .ref ha) hx hb hT zin_X10 hown hK hw hm_mm hf_mm rfl 17 (by decide) (hT _ kw_1185) rfl dX10_wrong_31 ?_
    refine lv_iconst (v := 0) hx hb dX10_wrong_34 (by decide) ?_
    refine z_iald hx hb hK hw 1 hm_ha hf_ha rfl (z_ix (show (0 : Int32).toInt = 0 by decide) (by decide)) dX10_wrong_35 ?_
    refine lv_topi (fun w23 e_w23 => ?_)
    have hv_w23 : 0 ≤ w23.toInt ∧ w23.toInt ≤ 4 := by rw [e_w23]; exact (hq_ha _).1 rfl
    refine z_icmp_ge (tgt := 84) hx hb rfl rfl dX10_wrong_36 (by decide) (fun c24 => ?_) (fun c24 => ?_)
    · skip
      refine lv_iload hx hb dX10_wrong_84 (lv_at hl 1 rfl) ?_
      exact z_iret hx hb hr hlk (by decide) (by decide) hw (⟨hsub, hfr, (-1), mn2_7, 0, 1000, n2_8, d2_9, y2_10, x2_11, nro_12, nct_13, nse_14, nth_15, ncn_16, ndb_17, nbe_18, ndu_19, hf_mm, hf_ro, hf_ct, hf_se, hf_th, hf_cn, hf_db, hf_be, hf_du, hq_ro, hq_ct, hq_be, hq_du, by omega⟩) dX10_wrong_86
    · skip
      refine lv_iload hx hb dX10_wrong_39 (lv_at hl 1 rfl) ?_
      refine lv_aload_n hx hb dX10_wrong_41 rfl (lv_at hl 3 rfl) ?_
      refine z_get (C := RX10) (T := TX10) (N := 54) (ci := 10) (v := .ref ce) hx hb hT zin_X10 hown hK hw hm_mm hf_mm rfl 3 (by decide) (hT _ kw_1171) rfl dX10_wrong_42 ?_
      refine lv_bipush (v := 60) hx hb dX10_wrong_45 (by decide) ?_
      refine lv_iload_n hx hb dX10_wrong_47 rfl (lv_at hl 4 rfl) ?_
      refine lv_imul hx hb dX10_wrong_48 ?_
      refine lv_topi (fun w25 e_w25 => ?_)
      have i_w25 : w25.toInt = (60 * sn.toInt) := z_mul e_w25 (show (60 : Int32).toInt = 60 by decide) rfl (by omega)
      refine lv_iload hx hb dX10_wrong_49 (lv_at hl 0 rfl) ?_
      refine lv_iadd hx hb dX10_wrong_51 ?_
      refine lv_topi (fun w26 e_w26 => ?_)
      have i_w26 : w26.toInt = ((60 * sn.toInt) + K20.toInt) := z_add e_w26 i_w25 rfl (by omega)
      refine z_lald hx hb hK hw 2 hm_ce hf_ce rfl (z_ix i_w26 (by omega)) dX10_wrong_52 ?_
      refine lv_topl (fun w27 e_w27 => ?_)
      refine lv_aload_n hx hb dX10_wrong_53 rfl (lv_at hl 3 rfl) ?_
      refine z_get (C := RX10) (T := TX10) (N := 54) (ci := 10) (v := .ref th) hx hb hT zin_X10 hown hK hw hm_mm hf_mm rfl 33 (by decide) (hT _ kw_1201) rfl dX10_wrong_54 ?_
      refine lv_bipush (v := 9) hx hb dX10_wrong_57 (by decide) ?_
      refine lv_iload hx hb dX10_wrong_59 (lv_at hl 0 rfl) ?_
      refine lv_imul hx hb dX10_wrong_61 ?_
      refine lv_topi (fun w28 e_w28 => ?_)
      have i_w28 : w28.toInt = (9 * K20.toInt) := z_mul e_w28 (show (9 : Int32).toInt = 9 by decide) rfl (by omega)
      refine lv_iload_n hx hb dX10_wrong_62 rfl (lv_at hl 5 rfl) ?_
      refine lv_iadd hx hb dX10_wrong_63 ?_
      refine lv_topi (fun w29 e_w29 => ?_)
      have i_w29 : w29.toInt = ((9 * K20.toInt) + dy.toInt) := z_add e_w29 i_w28 rfl (by omega)
      refine z_iald hx hb hK hw 1 hm_th hf_th rfl (z_ix i_w29 (by omega)) dX10_wrong_64 ?_
      refine lv_topi (fun w30 e_w30 => ?_)
      refine lv_i2l hx hb dX10_wrong_65 rfl ?_
      refine lv_topl (fun w31 e_w31 => ?_)
      have i_w31 : w31.toInt = w30.toInt := z_i2l e_w31 rfl
      refine W.lcmp hx hb dX10_wrong_66 ?_
      refine lv_topi (fun w32 e_w32 => ?_)
      have i_w32 := z_lc e_w32 rfl i_w31
      refine z_if_ne (tgt := 74) hx hb rfl dX10_wrong_67 (by decide) (fun c33 => ?_) (fun c33 => ?_)
      · skip
        refine lv_iconst (v := 1) hx hb dX10_wrong_74 (by decide) ?_
        refine lv_iadd hx hb dX10_wrong_75 ?_
        refine lv_topi (fun w34 e_w34 => ?_)
        refine lv_istore (lv' := [(4, .int w34), (5, .int K20), (3, .int r2), (0, .ref mm), (1, .int sn), (2, .int dy)]) hx hb dX10_wrong_76 hl (by decide) rfl (fun ls hl => ?_)
        obtain ⟨k35, e_k35⟩ : ∃ z : Int32, z = K20 + 1 := ⟨_, rfl⟩
        refine lv_iinc (v := k35) (lv' := [(5, .int k35), (4, .int w34), (3, .int r2), (0, .ref mm), (1, .int sn), (2, .int dy)]) hx hb dX10_wrong_78 hl (k := 1) rfl (by rw [e_k35]; rfl) (by decide) rfl (fun ls hl => ?_)
        have i_k35 : k35.toInt = (K20.toInt + 1) := z_add e_k35 rfl (by decide) (by omega)
        refine lv_goto (tgt := 28) hx hb dX10_wrong_81 (by decide) ?_
        exact ih_28 _ (by omega) _ _ _ ⟨k35, w34, f21, rfl, (by first | decide | omega), (by first | decide | omega), hw, hf_mm, hf_ha, hf_dr, hf_ro, hf_lw, hf_st, hf_ct, hf_se, hf_th, hf_cn, hf_db, hf_be, hf_du, hf_fo, hf_wd, hf_my, hf_ce, hfr, (lv_sub hl [0, 1, 2, 3, 4, 5] rfl)⟩
      · skip
        refine lv_iconst (v := 0) hx hb dX10_wrong_70 (by decide) ?_
        refine lv_goto (tgt := 75) hx hb dX10_wrong_71 (by decide) ?_
        refine lv_iadd hx hb dX10_wrong_75 ?_
        refine lv_topi (fun w36 e_w36 => ?_)
        refine lv_istore (lv' := [(4, .int w36), (5, .int K20), (3, .int r2), (0, .ref mm), (1, .int sn), (2, .int dy)]) hx hb dX10_wrong_76 hl (by decide) rfl (fun ls hl => ?_)
        obtain ⟨k37, e_k37⟩ : ∃ z : Int32, z = K20 + 1 := ⟨_, rfl⟩
        refine lv_iinc (v := k37) (lv' := [(5, .int k37), (4, .int w36), (3, .int r2), (0, .ref mm), (1, .int sn), (2, .int dy)]) hx hb dX10_wrong_78 hl (k := 1) rfl (by rw [e_k37]; rfl) (by decide) rfl (fun ls hl => ?_)
        have i_k37 : k37.toInt = (K20.toInt + 1) := z_add e_k37 rfl (by decide) (by omega)
        refine lv_goto (tgt := 28) hx hb dX10_wrong_81 (by decide) ?_
        exact ih_28 _ (by omega) _ _ _ ⟨k37, w36, f21, rfl, (by first | decide | omega), (by first | decide | omega), hw, hf_mm, hf_ha, hf_dr, hf_ro, hf_lw, hf_st, hf_ct, hf_se, hf_th, hf_cn, hf_db, hf_be, hf_du, hf_fo, hf_wd, hf_my, hf_ce, hfr, (lv_sub hl [0, 1, 2, 3, 4, 5] rfl)⟩
  · skip
    refine lv_iload_n hx hb dX10_wrong_16 rfl (lv_at hl 0 rfl) ?_
    exact z_iret hx hb hr hlk (by decide) (by decide) hw (⟨hsub, hfr, m24, m25, m27, m28, m30, m38, m36, m26, gro, gct, gse, gth, gcn, gdb, gbe, gdu, hf_mm, hf_ro, hf_ct, hf_se, hf_th, hf_cn, hf_db, hf_be, hf_du, hq_ro, hq_ct, hq_be, hq_du, by omega⟩) dX10_wrong_17

set_option maxHeartbeats 2000000 in
set_option maxRecDepth 100000 in
theorem c_X10_leastPower (l : Launch) {D : va_G} {cy : Nat → ClassId} {L : List Nat} {f : Nat → va_E} {sz : Nat} {adK adV : Nat → Nat} {mm wd my ce mv ta li ha lw st fo dr ik ro ct se th cn be du db pn wg wh tn he tr fd po : Nat} {m0 m6 m7 m8 m9 m10 m12 m13 m14 m15 m22 m24 m25 m27 m28 m30 m36 m38 m40 m41 m42 m48 m52 m53 : Int32} {m11 m26 : Int64} {gha : Nat → Int32}  (hm_mm : mm ∈ L) (hm_ha : ha ∈ L) (hf_mm : f mm = .inr (10, [.int m0, .ref wd, .ref my, .ref ce, .ref mv, .ref ta, .int m6, .int m7, .int m8, .int m9, .int m10, .long m11, .int m12, .int m13, .int m14, .int m15, .ref li, .ref ha, .ref lw, .ref st, .ref fo, .ref dr, .int m22, .ref ik, .int m24, .int m25, .long m26, .int m27, .int m28, .ref ro, .int m30, .ref ct, .ref se, .ref th, .ref cn, .ref be, .int m36, .ref du, .int m38, .ref db, .int m40, .int m41, .int m42, .ref pn, .ref wg, .ref wh, .ref tn, .ref he, .int m48, .ref tr, .ref fd, .ref po, .int m52, .int m53])) (hf_ha : f ha = .inl (cy 1, 30, .inl gha)) (hq_ha : ∀ j : Nat, q_has j (gha j)) : Met l yX10_leastPower (z_ws yX10_leastPower cX10_leastPower 2 (some .int)) (z_R 1 0 0) (va_Pc [.ref mm] (z_Pre D vwCl (z_KK D cy adK adV) L f sz)) (z_Qi D vwCl (fun r u => u = (L, f) ∧ (True)) L sz) 0 0 (z_A L sz) := by
  refine z_met (cc := cX10_leastPower) (maxL := 2) (ret := (some .int)) (lv := [(0, .ref mm)]) (by decide) rfl (Nat.le_of_ble_eq_true rfl) rfl ?_
  intro p e s m below meth c ls hx hb hr hlk hml hown hnm hts hKK hA hw hl
  have hK := hKK.1.1
  have hown : s.vm.findClass RX10 = some m.cls := hown
  have hT : ∀ w ∈ lw_all, w.before ([.ref mm] : List Value).toArray s = true := fun w h => hts w (z_cons w h)
  refine lv_iconst (v := 0) hx hb dX10_leastPower_0 (by decide) ?_
  refine lv_istore_n (lv' := [(1, .int 0), (0, .ref mm)]) hx hb dX10_leastPower_1 rfl hl (by decide) rfl (fun ls hl => ?_)
  have hzk : (0 : Int32).toInt = 0 := by decide
  refine z_loop (fun n H locs ls => ∃ (K1 : Int32), (n = (2 - K1.toInt).toNat) ∧ (0 ≤ K1.toInt) ∧ (K1.toInt ≤ 2) ∧ (z_H D vwCl (z_A L sz) s.heap L f H locs) ∧ (lv_has ls 2 [(1, .int K1), (0, .ref mm)])) _ ⟨0, rfl, (by first | decide | omega), (by first | decide | omega), hw, (lv_sub hl [0, 1] rfl)⟩ (fun n H locs ls hI ih_2 => ?_)
  obtain ⟨K1, hn, hk0, hk1, hw, hl⟩ := hI
  refine lv_iconst (v := 1) hx hb dX10_leastPower_2 (by decide) ?_
  refine lv_iload_n hx hb dX10_leastPower_3 rfl (lv_at hl 0 rfl) ?_
  refine lv_ishl hx hb dX10_leastPower_4 ?_
  refine lv_topi (fun w2 e_w2 => ?_)
  have hsh : K1.toInt = 2 → w2.toInt = 4 := fun h => by rw [e_w2, show K1 = 2 from z_ieq (by rw [h]; rfl)]; decide
  refine lv_aload_n hx hb dX10_leastPower_5 rfl (lv_at hl 1 rfl) ?_
  refine z_get (C := RX10) (T := TX10) (N := 54) (ci := 10) (v := .ref ha) hx hb hT zin_X10 hown hK hw hm_mm hf_mm rfl 17 (by decide) (hT _ kw_1185) rfl dX10_leastPower_6 ?_
  refine lv_iconst (v := 0) hx hb dX10_leastPower_9 (by decide) ?_
  refine z_iald hx hb hK hw 1 hm_ha hf_ha rfl (z_ix (show (0 : Int32).toInt = 0 by decide) (by decide)) dX10_leastPower_10 ?_
  refine lv_topi (fun w3 e_w3 => ?_)
  have hv_w3 : 0 ≤ w3.toInt ∧ w3.toInt ≤ 4 := by rw [e_w3]; exact (hq_ha _).1 rfl
  refine z_icmp_ge (tgt := 20) hx hb rfl rfl dX10_leastPower_11 (by decide) (fun c4 => ?_) (fun c4 => ?_)
  · skip
    refine lv_iload_n hx hb dX10_leastPower_20 rfl (lv_at hl 0 rfl) ?_
    exact z_iret hx hb hr hlk (by decide) (by decide) hw (⟨rfl, trivial⟩) dX10_leastPower_21
  · skip
    obtain ⟨k5, e_k5⟩ : ∃ z : Int32, z = K1 + 1 := ⟨_, rfl⟩
    refine lv_iinc (v := k5) (lv' := [(1, .int k5), (0, .ref mm)]) hx hb dX10_leastPower_14 hl (k := 0) rfl (by rw [e_k5]; rfl) (by decide) rfl (fun ls hl => ?_)
    have i_k5 : k5.toInt = (K1.toInt + 1) := z_add e_k5 rfl (by decide) (by omega)
    refine lv_goto (tgt := 2) hx hb dX10_leastPower_17 (by decide) ?_
    exact ih_2 _ (by omega) _ _ _ ⟨k5, rfl, (by first | decide | omega), (by first | decide | omega), hw, (lv_sub hl [0, 1] rfl)⟩

set_option maxHeartbeats 2000000 in
set_option maxRecDepth 100000 in
theorem c_X10_anew (l : Launch) {D : va_G} {cy : Nat → ClassId} {L : List Nat} {f : Nat → va_E} {sz : Nat} {adK adV : Nat → Nat} {mm wd my ce mv ta li ha lw st fo dr ik ro ct se th cn be du db pn wg wh tn he tr fd po : Nat} {m0 m6 m7 m8 m9 m10 m12 m13 m14 m15 m22 m24 m25 m27 m28 m30 m36 m38 m40 m41 m42 m48 m52 m53 : Int32} {m11 m26 : Int64} {gwd gmy gha glw gst gfo gdr gro gct gse gth gcn gbe gdu gdb : Nat → Int32} {gce : Nat → Int64} {sn dy : Int32} (hm_mm : mm ∈ L) (hm_ha : ha ∈ L) (hm_dr : dr ∈ L) (hm_ro : ro ∈ L) (hm_lw : lw ∈ L) (hm_st : st ∈ L) (hm_ct : ct ∈ L) (hm_se : se ∈ L) (hm_th : th ∈ L) (hm_cn : cn ∈ L) (hm_db : db ∈ L) (hm_be : be ∈ L) (hm_du : du ∈ L) (hm_fo : fo ∈ L) (hm_wd : wd ∈ L) (hm_my : my ∈ L) (hm_ce : ce ∈ L) (hf_mm : f mm = .inr (10, [.int m0, .ref wd, .ref my, .ref ce, .ref mv, .ref ta, .int m6, .int m7, .int m8, .int m9, .int m10, .long m11, .int m12, .int m13, .int m14, .int m15, .ref li, .ref ha, .ref lw, .ref st, .ref fo, .ref dr, .int m22, .ref ik, .int m24, .int m25, .long m26, .int m27, .int m28, .ref ro, .int m30, .ref ct, .ref se, .ref th, .ref cn, .ref be, .int m36, .ref du, .int m38, .ref db, .int m40, .int m41, .int m42, .ref pn, .ref wg, .ref wh, .ref tn, .ref he, .int m48, .ref tr, .ref fd, .ref po, .int m52, .int m53])) (hf_ha : f ha = .inl (cy 1, 30, .inl gha)) (hf_dr : f dr = .inl (cy 1, 520, .inl gdr)) (hf_ro : f ro = .inl (cy 1, 13, .inl gro)) (hf_lw : f lw = .inl (cy 1, 25, .inl glw)) (hf_st : f st = .inl (cy 1, 20, .inl gst)) (hf_ct : f ct = .inl (cy 1, 4, .inl gct)) (hf_se : f se = .inl (cy 1, 36, .inl gse)) (hf_th : f th = .inl (cy 1, 36, .inl gth)) (hf_cn : f cn = .inl (cy 1, 36, .inl gcn)) (hf_db : f db = .inl (cy 1, 5, .inl gdb)) (hf_be : f be = .inl (cy 1, 2574, .inl gbe)) (hf_du : f du = .inl (cy 1, 5200, .inl gdu)) (hf_fo : f fo = .inl (cy 1, 180, .inl gfo)) (hf_wd : f wd = .inl (cy 1, 4, .inl gwd)) (hf_my : f my = .inl (cy 1, 4, .inl gmy)) (hf_ce : f ce = .inl (cy 2, 240, .inr (.inl gce))) (ne_ct_wd : ct ≠ wd) (ne_ct_my : ct ≠ my) (ne_se_th : se ≠ th) (ne_se_cn : se ≠ cn) (ne_th_cn : th ≠ cn) (ne_wd_my : wd ≠ my) (hq_ha : ∀ j : Nat, q_has j (gha j)) (hq_dr : ∀ j : Nat, q_drv j (gdr j)) (hq_ro : ∀ j : Nat, q_12 j (gro j)) (hq_lw : ∀ j : Nat, q_law j (glw j)) (hq_st : ∀ j : Nat, q_law j (gst j)) (hq_ct : ∀ j : Nat, q_law j (gct j)) (hq_be : ∀ j : Nat, q_be j (gbe j)) (hq_du : ∀ j : Nat, q_du j (gdu j)) (hq_my : ∀ j : Nat, q_60 j (gmy j)) (hxx : 0 ≤ m26.toInt ∧ m26.toInt < 2147483648) (hea : ∀ m : Nat, m < 5 → z_ea gha glw m) : Met l yX10_anew (z_ws yX10_anew cX10_anew 7 (some .int)) (z_R 7 0 0) (va_Pc [.ref mm, .int sn, .int dy] (z_Pre D vwCl (z_KK D cy adK adV) L f sz)) (z_Qi D vwCl (fun r u => L = u.1 ∧ (∀ b ∈ L, b ≠ mm → b ≠ ro → b ≠ ct → b ≠ se → b ≠ th → b ≠ cn → b ≠ db → b ≠ be → b ≠ du → u.2 b = f b) ∧ (∃ (o2 mn2 i2 u2 n2 d2 y2 : Int32) (x2 : Int64) (nro nct nse nth ncn ndb nbe ndu : Nat → Int32), (u.2 mm = .inr (10, [.int 0, .ref wd, .ref my, .ref ce, .ref mv, .ref ta, .int m6, .int m7, .int m8, .int m9, .int m10, .long m11, .int m12, .int m13, .int m14, .int m15, .ref li, .ref ha, .ref lw, .ref st, .ref fo, .ref dr, .int m22, .ref ik, .int o2, .int mn2, .long x2, .int i2, .int u2, .ref ro, .int n2, .ref ct, .ref se, .ref th, .ref cn, .ref be, .int y2, .ref du, .int d2, .ref db, .int m40, .int m41, .int m42, .ref pn, .ref wg, .ref wh, .ref tn, .ref he, .int m48, .ref tr, .ref fd, .ref po, .int m52, .int m53])) ∧ (u.2 ro = .inl (cy 1, 13, .inl nro)) ∧ (u.2 ct = .inl (cy 1, 4, .inl nct)) ∧ (u.2 se = .inl (cy 1, 36, .inl nse)) ∧ (u.2 th = .inl (cy 1, 36, .inl nth)) ∧ (u.2 cn = .inl (cy 1, 36, .inl ncn)) ∧ (u.2 db = .inl (cy 1, 5, .inl ndb)) ∧ (u.2 be = .inl (cy 1, 2574, .inl nbe)) ∧ (u.2 du = .inl (cy 1, 5200, .inl ndu)) ∧ (∀ j : Nat, q_12 j (nro j)) ∧ (∀ j : Nat, q_law j (nct j)) ∧ (∀ j : Nat, q_be j (nbe j)) ∧ (∀ j : Nat, q_du j (ndu j)) ∧ (0 ≤ x2.toInt ∧ x2.toInt < 2147483648))) L sz) 0 0 (z_A L sz) := by
  refine z_met (cc := cX10_anew) (maxL := 7) (ret := (some .int)) (lv := [(0, .ref mm), (1, .int sn), (2, .int dy)]) (by decide) rfl (Nat.le_of_ble_eq_true rfl) rfl ?_
  intro p e s m below meth c ls hx hb hr hlk hml hown hnm hts hKK hA hw hl
  have hK := hKK.1.1
  have hown : s.vm.findClass RX10 = some m.cls := hown
  have hT : ∀ w ∈ lw_all, w.before ([.ref mm, .int sn, .int dy] : List Value).toArray s = true := fun w h => hts w (z_cons w h)
  have hsub : L = L := rfl
  have hfr : ∀ b ∈ L, b ≠ mm → b ≠ ro → b ≠ ct → b ≠ se → b ≠ th → b ≠ cn → b ≠ db → b ≠ be → b ≠ du → f b = f b := fun _ _ _ _ _ _ _ _ _ _ _ => rfl
  have hh0 := (hq_ha 0).1 rfl
  have hh1 := (hq_ha 1).2.1 rfl
  have hh2 := (hq_ha 2).2.2.1 rfl
  have hh3 := (hq_ha 3).2.2.2 rfl
  have hea0 : 2 ≤ (glw 3).toInt ∨ ((gha 3).toInt = 0 ∧ (gha 0).toInt = 0) := hea 0 (by decide)
  have hz_m2 : (-2 : Int32).toInt = -2 := by decide
  have hz_m1 : (-1 : Int32).toInt = -1 := by decide
  have hz_0 : (0 : Int32).toInt = 0 := by decide
  refine lv_aload_n hx hb dX10_anew_0 rfl (lv_at hl 0 rfl) ?_
  refine lv_iconst (v := 0) hx hb dX10_anew_1 (by decide) ?_
  refine z_put (C := RX10) (T := TX10) (N := 54) (ci := 10) (v := .int 0) (fs' := [.int 0, .ref wd, .ref my, .ref ce, .ref mv, .ref ta, .int m6, .int m7, .int m8, .int m9, .int m10, .long m11, .int m12, .int m13, .int m14, .int m15, .ref li, .ref ha, .ref lw, .ref st, .ref fo, .ref dr, .int m22, .ref ik, .int m24, .int m25, .long m26, .int m27, .int m28, .ref ro, .int m30, .ref ct, .ref se, .ref th, .ref cn, .ref be, .int m36, .ref du, .int m38, .ref db, .int m40, .int m41, .int m42, .ref pn, .ref wg, .ref wh, .ref tn, .ref he, .int m48, .ref tr, .ref fd, .ref po, .int m52, .int m53]) hx hb hT zin_X10 tyX10_ok nmX10 hown hK hw hm_mm hf_mm rfl 0 (by decide) (hT _ kw_1168) rfl rfl rfl (Nat.le_of_ble_eq_true rfl) rfl dX10_anew_2 (fun H locs hw => ?_)
  obtain ⟨f1, e_f1⟩ : ∃ z, z = va_up f mm (.inr (10, [.int 0, .ref wd, .ref my, .ref ce, .ref mv, .ref ta, .int m6, .int m7, .int m8, .int m9, .int m10, .long m11, .int m12, .int m13, .int m14, .int m15, .ref li, .ref ha, .ref lw, .ref st, .ref fo, .ref dr, .int m22, .ref ik, .int m24, .int m25, .long m26, .int m27, .int m28, .ref ro, .int m30, .ref ct, .ref se, .ref th, .ref cn, .ref be, .int m36, .ref du, .int m38, .ref db, .int m40, .int m41, .int m42, .ref pn, .ref wg, .ref wh, .ref tn, .ref he, .int m48, .ref tr, .ref fd, .ref po, .int m52, .int m53])) := ⟨_, rfl⟩
  rw [← e_f1] at hw
  have hf_ha : f1 ha = .inl (cy 1, 30, .inl gha) := (congrFun e_f1 ha).trans (z_up_ne (z_tne hf_ha hf_mm (m := 340) (n := 10) rfl rfl (by decide)) hf_ha)
  have hf_dr : f1 dr = .inl (cy 1, 520, .inl gdr) := (congrFun e_f1 dr).trans (z_up_ne (z_tne hf_dr hf_mm (m := 4260) (n := 10) rfl rfl (by decide)) hf_dr)
  have hf_ro : f1 ro = .inl (cy 1, 13, .inl gro) := (congrFun e_f1 ro).trans (z_up_ne (z_tne hf_ro hf_mm (m := 204) (n := 10) rfl rfl (by decide)) hf_ro)
  have hf_lw : f1 lw = .inl (cy 1, 25, .inl glw) := (congrFun e_f1 lw).trans (z_up_ne (z_tne hf_lw hf_mm (m := 300) (n := 10) rfl rfl (by decide)) hf_lw)
  have hf_st : f1 st = .inl (cy 1, 20, .inl gst) := (congrFun e_f1 st).trans (z_up_ne (z_tne hf_st hf_mm (m := 260) (n := 10) rfl rfl (by decide)) hf_st)
  have hf_ct : f1 ct = .inl (cy 1, 4, .inl gct) := (congrFun e_f1 ct).trans (z_up_ne (z_tne hf_ct hf_mm (m := 132) (n := 10) rfl rfl (by decide)) hf_ct)
  have hf_se : f1 se = .inl (cy 1, 36, .inl gse) := (congrFun e_f1 se).trans (z_up_ne (z_tne hf_se hf_mm (m := 388) (n := 10) rfl rfl (by decide)) hf_se)
  have hf_th : f1 th = .inl (cy 1, 36, .inl gth) := (congrFun e_f1 th).trans (z_up_ne (z_tne hf_th hf_mm (m := 388) (n := 10) rfl rfl (by decide)) hf_th)
  have hf_cn : f1 cn = .inl (cy 1, 36, .inl gcn) := (congrFun e_f1 cn).trans (z_up_ne (z_tne hf_cn hf_mm (m := 388) (n := 10) rfl rfl (by decide)) hf_cn)
  have hf_db : f1 db = .inl (cy 1, 5, .inl gdb) := (congrFun e_f1 db).trans (z_up_ne (z_tne hf_db hf_mm (m := 140) (n := 10) rfl rfl (by decide)) hf_db)
  have hf_be : f1 be = .inl (cy 1, 2574, .inl gbe) := (congrFun e_f1 be).trans (z_up_ne (z_tne hf_be hf_mm (m := 20692) (n := 10) rfl rfl (by decide)) hf_be)
  have hf_du : f1 du = .inl (cy 1, 5200, .inl gdu) := (congrFun e_f1 du).trans (z_up_ne (z_tne hf_du hf_mm (m := 41700) (n := 10) rfl rfl (by decide)) hf_du)
  have hf_fo : f1 fo = .inl (cy 1, 180, .inl gfo) := (congrFun e_f1 fo).trans (z_up_ne (z_tne hf_fo hf_mm (m := 1540) (n := 10) rfl rfl (by decide)) hf_fo)
  have hf_wd : f1 wd = .inl (cy 1, 4, .inl gwd) := (congrFun e_f1 wd).trans (z_up_ne (z_tne hf_wd hf_mm (m := 132) (n := 10) rfl rfl (by decide)) hf_wd)
  have hf_my : f1 my = .inl (cy 1, 4, .inl gmy) := (congrFun e_f1 my).trans (z_up_ne (z_tne hf_my hf_mm (m := 132) (n := 10) rfl rfl (by decide)) hf_my)
  have hf_ce : f1 ce = .inl (cy 2, 240, .inr (.inl gce)) := (congrFun e_f1 ce).trans (z_up_ne (z_tne hf_ce hf_mm (m := 2021) (n := 10) rfl rfl (by decide)) hf_ce)
  have hf_mm : f1 mm = .inr (10, [.int 0, .ref wd, .ref my, .ref ce, .ref mv, .ref ta, .int m6, .int m7, .int m8, .int m9, .int m10, .long m11, .int m12, .int m13, .int m14, .int m15, .ref li, .ref ha, .ref lw, .ref st, .ref fo, .ref dr, .int m22, .ref ik, .int m24, .int m25, .long m26, .int m27, .int m28, .ref ro, .int m30, .ref ct, .ref se, .ref th, .ref cn, .ref be, .int m36, .ref du, .int m38, .ref db, .int m40, .int m41, .int m42, .ref pn, .ref wg, .ref wh, .ref tn, .ref he, .int m48, .ref tr, .ref fd, .ref po, .int m52, .int m53]) := (congrFun e_f1 mm).trans z_up_self
  have hfr : ∀ b ∈ L, b ≠ mm → b ≠ ro → b ≠ ct → b ≠ se → b ≠ th → b ≠ cn → b ≠ db → b ≠ be → b ≠ du → f1 b = f b := fun b hb h0 h1 h2 h3 h4 h5 h6 h7 h8 => (congrFun e_f1 b).trans (z_up_ne h0 (hfr b hb h0 h1 h2 h3 h4 h5 h6 h7 h8))
  refine lv_aload_n hx hb dX10_anew_5 rfl (lv_at hl 0 rfl) ?_
  refine lv_iload_n hx hb dX10_anew_6 rfl (lv_at hl 1 rfl) ?_
  refine lv_iload_n hx hb dX10_anew_7 rfl (lv_at hl 2 rfl) ?_
  refine z_calliV (cells := 0) (slots := 0) (b := mm) (As := [.int sn, .int dy]) (rest := []) (ci := 10) (q0 := (RX10, TX10, 54)) ⟨hx, hb, hml, hown, hT⟩ (c_X10_whyNotCounts l hm_mm hm_ha hm_wd hm_my hm_ce hf_mm hf_ha hf_wd hf_my hf_ce ne_wd_my hq_ha hq_my) (cwV 2 hT (z_goodV (fun _ h => h) kw_1722 kw_1724 kw_81 kw_96 kw_1725) rfl rfl rfl (by decide +kernel) ⟨by decide, by decide⟩) z_mv hKK hK hw hA hm_mm hf_mm rfl rfl rfl hl.1 rfl (Nat.le_of_ble_eq_true rfl) dX10_anew_8 ⟨by decide, by decide⟩ (fun r2 u H locs hp hw => ?_)
  obtain ⟨rfl, hp⟩ := hp
  have hw : z_H D vwCl (z_A L sz) s.heap L f1 H locs := hw
  have hq3 := hp
  refine lv_istore_n (lv' := [(3, .int r2), (0, .ref mm), (1, .int sn), (2, .int dy)]) hx hb dX10_anew_11 rfl hl (by decide) rfl (fun ls hl => ?_)
  refine lv_iload_n hx hb dX10_anew_12 rfl (lv_at hl 0 rfl) ?_
  refine z_if_eq (tgt := 18) hx hb rfl dX10_anew_13 (by decide) (fun c4 => ?_) (fun c4 => ?_)
  · skip
    refine lv_aload_n hx hb dX10_anew_18 rfl (lv_at hl 1 rfl) ?_
    refine z_callvV (cells := 0) (slots := 0) (b := mm) (As := []) (rest := []) (ci := 10) (q0 := (RX10, TX10, 54)) ⟨hx, hb, hml, hown, hT⟩ (c_X10_asTold l hm_mm hm_ha hm_dr hm_ro hm_lw hm_st hm_ct hm_se hm_th hm_cn hm_db hm_be hm_du hm_fo hf_mm hf_ha hf_dr hf_ro hf_lw hf_st hf_ct hf_se hf_th hf_cn hf_db hf_be hf_du hf_fo ne_se_th ne_se_cn ne_th_cn hq_ha hq_dr hq_ro hq_lw hq_st hq_ct hq_be hq_du (by first | omega | decide | assumption) hea) (cwV 0 hT (z_goodV (fun _ h => h) kw_1587 kw_1589 kw_68 kw_96 kw_1590) rfl rfl rfl (by decide +kernel) ⟨by decide, by decide⟩) z_mv hKK hK hw hA hm_mm hf_mm rfl rfl rfl hl.1 rfl (Nat.le_of_ble_eq_true rfl) dX10_anew_19 ⟨by decide, by decide⟩ (fun u H locs hp hw => ?_)
    obtain ⟨L5, f6⟩ := u
    obtain ⟨hsb, hfm, mn2_7, n2_8, d2_9, y2_10, x2_11, nro_12, nct_13, nse_14, nth_15, ncn_16, ndb_17, nbe_18, ndu_19, ha_0, ha_1, ha_2, ha_3, ha_4, ha_5, ha_6, ha_7, ha_8, hq_ro, hq_ct, hq_be, hq_du, hp⟩ := hp
    have hsb : L = L5 := hsb
    subst hsb
    have hsb : ∀ b ∈ L, b ∈ L := fun _ h => h
    have hw : z_H D vwCl (z_A L sz) s.heap L f6 H locs := hw
    have hfr : ∀ b ∈ L, b ≠ mm → b ≠ ro → b ≠ ct → b ≠ se → b ≠ th → b ≠ cn → b ≠ db → b ≠ be → b ≠ du → f6 b = f b := fun b hb h0 h1 h2 h3 h4 h5 h6 h7 h8 => (hfm b hb h0 h1 h2 h3 h4 h5 h6 h7 h8).trans (hfr b hb h0 h1 h2 h3 h4 h5 h6 h7 h8)
    have hf_ha : f6 ha = .inl (cy 1, 30, .inl gha) := (hfm ha hm_ha (z_tne hf_ha hf_mm (m := 340) (n := 10) rfl rfl (by decide)) (z_tne hf_ha hf_ro (m := 340) (n := 204) rfl rfl (by decide)) (z_tne hf_ha hf_ct (m := 340) (n := 132) rfl rfl (by decide)) (z_tne hf_ha hf_se (m := 340) (n := 388) rfl rfl (by decide)) (z_tne hf_ha hf_th (m := 340) (n := 388) rfl rfl (by decide)) (z_tne hf_ha hf_cn (m := 340) (n := 388) rfl rfl (by decide)) (z_tne hf_ha hf_db (m := 340) (n := 140) rfl rfl (by decide)) (z_tne hf_ha hf_be (m := 340) (n := 20692) rfl rfl (by decide)) (z_tne hf_ha hf_du (m := 340) (n := 41700) rfl rfl (by decide))).trans hf_ha
    have hf_dr : f6 dr = .inl (cy 1, 520, .inl gdr) := (hfm dr hm_dr (z_tne hf_dr hf_mm (m := 4260) (n := 10) rfl rfl (by decide)) (z_tne hf_dr hf_ro (m := 4260) (n := 204) rfl rfl (by decide)) (z_tne hf_dr hf_ct (m := 4260) (n := 132) rfl rfl (by decide)) (z_tne hf_dr hf_se (m := 4260) (n := 388) rfl rfl (by decide)) (z_tne hf_dr hf_th (m := 4260) (n := 388) rfl rfl (by decide)) (z_tne hf_dr hf_cn (m := 4260) (n := 388) rfl rfl (by decide)) (z_tne hf_dr hf_db (m := 4260) (n := 140) rfl rfl (by decide)) (z_tne hf_dr hf_be (m := 4260) (n := 20692) rfl rfl (by decide)) (z_tne hf_dr hf_du (m := 4260) (n := 41700) rfl rfl (by decide))).trans hf_dr
    have hf_lw : f6 lw = .inl (cy 1, 25, .inl glw) := (hfm lw hm_lw (z_tne hf_lw hf_mm (m := 300) (n := 10) rfl rfl (by decide)) (z_tne hf_lw hf_ro (m := 300) (n := 204) rfl rfl (by decide)) (z_tne hf_lw hf_ct (m := 300) (n := 132) rfl rfl (by decide)) (z_tne hf_lw hf_se (m := 300) (n := 388) rfl rfl (by decide)) (z_tne hf_lw hf_th (m := 300) (n := 388) rfl rfl (by decide)) (z_tne hf_lw hf_cn (m := 300) (n := 388) rfl rfl (by decide)) (z_tne hf_lw hf_db (m := 300) (n := 140) rfl rfl (by decide)) (z_tne hf_lw hf_be (m := 300) (n := 20692) rfl rfl (by decide)) (z_tne hf_lw hf_du (m := 300) (n := 41700) rfl rfl (by decide))).trans hf_lw
    have hf_st : f6 st = .inl (cy 1, 20, .inl gst) := (hfm st hm_st (z_tne hf_st hf_mm (m := 260) (n := 10) rfl rfl (by decide)) (z_tne hf_st hf_ro (m := 260) (n := 204) rfl rfl (by decide)) (z_tne hf_st hf_ct (m := 260) (n := 132) rfl rfl (by decide)) (z_tne hf_st hf_se (m := 260) (n := 388) rfl rfl (by decide)) (z_tne hf_st hf_th (m := 260) (n := 388) rfl rfl (by decide)) (z_tne hf_st hf_cn (m := 260) (n := 388) rfl rfl (by decide)) (z_tne hf_st hf_db (m := 260) (n := 140) rfl rfl (by decide)) (z_tne hf_st hf_be (m := 260) (n := 20692) rfl rfl (by decide)) (z_tne hf_st hf_du (m := 260) (n := 41700) rfl rfl (by decide))).trans hf_st
    have hf_fo : f6 fo = .inl (cy 1, 180, .inl gfo) := (hfm fo hm_fo (z_tne hf_fo hf_mm (m := 1540) (n := 10) rfl rfl (by decide)) (z_tne hf_fo hf_ro (m := 1540) (n := 204) rfl rfl (by decide)) (z_tne hf_fo hf_ct (m := 1540) (n := 132) rfl rfl (by decide)) (z_tne hf_fo hf_se (m := 1540) (n := 388) rfl rfl (by decide)) (z_tne hf_fo hf_th (m := 1540) (n := 388) rfl rfl (by decide)) (z_tne hf_fo hf_cn (m := 1540) (n := 388) rfl rfl (by decide)) (z_tne hf_fo hf_db (m := 1540) (n := 140) rfl rfl (by decide)) (z_tne hf_fo hf_be (m := 1540) (n := 20692) rfl rfl (by decide)) (z_tne hf_fo hf_du (m := 1540) (n := 41700) rfl rfl (by decide))).trans hf_fo
    have hf_wd : f6 wd = .inl (cy 1, 4, .inl gwd) := (hfm wd hm_wd (z_tne hf_wd hf_mm (m := 132) (n := 10) rfl rfl (by decide)) (z_tne hf_wd hf_ro (m := 132) (n := 204) rfl rfl (by decide)) (Ne.symm ne_ct_wd) (z_tne hf_wd hf_se (m := 132) (n := 388) rfl rfl (by decide)) (z_tne hf_wd hf_th (m := 132) (n := 388) rfl rfl (by decide)) (z_tne hf_wd hf_cn (m := 132) (n := 388) rfl rfl (by decide)) (z_tne hf_wd hf_db (m := 132) (n := 140) rfl rfl (by decide)) (z_tne hf_wd hf_be (m := 132) (n := 20692) rfl rfl (by decide)) (z_tne hf_wd hf_du (m := 132) (n := 41700) rfl rfl (by decide))).trans hf_wd
    have hf_my : f6 my = .inl (cy 1, 4, .inl gmy) := (hfm my hm_my (z_tne hf_my hf_mm (m := 132) (n := 10) rfl rfl (by decide)) (z_tne hf_my hf_ro (m := 132) (n := 204) rfl rfl (by decide)) (Ne.symm ne_ct_my) (z_tne hf_my hf_se (m := 132) (n := 388) rfl rfl (by decide)) (z_tne hf_my hf_th (m := 132) (n := 388) rfl rfl (by decide)) (z_tne hf_my hf_cn (m := 132) (n := 388) rfl rfl (by decide)) (z_tne hf_my hf_db (m := 132) (n := 140) rfl rfl (by decide)) (z_tne hf_my hf_be (m := 132) (n := 20692) rfl rfl (by decide)) (z_tne hf_my hf_du (m := 132) (n := 41700) rfl rfl (by decide))).trans hf_my
    have hf_ce : f6 ce = .inl (cy 2, 240, .inr (.inl gce)) := (hfm ce hm_ce (z_tne hf_ce hf_mm (m := 2021) (n := 10) rfl rfl (by decide)) (z_tne hf_ce hf_ro (m := 2021) (n := 204) rfl rfl (by decide)) (z_tne hf_ce hf_ct (m := 2021) (n := 132) rfl rfl (by decide)) (z_tne hf_ce hf_se (m := 2021) (n := 388) rfl rfl (by decide)) (z_tne hf_ce hf_th (m := 2021) (n := 388) rfl rfl (by decide)) (z_tne hf_ce hf_cn (m := 2021) (n := 388) rfl rfl (by decide)) (z_tne hf_ce hf_db (m := 2021) (n := 140) rfl rfl (by decide)) (z_tne hf_ce hf_be (m := 2021) (n := 20692) rfl rfl (by decide)) (z_tne hf_ce hf_du (m := 2021) (n := 41700) rfl rfl (by decide))).trans hf_ce
    have hf_mm : f6 mm = .inr (10, [.int 0, .ref wd, .ref my, .ref ce, .ref mv, .ref ta, .int m6, .int m7, .int m8, .int m9, .int m10, .long m11, .int m12, .int m13, .int m14, .int m15, .ref li, .ref ha, .ref lw, .ref st, .ref fo, .ref dr, .int m22, .ref ik, .int (-1), .int mn2_7, .long x2_11, .int 0, .int 1000, .ref ro, .int n2_8, .ref ct, .ref se, .ref th, .ref cn, .ref be, .int y2_10, .ref du, .int d2_9, .ref db, .int m40, .int m41, .int m42, .ref pn, .ref wg, .ref wh, .ref tn, .ref he, .int m48, .ref tr, .ref fd, .ref po, .int m52, .int m53]) := ha_0
    have hf_ro : f6 ro = .inl (cy 1, 13, .inl nro_12) := ha_1
    have hf_ct : f6 ct = .inl (cy 1, 4, .inl nct_13) := ha_2
    have hf_se : f6 se = .inl (cy 1, 36, .inl nse_14) := ha_3
    have hf_th : f6 th = .inl (cy 1, 36, .inl nth_15) := ha_4
    have hf_cn : f6 cn = .inl (cy 1, 36, .inl ncn_16) := ha_5
    have hf_db : f6 db = .inl (cy 1, 5, .inl ndb_17) := ha_6
    have hf_be : f6 be = .inl (cy 1, 2574, .inl nbe_18) := ha_7
    have hf_du : f6 du = .inl (cy 1, 5200, .inl ndu_19) := ha_8
    have hto := hp
    refine lv_lconst (v := 0) hx hb dX10_anew_22 (by decide) ?_
    refine lv_lstore (lv' := [(4, .long 0), (3, .int r2), (0, .ref mm), (1, .int sn), (2, .int dy)]) hx hb dX10_anew_23 hl (by decide) rfl (fun ls hl => ?_)
    refine lv_iconst (v := 0) hx hb dX10_anew_25 (by decide) ?_
    refine lv_istore (lv' := [(6, .int 0), (4, .long 0), (3, .int r2), (0, .ref mm), (1, .int sn), (2, .int dy)]) hx hb dX10_anew_26 hl (by decide) rfl (fun ls hl => ?_)
    have hzk : (0 : Int32).toInt = 0 := by decide
    refine z_loop (fun n H locs ls => ∃ (K20 : Int32) (V22 : Int64) (f21 : Nat → va_E), (n = (4 - K20.toInt).toNat) ∧ (0 ≤ K20.toInt) ∧ (K20.toInt ≤ 4) ∧ (z_H D vwCl (z_A L sz) s.heap L f21 H locs) ∧ (f21 mm = .inr (10, [.int 0, .ref wd, .ref my, .ref ce, .ref mv, .ref ta, .int m6, .int m7, .int m8, .int m9, .int m10, .long m11, .int m12, .int m13, .int m14, .int m15, .ref li, .ref ha, .ref lw, .ref st, .ref fo, .ref dr, .int m22, .ref ik, .int (-1), .int mn2_7, .long x2_11, .int 0, .int 1000, .ref ro, .int n2_8, .ref ct, .ref se, .ref th, .ref cn, .ref be, .int y2_10, .ref du, .int d2_9, .ref db, .int m40, .int m41, .int m42, .ref pn, .ref wg, .ref wh, .ref tn, .ref he, .int m48, .ref tr, .ref fd, .ref po, .int m52, .int m53])) ∧ (f21 ha = .inl (cy 1, 30, .inl gha)) ∧ (f21 dr = .inl (cy 1, 520, .inl gdr)) ∧ (f21 ro = .inl (cy 1, 13, .inl nro_12)) ∧ (f21 lw = .inl (cy 1, 25, .inl glw)) ∧ (f21 st = .inl (cy 1, 20, .inl gst)) ∧ (f21 ct = .inl (cy 1, 4, .inl nct_13)) ∧ (f21 se = .inl (cy 1, 36, .inl nse_14)) ∧ (f21 th = .inl (cy 1, 36, .inl nth_15)) ∧ (f21 cn = .inl (cy 1, 36, .inl ncn_16)) ∧ (f21 db = .inl (cy 1, 5, .inl ndb_17)) ∧ (f21 be = .inl (cy 1, 2574, .inl nbe_18)) ∧ (f21 du = .inl (cy 1, 5200, .inl ndu_19)) ∧ (f21 fo = .inl (cy 1, 180, .inl gfo)) ∧ (f21 wd = .inl (cy 1, 4, .inl gwd)) ∧ (f21 my = .inl (cy 1, 4, .inl gmy)) ∧ (f21 ce = .inl (cy 2, 240, .inr (.inl gce))) ∧ (∀ b ∈ L, b ≠ mm → b ≠ ro → b ≠ ct → b ≠ se → b ≠ th → b ≠ cn → b ≠ db → b ≠ be → b ≠ du → f21 b = f b) ∧ (lv_has ls 7 [(6, .int K20), (4, .long V22), (3, .int r2), (0, .ref mm), (1, .int sn), (2, .int dy)])) _ ⟨0, 0, f6, rfl, (by first | decide | omega), (by first | decide | omega), hw, hf_mm, hf_ha, hf_dr, hf_ro, hf_lw, hf_st, hf_ct, hf_se, hf_th, hf_cn, hf_db, hf_be, hf_du, hf_fo, hf_wd, hf_my, hf_ce, hfr, (lv_sub hl [0, 1, 2, 3, 4, 5] rfl)⟩ (fun n H locs ls hI ih_28 => ?_)
    obtain ⟨K20, V22, f21, hn, hk0, hk1, hw, hf_mm, hf_ha, hf_dr, hf_ro, hf_lw, hf_st, hf_ct, hf_se, hf_th, hf_cn, hf_db, hf_be, hf_du, hf_fo, hf_wd, hf_my, hf_ce, hfr, hl⟩ := hI
    refine lv_iload hx hb dX10_anew_28 (lv_at hl 0 rfl) ?_
    refine lv_aload_n hx hb dX10_anew_30 rfl (lv_at hl 3 rfl) ?_
    refine z_get (C := RX10) (T := TX10) (N := 54) (ci := 10) (v := .ref ha) hx hb hT zin_X10 hown hK hw hm_mm hf_mm rfl 17 (by decide) (hT _ kw_1185) rfl dX10_anew_31 ?_
    refine lv_iconst (v := 0) hx hb dX10_anew_34 (by decide) ?_
    refine z_iald hx hb hK hw 1 hm_ha hf_ha rfl (z_ix (show (0 : Int32).toInt = 0 by decide) (by decide)) dX10_anew_35 ?_
    refine lv_topi (fun w23 e_w23 => ?_)
    have hv_w23 : 0 ≤ w23.toInt ∧ w23.toInt ≤ 4 := by rw [e_w23]; exact (hq_ha _).1 rfl
    refine z_icmp_ge (tgt := 76) hx hb rfl rfl dX10_anew_36 (by decide) (fun c24 => ?_) (fun c24 => ?_)
    · skip
      refine lv_lload hx hb dX10_anew_76 (lv_at hl 1 rfl) ?_
      refine lv_lconst (v := 0) hx hb dX10_anew_78 (by decide) ?_
      refine W.lcmp hx hb dX10_anew_79 ?_
      refine lv_topi (fun w25 e_w25 => ?_)
      have i_w25 := z_lc e_w25 rfl (show (0 : Int64).toInt = 0 by decide)
      refine z_if_ne (tgt := 87) hx hb rfl dX10_anew_80 (by decide) (fun c26 => ?_) (fun c26 => ?_)
      · skip
        refine lv_aload_n hx hb dX10_anew_87 rfl (lv_at hl 3 rfl) ?_
        refine z_calliV (cells := 0) (slots := 0) (b := mm) (As := []) (rest := []) (ci := 10) (q0 := (RX10, TX10, 54)) ⟨hx, hb, hml, hown, hT⟩ (c_X10_leastPower l hm_mm hm_ha hf_mm hf_ha hq_ha) (cwV 0 hT (z_goodV (fun _ h => h) kw_1731 kw_1733 kw_82 kw_96 kw_1734) rfl rfl rfl (by decide +kernel) ⟨by decide, by decide⟩) z_mv hKK hK hw hA hm_mm hf_mm rfl rfl rfl hl.1 rfl (Nat.le_of_ble_eq_true rfl) dX10_anew_88 ⟨by decide, by decide⟩ (fun r27 u H locs hp hw => ?_)
        obtain ⟨rfl, hp⟩ := hp
        have hw : z_H D vwCl (z_A L sz) s.heap L f21 H locs := hw
        exact z_iret hx hb hr hlk (by decide) (by decide) hw (⟨hsub, hfr, (-1), mn2_7, 0, 1000, n2_8, d2_9, y2_10, x2_11, nro_12, nct_13, nse_14, nth_15, ncn_16, ndb_17, nbe_18, ndu_19, hf_mm, hf_ro, hf_ct, hf_se, hf_th, hf_cn, hf_db, hf_be, hf_du, hq_ro, hq_ct, hq_be, hq_du, by omega⟩) dX10_anew_91
      · skip
        refine lv_iconst (v := 0) hx hb dX10_anew_83 (by decide) ?_
        refine lv_goto (tgt := 91) hx hb dX10_anew_84 (by decide) ?_
        exact z_iret hx hb hr hlk (by decide) (by decide) hw (⟨hsub, hfr, (-1), mn2_7, 0, 1000, n2_8, d2_9, y2_10, x2_11, nro_12, nct_13, nse_14, nth_15, ncn_16, ndb_17, nbe_18, ndu_19, hf_mm, hf_ro, hf_ct, hf_se, hf_th, hf_cn, hf_db, hf_be, hf_du, hq_ro, hq_ct, hq_be, hq_du, by omega⟩) dX10_anew_91
    · skip
      refine lv_lload hx hb dX10_anew_39 (lv_at hl 1 rfl) ?_
      refine lv_aload_n hx hb dX10_anew_41 rfl (lv_at hl 3 rfl) ?_
      refine z_get (C := RX10) (T := TX10) (N := 54) (ci := 10) (v := .ref ce) hx hb hT zin_X10 hown hK hw hm_mm hf_mm rfl 3 (by decide) (hT _ kw_1171) rfl dX10_anew_42 ?_
      refine lv_bipush (v := 60) hx hb dX10_anew_45 (by decide) ?_
      refine lv_iload_n hx hb dX10_anew_47 rfl (lv_at hl 4 rfl) ?_
      refine lv_imul hx hb dX10_anew_48 ?_
      refine lv_topi (fun w28 e_w28 => ?_)
      have i_w28 : w28.toInt = (60 * sn.toInt) := z_mul e_w28 (show (60 : Int32).toInt = 60 by decide) rfl (by omega)
      refine lv_iload hx hb dX10_anew_49 (lv_at hl 0 rfl) ?_
      refine lv_iadd hx hb dX10_anew_51 ?_
      refine lv_topi (fun w29 e_w29 => ?_)
      have i_w29 : w29.toInt = ((60 * sn.toInt) + K20.toInt) := z_add e_w29 i_w28 rfl (by omega)
      refine z_lald hx hb hK hw 2 hm_ce hf_ce rfl (z_ix i_w29 (by omega)) dX10_anew_52 ?_
      refine lv_topl (fun w30 e_w30 => ?_)
      refine lv_aload_n hx hb dX10_anew_53 rfl (lv_at hl 3 rfl) ?_
      refine z_get (C := RX10) (T := TX10) (N := 54) (ci := 10) (v := .ref th) hx hb hT zin_X10 hown hK hw hm_mm hf_mm rfl 33 (by decide) (hT _ kw_1201) rfl dX10_anew_54 ?_
      refine lv_bipush (v := 9) hx hb dX10_anew_57 (by decide) ?_
      refine lv_iload hx hb dX10_anew_59 (lv_at hl 0 rfl) ?_
      refine lv_imul hx hb dX10_anew_61 ?_
      refine lv_topi (fun w31 e_w31 => ?_)
      have i_w31 : w31.toInt = (9 * K20.toInt) := z_mul e_w31 (show (9 : Int32).toInt = 9 by decide) rfl (by omega)
      refine lv_iload_n hx hb dX10_anew_62 rfl (lv_at hl 5 rfl) ?_
      refine lv_iadd hx hb dX10_anew_63 ?_
      refine lv_topi (fun w32 e_w32 => ?_)
      have i_w32 : w32.toInt = ((9 * K20.toInt) + dy.toInt) := z_add e_w32 i_w31 rfl (by omega)
      refine z_iald hx hb hK hw 1 hm_th hf_th rfl (z_ix i_w32 (by omega)) dX10_anew_64 ?_
      refine lv_topi (fun w33 e_w33 => ?_)
      refine lv_i2l hx hb dX10_anew_65 rfl ?_
      refine lv_topl (fun w34 e_w34 => ?_)
      have i_w34 : w34.toInt = w33.toInt := z_i2l e_w34 rfl
      refine lv_lsub hx hb dX10_anew_66 ?_
      refine lv_topl (fun w35 e_w35 => ?_)
      refine lv_ladd hx hb dX10_anew_67 ?_
      refine lv_topl (fun w36 e_w36 => ?_)
      refine lv_lstore (lv' := [(4, .long w36), (6, .int K20), (3, .int r2), (0, .ref mm), (1, .int sn), (2, .int dy)]) hx hb dX10_anew_68 hl (by decide) rfl (fun ls hl => ?_)
      obtain ⟨k37, e_k37⟩ : ∃ z : Int32, z = K20 + 1 := ⟨_, rfl⟩
      refine lv_iinc (v := k37) (lv' := [(6, .int k37), (4, .long w36), (3, .int r2), (0, .ref mm), (1, .int sn), (2, .int dy)]) hx hb dX10_anew_70 hl (k := 1) rfl (by rw [e_k37]; rfl) (by decide) rfl (fun ls hl => ?_)
      have i_k37 : k37.toInt = (K20.toInt + 1) := z_add e_k37 rfl (by decide) (by omega)
      refine lv_goto (tgt := 28) hx hb dX10_anew_73 (by decide) ?_
      exact ih_28 _ (by omega) _ _ _ ⟨k37, w36, f21, rfl, (by first | decide | omega), (by first | decide | omega), hw, hf_mm, hf_ha, hf_dr, hf_ro, hf_lw, hf_st, hf_ct, hf_se, hf_th, hf_cn, hf_db, hf_be, hf_du, hf_fo, hf_wd, hf_my, hf_ce, hfr, (lv_sub hl [0, 1, 2, 3, 4, 5] rfl)⟩
  · skip
    refine lv_iload_n hx hb dX10_anew_16 rfl (lv_at hl 0 rfl) ?_
    exact z_iret hx hb hr hlk (by decide) (by decide) hw (⟨hsub, hfr, m24, m25, m27, m28, m30, m38, m36, m26, gro, gct, gse, gth, gcn, gdb, gbe, gdu, hf_mm, hf_ro, hf_ct, hf_se, hf_th, hf_cn, hf_db, hf_be, hf_du, hq_ro, hq_ct, hq_be, hq_du, by omega⟩) dX10_anew_17

set_option maxHeartbeats 2000000 in
set_option maxRecDepth 100000 in
theorem c_X10_mixedOf (l : Launch) {D : va_G} {cy : Nat → ClassId} {L : List Nat} {f : Nat → va_E} {sz : Nat} {adK adV : Nat → Nat} {mm wd my ce mv ta li ha lw st fo dr ik ro ct se th cn be du db pn wg wh tn he tr fd po : Nat} {m0 m6 m7 m8 m9 m10 m12 m13 m14 m15 m22 m24 m25 m27 m28 m30 m36 m38 m40 m41 m42 m48 m52 m53 : Int32} {m11 m26 : Int64} {gha glw gst gfo gdr gro gct gse gth gcn gbe gdu gdb : Nat → Int32}  {oo : Int32} {sd : Int64} (hm_mm : mm ∈ L) (hm_ha : ha ∈ L) (hm_dr : dr ∈ L) (hm_ro : ro ∈ L) (hm_lw : lw ∈ L) (hm_st : st ∈ L) (hm_ct : ct ∈ L) (hm_se : se ∈ L) (hm_th : th ∈ L) (hm_cn : cn ∈ L) (hm_db : db ∈ L) (hm_be : be ∈ L) (hm_du : du ∈ L) (hm_fo : fo ∈ L) (hf_mm : f mm = .inr (10, [.int m0, .ref wd, .ref my, .ref ce, .ref mv, .ref ta, .int m6, .int m7, .int m8, .int m9, .int m10, .long m11, .int m12, .int m13, .int m14, .int m15, .ref li, .ref ha, .ref lw, .ref st, .ref fo, .ref dr, .int m22, .ref ik, .int m24, .int m25, .long m26, .int m27, .int m28, .ref ro, .int m30, .ref ct, .ref se, .ref th, .ref cn, .ref be, .int m36, .ref du, .int m38, .ref db, .int m40, .int m41, .int m42, .ref pn, .ref wg, .ref wh, .ref tn, .ref he, .int m48, .ref tr, .ref fd, .ref po, .int m52, .int m53])) (hf_ha : f ha = .inl (cy 1, 30, .inl gha)) (hf_dr : f dr = .inl (cy 1, 520, .inl gdr)) (hf_ro : f ro = .inl (cy 1, 13, .inl gro)) (hf_lw : f lw = .inl (cy 1, 25, .inl glw)) (hf_st : f st = .inl (cy 1, 20, .inl gst)) (hf_ct : f ct = .inl (cy 1, 4, .inl gct)) (hf_se : f se = .inl (cy 1, 36, .inl gse)) (hf_th : f th = .inl (cy 1, 36, .inl gth)) (hf_cn : f cn = .inl (cy 1, 36, .inl gcn)) (hf_db : f db = .inl (cy 1, 5, .inl gdb)) (hf_be : f be = .inl (cy 1, 2574, .inl gbe)) (hf_du : f du = .inl (cy 1, 5200, .inl gdu)) (hf_fo : f fo = .inl (cy 1, 180, .inl gfo)) (ne_se_th : se ≠ th) (ne_se_cn : se ≠ cn) (ne_th_cn : th ≠ cn) (hq_ha : ∀ j : Nat, q_has j (gha j)) (hq_dr : ∀ j : Nat, q_drv j (gdr j)) (hq_ro : ∀ j : Nat, q_12 j (gro j)) (hq_lw : ∀ j : Nat, q_law j (glw j)) (hq_st : ∀ j : Nat, q_law j (gst j)) (hq_ct : ∀ j : Nat, q_law j (gct j)) (hq_be : ∀ j : Nat, q_be j (gbe j)) (hq_du : ∀ j : Nat, q_du j (gdu j)) (hea : ∀ m : Nat, m < 5 → z_ea gha glw m) (hoo : 0 ≤ oo.toInt ∧ oo.toInt ≤ 4) (hsd : 0 ≤ sd.toInt ∧ sd.toInt < 2147483648) : Met l yX10_mixedOf (z_ws yX10_mixedOf cX10_mixedOf 4 (some .int)) (z_R 6 0 0) (va_Pc [.ref mm, .long sd, .int oo] (z_Pre D vwCl (z_KK D cy adK adV) L f sz)) (z_Qi D vwCl (fun r u => L = u.1 ∧ (∀ b ∈ L, b ≠ mm → b ≠ ro → b ≠ ct → b ≠ se → b ≠ th → b ≠ cn → b ≠ db → b ≠ be → b ≠ du → u.2 b = f b) ∧ (∃ (mn2 n2 d2 y2 : Int32) (x2 : Int64) (nro nct nse nth ncn ndb nbe ndu : Nat → Int32), (u.2 mm = .inr (10, [.int m0, .ref wd, .ref my, .ref ce, .ref mv, .ref ta, .int m6, .int m7, .int m8, .int m9, .int m10, .long m11, .int m12, .int m13, .int m14, .int m15, .ref li, .ref ha, .ref lw, .ref st, .ref fo, .ref dr, .int m22, .ref ik, .int (-1), .int mn2, .long x2, .int 1, .int 1000, .ref ro, .int n2, .ref ct, .ref se, .ref th, .ref cn, .ref be, .int y2, .ref du, .int d2, .ref db, .int m40, .int m41, .int m42, .ref pn, .ref wg, .ref wh, .ref tn, .ref he, .int m48, .ref tr, .ref fd, .ref po, .int m52, .int m53])) ∧ (u.2 ro = .inl (cy 1, 13, .inl nro)) ∧ (u.2 ct = .inl (cy 1, 4, .inl nct)) ∧ (u.2 se = .inl (cy 1, 36, .inl nse)) ∧ (u.2 th = .inl (cy 1, 36, .inl nth)) ∧ (u.2 cn = .inl (cy 1, 36, .inl ncn)) ∧ (u.2 db = .inl (cy 1, 5, .inl ndb)) ∧ (u.2 be = .inl (cy 1, 2574, .inl nbe)) ∧ (u.2 du = .inl (cy 1, 5200, .inl ndu)) ∧ (∀ j : Nat, q_12 j (nro j)) ∧ (∀ j : Nat, q_law j (nct j)) ∧ (∀ j : Nat, q_be j (nbe j)) ∧ (∀ j : Nat, q_du j (ndu j)) ∧ (0 ≤ x2.toInt ∧ x2.toInt < 2147483648))) L sz) 0 0 (z_A L sz) := by
  refine z_met (cc := cX10_mixedOf) (maxL := 4) (ret := (some .int)) (lv := [(0, .ref mm), (1, .long sd), (3, .int oo)]) (by decide) rfl (Nat.le_of_ble_eq_true rfl) rfl ?_
  intro p e s m below meth c ls hx hb hr hlk hml hown hnm hts hKK hA hw hl
  have hK := hKK.1.1
  have hown : s.vm.findClass RX10 = some m.cls := hown
  have hT : ∀ w ∈ lw_all, w.before ([.ref mm, .long sd, .int oo] : List Value).toArray s = true := fun w h => hts w (z_cons w h)
  have hsub : L = L := rfl
  have hfr : ∀ b ∈ L, b ≠ mm → b ≠ ro → b ≠ ct → b ≠ se → b ≠ th → b ≠ cn → b ≠ db → b ≠ be → b ≠ du → f b = f b := fun _ _ _ _ _ _ _ _ _ _ _ => rfl
  have hh0 := (hq_ha 0).1 rfl
  have hh1 := (hq_ha 1).2.1 rfl
  have hh2 := (hq_ha 2).2.2.1 rfl
  have hh3 := (hq_ha 3).2.2.2 rfl
  have hea0 : 2 ≤ (glw 3).toInt ∨ ((gha 3).toInt = 0 ∧ (gha 0).toInt = 0) := hea 0 (by decide)
  refine lv_aload_n hx hb dX10_mixedOf_0 rfl (lv_at hl 0 rfl) ?_
  refine z_callvV (cells := 0) (slots := 0) (b := mm) (As := []) (rest := []) (ci := 10) (q0 := (RX10, TX10, 54)) ⟨hx, hb, hml, hown, hT⟩ (c_X10_plainly l hm_mm hm_ha hf_mm hf_ha hq_ha) (cwV 0 hT (z_goodV (fun _ h => h) kw_1539 kw_1541 kw_58 kw_96 kw_1542) rfl rfl rfl (by decide +kernel) ⟨by decide, by decide⟩) z_mv hKK hK hw hA hm_mm hf_mm rfl rfl rfl hl.1 rfl (Nat.le_of_ble_eq_true rfl) dX10_mixedOf_1 ⟨by decide, by decide⟩ (fun u H locs hp hw => ?_)
  obtain ⟨L1, f2⟩ := u
  obtain ⟨hsb, hfm, mn2_3, ha_0, hp⟩ := hp
  have hsb : L = L1 := hsb
  subst hsb
  have hsb : ∀ b ∈ L, b ∈ L := fun _ h => h
  have hw : z_H D vwCl (z_A L sz) s.heap L f2 H locs := hw
  have hfr : ∀ b ∈ L, b ≠ mm → b ≠ ro → b ≠ ct → b ≠ se → b ≠ th → b ≠ cn → b ≠ db → b ≠ be → b ≠ du → f2 b = f b := fun b hb h0 h1 h2 h3 h4 h5 h6 h7 h8 => (hfm b hb h0).trans (hfr b hb h0 h1 h2 h3 h4 h5 h6 h7 h8)
  have hf_ha : f2 ha = .inl (cy 1, 30, .inl gha) := (hfm ha hm_ha (z_tne hf_ha hf_mm (m := 340) (n := 10) rfl rfl (by decide))).trans hf_ha
  have hf_dr : f2 dr = .inl (cy 1, 520, .inl gdr) := (hfm dr hm_dr (z_tne hf_dr hf_mm (m := 4260) (n := 10) rfl rfl (by decide))).trans hf_dr
  have hf_ro : f2 ro = .inl (cy 1, 13, .inl gro) := (hfm ro hm_ro (z_tne hf_ro hf_mm (m := 204) (n := 10) rfl rfl (by decide))).trans hf_ro
  have hf_lw : f2 lw = .inl (cy 1, 25, .inl glw) := (hfm lw hm_lw (z_tne hf_lw hf_mm (m := 300) (n := 10) rfl rfl (by decide))).trans hf_lw
  have hf_st : f2 st = .inl (cy 1, 20, .inl gst) := (hfm st hm_st (z_tne hf_st hf_mm (m := 260) (n := 10) rfl rfl (by decide))).trans hf_st
  have hf_ct : f2 ct = .inl (cy 1, 4, .inl gct) := (hfm ct hm_ct (z_tne hf_ct hf_mm (m := 132) (n := 10) rfl rfl (by decide))).trans hf_ct
  have hf_se : f2 se = .inl (cy 1, 36, .inl gse) := (hfm se hm_se (z_tne hf_se hf_mm (m := 388) (n := 10) rfl rfl (by decide))).trans hf_se
  have hf_th : f2 th = .inl (cy 1, 36, .inl gth) := (hfm th hm_th (z_tne hf_th hf_mm (m := 388) (n := 10) rfl rfl (by decide))).trans hf_th
  have hf_cn : f2 cn = .inl (cy 1, 36, .inl gcn) := (hfm cn hm_cn (z_tne hf_cn hf_mm (m := 388) (n := 10) rfl rfl (by decide))).trans hf_cn
  have hf_db : f2 db = .inl (cy 1, 5, .inl gdb) := (hfm db hm_db (z_tne hf_db hf_mm (m := 140) (n := 10) rfl rfl (by decide))).trans hf_db
  have hf_be : f2 be = .inl (cy 1, 2574, .inl gbe) := (hfm be hm_be (z_tne hf_be hf_mm (m := 20692) (n := 10) rfl rfl (by decide))).trans hf_be
  have hf_du : f2 du = .inl (cy 1, 5200, .inl gdu) := (hfm du hm_du (z_tne hf_du hf_mm (m := 41700) (n := 10) rfl rfl (by decide))).trans hf_du
  have hf_fo : f2 fo = .inl (cy 1, 180, .inl gfo) := (hfm fo hm_fo (z_tne hf_fo hf_mm (m := 1540) (n := 10) rfl rfl (by decide))).trans hf_fo
  have hf_mm : f2 mm = .inr (10, [.int m0, .ref wd, .ref my, .ref ce, .ref mv, .ref ta, .int m6, .int m7, .int m8, .int m9, .int m10, .long m11, .int m12, .int m13, .int m14, .int m15, .ref li, .ref ha, .ref lw, .ref st, .ref fo, .ref dr, .int m22, .ref ik, .int (-1), .int mn2_3, .long m26, .int 0, .int 1000, .ref ro, .int m30, .ref ct, .ref se, .ref th, .ref cn, .ref be, .int m36, .ref du, .int m38, .ref db, .int m40, .int m41, .int m42, .ref pn, .ref wg, .ref wh, .ref tn, .ref he, .int m48, .ref tr, .ref fd, .ref po, .int m52, .int m53]) := ha_0
  have hq4 := hp
  refine lv_aload_n hx hb dX10_mixedOf_4 rfl (lv_at hl 0 rfl) ?_
  refine lv_iconst (v := 1) hx hb dX10_mixedOf_5 (by decide) ?_
  refine z_put (C := RX10) (T := TX10) (N := 54) (ci := 10) (v := .int 1) (fs' := [.int m0, .ref wd, .ref my, .ref ce, .ref mv, .ref ta, .int m6, .int m7, .int m8, .int m9, .int m10, .long m11, .int m12, .int m13, .int m14, .int m15, .ref li, .ref ha, .ref lw, .ref st, .ref fo, .ref dr, .int m22, .ref ik, .int (-1), .int mn2_3, .long m26, .int 1, .int 1000, .ref ro, .int m30, .ref ct, .ref se, .ref th, .ref cn, .ref be, .int m36, .ref du, .int m38, .ref db, .int m40, .int m41, .int m42, .ref pn, .ref wg, .ref wh, .ref tn, .ref he, .int m48, .ref tr, .ref fd, .ref po, .int m52, .int m53]) hx hb hT zin_X10 tyX10_ok nmX10 hown hK hw hm_mm hf_mm rfl 27 (by decide) (hT _ kw_1195) rfl rfl rfl (Nat.le_of_ble_eq_true rfl) rfl dX10_mixedOf_6 (fun H locs hw => ?_)
  obtain ⟨f5, e_f5⟩ : ∃ z, z = va_up f2 mm (.inr (10, [.int m0, .ref wd, .ref my, .ref ce, .ref mv, .ref ta, .int m6, .int m7, .int m8, .int m9, .int m10, .long m11, .int m12, .int m13, .int m14, .int m15, .ref li, .ref ha, .ref lw, .ref st, .ref fo, .ref dr, .int m22, .ref ik, .int (-1), .int mn2_3, .long m26, .int 1, .int 1000, .ref ro, .int m30, .ref ct, .ref se, .ref th, .ref cn, .ref be, .int m36, .ref du, .int m38, .ref db, .int m40, .int m41, .int m42, .ref pn, .ref wg, .ref wh, .ref tn, .ref he, .int m48, .ref tr, .ref fd, .ref po, .int m52, .int m53])) := ⟨_, rfl⟩
  rw [← e_f5] at hw
  have hf_ha : f5 ha = .inl (cy 1, 30, .inl gha) := (congrFun e_f5 ha).trans (z_up_ne (z_tne hf_ha hf_mm (m := 340) (n := 10) rfl rfl (by decide)) hf_ha)
  have hf_dr : f5 dr = .inl (cy 1, 520, .inl gdr) := (congrFun e_f5 dr).trans (z_up_ne (z_tne hf_dr hf_mm (m := 4260) (n := 10) rfl rfl (by decide)) hf_dr)
  have hf_ro : f5 ro = .inl (cy 1, 13, .inl gro) := (congrFun e_f5 ro).trans (z_up_ne (z_tne hf_ro hf_mm (m := 204) (n := 10) rfl rfl (by decide)) hf_ro)
  have hf_lw : f5 lw = .inl (cy 1, 25, .inl glw) := (congrFun e_f5 lw).trans (z_up_ne (z_tne hf_lw hf_mm (m := 300) (n := 10) rfl rfl (by decide)) hf_lw)
  have hf_st : f5 st = .inl (cy 1, 20, .inl gst) := (congrFun e_f5 st).trans (z_up_ne (z_tne hf_st hf_mm (m := 260) (n := 10) rfl rfl (by decide)) hf_st)
  have hf_ct : f5 ct = .inl (cy 1, 4, .inl gct) := (congrFun e_f5 ct).trans (z_up_ne (z_tne hf_ct hf_mm (m := 132) (n := 10) rfl rfl (by decide)) hf_ct)
  have hf_se : f5 se = .inl (cy 1, 36, .inl gse) := (congrFun e_f5 se).trans (z_up_ne (z_tne hf_se hf_mm (m := 388) (n := 10) rfl rfl (by decide)) hf_se)
  have hf_th : f5 th = .inl (cy 1, 36, .inl gth) := (congrFun e_f5 th).trans (z_up_ne (z_tne hf_th hf_mm (m := 388) (n := 10) rfl rfl (by decide)) hf_th)
  have hf_cn : f5 cn = .inl (cy 1, 36, .inl gcn) := (congrFun e_f5 cn).trans (z_up_ne (z_tne hf_cn hf_mm (m := 388) (n := 10) rfl rfl (by decide)) hf_cn)
  have hf_db : f5 db = .inl (cy 1, 5, .inl gdb) := (congrFun e_f5 db).trans (z_up_ne (z_tne hf_db hf_mm (m := 140) (n := 10) rfl rfl (by decide)) hf_db)
  have hf_be : f5 be = .inl (cy 1, 2574, .inl gbe) := (congrFun e_f5 be).trans (z_up_ne (z_tne hf_be hf_mm (m := 20692) (n := 10) rfl rfl (by decide)) hf_be)
  have hf_du : f5 du = .inl (cy 1, 5200, .inl gdu) := (congrFun e_f5 du).trans (z_up_ne (z_tne hf_du hf_mm (m := 41700) (n := 10) rfl rfl (by decide)) hf_du)
  have hf_fo : f5 fo = .inl (cy 1, 180, .inl gfo) := (congrFun e_f5 fo).trans (z_up_ne (z_tne hf_fo hf_mm (m := 1540) (n := 10) rfl rfl (by decide)) hf_fo)
  have hf_mm : f5 mm = .inr (10, [.int m0, .ref wd, .ref my, .ref ce, .ref mv, .ref ta, .int m6, .int m7, .int m8, .int m9, .int m10, .long m11, .int m12, .int m13, .int m14, .int m15, .ref li, .ref ha, .ref lw, .ref st, .ref fo, .ref dr, .int m22, .ref ik, .int (-1), .int mn2_3, .long m26, .int 1, .int 1000, .ref ro, .int m30, .ref ct, .ref se, .ref th, .ref cn, .ref be, .int m36, .ref du, .int m38, .ref db, .int m40, .int m41, .int m42, .ref pn, .ref wg, .ref wh, .ref tn, .ref he, .int m48, .ref tr, .ref fd, .ref po, .int m52, .int m53]) := (congrFun e_f5 mm).trans z_up_self
  have hfr : ∀ b ∈ L, b ≠ mm → b ≠ ro → b ≠ ct → b ≠ se → b ≠ th → b ≠ cn → b ≠ db → b ≠ be → b ≠ du → f5 b = f b := fun b hb h0 h1 h2 h3 h4 h5 h6 h7 h8 => (congrFun e_f5 b).trans (z_up_ne h0 (hfr b hb h0 h1 h2 h3 h4 h5 h6 h7 h8))
  refine lv_aload_n hx hb dX10_mixedOf_9 rfl (lv_at hl 0 rfl) ?_
  refine lv_lload_n hx hb dX10_mixedOf_10 rfl (lv_at hl 1 rfl) ?_
  refine z_put (C := RX10) (T := TX10) (N := 54) (ci := 10) (v := .long sd) (fs' := [.int m0, .ref wd, .ref my, .ref ce, .ref mv, .ref ta, .int m6, .int m7, .int m8, .int m9, .int m10, .long m11, .int m12, .int m13, .int m14, .int m15, .ref li, .ref ha, .ref lw, .ref st, .ref fo, .ref dr, .int m22, .ref ik, .int (-1), .int mn2_3, .long sd, .int 1, .int 1000, .ref ro, .int m30, .ref ct, .ref se, .ref th, .ref cn, .ref be, .int m36, .ref du, .int m38, .ref db, .int m40, .int m41, .int m42, .ref pn, .ref wg, .ref wh, .ref tn, .ref he, .int m48, .ref tr, .ref fd, .ref po, .int m52, .int m53]) hx hb hT zin_X10 tyX10_ok nmX10 hown hK hw hm_mm hf_mm rfl 26 (by decide) (hT _ kw_1194) rfl rfl rfl (Nat.le_of_ble_eq_true rfl) rfl dX10_mixedOf_11 (fun H locs hw => ?_)
  obtain ⟨f6, e_f6⟩ : ∃ z, z = va_up f5 mm (.inr (10, [.int m0, .ref wd, .ref my, .ref ce, .ref mv, .ref ta, .int m6, .int m7, .int m8, .int m9, .int m10, .long m11, .int m12, .int m13, .int m14, .int m15, .ref li, .ref ha, .ref lw, .ref st, .ref fo, .ref dr, .int m22, .ref ik, .int (-1), .int mn2_3, .long sd, .int 1, .int 1000, .ref ro, .int m30, .ref ct, .ref se, .ref th, .ref cn, .ref be, .int m36, .ref du, .int m38, .ref db, .int m40, .int m41, .int m42, .ref pn, .ref wg, .ref wh, .ref tn, .ref he, .int m48, .ref tr, .ref fd, .ref po, .int m52, .int m53])) := ⟨_, rfl⟩
  rw [← e_f6] at hw
  have hf_ha : f6 ha = .inl (cy 1, 30, .inl gha) := (congrFun e_f6 ha).trans (z_up_ne (z_tne hf_ha hf_mm (m := 340) (n := 10) rfl rfl (by decide)) hf_ha)
  have hf_dr : f6 dr = .inl (cy 1, 520, .inl gdr) := (congrFun e_f6 dr).trans (z_up_ne (z_tne hf_dr hf_mm (m := 4260) (n := 10) rfl rfl (by decide)) hf_dr)
  have hf_ro : f6 ro = .inl (cy 1, 13, .inl gro) := (congrFun e_f6 ro).trans (z_up_ne (z_tne hf_ro hf_mm (m := 204) (n := 10) rfl rfl (by decide)) hf_ro)
  have hf_lw : f6 lw = .inl (cy 1, 25, .inl glw) := (congrFun e_f6 lw).trans (z_up_ne (z_tne hf_lw hf_mm (m := 300) (n := 10) rfl rfl (by decide)) hf_lw)
  have hf_st : f6 st = .inl (cy 1, 20, .inl gst) := (congrFun e_f6 st).trans (z_up_ne (z_tne hf_st hf_mm (m := 260) (n := 10) rfl rfl (by decide)) hf_st)
  have hf_ct : f6 ct = .inl (cy 1, 4, .inl gct) := (congrFun e_f6 ct).trans (z_up_ne (z_tne hf_ct hf_mm (m := 132) (n := 10) rfl rfl (by decide)) hf_ct)
  have hf_se : f6 se = .inl (cy 1, 36, .inl gse) := (congrFun e_f6 se).trans (z_up_ne (z_tne hf_se hf_mm (m := 388) (n := 10) rfl rfl (by decide)) hf_se)
  have hf_th : f6 th = .inl (cy 1, 36, .inl gth) := (congrFun e_f6 th).trans (z_up_ne (z_tne hf_th hf_mm (m := 388) (n := 10) rfl rfl (by decide)) hf_th)
  have hf_cn : f6 cn = .inl (cy 1, 36, .inl gcn) := (congrFun e_f6 cn).trans (z_up_ne (z_tne hf_cn hf_mm (m := 388) (n := 10) rfl rfl (by decide)) hf_cn)
  have hf_db : f6 db = .inl (cy 1, 5, .inl gdb) := (congrFun e_f6 db).trans (z_up_ne (z_tne hf_db hf_mm (m := 140) (n := 10) rfl rfl (by decide)) hf_db)
  have hf_be : f6 be = .inl (cy 1, 2574, .inl gbe) := (congrFun e_f6 be).trans (z_up_ne (z_tne hf_be hf_mm (m := 20692) (n := 10) rfl rfl (by decide)) hf_be)
  have hf_du : f6 du = .inl (cy 1, 5200, .inl gdu) := (congrFun e_f6 du).trans (z_up_ne (z_tne hf_du hf_mm (m := 41700) (n := 10) rfl rfl (by decide)) hf_du)
  have hf_fo : f6 fo = .inl (cy 1, 180, .inl gfo) := (congrFun e_f6 fo).trans (z_up_ne (z_tne hf_fo hf_mm (m := 1540) (n := 10) rfl rfl (by decide)) hf_fo)
  have hf_mm : f6 mm = .inr (10, [.int m0, .ref wd, .ref my, .ref ce, .ref mv, .ref ta, .int m6, .int m7, .int m8, .int m9, .int m10, .long m11, .int m12, .int m13, .int m14, .int m15, .ref li, .ref ha, .ref lw, .ref st, .ref fo, .ref dr, .int m22, .ref ik, .int (-1), .int mn2_3, .long sd, .int 1, .int 1000, .ref ro, .int m30, .ref ct, .ref se, .ref th, .ref cn, .ref be, .int m36, .ref du, .int m38, .ref db, .int m40, .int m41, .int m42, .ref pn, .ref wg, .ref wh, .ref tn, .ref he, .int m48, .ref tr, .ref fd, .ref po, .int m52, .int m53]) := (congrFun e_f6 mm).trans z_up_self
  have hfr : ∀ b ∈ L, b ≠ mm → b ≠ ro → b ≠ ct → b ≠ se → b ≠ th → b ≠ cn → b ≠ db → b ≠ be → b ≠ du → f6 b = f b := fun b hb h0 h1 h2 h3 h4 h5 h6 h7 h8 => (congrFun e_f6 b).trans (z_up_ne h0 (hfr b hb h0 h1 h2 h3 h4 h5 h6 h7 h8))
  refine lv_aload_n hx hb dX10_mixedOf_14 rfl (lv_at hl 0 rfl) ?_
  refine z_callvV (cells := 0) (slots := 0) (b := mm) (As := []) (rest := []) (ci := 10) (q0 := (RX10, TX10, 54)) ⟨hx, hb, hml, hown, hT⟩ (c_X10_goes_ l hm_mm hm_ha hm_dr hm_ro hm_lw hm_st hm_ct hm_se hm_th hm_cn hm_db hm_be hm_du hm_fo hf_mm hf_ha hf_dr hf_ro hf_lw hf_st hf_ct hf_se hf_th hf_cn hf_db hf_be hf_du hf_fo ne_se_th ne_se_cn ne_th_cn hq_ha hq_dr hq_ro hq_lw hq_st hq_ct hq_be hq_du (by first | omega | decide | assumption) (by omega) (by first | omega | decide | assumption)) (cwV 0 hT (z_goodV (fun _ h => h) kw_1543 kw_1545 kw_59 kw_96 kw_1546) rfl rfl rfl (by decide +kernel) ⟨by decide, by decide⟩) z_mv hKK hK hw hA hm_mm hf_mm rfl rfl rfl hl.1 rfl (Nat.le_of_ble_eq_true rfl) dX10_mixedOf_15 ⟨by decide, by decide⟩ (fun u H locs hp hw => ?_)
  obtain ⟨L7, f8⟩ := u
  obtain ⟨hsb, hfm, n2_9, d2_10, y2_11, x2_12, nro_13, nct_14, nse_15, nth_16, ncn_17, ndb_18, nbe_19, ndu_20, ha_0, ha_1, ha_2, ha_3, ha_4, ha_5, ha_6, ha_7, ha_8, hq_ro, hq_ct, hq_be, hq_du, hp⟩ := hp
  have hsb : L = L7 := hsb
  subst hsb
  have hsb : ∀ b ∈ L, b ∈ L := fun _ h => h
  have hw : z_H D vwCl (z_A L sz) s.heap L f8 H locs := hw
  have hfr : ∀ b ∈ L, b ≠ mm → b ≠ ro → b ≠ ct → b ≠ se → b ≠ th → b ≠ cn → b ≠ db → b ≠ be → b ≠ du → f8 b = f b := fun b hb h0 h1 h2 h3 h4 h5 h6 h7 h8 => (hfm b hb h0 h1 h2 h3 h4 h5 h6 h7 h8).trans (hfr b hb h0 h1 h2 h3 h4 h5 h6 h7 h8)
  have hf_ha : f8 ha = .inl (cy 1, 30, .inl gha) := (hfm ha hm_ha (z_tne hf_ha hf_mm (m := 340) (n := 10) rfl rfl (by decide)) (z_tne hf_ha hf_ro (m := 340) (n := 204) rfl rfl (by decide)) (z_tne hf_ha hf_ct (m := 340) (n := 132) rfl rfl (by decide)) (z_tne hf_ha hf_se (m := 340) (n := 388) rfl rfl (by decide)) (z_tne hf_ha hf_th (m := 340) (n := 388) rfl rfl (by decide)) (z_tne hf_ha hf_cn (m := 340) (n := 388) rfl rfl (by decide)) (z_tne hf_ha hf_db (m := 340) (n := 140) rfl rfl (by decide)) (z_tne hf_ha hf_be (m := 340) (n := 20692) rfl rfl (by decide)) (z_tne hf_ha hf_du (m := 340) (n := 41700) rfl rfl (by decide))).trans hf_ha
  have hf_dr : f8 dr = .inl (cy 1, 520, .inl gdr) := (hfm dr hm_dr (z_tne hf_dr hf_mm (m := 4260) (n := 10) rfl rfl (by decide)) (z_tne hf_dr hf_ro (m := 4260) (n := 204) rfl rfl (by decide)) (z_tne hf_dr hf_ct (m := 4260) (n := 132) rfl rfl (by decide)) (z_tne hf_dr hf_se (m := 4260) (n := 388) rfl rfl (by decide)) (z_tne hf_dr hf_th (m := 4260) (n := 388) rfl rfl (by decide)) (z_tne hf_dr hf_cn (m := 4260) (n := 388) rfl rfl (by decide)) (z_tne hf_dr hf_db (m := 4260) (n := 140) rfl rfl (by decide)) (z_tne hf_dr hf_be (m := 4260) (n := 20692) rfl rfl (by decide)) (z_tne hf_dr hf_du (m := 4260) (n := 41700) rfl rfl (by decide))).trans hf_dr
  have hf_lw : f8 lw = .inl (cy 1, 25, .inl glw) := (hfm lw hm_lw (z_tne hf_lw hf_mm (m := 300) (n := 10) rfl rfl (by decide)) (z_tne hf_lw hf_ro (m := 300) (n := 204) rfl rfl (by decide)) (z_tne hf_lw hf_ct (m := 300) (n := 132) rfl rfl (by decide)) (z_tne hf_lw hf_se (m := 300) (n := 388) rfl rfl (by decide)) (z_tne hf_lw hf_th (m := 300) (n := 388) rfl rfl (by decide)) (z_tne hf_lw hf_cn (m := 300) (n := 388) rfl rfl (by decide)) (z_tne hf_lw hf_db (m := 300) (n := 140) rfl rfl (by decide)) (z_tne hf_lw hf_be (m := 300) (n := 20692) rfl rfl (by decide)) (z_tne hf_lw hf_du (m := 300) (n := 41700) rfl rfl (by decide))).trans hf_lw
  have hf_st : f8 st = .inl (cy 1, 20, .inl gst) := (hfm st hm_st (z_tne hf_st hf_mm (m := 260) (n := 10) rfl rfl (by decide)) (z_tne hf_st hf_ro (m := 260) (n := 204) rfl rfl (by decide)) (z_tne hf_st hf_ct (m := 260) (n := 132) rfl rfl (by decide)) (z_tne hf_st hf_se (m := 260) (n := 388) rfl rfl (by decide)) (z_tne hf_st hf_th (m := 260) (n := 388) rfl rfl (by decide)) (z_tne hf_st hf_cn (m := 260) (n := 388) rfl rfl (by decide)) (z_tne hf_st hf_db (m := 260) (n := 140) rfl rfl (by decide)) (z_tne hf_st hf_be (m := 260) (n := 20692) rfl rfl (by decide)) (z_tne hf_st hf_du (m := 260) (n := 41700) rfl rfl (by decide))).trans hf_st
  have hf_fo : f8 fo = .inl (cy 1, 180, .inl gfo) := (hfm fo hm_fo (z_tne hf_fo hf_mm (m := 1540) (n := 10) rfl rfl (by decide)) (z_tne hf_fo hf_ro (m := 1540) (n := 204) rfl rfl (by decide)) (z_tne hf_fo hf_ct (m := 1540) (n := 132) rfl rfl (by decide)) (z_tne hf_fo hf_se (m := 1540) (n := 388) rfl rfl (by decide)) (z_tne hf_fo hf_th (m := 1540) (n := 388) rfl rfl (by decide)) (z_tne hf_fo hf_cn (m := 1540) (n := 388) rfl rfl (by decide)) (z_tne hf_fo hf_db (m := 1540) (n := 140) rfl rfl (by decide)) (z_tne hf_fo hf_be (m := 1540) (n := 20692) rfl rfl (by decide)) (z_tne hf_fo hf_du (m := 1540) (n := 41700) rfl rfl (by decide))).trans hf_fo
  have hf_mm : f8 mm = .inr (10, [.int m0, .ref wd, .ref my, .ref ce, .ref mv, .ref ta, .int m6, .int m7, .int m8, .int m9, .int m10, .long m11, .int m12, .int m13, .int m14, .int m15, .ref li, .ref ha, .ref lw, .ref st, .ref fo, .ref dr, .int m22, .ref ik, .int (-1), .int mn2_3, .long x2_12, .int 1, .int 1000, .ref ro, .int n2_9, .ref ct, .ref se, .ref th, .ref cn, .ref be, .int y2_11, .ref du, .int d2_10, .ref db, .int m40, .int m41, .int m42, .ref pn, .ref wg, .ref wh, .ref tn, .ref he, .int m48, .ref tr, .ref fd, .ref po, .int m52, .int m53]) := ha_0
  have hf_ro : f8 ro = .inl (cy 1, 13, .inl nro_13) := ha_1
  have hf_ct : f8 ct = .inl (cy 1, 4, .inl nct_14) := ha_2
  have hf_se : f8 se = .inl (cy 1, 36, .inl nse_15) := ha_3
  have hf_th : f8 th = .inl (cy 1, 36, .inl nth_16) := ha_4
  have hf_cn : f8 cn = .inl (cy 1, 36, .inl ncn_17) := ha_5
  have hf_db : f8 db = .inl (cy 1, 5, .inl ndb_18) := ha_6
  have hf_be : f8 be = .inl (cy 1, 2574, .inl nbe_19) := ha_7
  have hf_du : f8 du = .inl (cy 1, 5200, .inl ndu_20) := ha_8
  have hgx := hp.2.2.1
  clear hp
  refine lv_aload_n hx hb dX10_mixedOf_18 rfl (lv_at hl 0 rfl) ?_
  refine lv_iload_n hx hb dX10_mixedOf_19 rfl (lv_at hl 2 rfl) ?_
  refine z_calliV (cells := 0) (slots := 0) (b := mm) (As := [.int oo]) (rest := []) (ci := 10) (q0 := (RX10, TX10, 54)) ⟨hx, hb, hml, hown, hT⟩ (c_X10_paidBy l hm_mm hm_db hm_lw hf_mm hf_db hf_lw hq_lw (by first | omega | decide | assumption)) (cwV 1 hT (z_goodV (fun _ h => h) kw_1608 kw_1610 kw_70 kw_96 kw_1611) rfl rfl rfl (by decide +kernel) ⟨by decide, by decide⟩) z_mv hKK hK hw hA hm_mm hf_mm rfl rfl rfl hl.1 rfl (Nat.le_of_ble_eq_true rfl) dX10_mixedOf_20 ⟨by decide, by decide⟩ (fun r21 u H locs hp hw => ?_)
  obtain ⟨rfl, hp⟩ := hp
  have hw : z_H D vwCl (z_A L sz) s.heap L f8 H locs := hw
  exact z_iret hx hb hr hlk (by decide) (by decide) hw (⟨hsub, hfr, mn2_3, n2_9, d2_10, y2_11, x2_12, nro_13, nct_14, nse_15, nth_16, ncn_17, ndb_18, nbe_19, ndu_20, hf_mm, hf_ro, hf_ct, hf_se, hf_th, hf_cn, hf_db, hf_be, hf_du, hq_ro, hq_ct, hq_be, hq_du, by omega⟩) dX10_mixedOf_23

set_option maxHeartbeats 2000000 in
set_option maxRecDepth 100000 in
theorem c_X10_mixed (l : Launch) {D : va_G} {cy : Nat → ClassId} {L : List Nat} {f : Nat → va_E} {sz : Nat} {adK adV : Nat → Nat} {mm wd my ce mv ta li ha lw st fo dr ik ro ct se th cn be du db pn wg wh tn he tr fd po : Nat} {m0 m6 m7 m8 m9 m10 m12 m13 m14 m15 m22 m24 m25 m27 m28 m30 m36 m38 m40 m41 m42 m48 m52 m53 : Int32} {m11 m26 : Int64} {gli gha glw gst gfo gdr gro gct gse gth gcn gbe gdu gdb : Nat → Int32}  {sd oo : Int32} (hm_mm : mm ∈ L) (hm_ha : ha ∈ L) (hm_dr : dr ∈ L) (hm_ro : ro ∈ L) (hm_lw : lw ∈ L) (hm_st : st ∈ L) (hm_ct : ct ∈ L) (hm_se : se ∈ L) (hm_th : th ∈ L) (hm_cn : cn ∈ L) (hm_db : db ∈ L) (hm_be : be ∈ L) (hm_du : du ∈ L) (hm_fo : fo ∈ L) (hm_li : li ∈ L) (hf_mm : f mm = .inr (10, [.int m0, .ref wd, .ref my, .ref ce, .ref mv, .ref ta, .int m6, .int m7, .int m8, .int m9, .int m10, .long m11, .int m12, .int m13, .int m14, .int m15, .ref li, .ref ha, .ref lw, .ref st, .ref fo, .ref dr, .int m22, .ref ik, .int m24, .int m25, .long m26, .int m27, .int m28, .ref ro, .int m30, .ref ct, .ref se, .ref th, .ref cn, .ref be, .int m36, .ref du, .int m38, .ref db, .int m40, .int m41, .int m42, .ref pn, .ref wg, .ref wh, .ref tn, .ref he, .int m48, .ref tr, .ref fd, .ref po, .int m52, .int m53])) (hf_ha : f ha = .inl (cy 1, 30, .inl gha)) (hf_dr : f dr = .inl (cy 1, 520, .inl gdr)) (hf_ro : f ro = .inl (cy 1, 13, .inl gro)) (hf_lw : f lw = .inl (cy 1, 25, .inl glw)) (hf_st : f st = .inl (cy 1, 20, .inl gst)) (hf_ct : f ct = .inl (cy 1, 4, .inl gct)) (hf_se : f se = .inl (cy 1, 36, .inl gse)) (hf_th : f th = .inl (cy 1, 36, .inl gth)) (hf_cn : f cn = .inl (cy 1, 36, .inl gcn)) (hf_db : f db = .inl (cy 1, 5, .inl gdb)) (hf_be : f be = .inl (cy 1, 2574, .inl gbe)) (hf_du : f du = .inl (cy 1, 5200, .inl gdu)) (hf_fo : f fo = .inl (cy 1, 180, .inl gfo)) (hf_li : f li = .inl (cy 1, 5, .inl gli)) (ne_se_th : se ≠ th) (ne_se_cn : se ≠ cn) (ne_th_cn : th ≠ cn) (ne_db_li : db ≠ li) (hq_ha : ∀ j : Nat, q_has j (gha j)) (hq_dr : ∀ j : Nat, q_drv j (gdr j)) (hq_ro : ∀ j : Nat, q_12 j (gro j)) (hq_lw : ∀ j : Nat, q_law j (glw j)) (hq_st : ∀ j : Nat, q_law j (gst j)) (hq_ct : ∀ j : Nat, q_law j (gct j)) (hq_be : ∀ j : Nat, q_be j (gbe j)) (hq_du : ∀ j : Nat, q_du j (gdu j)) (hxx : 0 ≤ m26.toInt ∧ m26.toInt < 2147483648) (hea : ∀ m : Nat, m < 5 → z_ea gha glw m) : Met l yX10_mixed (z_ws yX10_mixed cX10_mixed 3 (some .int)) (z_R 7 0 0) (va_Pc [.ref mm, .int sd, .int oo] (z_Pre D vwCl (z_KK D cy adK adV) L f sz)) (z_Qi D vwCl (fun r u => L = u.1 ∧ (∀ b ∈ L, b ≠ mm → b ≠ ro → b ≠ ct → b ≠ se → b ≠ th → b ≠ cn → b ≠ db → b ≠ be → b ≠ du → u.2 b = f b) ∧ (∃ (o2 mn2 i2 u2 n2 d2 y2 : Int32) (x2 : Int64) (nro nct nse nth ncn ndb nbe ndu : Nat → Int32), (u.2 mm = .inr (10, [.int 0, .ref wd, .ref my, .ref ce, .ref mv, .ref ta, .int m6, .int m7, .int m8, .int m9, .int m10, .long m11, .int m12, .int m13, .int m14, .int m15, .ref li, .ref ha, .ref lw, .ref st, .ref fo, .ref dr, .int m22, .ref ik, .int o2, .int mn2, .long x2, .int i2, .int u2, .ref ro, .int n2, .ref ct, .ref se, .ref th, .ref cn, .ref be, .int y2, .ref du, .int d2, .ref db, .int m40, .int m41, .int m42, .ref pn, .ref wg, .ref wh, .ref tn, .ref he, .int m48, .ref tr, .ref fd, .ref po, .int m52, .int m53])) ∧ (u.2 ro = .inl (cy 1, 13, .inl nro)) ∧ (u.2 ct = .inl (cy 1, 4, .inl nct)) ∧ (u.2 se = .inl (cy 1, 36, .inl nse)) ∧ (u.2 th = .inl (cy 1, 36, .inl nth)) ∧ (u.2 cn = .inl (cy 1, 36, .inl ncn)) ∧ (u.2 db = .inl (cy 1, 5, .inl ndb)) ∧ (u.2 be = .inl (cy 1, 2574, .inl nbe)) ∧ (u.2 du = .inl (cy 1, 5200, .inl ndu)) ∧ (∀ j : Nat, q_12 j (nro j)) ∧ (∀ j : Nat, q_law j (nct j)) ∧ (∀ j : Nat, q_be j (nbe j)) ∧ (∀ j : Nat, q_du j (ndu j)) ∧ (0 ≤ x2.toInt ∧ x2.toInt < 2147483648))) L sz) 0 0 (z_A L sz) := by
  refine z_met (cc := cX10_mixed) (maxL := 3) (ret := (some .int)) (lv := [(0, .ref mm), (1, .int sd), (2, .int oo)]) (by decide) rfl (Nat.le_of_ble_eq_true rfl) rfl ?_
  intro p e s m below meth c ls hx hb hr hlk hml hown hnm hts hKK hA hw hl
  have hK := hKK.1.1
  have hown : s.vm.findClass RX10 = some m.cls := hown
  have hT : ∀ w ∈ lw_all, w.before ([.ref mm, .int sd, .int oo] : List Value).toArray s = true := fun w h => hts w (z_cons w h)
  have hsub : L = L := rfl
  have hfr : ∀ b ∈ L, b ≠ mm → b ≠ ro → b ≠ ct → b ≠ se → b ≠ th → b ≠ cn → b ≠ db → b ≠ be → b ≠ du → f b = f b := fun _ _ _ _ _ _ _ _ _ _ _ => rfl
  have hh0 := (hq_ha 0).1 rfl
  have hh1 := (hq_ha 1).2.1 rfl
  have hh2 := (hq_ha 2).2.2.1 rfl
  have hh3 := (hq_ha 3).2.2.2 rfl
  have hea0 : 2 ≤ (glw 3).toInt ∨ ((gha 3).toInt = 0 ∧ (gha 0).toInt = 0) := hea 0 (by decide)
  have hz_m2 : (-2 : Int32).toInt = -2 := by decide
  have hz_m1 : (-1 : Int32).toInt = -1 := by decide
  have hz_0 : (0 : Int32).toInt = 0 := by decide
  refine lv_aload_n hx hb dX10_mixed_0 rfl (lv_at hl 0 rfl) ?_
  refine lv_iconst (v := 0) hx hb dX10_mixed_1 (by decide) ?_
  refine z_put (C := RX10) (T := TX10) (N := 54) (ci := 10) (v := .int 0) (fs' := [.int 0, .ref wd, .ref my, .ref ce, .ref mv, .ref ta, .int m6, .int m7, .int m8, .int m9, .int m10, .long m11, .int m12, .int m13, .int m14, .int m15, .ref li, .ref ha, .ref lw, .ref st, .ref fo, .ref dr, .int m22, .ref ik, .int m24, .int m25, .long m26, .int m27, .int m28, .ref ro, .int m30, .ref ct, .ref se, .ref th, .ref cn, .ref be, .int m36, .ref du, .int m38, .ref db, .int m40, .int m41, .int m42, .ref pn, .ref wg, .ref wh, .ref tn, .ref he, .int m48, .ref tr, .ref fd, .ref po, .int m52, .int m53]) hx hb hT zin_X10 tyX10_ok nmX10 hown hK hw hm_mm hf_mm rfl 0 (by decide) (hT _ kw_1168) rfl rfl rfl (Nat.le_of_ble_eq_true rfl) rfl dX10_mixed_2 (fun H locs hw => ?_)
  obtain ⟨f1, e_f1⟩ : ∃ z, z = va_up f mm (.inr (10, [.int 0, .ref wd, .ref my, .ref ce, .ref mv, .ref ta, .int m6, .int m7, .int m8, .int m9, .int m10, .long m11, .int m12, .int m13, .int m14, .int m15, .ref li, .ref ha, .ref lw, .ref st, .ref fo, .ref dr, .int m22, .ref ik, .int m24, .int m25, .long m26, .int m27, .int m28, .ref ro, .int m30, .ref ct, .ref se, .ref th, .ref cn, .ref be, .int m36, .ref du, .int m38, .ref db, .int m40, .int m41, .int m42, .ref pn, .ref wg, .ref wh, .ref tn, .ref he, .int m48, .ref tr, .ref fd, .ref po, .int m52, .int m53])) := ⟨_, rfl⟩
  rw [← e_f1] at hw
  have hf_ha : f1 ha = .inl (cy 1, 30, .inl gha) := (congrFun e_f1 ha).trans (z_up_ne (z_tne hf_ha hf_mm (m := 340) (n := 10) rfl rfl (by decide)) hf_ha)
  have hf_dr : f1 dr = .inl (cy 1, 520, .inl gdr) := (congrFun e_f1 dr).trans (z_up_ne (z_tne hf_dr hf_mm (m := 4260) (n := 10) rfl rfl (by decide)) hf_dr)
  have hf_ro : f1 ro = .inl (cy 1, 13, .inl gro) := (congrFun e_f1 ro).trans (z_up_ne (z_tne hf_ro hf_mm (m := 204) (n := 10) rfl rfl (by decide)) hf_ro)
  have hf_lw : f1 lw = .inl (cy 1, 25, .inl glw) := (congrFun e_f1 lw).trans (z_up_ne (z_tne hf_lw hf_mm (m := 300) (n := 10) rfl rfl (by decide)) hf_lw)
  have hf_st : f1 st = .inl (cy 1, 20, .inl gst) := (congrFun e_f1 st).trans (z_up_ne (z_tne hf_st hf_mm (m := 260) (n := 10) rfl rfl (by decide)) hf_st)
  have hf_ct : f1 ct = .inl (cy 1, 4, .inl gct) := (congrFun e_f1 ct).trans (z_up_ne (z_tne hf_ct hf_mm (m := 132) (n := 10) rfl rfl (by decide)) hf_ct)
  have hf_se : f1 se = .inl (cy 1, 36, .inl gse) := (congrFun e_f1 se).trans (z_up_ne (z_tne hf_se hf_mm (m := 388) (n := 10) rfl rfl (by decide)) hf_se)
  have hf_th : f1 th = .inl (cy 1, 36, .inl gth) := (congrFun e_f1 th).trans (z_up_ne (z_tne hf_th hf_mm (m := 388) (n := 10) rfl rfl (by decide)) hf_th)
  have hf_cn : f1 cn = .inl (cy 1, 36, .inl gcn) := (congrFun e_f1 cn).trans (z_up_ne (z_tne hf_cn hf_mm (m := 388) (n := 10) rfl rfl (by decide)) hf_cn)
  have hf_db : f1 db = .inl (cy 1, 5, .inl gdb) := (congrFun e_f1 db).trans (z_up_ne (z_tne hf_db hf_mm (m := 140) (n := 10) rfl rfl (by decide)) hf_db)
  have hf_be : f1 be = .inl (cy 1, 2574, .inl gbe) := (congrFun e_f1 be).trans (z_up_ne (z_tne hf_be hf_mm (m := 20692) (n := 10) rfl rfl (by decide)) hf_be)
  have hf_du : f1 du = .inl (cy 1, 5200, .inl gdu) := (congrFun e_f1 du).trans (z_up_ne (z_tne hf_du hf_mm (m := 41700) (n := 10) rfl rfl (by decide)) hf_du)
  have hf_fo : f1 fo = .inl (cy 1, 180, .inl gfo) := (congrFun e_f1 fo).trans (z_up_ne (z_tne hf_fo hf_mm (m := 1540) (n := 10) rfl rfl (by decide)) hf_fo)
  have hf_li : f1 li = .inl (cy 1, 5, .inl gli) := (congrFun e_f1 li).trans (z_up_ne (z_tne hf_li hf_mm (m := 140) (n := 10) rfl rfl (by decide)) hf_li)
  have hf_mm : f1 mm = .inr (10, [.int 0, .ref wd, .ref my, .ref ce, .ref mv, .ref ta, .int m6, .int m7, .int m8, .int m9, .int m10, .long m11, .int m12, .int m13, .int m14, .int m15, .ref li, .ref ha, .ref lw, .ref st, .ref fo, .ref dr, .int m22, .ref ik, .int m24, .int m25, .long m26, .int m27, .int m28, .ref ro, .int m30, .ref ct, .ref se, .ref th, .ref cn, .ref be, .int m36, .ref du, .int m38, .ref db, .int m40, .int m41, .int m42, .ref pn, .ref wg, .ref wh, .ref tn, .ref he, .int m48, .ref tr, .ref fd, .ref po, .int m52, .int m53]) := (congrFun e_f1 mm).trans z_up_self
  have hfr : ∀ b ∈ L, b ≠ mm → b ≠ ro → b ≠ ct → b ≠ se → b ≠ th → b ≠ cn → b ≠ db → b ≠ be → b ≠ du → f1 b = f b := fun b hb h0 h1 h2 h3 h4 h5 h6 h7 h8 => (congrFun e_f1 b).trans (z_up_ne h0 (hfr b hb h0 h1 h2 h3 h4 h5 h6 h7 h8))
  refine lv_iload_n hx hb dX10_mixed_5 rfl (lv_at hl 1 rfl) ?_
  refine z_calliS (cells := 0) (slots := 0) (As := [.int sd]) (rest := []) ⟨hx, hb, hml, hown, hT⟩ (c_X10_isSeed l ) (va_cwS 1 hT (z_goodS (fun _ h => h) kw_1739 kw_1740 kw_96 kw_1741) rfl rfl rfl (by decide +kernel) ⟨by decide, by decide⟩) z_mv hKK hw hA rfl hl.1 rfl (Nat.le_of_ble_eq_true rfl) dX10_mixed_6 ⟨by decide, by decide⟩ (fun r2 u H locs hp hw => ?_)
  obtain ⟨rfl, hp⟩ := hp
  have hw : z_H D vwCl (z_A L sz) s.heap L f1 H locs := hw
  rcases hp with ⟨rfl, h3⟩ | ⟨rfl, h3⟩
  · skip
    refine z_if_eq (tgt := 31) hx hb (show (1 : Int32).toInt = 1 by decide) dX10_mixed_9 (by decide) (fun h => absurd h (by decide)) (fun _ => ?_)
    refine lv_aload_n hx hb dX10_mixed_12 rfl (lv_at hl 0 rfl) ?_
    refine lv_iload_n hx hb dX10_mixed_13 rfl (lv_at hl 2 rfl) ?_
    refine lv_i2l hx hb dX10_mixed_14 rfl ?_
    refine lv_topl (fun w4 e_w4 => ?_)
    have i_w4 : w4.toInt = oo.toInt := z_i2l e_w4 rfl
    refine z_calliV (cells := 0) (slots := 0) (b := mm) (As := [.long w4]) (rest := []) (ci := 10) (q0 := (RX10, TX10, 54)) ⟨hx, hb, hml, hown, hT⟩ (c_X10_isOwner l hm_mm hm_li hm_ha hf_mm hf_li hf_ha hq_ha) (cwV 1 hT (z_goodV (fun _ h => h) kw_1604 kw_1606 kw_69 kw_96 kw_1607) rfl rfl rfl (by decide +kernel) ⟨by decide, by decide⟩) z_mv hKK hK hw hA hm_mm hf_mm rfl rfl rfl hl.1 rfl (Nat.le_of_ble_eq_true rfl) dX10_mixed_15 ⟨by decide, by decide⟩ (fun r5 u H locs hp hw => ?_)
    obtain ⟨rfl, hp⟩ := hp
    have hw : z_H D vwCl (z_A L sz) s.heap L f1 H locs := hw
    rcases hp with ⟨rfl, h6⟩ | ⟨rfl, h6⟩
    · skip
      refine z_if_eq (tgt := 31) hx hb (show (1 : Int32).toInt = 1 by decide) dX10_mixed_18 (by decide) (fun h => absurd h (by decide)) (fun _ => ?_)
      refine lv_aload_n hx hb dX10_mixed_21 rfl (lv_at hl 0 rfl) ?_
      refine lv_iload_n hx hb dX10_mixed_22 rfl (lv_at hl 1 rfl) ?_
      refine lv_i2l hx hb dX10_mixed_23 rfl ?_
      refine lv_topl (fun w7 e_w7 => ?_)
      have i_w7 : w7.toInt = sd.toInt := z_i2l e_w7 rfl
      refine lv_iload_n hx hb dX10_mixed_24 rfl (lv_at hl 2 rfl) ?_
      refine z_calliV (cells := 0) (slots := 0) (b := mm) (As := [.long w7, .int oo]) (rest := []) (ci := 10) (q0 := (RX10, TX10, 54)) ⟨hx, hb, hml, hown, hT⟩ (c_X10_mixedOf l hm_mm hm_ha hm_dr hm_ro hm_lw hm_st hm_ct hm_se hm_th hm_cn hm_db hm_be hm_du hm_fo hf_mm hf_ha hf_dr hf_ro hf_lw hf_st hf_ct hf_se hf_th hf_cn hf_db hf_be hf_du hf_fo ne_se_th ne_se_cn ne_th_cn hq_ha hq_dr hq_ro hq_lw hq_st hq_ct hq_be hq_du hea (by first | omega | decide | assumption) (by first | omega | decide | assumption)) (cwV 2 hT (z_goodV (fun _ h => h) kw_1743 kw_1745 kw_83 kw_96 kw_1746) rfl rfl rfl (by decide +kernel) ⟨by decide, by decide⟩) z_mv hKK hK hw hA hm_mm hf_mm rfl rfl rfl hl.1 rfl (Nat.le_of_ble_eq_true rfl) dX10_mixed_25 ⟨by decide, by decide⟩ (fun r8 u H locs hp hw => ?_)
      obtain ⟨L9, f10⟩ := u
      obtain ⟨hsb, hfm, mn2_11, n2_12, d2_13, y2_14, x2_15, nro_16, nct_17, nse_18, nth_19, ncn_20, ndb_21, nbe_22, ndu_23, ha_0, ha_1, ha_2, ha_3, ha_4, ha_5, ha_6, ha_7, ha_8, hq_ro, hq_ct, hq_be, hq_du, hp⟩ := hp
      have hsb : L = L9 := hsb
      subst hsb
      have hsb : ∀ b ∈ L, b ∈ L := fun _ h => h
      have hw : z_H D vwCl (z_A L sz) s.heap L f10 H locs := hw
      have hfr : ∀ b ∈ L, b ≠ mm → b ≠ ro → b ≠ ct → b ≠ se → b ≠ th → b ≠ cn → b ≠ db → b ≠ be → b ≠ du → f10 b = f b := fun b hb h0 h1 h2 h3 h4 h5 h6 h7 h8 => (hfm b hb h0 h1 h2 h3 h4 h5 h6 h7 h8).trans (hfr b hb h0 h1 h2 h3 h4 h5 h6 h7 h8)
      have hf_ha : f10 ha = .inl (cy 1, 30, .inl gha) := (hfm ha hm_ha (z_tne hf_ha hf_mm (m := 340) (n := 10) rfl rfl (by decide)) (z_tne hf_ha hf_ro (m := 340) (n := 204) rfl rfl (by decide)) (z_tne hf_ha hf_ct (m := 340) (n := 132) rfl rfl (by decide)) (z_tne hf_ha hf_se (m := 340) (n := 388) rfl rfl (by decide)) (z_tne hf_ha hf_th (m := 340) (n := 388) rfl rfl (by decide)) (z_tne hf_ha hf_cn (m := 340) (n := 388) rfl rfl (by decide)) (z_tne hf_ha hf_db (m := 340) (n := 140) rfl rfl (by decide)) (z_tne hf_ha hf_be (m := 340) (n := 20692) rfl rfl (by decide)) (z_tne hf_ha hf_du (m := 340) (n := 41700) rfl rfl (by decide))).trans hf_ha
      have hf_dr : f10 dr = .inl (cy 1, 520, .inl gdr) := (hfm dr hm_dr (z_tne hf_dr hf_mm (m := 4260) (n := 10) rfl rfl (by decide)) (z_tne hf_dr hf_ro (m := 4260) (n := 204) rfl rfl (by decide)) (z_tne hf_dr hf_ct (m := 4260) (n := 132) rfl rfl (by decide)) (z_tne hf_dr hf_se (m := 4260) (n := 388) rfl rfl (by decide)) (z_tne hf_dr hf_th (m := 4260) (n := 388) rfl rfl (by decide)) (z_tne hf_dr hf_cn (m := 4260) (n := 388) rfl rfl (by decide)) (z_tne hf_dr hf_db (m := 4260) (n := 140) rfl rfl (by decide)) (z_tne hf_dr hf_be (m := 4260) (n := 20692) rfl rfl (by decide)) (z_tne hf_dr hf_du (m := 4260) (n := 41700) rfl rfl (by decide))).trans hf_dr
      have hf_lw : f10 lw = .inl (cy 1, 25, .inl glw) := (hfm lw hm_lw (z_tne hf_lw hf_mm (m := 300) (n := 10) rfl rfl (by decide)) (z_tne hf_lw hf_ro (m := 300) (n := 204) rfl rfl (by decide)) (z_tne hf_lw hf_ct (m := 300) (n := 132) rfl rfl (by decide)) (z_tne hf_lw hf_se (m := 300) (n := 388) rfl rfl (by decide)) (z_tne hf_lw hf_th (m := 300) (n := 388) rfl rfl (by decide)) (z_tne hf_lw hf_cn (m := 300) (n := 388) rfl rfl (by decide)) (z_tne hf_lw hf_db (m := 300) (n := 140) rfl rfl (by decide)) (z_tne hf_lw hf_be (m := 300) (n := 20692) rfl rfl (by decide)) (z_tne hf_lw hf_du (m := 300) (n := 41700) rfl rfl (by decide))).trans hf_lw
      have hf_st : f10 st = .inl (cy 1, 20, .inl gst) := (hfm st hm_st (z_tne hf_st hf_mm (m := 260) (n := 10) rfl rfl (by decide)) (z_tne hf_st hf_ro (m := 260) (n := 204) rfl rfl (by decide)) (z_tne hf_st hf_ct (m := 260) (n := 132) rfl rfl (by decide)) (z_tne hf_st hf_se (m := 260) (n := 388) rfl rfl (by decide)) (z_tne hf_st hf_th (m := 260) (n := 388) rfl rfl (by decide)) (z_tne hf_st hf_cn (m := 260) (n := 388) rfl rfl (by decide)) (z_tne hf_st hf_db (m := 260) (n := 140) rfl rfl (by decide)) (z_tne hf_st hf_be (m := 260) (n := 20692) rfl rfl (by decide)) (z_tne hf_st hf_du (m := 260) (n := 41700) rfl rfl (by decide))).trans hf_st
      have hf_fo : f10 fo = .inl (cy 1, 180, .inl gfo) := (hfm fo hm_fo (z_tne hf_fo hf_mm (m := 1540) (n := 10) rfl rfl (by decide)) (z_tne hf_fo hf_ro (m := 1540) (n := 204) rfl rfl (by decide)) (z_tne hf_fo hf_ct (m := 1540) (n := 132) rfl rfl (by decide)) (z_tne hf_fo hf_se (m := 1540) (n := 388) rfl rfl (by decide)) (z_tne hf_fo hf_th (m := 1540) (n := 388) rfl rfl (by decide)) (z_tne hf_fo hf_cn (m := 1540) (n := 388) rfl rfl (by decide)) (z_tne hf_fo hf_db (m := 1540) (n := 140) rfl rfl (by decide)) (z_tne hf_fo hf_be (m := 1540) (n := 20692) rfl rfl (by decide)) (z_tne hf_fo hf_du (m := 1540) (n := 41700) rfl rfl (by decide))).trans hf_fo
      have hf_li : f10 li = .inl (cy 1, 5, .inl gli) := (hfm li hm_li (z_tne hf_li hf_mm (m := 140) (n := 10) rfl rfl (by decide)) (z_tne hf_li hf_ro (m := 140) (n := 204) rfl rfl (by decide)) (z_tne hf_li hf_ct (m := 140) (n := 132) rfl rfl (by decide)) (z_tne hf_li hf_se (m := 140) (n := 388) rfl rfl (by decide)) (z_tne hf_li hf_th (m := 140) (n := 388) rfl rfl (by decide)) (z_tne hf_li hf_cn (m := 140) (n := 388) rfl rfl (by decide)) (Ne.symm ne_db_li) (z_tne hf_li hf_be (m := 140) (n := 20692) rfl rfl (by decide)) (z_tne hf_li hf_du (m := 140) (n := 41700) rfl rfl (by decide))).trans hf_li
      have hf_mm : f10 mm = .inr (10, [.int 0, .ref wd, .ref my, .ref ce, .ref mv, .ref ta, .int m6, .int m7, .int m8, .int m9, .int m10, .long m11, .int m12, .int m13, .int m14, .int m15, .ref li, .ref ha, .ref lw, .ref st, .ref fo, .ref dr, .int m22, .ref ik, .int (-1), .int mn2_11, .long x2_15, .int 1, .int 1000, .ref ro, .int n2_12, .ref ct, .ref se, .ref th, .ref cn, .ref be, .int y2_14, .ref du, .int d2_13, .ref db, .int m40, .int m41, .int m42, .ref pn, .ref wg, .ref wh, .ref tn, .ref he, .int m48, .ref tr, .ref fd, .ref po, .int m52, .int m53]) := ha_0
      have hf_ro : f10 ro = .inl (cy 1, 13, .inl nro_16) := ha_1
      have hf_ct : f10 ct = .inl (cy 1, 4, .inl nct_17) := ha_2
      have hf_se : f10 se = .inl (cy 1, 36, .inl nse_18) := ha_3
      have hf_th : f10 th = .inl (cy 1, 36, .inl nth_19) := ha_4
      have hf_cn : f10 cn = .inl (cy 1, 36, .inl ncn_20) := ha_5
      have hf_db : f10 db = .inl (cy 1, 5, .inl ndb_21) := ha_6
      have hf_be : f10 be = .inl (cy 1, 2574, .inl nbe_22) := ha_7
      have hf_du : f10 du = .inl (cy 1, 5200, .inl ndu_23) := ha_8
      have hq24 := hp
      refine lv_goto (tgt := 33) hx hb dX10_mixed_28 (by decide) ?_
      exact z_iret hx hb hr hlk (by decide) (by decide) hw (⟨hsub, hfr, (-1), mn2_11, 1, 1000, n2_12, d2_13, y2_14, x2_15, nro_16, nct_17, nse_18, nth_19, ncn_20, ndb_21, nbe_22, ndu_23, hf_mm, hf_ro, hf_ct, hf_se, hf_th, hf_cn, hf_db, hf_be, hf_du, hq_ro, hq_ct, hq_be, hq_du, by omega⟩) dX10_mixed_33
    · skip
      refine z_if_eq (tgt := 31) hx hb (show (0 : Int32).toInt = 0 by decide) dX10_mixed_18 (by decide) (fun _ => ?_) (fun h => absurd h (by decide))
      refine lv_bipush (v := (-2)) hx hb dX10_mixed_31 (by decide) ?_
      exact z_iret hx hb hr hlk (by decide) (by decide) hw (⟨hsub, hfr, m24, m25, m27, m28, m30, m38, m36, m26, gro, gct, gse, gth, gcn, gdb, gbe, gdu, hf_mm, hf_ro, hf_ct, hf_se, hf_th, hf_cn, hf_db, hf_be, hf_du, hq_ro, hq_ct, hq_be, hq_du, by omega⟩) dX10_mixed_33
  · skip
    refine z_if_eq (tgt := 31) hx hb (show (0 : Int32).toInt = 0 by decide) dX10_mixed_9 (by decide) (fun _ => ?_) (fun h => absurd h (by decide))
    refine lv_bipush (v := (-2)) hx hb dX10_mixed_31 (by decide) ?_
    exact z_iret hx hb hr hlk (by decide) (by decide) hw (⟨hsub, hfr, m24, m25, m27, m28, m30, m38, m36, m26, gro, gct, gse, gth, gcn, gdb, gbe, gdu, hf_mm, hf_ro, hf_ct, hf_se, hf_th, hf_cn, hf_db, hf_be, hf_du, hq_ro, hq_ct, hq_be, hq_du, by omega⟩) dX10_mixed_33

set_option maxHeartbeats 2000000 in
set_option maxRecDepth 100000 in
theorem c_X10_luck (l : Launch) {D : va_G} {cy : Nat → ClassId} {L : List Nat} {f : Nat → va_E} {sz : Nat} {adK adV : Nat → Nat} {mm wd my ce mv ta li ha lw st fo dr ik ro ct se th cn be du db pn wg wh tn he tr fd po : Nat} {m0 m6 m7 m8 m9 m10 m12 m13 m14 m15 m22 m24 m25 m27 m28 m30 m36 m38 m40 m41 m42 m48 m52 m53 : Int32} {m11 m26 : Int64} {gli gha glw gst gfo gdr gro gct gse gth gcn gbe gdu gdb : Nat → Int32}  {sd nn oo : Int32} (hm_mm : mm ∈ L) (hm_ha : ha ∈ L) (hm_dr : dr ∈ L) (hm_ro : ro ∈ L) (hm_lw : lw ∈ L) (hm_st : st ∈ L) (hm_ct : ct ∈ L) (hm_se : se ∈ L) (hm_th : th ∈ L) (hm_cn : cn ∈ L) (hm_db : db ∈ L) (hm_be : be ∈ L) (hm_du : du ∈ L) (hm_fo : fo ∈ L) (hm_li : li ∈ L) (hf_mm : f mm = .inr (10, [.int m0, .ref wd, .ref my, .ref ce, .ref mv, .ref ta, .int m6, .int m7, .int m8, .int m9, .int m10, .long m11, .int m12, .int m13, .int m14, .int m15, .ref li, .ref ha, .ref lw, .ref st, .ref fo, .ref dr, .int m22, .ref ik, .int m24, .int m25, .long m26, .int m27, .int m28, .ref ro, .int m30, .ref ct, .ref se, .ref th, .ref cn, .ref be, .int m36, .ref du, .int m38, .ref db, .int m40, .int m41, .int m42, .ref pn, .ref wg, .ref wh, .ref tn, .ref he, .int m48, .ref tr, .ref fd, .ref po, .int m52, .int m53])) (hf_ha : f ha = .inl (cy 1, 30, .inl gha)) (hf_dr : f dr = .inl (cy 1, 520, .inl gdr)) (hf_ro : f ro = .inl (cy 1, 13, .inl gro)) (hf_lw : f lw = .inl (cy 1, 25, .inl glw)) (hf_st : f st = .inl (cy 1, 20, .inl gst)) (hf_ct : f ct = .inl (cy 1, 4, .inl gct)) (hf_se : f se = .inl (cy 1, 36, .inl gse)) (hf_th : f th = .inl (cy 1, 36, .inl gth)) (hf_cn : f cn = .inl (cy 1, 36, .inl gcn)) (hf_db : f db = .inl (cy 1, 5, .inl gdb)) (hf_be : f be = .inl (cy 1, 2574, .inl gbe)) (hf_du : f du = .inl (cy 1, 5200, .inl gdu)) (hf_fo : f fo = .inl (cy 1, 180, .inl gfo)) (hf_li : f li = .inl (cy 1, 5, .inl gli)) (ne_se_th : se ≠ th) (ne_se_cn : se ≠ cn) (ne_th_cn : th ≠ cn) (ne_db_li : db ≠ li) (hq_ha : ∀ j : Nat, q_has j (gha j)) (hq_dr : ∀ j : Nat, q_drv j (gdr j)) (hq_ro : ∀ j : Nat, q_12 j (gro j)) (hq_lw : ∀ j : Nat, q_law j (glw j)) (hq_st : ∀ j : Nat, q_law j (gst j)) (hq_ct : ∀ j : Nat, q_law j (gct j)) (hq_be : ∀ j : Nat, q_be j (gbe j)) (hq_du : ∀ j : Nat, q_du j (gdu j)) (hxx : 0 ≤ m26.toInt ∧ m26.toInt < 2147483648) (hea : ∀ m : Nat, m < 5 → z_ea gha glw m) : Met l yX10_luck (z_ws yX10_luck cX10_luck 7 (some .int)) (z_R 7 0 0) (va_Pc [.ref mm, .int sd, .int nn, .int oo] (z_Pre D vwCl (z_KK D cy adK adV) L f sz)) (z_Qi D vwCl (fun r u => L = u.1 ∧ (∀ b ∈ L, b ≠ mm → b ≠ ro → b ≠ ct → b ≠ se → b ≠ th → b ≠ cn → b ≠ db → b ≠ be → b ≠ du → u.2 b = f b) ∧ (∃ (o2 mn2 i2 u2 n2 d2 y2 : Int32) (x2 : Int64) (nro nct nse nth ncn ndb nbe ndu : Nat → Int32), (u.2 mm = .inr (10, [.int 0, .ref wd, .ref my, .ref ce, .ref mv, .ref ta, .int m6, .int m7, .int m8, .int m9, .int m10, .long m11, .int m12, .int m13, .int m14, .int m15, .ref li, .ref ha, .ref lw, .ref st, .ref fo, .ref dr, .int m22, .ref ik, .int o2, .int mn2, .long x2, .int i2, .int u2, .ref ro, .int n2, .ref ct, .ref se, .ref th, .ref cn, .ref be, .int y2, .ref du, .int d2, .ref db, .int m40, .int m41, .int m42, .ref pn, .ref wg, .ref wh, .ref tn, .ref he, .int m48, .ref tr, .ref fd, .ref po, .int m52, .int m53])) ∧ (u.2 ro = .inl (cy 1, 13, .inl nro)) ∧ (u.2 ct = .inl (cy 1, 4, .inl nct)) ∧ (u.2 se = .inl (cy 1, 36, .inl nse)) ∧ (u.2 th = .inl (cy 1, 36, .inl nth)) ∧ (u.2 cn = .inl (cy 1, 36, .inl ncn)) ∧ (u.2 db = .inl (cy 1, 5, .inl ndb)) ∧ (u.2 be = .inl (cy 1, 2574, .inl nbe)) ∧ (u.2 du = .inl (cy 1, 5200, .inl ndu)) ∧ (∀ j : Nat, q_12 j (nro j)) ∧ (∀ j : Nat, q_law j (nct j)) ∧ (∀ j : Nat, q_be j (nbe j)) ∧ (∀ j : Nat, q_du j (ndu j)) ∧ (0 ≤ x2.toInt ∧ x2.toInt < 2147483648))) L sz) 0 0 (z_A L sz) := by
  refine z_met (cc := cX10_luck) (maxL := 7) (ret := (some .int)) (lv := [(0, .ref mm), (1, .int sd), (2, .int nn), (3, .int oo)]) (by decide) rfl (Nat.le_of_ble_eq_true rfl) rfl ?_
  intro p e s m below meth c ls hx hb hr hlk hml hown hnm hts hKK hA hw hl
  have hK := hKK.1.1
  have hown : s.vm.findClass RX10 = some m.cls := hown
  have hT : ∀ w ∈ lw_all, w.before ([.ref mm, .int sd, .int nn, .int oo] : List Value).toArray s = true := fun w h => hts w (z_cons w h)
  have hsub : L = L := rfl
  have hfr : ∀ b ∈ L, b ≠ mm → b ≠ ro → b ≠ ct → b ≠ se → b ≠ th → b ≠ cn → b ≠ db → b ≠ be → b ≠ du → f b = f b := fun _ _ _ _ _ _ _ _ _ _ _ => rfl
  have hh0 := (hq_ha 0).1 rfl
  have hh1 := (hq_ha 1).2.1 rfl
  have hh2 := (hq_ha 2).2.2.1 rfl
  have hh3 := (hq_ha 3).2.2.2 rfl
  have hea0 : 2 ≤ (glw 3).toInt ∨ ((gha 3).toInt = 0 ∧ (gha 0).toInt = 0) := hea 0 (by decide)
  have hz_m2 : (-2 : Int32).toInt = -2 := by decide
  have hz_m1 : (-1 : Int32).toInt = -1 := by decide
  have hz_0 : (0 : Int32).toInt = 0 := by decide
  refine lv_aload_n hx hb dX10_luck_0 rfl (lv_at hl 0 rfl) ?_
  refine lv_iconst (v := 0) hx hb dX10_luck_1 (by decide) ?_
  refine z_put (C := RX10) (T := TX10) (N := 54) (ci := 10) (v := .int 0) (fs' := [.int 0, .ref wd, .ref my, .ref ce, .ref mv, .ref ta, .int m6, .int m7, .int m8, .int m9, .int m10, .long m11, .int m12, .int m13, .int m14, .int m15, .ref li, .ref ha, .ref lw, .ref st, .ref fo, .ref dr, .int m22, .ref ik, .int m24, .int m25, .long m26, .int m27, .int m28, .ref ro, .int m30, .ref ct, .ref se, .ref th, .ref cn, .ref be, .int m36, .ref du, .int m38, .ref db, .int m40, .int m41, .int m42, .ref pn, .ref wg, .ref wh, .ref tn, .ref he, .int m48, .ref tr, .ref fd, .ref po, .int m52, .int m53]) hx hb hT zin_X10 tyX10_ok nmX10 hown hK hw hm_mm hf_mm rfl 0 (by decide) (hT _ kw_1168) rfl rfl rfl (Nat.le_of_ble_eq_true rfl) rfl dX10_luck_2 (fun H locs hw => ?_)
  obtain ⟨f1, e_f1⟩ : ∃ z, z = va_up f mm (.inr (10, [.int 0, .ref wd, .ref my, .ref ce, .ref mv, .ref ta, .int m6, .int m7, .int m8, .int m9, .int m10, .long m11, .int m12, .int m13, .int m14, .int m15, .ref li, .ref ha, .ref lw, .ref st, .ref fo, .ref dr, .int m22, .ref ik, .int m24, .int m25, .long m26, .int m27, .int m28, .ref ro, .int m30, .ref ct, .ref se, .ref th, .ref cn, .ref be, .int m36, .ref du, .int m38, .ref db, .int m40, .int m41, .int m42, .ref pn, .ref wg, .ref wh, .ref tn, .ref he, .int m48, .ref tr, .ref fd, .ref po, .int m52, .int m53])) := ⟨_, rfl⟩
  rw [← e_f1] at hw
  have hf_ha : f1 ha = .inl (cy 1, 30, .inl gha) := (congrFun e_f1 ha).trans (z_up_ne (z_tne hf_ha hf_mm (m := 340) (n := 10) rfl rfl (by decide)) hf_ha)
  have hf_dr : f1 dr = .inl (cy 1, 520, .inl gdr) := (congrFun e_f1 dr).trans (z_up_ne (z_tne hf_dr hf_mm (m := 4260) (n := 10) rfl rfl (by decide)) hf_dr)
  have hf_ro : f1 ro = .inl (cy 1, 13, .inl gro) := (congrFun e_f1 ro).trans (z_up_ne (z_tne hf_ro hf_mm (m := 204) (n := 10) rfl rfl (by decide)) hf_ro)
  have hf_lw : f1 lw = .inl (cy 1, 25, .inl glw) := (congrFun e_f1 lw).trans (z_up_ne (z_tne hf_lw hf_mm (m := 300) (n := 10) rfl rfl (by decide)) hf_lw)
  have hf_st : f1 st = .inl (cy 1, 20, .inl gst) := (congrFun e_f1 st).trans (z_up_ne (z_tne hf_st hf_mm (m := 260) (n := 10) rfl rfl (by decide)) hf_st)
  have hf_ct : f1 ct = .inl (cy 1, 4, .inl gct) := (congrFun e_f1 ct).trans (z_up_ne (z_tne hf_ct hf_mm (m := 132) (n := 10) rfl rfl (by decide)) hf_ct)
  have hf_se : f1 se = .inl (cy 1, 36, .inl gse) := (congrFun e_f1 se).trans (z_up_ne (z_tne hf_se hf_mm (m := 388) (n := 10) rfl rfl (by decide)) hf_se)
  have hf_th : f1 th = .inl (cy 1, 36, .inl gth) := (congrFun e_f1 th).trans (z_up_ne (z_tne hf_th hf_mm (m := 388) (n := 10) rfl rfl (by decide)) hf_th)
  have hf_cn : f1 cn = .inl (cy 1, 36, .inl gcn) := (congrFun e_f1 cn).trans (z_up_ne (z_tne hf_cn hf_mm (m := 388) (n := 10) rfl rfl (by decide)) hf_cn)
  have hf_db : f1 db = .inl (cy 1, 5, .inl gdb) := (congrFun e_f1 db).trans (z_up_ne (z_tne hf_db hf_mm (m := 140) (n := 10) rfl rfl (by decide)) hf_db)
  have hf_be : f1 be = .inl (cy 1, 2574, .inl gbe) := (congrFun e_f1 be).trans (z_up_ne (z_tne hf_be hf_mm (m := 20692) (n := 10) rfl rfl (by decide)) hf_be)
  have hf_du : f1 du = .inl (cy 1, 5200, .inl gdu) := (congrFun e_f1 du).trans (z_up_ne (z_tne hf_du hf_mm (m := 41700) (n := 10) rfl rfl (by decide)) hf_du)
  have hf_fo : f1 fo = .inl (cy 1, 180, .inl gfo) := (congrFun e_f1 fo).trans (z_up_ne (z_tne hf_fo hf_mm (m := 1540) (n := 10) rfl rfl (by decide)) hf_fo)
  have hf_li : f1 li = .inl (cy 1, 5, .inl gli) := (congrFun e_f1 li).trans (z_up_ne (z_tne hf_li hf_mm (m := 140) (n := 10) rfl rfl (by decide)) hf_li)
  have hf_mm : f1 mm = .inr (10, [.int 0, .ref wd, .ref my, .ref ce, .ref mv, .ref ta, .int m6, .int m7, .int m8, .int m9, .int m10, .long m11, .int m12, .int m13, .int m14, .int m15, .ref li, .ref ha, .ref lw, .ref st, .ref fo, .ref dr, .int m22, .ref ik, .int m24, .int m25, .long m26, .int m27, .int m28, .ref ro, .int m30, .ref ct, .ref se, .ref th, .ref cn, .ref be, .int m36, .ref du, .int m38, .ref db, .int m40, .int m41, .int m42, .ref pn, .ref wg, .ref wh, .ref tn, .ref he, .int m48, .ref tr, .ref fd, .ref po, .int m52, .int m53]) := (congrFun e_f1 mm).trans z_up_self
  have hfr : ∀ b ∈ L, b ≠ mm → b ≠ ro → b ≠ ct → b ≠ se → b ≠ th → b ≠ cn → b ≠ db → b ≠ be → b ≠ du → f1 b = f b := fun b hb h0 h1 h2 h3 h4 h5 h6 h7 h8 => (congrFun e_f1 b).trans (z_up_ne h0 (hfr b hb h0 h1 h2 h3 h4 h5 h6 h7 h8))
  refine lv_iload_n hx hb dX10_luck_5 rfl (lv_at hl 1 rfl) ?_
  refine z_calliS (cells := 0) (slots := 0) (As := [.int sd]) (rest := []) ⟨hx, hb, hml, hown, hT⟩ (c_X10_isSeed l ) (va_cwS 1 hT (z_goodS (fun _ h => h) kw_1739 kw_1740 kw_96 kw_1741) rfl rfl rfl (by decide +kernel) ⟨by decide, by decide⟩) z_mv hKK hw hA rfl hl.1 rfl (Nat.le_of_ble_eq_true rfl) dX10_luck_6 ⟨by decide, by decide⟩ (fun r2 u H locs hp hw => ?_)
  obtain ⟨rfl, hp⟩ := hp
  have hw : z_H D vwCl (z_A L sz) s.heap L f1 H locs := hw
  rcases hp with ⟨rfl, h3⟩ | ⟨rfl, h3⟩
  · skip
    refine z_if_eq (tgt := 33) hx hb (show (1 : Int32).toInt = 1 by decide) dX10_luck_9 (by decide) (fun h => absurd h (by decide)) (fun _ => ?_)
    refine lv_iload_n hx hb dX10_luck_12 rfl (lv_at hl 2 rfl) ?_
    refine lv_i2l hx hb dX10_luck_13 rfl ?_
    refine lv_topl (fun w4 e_w4 => ?_)
    have i_w4 : w4.toInt = nn.toInt := z_i2l e_w4 rfl
    refine lv_lconst (v := 1) hx hb dX10_luck_14 (by decide) ?_
    refine lv_ldc2 (v := 20) hx hb hown (hT _ kw_1751) dX10_luck_15 ?_
    have hz5 := (show (1 : Int64).toInt = 1 by decide)
    have hz6 := (show (20 : Int64).toInt = 20 by decide)
    refine z_calliS (cells := 0) (slots := 0) (As := [.long w4, .long 1, .long 20]) (rest := []) ⟨hx, hb, hml, hown, hT⟩ (c_X10_in l ) (va_cwS 3 hT (z_goodS (fun _ h => h) kw_1339 kw_1340 kw_96 kw_1341) rfl rfl rfl (by decide +kernel) ⟨by decide, by decide⟩) z_mv hKK hw hA rfl hl.1 rfl (Nat.le_of_ble_eq_true rfl) dX10_luck_18 ⟨by decide, by decide⟩ (fun r7 u H locs hp hw => ?_)
    obtain ⟨rfl, hp⟩ := hp
    have hw : z_H D vwCl (z_A L sz) s.heap L f1 H locs := hw
    rcases hp with ⟨rfl, h8⟩ | ⟨rfl, h8⟩
    · skip
      refine z_if_eq (tgt := 33) hx hb (show (1 : Int32).toInt = 1 by decide) dX10_luck_21 (by decide) (fun h => absurd h (by decide)) (fun _ => ?_)
      refine lv_aload_n hx hb dX10_luck_24 rfl (lv_at hl 0 rfl) ?_
      refine lv_iload_n hx hb dX10_luck_25 rfl (lv_at hl 3 rfl) ?_
      refine lv_i2l hx hb dX10_luck_26 rfl ?_
      refine lv_topl (fun w9 e_w9 => ?_)
      have i_w9 : w9.toInt = oo.toInt := z_i2l e_w9 rfl
      refine z_calliV (cells := 0) (slots := 0) (b := mm) (As := [.long w9]) (rest := []) (ci := 10) (q0 := (RX10, TX10, 54)) ⟨hx, hb, hml, hown, hT⟩ (c_X10_isOwner l hm_mm hm_li hm_ha hf_mm hf_li hf_ha hq_ha) (cwV 1 hT (z_goodV (fun _ h => h) kw_1604 kw_1606 kw_69 kw_96 kw_1607) rfl rfl rfl (by decide +kernel) ⟨by decide, by decide⟩) z_mv hKK hK hw hA hm_mm hf_mm rfl rfl rfl hl.1 rfl (Nat.le_of_ble_eq_true rfl) dX10_luck_27 ⟨by decide, by decide⟩ (fun r10 u H locs hp hw => ?_)
      obtain ⟨rfl, hp⟩ := hp
      have hw : z_H D vwCl (z_A L sz) s.heap L f1 H locs := hw
      rcases hp with ⟨rfl, h11⟩ | ⟨rfl, h11⟩
      · skip
        refine z_if_ne (tgt := 36) hx hb (show (1 : Int32).toInt = 1 by decide) dX10_luck_30 (by decide) (fun _ => ?_) (fun h => absurd h (by decide))
        refine lv_aload_n hx hb dX10_luck_36 rfl (lv_at hl 0 rfl) ?_
        refine z_callvV (cells := 0) (slots := 0) (b := mm) (As := []) (rest := []) (ci := 10) (q0 := (RX10, TX10, 54)) ⟨hx, hb, hml, hown, hT⟩ (c_X10_asTold l hm_mm hm_ha hm_dr hm_ro hm_lw hm_st hm_ct hm_se hm_th hm_cn hm_db hm_be hm_du hm_fo hf_mm hf_ha hf_dr hf_ro hf_lw hf_st hf_ct hf_se hf_th hf_cn hf_db hf_be hf_du hf_fo ne_se_th ne_se_cn ne_th_cn hq_ha hq_dr hq_ro hq_lw hq_st hq_ct hq_be hq_du (by first | omega | decide | assumption) hea) (cwV 0 hT (z_goodV (fun _ h => h) kw_1587 kw_1589 kw_68 kw_96 kw_1590) rfl rfl rfl (by decide +kernel) ⟨by decide, by decide⟩) z_mv hKK hK hw hA hm_mm hf_mm rfl rfl rfl hl.1 rfl (Nat.le_of_ble_eq_true rfl) dX10_luck_37 ⟨by decide, by decide⟩ (fun u H locs hp hw => ?_)
        obtain ⟨L12, f13⟩ := u
        obtain ⟨hsb, hfm, mn2_14, n2_15, d2_16, y2_17, x2_18, nro_19, nct_20, nse_21, nth_22, ncn_23, ndb_24, nbe_25, ndu_26, ha_0, ha_1, ha_2, ha_3, ha_4, ha_5, ha_6, ha_7, ha_8, hq_ro, hq_ct, hq_be, hq_du, hp⟩ := hp
        have hsb : L = L12 := hsb
        subst hsb
        have hsb : ∀ b ∈ L, b ∈ L := fun _ h => h
        have hw : z_H D vwCl (z_A L sz) s.heap L f13 H locs := hw
        have hfr : ∀ b ∈ L, b ≠ mm → b ≠ ro → b ≠ ct → b ≠ se → b ≠ th → b ≠ cn → b ≠ db → b ≠ be → b ≠ du → f13 b = f b := fun b hb h0 h1 h2 h3 h4 h5 h6 h7 h8 => (hfm b hb h0 h1 h2 h3 h4 h5 h6 h7 h8).trans (hfr b hb h0 h1 h2 h3 h4 h5 h6 h7 h8)
        have hf_ha : f13 ha = .inl (cy 1, 30, .inl gha) := (hfm ha hm_ha (z_tne hf_ha hf_mm (m := 340) (n := 10) rfl rfl (by decide)) (z_tne hf_ha hf_ro (m := 340) (n := 204) rfl rfl (by decide)) (z_tne hf_ha hf_ct (m := 340) (n := 132) rfl rfl (by decide)) (z_tne hf_ha hf_se (m := 340) (n := 388) rfl rfl (by decide)) (z_tne hf_ha hf_th (m := 340) (n := 388) rfl rfl (by decide)) (z_tne hf_ha hf_cn (m := 340) (n := 388) rfl rfl (by decide)) (z_tne hf_ha hf_db (m := 340) (n := 140) rfl rfl (by decide)) (z_tne hf_ha hf_be (m := 340) (n := 20692) rfl rfl (by decide)) (z_tne hf_ha hf_du (m := 340) (n := 41700) rfl rfl (by decide))).trans hf_ha
        have hf_dr : f13 dr = .inl (cy 1, 520, .inl gdr) := (hfm dr hm_dr (z_tne hf_dr hf_mm (m := 4260) (n := 10) rfl rfl (by decide)) (z_tne hf_dr hf_ro (m := 4260) (n := 204) rfl rfl (by decide)) (z_tne hf_dr hf_ct (m := 4260) (n := 132) rfl rfl (by decide)) (z_tne hf_dr hf_se (m := 4260) (n := 388) rfl rfl (by decide)) (z_tne hf_dr hf_th (m := 4260) (n := 388) rfl rfl (by decide)) (z_tne hf_dr hf_cn (m := 4260) (n := 388) rfl rfl (by decide)) (z_tne hf_dr hf_db (m := 4260) (n := 140) rfl rfl (by decide)) (z_tne hf_dr hf_be (m := 4260) (n := 20692) rfl rfl (by decide)) (z_tne hf_dr hf_du (m := 4260) (n := 41700) rfl rfl (by decide))).trans hf_dr
        have hf_lw : f13 lw = .inl (cy 1, 25, .inl glw) := (hfm lw hm_lw (z_tne hf_lw hf_mm (m := 300) (n := 10) rfl rfl (by decide)) (z_tne hf_lw hf_ro (m := 300) (n := 204) rfl rfl (by decide)) (z_tne hf_lw hf_ct (m := 300) (n := 132) rfl rfl (by decide)) (z_tne hf_lw hf_se (m := 300) (n := 388) rfl rfl (by decide)) (z_tne hf_lw hf_th (m := 300) (n := 388) rfl rfl (by decide)) (z_tne hf_lw hf_cn (m := 300) (n := 388) rfl rfl (by decide)) (z_tne hf_lw hf_db (m := 300) (n := 140) rfl rfl (by decide)) (z_tne hf_lw hf_be (m := 300) (n := 20692) rfl rfl (by decide)) (z_tne hf_lw hf_du (m := 300) (n := 41700) rfl rfl (by decide))).trans hf_lw
        have hf_st : f13 st = .inl (cy 1, 20, .inl gst) := (hfm st hm_st (z_tne hf_st hf_mm (m := 260) (n := 10) rfl rfl (by decide)) (z_tne hf_st hf_ro (m := 260) (n := 204) rfl rfl (by decide)) (z_tne hf_st hf_ct (m := 260) (n := 132) rfl rfl (by decide)) (z_tne hf_st hf_se (m := 260) (n := 388) rfl rfl (by decide)) (z_tne hf_st hf_th (m := 260) (n := 388) rfl rfl (by decide)) (z_tne hf_st hf_cn (m := 260) (n := 388) rfl rfl (by decide)) (z_tne hf_st hf_db (m := 260) (n := 140) rfl rfl (by decide)) (z_tne hf_st hf_be (m := 260) (n := 20692) rfl rfl (by decide)) (z_tne hf_st hf_du (m := 260) (n := 41700) rfl rfl (by decide))).trans hf_st
        have hf_fo : f13 fo = .inl (cy 1, 180, .inl gfo) := (hfm fo hm_fo (z_tne hf_fo hf_mm (m := 1540) (n := 10) rfl rfl (by decide)) (z_tne hf_fo hf_ro (m := 1540) (n := 204) rfl rfl (by decide)) (z_tne hf_fo hf_ct (m := 1540) (n := 132) rfl rfl (by decide)) (z_tne hf_fo hf_se (m := 1540) (n := 388) rfl rfl (by decide)) (z_tne hf_fo hf_th (m := 1540) (n := 388) rfl rfl (by decide)) (z_tne hf_fo hf_cn (m := 1540) (n := 388) rfl rfl (by decide)) (z_tne hf_fo hf_db (m := 1540) (n := 140) rfl rfl (by decide)) (z_tne hf_fo hf_be (m := 1540) (n := 20692) rfl rfl (by decide)) (z_tne hf_fo hf_du (m := 1540) (n := 41700) rfl rfl (by decide))).trans hf_fo
        have hf_li : f13 li = .inl (cy 1, 5, .inl gli) := (hfm li hm_li (z_tne hf_li hf_mm (m := 140) (n := 10) rfl rfl (by decide)) (z_tne hf_li hf_ro (m := 140) (n := 204) rfl rfl (by decide)) (z_tne hf_li hf_ct (m := 140) (n := 132) rfl rfl (by decide)) (z_tne hf_li hf_se (m := 140) (n := 388) rfl rfl (by decide)) (z_tne hf_li hf_th (m := 140) (n := 388) rfl rfl (by decide)) (z_tne hf_li hf_cn (m := 140) (n := 388) rfl rfl (by decide)) (Ne.symm ne_db_li) (z_tne hf_li hf_be (m := 140) (n := 20692) rfl rfl (by decide)) (z_tne hf_li hf_du (m := 140) (n := 41700) rfl rfl (by decide))).trans hf_li
        have hf_mm : f13 mm = .inr (10, [.int 0, .ref wd, .ref my, .ref ce, .ref mv, .ref ta, .int m6, .int m7, .int m8, .int m9, .int m10, .long m11, .int m12, .int m13, .int m14, .int m15, .ref li, .ref ha, .ref lw, .ref st, .ref fo, .ref dr, .int m22, .ref ik, .int (-1), .int mn2_14, .long x2_18, .int 0, .int 1000, .ref ro, .int n2_15, .ref ct, .ref se, .ref th, .ref cn, .ref be, .int y2_17, .ref du, .int d2_16, .ref db, .int m40, .int m41, .int m42, .ref pn, .ref wg, .ref wh, .ref tn, .ref he, .int m48, .ref tr, .ref fd, .ref po, .int m52, .int m53]) := ha_0
        have hf_ro : f13 ro = .inl (cy 1, 13, .inl nro_19) := ha_1
        have hf_ct : f13 ct = .inl (cy 1, 4, .inl nct_20) := ha_2
        have hf_se : f13 se = .inl (cy 1, 36, .inl nse_21) := ha_3
        have hf_th : f13 th = .inl (cy 1, 36, .inl nth_22) := ha_4
        have hf_cn : f13 cn = .inl (cy 1, 36, .inl ncn_23) := ha_5
        have hf_db : f13 db = .inl (cy 1, 5, .inl ndb_24) := ha_6
        have hf_be : f13 be = .inl (cy 1, 2574, .inl nbe_25) := ha_7
        have hf_du : f13 du = .inl (cy 1, 5200, .inl ndu_26) := ha_8
        have hto := hp
        refine lv_aload_n hx hb dX10_luck_40 rfl (lv_at hl 0 rfl) ?_
        refine lv_iload_n hx hb dX10_luck_41 rfl (lv_at hl 3 rfl) ?_
        refine z_calliV (cells := 0) (slots := 0) (b := mm) (As := [.int oo]) (rest := []) (ci := 10) (q0 := (RX10, TX10, 54)) ⟨hx, hb, hml, hown, hT⟩ (c_X10_paidBy l hm_mm hm_db hm_lw hf_mm hf_db hf_lw hq_lw (by first | omega | decide | assumption)) (cwV 1 hT (z_goodV (fun _ h => h) kw_1608 kw_1610 kw_70 kw_96 kw_1611) rfl rfl rfl (by decide +kernel) ⟨by decide, by decide⟩) z_mv hKK hK hw hA hm_mm hf_mm rfl rfl rfl hl.1 rfl (Nat.le_of_ble_eq_true rfl) dX10_luck_42 ⟨by decide, by decide⟩ (fun r27 u H locs hp hw => ?_)
        obtain ⟨rfl, hp⟩ := hp
        have hw : z_H D vwCl (z_A L sz) s.heap L f13 H locs := hw
        refine lv_istore (lv' := [(4, .int r27), (0, .ref mm), (1, .int sd), (2, .int nn), (3, .int oo)]) hx hb dX10_luck_45 hl (by decide) rfl (fun ls hl => ?_)
        refine lv_iconst (v := 0) hx hb dX10_luck_47 (by decide) ?_
        refine lv_istore (lv' := [(5, .int 0), (4, .int r27), (0, .ref mm), (1, .int sd), (2, .int nn), (3, .int oo)]) hx hb dX10_luck_48 hl (by decide) rfl (fun ls hl => ?_)
        refine lv_iconst (v := 0) hx hb dX10_luck_50 (by decide) ?_
        refine lv_istore (lv' := [(6, .int 0), (5, .int 0), (4, .int r27), (0, .ref mm), (1, .int sd), (2, .int nn), (3, .int oo)]) hx hb dX10_luck_51 hl (by decide) rfl (fun ls hl => ?_)
        have hzk : (0 : Int32).toInt = 0 := by decide
        refine z_loop (fun n H locs ls => ∃ (K28 : Int32) (G38 : Nat → Int32) (G39 : Nat → Int32) (G40 : Nat → Int32) (G41 : Nat → Int32) (G42 : Nat → Int32) (G43 : Nat → Int32) (G44 : Nat → Int32) (G45 : Nat → Int32) (WO30 : Int32) (MN31 : Int32) (IM32 : Int32) (UT33 : Int32) (RM34 : Int32) (DM35 : Int32) (DN36 : Int32) (XX37 : Int64) (V46 : Int32) (f29 : Nat → va_E), (n = (nn.toInt - K28.toInt).toNat) ∧ (0 ≤ K28.toInt) ∧ (K28.toInt ≤ nn.toInt) ∧ (0 ≤ XX37.toInt ∧ XX37.toInt < 2147483648) ∧ (z_H D vwCl (z_A L sz) s.heap L f29 H locs) ∧ (f29 mm = .inr (10, [.int 0, .ref wd, .ref my, .ref ce, .ref mv, .ref ta, .int m6, .int m7, .int m8, .int m9, .int m10, .long m11, .int m12, .int m13, .int m14, .int m15, .ref li, .ref ha, .ref lw, .ref st, .ref fo, .ref dr, .int m22, .ref ik, .int WO30, .int MN31, .long XX37, .int IM32, .int UT33, .ref ro, .int RM34, .ref ct, .ref se, .ref th, .ref cn, .ref be, .int DN36, .ref du, .int DM35, .ref db, .int m40, .int m41, .int m42, .ref pn, .ref wg, .ref wh, .ref tn, .ref he, .int m48, .ref tr, .ref fd, .ref po, .int m52, .int m53])) ∧ (f29 ha = .inl (cy 1, 30, .inl gha)) ∧ (f29 dr = .inl (cy 1, 520, .inl gdr)) ∧ (f29 ro = .inl (cy 1, 13, .inl G38)) ∧ (f29 lw = .inl (cy 1, 25, .inl glw)) ∧ (f29 st = .inl (cy 1, 20, .inl gst)) ∧ (f29 ct = .inl (cy 1, 4, .inl G39)) ∧ (f29 se = .inl (cy 1, 36, .inl G40)) ∧ (f29 th = .inl (cy 1, 36, .inl G41)) ∧ (f29 cn = .inl (cy 1, 36, .inl G42)) ∧ (f29 db = .inl (cy 1, 5, .inl G43)) ∧ (f29 be = .inl (cy 1, 2574, .inl G44)) ∧ (f29 du = .inl (cy 1, 5200, .inl G45)) ∧ (f29 fo = .inl (cy 1, 180, .inl gfo)) ∧ (f29 li = .inl (cy 1, 5, .inl gli)) ∧ (∀ b ∈ L, b ≠ mm → b ≠ ro → b ≠ ct → b ≠ se → b ≠ th → b ≠ cn → b ≠ db → b ≠ be → b ≠ du → f29 b = f b) ∧ (∀ j : Nat, q_12 j (G38 j)) ∧ (∀ j : Nat, q_law j (G39 j)) ∧ (∀ j : Nat, q_be j (G44 j)) ∧ (∀ j : Nat, q_du j (G45 j)) ∧ (lv_has ls 7 [(6, .int K28), (5, .int V46), (4, .int r27), (0, .ref mm), (1, .int sd), (2, .int nn), (3, .int oo)])) _ ⟨0, nro_19, nct_20, nse_21, nth_22, ncn_23, ndb_24, nbe_25, ndu_26, (-1), mn2_14, 0, 1000, n2_15, d2_16, y2_17, x2_18, 0, f13, rfl, (by first | decide | omega), (by first | decide | omega), (by omega), hw, hf_mm, hf_ha, hf_dr, hf_ro, hf_lw, hf_st, hf_ct, hf_se, hf_th, hf_cn, hf_db, hf_be, hf_du, hf_fo, hf_li, hfr, hq_ro, hq_ct, hq_be, hq_du, (lv_sub hl [0, 1, 2, 3, 4, 5, 6] rfl)⟩ (fun n H locs ls hI ih_53 => ?_)
        obtain ⟨K28, G38, G39, G40, G41, G42, G43, G44, G45, WO30, MN31, IM32, UT33, RM34, DM35, DN36, XX37, V46, f29, hn, hk0, hk1, hi0, hw, hf_mm, hf_ha, hf_dr, hf_ro, hf_lw, hf_st, hf_ct, hf_se, hf_th, hf_cn, hf_db, hf_be, hf_du, hf_fo, hf_li, hfr, hq_ro, hq_ct, hq_be, hq_du, hl⟩ := hI
        refine lv_iload hx hb dX10_luck_53 (lv_at hl 0 rfl) ?_
        refine lv_iload_n hx hb dX10_luck_55 rfl (lv_at hl 5 rfl) ?_
        refine z_icmp_ge (tgt := 91) hx hb rfl rfl dX10_luck_56 (by decide) (fun c47 => ?_) (fun c47 => ?_)
        · skip
          refine lv_iload hx hb dX10_luck_91 (lv_at hl 1 rfl) ?_
          exact z_iret hx hb hr hlk (by decide) (by decide) hw (⟨hsub, hfr, WO30, MN31, IM32, UT33, RM34, DM35, DN36, XX37, G38, G39, G40, G41, G42, G43, G44, G45, hf_mm, hf_ro, hf_ct, hf_se, hf_th, hf_cn, hf_db, hf_be, hf_du, hq_ro, hq_ct, hq_be, hq_du, by omega⟩) dX10_luck_93
        · skip
          refine lv_iload hx hb dX10_luck_59 (lv_at hl 1 rfl) ?_
          refine lv_aload_n hx hb dX10_luck_61 rfl (lv_at hl 3 rfl) ?_
          refine lv_iload_n hx hb dX10_luck_62 rfl (lv_at hl 4 rfl) ?_
          refine lv_i2l hx hb dX10_luck_63 rfl ?_
          refine lv_topl (fun w48 e_w48 => ?_)
          have i_w48 : w48.toInt = sd.toInt := z_i2l e_w48 rfl
          refine lv_iload hx hb dX10_luck_64 (lv_at hl 0 rfl) ?_
          refine lv_i2l hx hb dX10_luck_66 rfl ?_
          refine lv_topl (fun w49 e_w49 => ?_)
          have i_w49 : w49.toInt = K28.toInt := z_i2l e_w49 rfl
          refine lv_ladd hx hb dX10_luck_67 ?_
          refine lv_topl (fun w50 e_w50 => ?_)
          have i_w50 : w50.toInt = (sd.toInt + K28.toInt) := z_laddI e_w50 i_w48 i_w49 (by omega)
          refine lv_iload_n hx hb dX10_luck_68 rfl (lv_at hl 6 rfl) ?_
          refine z_calliV (cells := 0) (slots := 0) (b := mm) (As := [.long w50, .int oo]) (rest := [.int V46]) (ci := 10) (q0 := (RX10, TX10, 54)) ⟨hx, hb, hml, hown, hT⟩ (c_X10_mixedOf l hm_mm hm_ha hm_dr hm_ro hm_lw hm_st hm_ct hm_se hm_th hm_cn hm_db hm_be hm_du hm_fo hf_mm hf_ha hf_dr hf_ro hf_lw hf_st hf_ct hf_se hf_th hf_cn hf_db hf_be hf_du hf_fo ne_se_th ne_se_cn ne_th_cn hq_ha hq_dr hq_ro hq_lw hq_st hq_ct hq_be hq_du hea (by first | omega | decide | assumption) (by first | omega | decide | assumption)) (cwV 2 hT (z_goodV (fun _ h => h) kw_1743 kw_1745 kw_83 kw_96 kw_1746) rfl rfl rfl (by decide +kernel) ⟨by decide, by decide⟩) z_mv hKK hK hw hA hm_mm hf_mm rfl rfl rfl hl.1 rfl (Nat.le_of_ble_eq_true rfl) dX10_luck_69 ⟨by decide, by decide⟩ (fun r51 u H locs hp hw => ?_)
          obtain ⟨L52, f53⟩ := u
          obtain ⟨hsb, hfm, mn2_54, n2_55, d2_56, y2_57, x2_58, nro_59, nct_60, nse_61, nth_62, ncn_63, ndb_64, nbe_65, ndu_66, ha_0, ha_1, ha_2, ha_3, ha_4, ha_5, ha_6, ha_7, ha_8, hq_ro, hq_ct, hq_be, hq_du, hp⟩ := hp
          have hsb : L = L52 := hsb
          subst hsb
          have hsb : ∀ b ∈ L, b ∈ L := fun _ h => h
          have hw : z_H D vwCl (z_A L sz) s.heap L f53 H locs := hw
          have hfr : ∀ b ∈ L, b ≠ mm → b ≠ ro → b ≠ ct → b ≠ se → b ≠ th → b ≠ cn → b ≠ db → b ≠ be → b ≠ du → f53 b = f b := fun b hb h0 h1 h2 h3 h4 h5 h6 h7 h8 => (hfm b hb h0 h1 h2 h3 h4 h5 h6 h7 h8).trans (hfr b hb h0 h1 h2 h3 h4 h5 h6 h7 h8)
          have hf_ha : f53 ha = .inl (cy 1, 30, .inl gha) := (hfm ha hm_ha (z_tne hf_ha hf_mm (m := 340) (n := 10) rfl rfl (by decide)) (z_tne hf_ha hf_ro (m := 340) (n := 204) rfl rfl (by decide)) (z_tne hf_ha hf_ct (m := 340) (n := 132) rfl rfl (by decide)) (z_tne hf_ha hf_se (m := 340) (n := 388) rfl rfl (by decide)) (z_tne hf_ha hf_th (m := 340) (n := 388) rfl rfl (by decide)) (z_tne hf_ha hf_cn (m := 340) (n := 388) rfl rfl (by decide)) (z_tne hf_ha hf_db (m := 340) (n := 140) rfl rfl (by decide)) (z_tne hf_ha hf_be (m := 340) (n := 20692) rfl rfl (by decide)) (z_tne hf_ha hf_du (m := 340) (n := 41700) rfl rfl (by decide))).trans hf_ha
          have hf_dr : f53 dr = .inl (cy 1, 520, .inl gdr) := (hfm dr hm_dr (z_tne hf_dr hf_mm (m := 4260) (n := 10) rfl rfl (by decide)) (z_tne hf_dr hf_ro (m := 4260) (n := 204) rfl rfl (by decide)) (z_tne hf_dr hf_ct (m := 4260) (n := 132) rfl rfl (by decide)) (z_tne hf_dr hf_se (m := 4260) (n := 388) rfl rfl (by decide)) (z_tne hf_dr hf_th (m := 4260) (n := 388) rfl rfl (by decide)) (z_tne hf_dr hf_cn (m := 4260) (n := 388) rfl rfl (by decide)) (z_tne hf_dr hf_db (m := 4260) (n := 140) rfl rfl (by decide)) (z_tne hf_dr hf_be (m := 4260) (n := 20692) rfl rfl (by decide)) (z_tne hf_dr hf_du (m := 4260) (n := 41700) rfl rfl (by decide))).trans hf_dr
          have hf_lw : f53 lw = .inl (cy 1, 25, .inl glw) := (hfm lw hm_lw (z_tne hf_lw hf_mm (m := 300) (n := 10) rfl rfl (by decide)) (z_tne hf_lw hf_ro (m := 300) (n := 204) rfl rfl (by decide)) (z_tne hf_lw hf_ct (m := 300) (n := 132) rfl rfl (by decide)) (z_tne hf_lw hf_se (m := 300) (n := 388) rfl rfl (by decide)) (z_tne hf_lw hf_th (m := 300) (n := 388) rfl rfl (by decide)) (z_tne hf_lw hf_cn (m := 300) (n := 388) rfl rfl (by decide)) (z_tne hf_lw hf_db (m := 300) (n := 140) rfl rfl (by decide)) (z_tne hf_lw hf_be (m := 300) (n := 20692) rfl rfl (by decide)) (z_tne hf_lw hf_du (m := 300) (n := 41700) rfl rfl (by decide))).trans hf_lw
          have hf_st : f53 st = .inl (cy 1, 20, .inl gst) := (hfm st hm_st (z_tne hf_st hf_mm (m := 260) (n := 10) rfl rfl (by decide)) (z_tne hf_st hf_ro (m := 260) (n := 204) rfl rfl (by decide)) (z_tne hf_st hf_ct (m := 260) (n := 132) rfl rfl (by decide)) (z_tne hf_st hf_se (m := 260) (n := 388) rfl rfl (by decide)) (z_tne hf_st hf_th (m := 260) (n := 388) rfl rfl (by decide)) (z_tne hf_st hf_cn (m := 260) (n := 388) rfl rfl (by decide)) (z_tne hf_st hf_db (m := 260) (n := 140) rfl rfl (by decide)) (z_tne hf_st hf_be (m := 260) (n := 20692) rfl rfl (by decide)) (z_tne hf_st hf_du (m := 260) (n := 41700) rfl rfl (by decide))).trans hf_st
          have hf_fo : f53 fo = .inl (cy 1, 180, .inl gfo) := (hfm fo hm_fo (z_tne hf_fo hf_mm (m := 1540) (n := 10) rfl rfl (by decide)) (z_tne hf_fo hf_ro (m := 1540) (n := 204) rfl rfl (by decide)) (z_tne hf_fo hf_ct (m := 1540) (n := 132) rfl rfl (by decide)) (z_tne hf_fo hf_se (m := 1540) (n := 388) rfl rfl (by decide)) (z_tne hf_fo hf_th (m := 1540) (n := 388) rfl rfl (by decide)) (z_tne hf_fo hf_cn (m := 1540) (n := 388) rfl rfl (by decide)) (z_tne hf_fo hf_db (m := 1540) (n := 140) rfl rfl (by decide)) (z_tne hf_fo hf_be (m := 1540) (n := 20692) rfl rfl (by decide)) (z_tne hf_fo hf_du (m := 1540) (n := 41700) rfl rfl (by decide))).trans hf_fo
          have hf_li : f53 li = .inl (cy 1, 5, .inl gli) := (hfm li hm_li (z_tne hf_li hf_mm (m := 140) (n := 10) rfl rfl (by decide)) (z_tne hf_li hf_ro (m := 140) (n := 204) rfl rfl (by decide)) (z_tne hf_li hf_ct (m := 140) (n := 132) rfl rfl (by decide)) (z_tne hf_li hf_se (m := 140) (n := 388) rfl rfl (by decide)) (z_tne hf_li hf_th (m := 140) (n := 388) rfl rfl (by decide)) (z_tne hf_li hf_cn (m := 140) (n := 388) rfl rfl (by decide)) (Ne.symm ne_db_li) (z_tne hf_li hf_be (m := 140) (n := 20692) rfl rfl (by decide)) (z_tne hf_li hf_du (m := 140) (n := 41700) rfl rfl (by decide))).trans hf_li
          have hf_mm : f53 mm = .inr (10, [.int 0, .ref wd, .ref my, .ref ce, .ref mv, .ref ta, .int m6, .int m7, .int m8, .int m9, .int m10, .long m11, .int m12, .int m13, .int m14, .int m15, .ref li, .ref ha, .ref lw, .ref st, .ref fo, .ref dr, .int m22, .ref ik, .int (-1), .int mn2_54, .long x2_58, .int 1, .int 1000, .ref ro, .int n2_55, .ref ct, .ref se, .ref th, .ref cn, .ref be, .int y2_57, .ref du, .int d2_56, .ref db, .int m40, .int m41, .int m42, .ref pn, .ref wg, .ref wh, .ref tn, .ref he, .int m48, .ref tr, .ref fd, .ref po, .int m52, .int m53]) := ha_0
          have hf_ro : f53 ro = .inl (cy 1, 13, .inl nro_59) := ha_1
          have hf_ct : f53 ct = .inl (cy 1, 4, .inl nct_60) := ha_2
          have hf_se : f53 se = .inl (cy 1, 36, .inl nse_61) := ha_3
          have hf_th : f53 th = .inl (cy 1, 36, .inl nth_62) := ha_4
          have hf_cn : f53 cn = .inl (cy 1, 36, .inl ncn_63) := ha_5
          have hf_db : f53 db = .inl (cy 1, 5, .inl ndb_64) := ha_6
          have hf_be : f53 be = .inl (cy 1, 2574, .inl nbe_65) := ha_7
          have hf_du : f53 du = .inl (cy 1, 5200, .inl ndu_66) := ha_8
          have hq67 := hp
          refine lv_iload hx hb dX10_luck_72 (lv_at hl 2 rfl) ?_
          refine z_icmp_le (tgt := 81) hx hb rfl rfl dX10_luck_74 (by decide) (fun c68 => ?_) (fun c68 => ?_)
          · skip
            refine lv_iconst (v := 0) hx hb dX10_luck_81 (by decide) ?_
            refine lv_iadd hx hb dX10_luck_82 ?_
            refine lv_topi (fun w69 e_w69 => ?_)
            refine lv_istore (lv' := [(5, .int w69), (6, .int K28), (4, .int r27), (0, .ref mm), (1, .int sd), (2, .int nn), (3, .int oo)]) hx hb dX10_luck_83 hl (by decide) rfl (fun ls hl => ?_)
            obtain ⟨k70, e_k70⟩ : ∃ z : Int32, z = K28 + 1 := ⟨_, rfl⟩
            refine lv_iinc (v := k70) (lv' := [(6, .int k70), (5, .int w69), (4, .int r27), (0, .ref mm), (1, .int sd), (2, .int nn), (3, .int oo)]) hx hb dX10_luck_85 hl (k := 1) rfl (by rw [e_k70]; rfl) (by decide) rfl (fun ls hl => ?_)
            have i_k70 : k70.toInt = (K28.toInt + 1) := z_add e_k70 rfl (by decide) (by omega)
            refine lv_goto (tgt := 53) hx hb dX10_luck_88 (by decide) ?_
            exact ih_53 _ (by omega) _ _ _ ⟨k70, nro_59, nct_60, nse_61, nth_62, ncn_63, ndb_64, nbe_65, ndu_66, (-1), mn2_54, 1, 1000, n2_55, d2_56, y2_57, x2_58, w69, f53, rfl, (by first | decide | omega), (by first | decide | omega), (by omega), hw, hf_mm, hf_ha, hf_dr, hf_ro, hf_lw, hf_st, hf_ct, hf_se, hf_th, hf_cn, hf_db, hf_be, hf_du, hf_fo, hf_li, hfr, hq_ro, hq_ct, hq_be, hq_du, (lv_sub hl [0, 1, 2, 3, 4, 5, 6] rfl)⟩
          · skip
            refine lv_iconst (v := 1) hx hb dX10_luck_77 (by decide) ?_
            refine lv_goto (tgt := 82) hx hb dX10_luck_78 (by decide) ?_
            refine lv_iadd hx hb dX10_luck_82 ?_
            refine lv_topi (fun w71 e_w71 => ?_)
            refine lv_istore (lv' := [(5, .int w71), (6, .int K28), (4, .int r27), (0, .ref mm), (1, .int sd), (2, .int nn), (3, .int oo)]) hx hb dX10_luck_83 hl (by decide) rfl (fun ls hl => ?_)
            obtain ⟨k72, e_k72⟩ : ∃ z : Int32, z = K28 + 1 := ⟨_, rfl⟩
            refine lv_iinc (v := k72) (lv' := [(6, .int k72), (5, .int w71), (4, .int r27), (0, .ref mm), (1, .int sd), (2, .int nn), (3, .int oo)]) hx hb dX10_luck_85 hl (k := 1) rfl (by rw [e_k72]; rfl) (by decide) rfl (fun ls hl => ?_)
            have i_k72 : k72.toInt = (K28.toInt + 1) := z_add e_k72 rfl (by decide) (by omega)
            refine lv_goto (tgt := 53) hx hb dX10_luck_88 (by decide) ?_
            exact ih_53 _ (by omega) _ _ _ ⟨k72, nro_59, nct_60, nse_61, nth_62, ncn_63, ndb_64, nbe_65, ndu_66, (-1), mn2_54, 1, 1000, n2_55, d2_56, y2_57, x2_58, w71, f53, rfl, (by first | decide | omega), (by first | decide | omega), (by omega), hw, hf_mm, hf_ha, hf_dr, hf_ro, hf_lw, hf_st, hf_ct, hf_se, hf_th, hf_cn, hf_db, hf_be, hf_du, hf_fo, hf_li, hfr, hq_ro, hq_ct, hq_be, hq_du, (lv_sub hl [0, 1, 2, 3, 4, 5, 6] rfl)⟩
      · skip
        refine z_if_ne (tgt := 36) hx hb (show (0 : Int32).toInt = 0 by decide) dX10_luck_30 (by decide) (fun h => absurd h (by decide)) (fun _ => ?_)
        refine lv_bipush (v := (-2)) hx hb dX10_luck_33 (by decide) ?_
        exact z_iret hx hb hr hlk (by decide) (by decide) hw (⟨hsub, hfr, m24, m25, m27, m28, m30, m38, m36, m26, gro, gct, gse, gth, gcn, gdb, gbe, gdu, hf_mm, hf_ro, hf_ct, hf_se, hf_th, hf_cn, hf_db, hf_be, hf_du, hq_ro, hq_ct, hq_be, hq_du, by omega⟩) dX10_luck_35
    · skip
      refine z_if_eq (tgt := 33) hx hb (show (0 : Int32).toInt = 0 by decide) dX10_luck_21 (by decide) (fun _ => ?_) (fun h => absurd h (by decide))
      refine lv_bipush (v := (-2)) hx hb dX10_luck_33 (by decide) ?_
      exact z_iret hx hb hr hlk (by decide) (by decide) hw (⟨hsub, hfr, m24, m25, m27, m28, m30, m38, m36, m26, gro, gct, gse, gth, gcn, gdb, gbe, gdu, hf_mm, hf_ro, hf_ct, hf_se, hf_th, hf_cn, hf_db, hf_be, hf_du, hq_ro, hq_ct, hq_be, hq_du, by omega⟩) dX10_luck_35
  · skip
    refine z_if_eq (tgt := 33) hx hb (show (0 : Int32).toInt = 0 by decide) dX10_luck_9 (by decide) (fun _ => ?_) (fun h => absurd h (by decide))
    refine lv_bipush (v := (-2)) hx hb dX10_luck_33 (by decide) ?_
    exact z_iret hx hb hr hlk (by decide) (by decide) hw (⟨hsub, hfr, m24, m25, m27, m28, m30, m38, m36, m26, gro, gct, gse, gth, gcn, gdb, gbe, gdu, hf_mm, hf_ro, hf_ct, hf_se, hf_th, hf_cn, hf_db, hf_be, hf_du, hq_ro, hq_ct, hq_be, hq_du, by omega⟩) dX10_luck_35

set_option maxHeartbeats 2000000 in
set_option maxRecDepth 100000 in
theorem c_X10_free (l : Launch) {D : va_G} {cy : Nat → ClassId} {L : List Nat} {f : Nat → va_E} {sz : Nat} {adK adV : Nat → Nat} {mm wd my ce mv ta li ha lw st fo dr ik ro ct se th cn be du db pn wg wh tn he tr fd po : Nat} {m0 m6 m7 m8 m9 m10 m12 m13 m14 m15 m22 m24 m25 m27 m28 m30 m36 m38 m40 m41 m42 m48 m52 m53 : Int32} {m11 m26 : Int64} {gli gha glw gst gfo gdr gro gct gse gth gcn gbe gdu gdb : Nat → Int32}  {oo : Int32} (hm_mm : mm ∈ L) (hm_ha : ha ∈ L) (hm_dr : dr ∈ L) (hm_ro : ro ∈ L) (hm_lw : lw ∈ L) (hm_st : st ∈ L) (hm_ct : ct ∈ L) (hm_se : se ∈ L) (hm_th : th ∈ L) (hm_cn : cn ∈ L) (hm_db : db ∈ L) (hm_be : be ∈ L) (hm_du : du ∈ L) (hm_fo : fo ∈ L) (hm_li : li ∈ L) (hf_mm : f mm = .inr (10, [.int m0, .ref wd, .ref my, .ref ce, .ref mv, .ref ta, .int m6, .int m7, .int m8, .int m9, .int m10, .long m11, .int m12, .int m13, .int m14, .int m15, .ref li, .ref ha, .ref lw, .ref st, .ref fo, .ref dr, .int m22, .ref ik, .int m24, .int m25, .long m26, .int m27, .int m28, .ref ro, .int m30, .ref ct, .ref se, .ref th, .ref cn, .ref be, .int m36, .ref du, .int m38, .ref db, .int m40, .int m41, .int m42, .ref pn, .ref wg, .ref wh, .ref tn, .ref he, .int m48, .ref tr, .ref fd, .ref po, .int m52, .int m53])) (hf_ha : f ha = .inl (cy 1, 30, .inl gha)) (hf_dr : f dr = .inl (cy 1, 520, .inl gdr)) (hf_ro : f ro = .inl (cy 1, 13, .inl gro)) (hf_lw : f lw = .inl (cy 1, 25, .inl glw)) (hf_st : f st = .inl (cy 1, 20, .inl gst)) (hf_ct : f ct = .inl (cy 1, 4, .inl gct)) (hf_se : f se = .inl (cy 1, 36, .inl gse)) (hf_th : f th = .inl (cy 1, 36, .inl gth)) (hf_cn : f cn = .inl (cy 1, 36, .inl gcn)) (hf_db : f db = .inl (cy 1, 5, .inl gdb)) (hf_be : f be = .inl (cy 1, 2574, .inl gbe)) (hf_du : f du = .inl (cy 1, 5200, .inl gdu)) (hf_fo : f fo = .inl (cy 1, 180, .inl gfo)) (hf_li : f li = .inl (cy 1, 5, .inl gli)) (ne_se_th : se ≠ th) (ne_se_cn : se ≠ cn) (ne_th_cn : th ≠ cn) (ne_db_li : db ≠ li) (hq_ha : ∀ j : Nat, q_has j (gha j)) (hq_dr : ∀ j : Nat, q_drv j (gdr j)) (hq_ro : ∀ j : Nat, q_12 j (gro j)) (hq_lw : ∀ j : Nat, q_law j (glw j)) (hq_st : ∀ j : Nat, q_law j (gst j)) (hq_ct : ∀ j : Nat, q_law j (gct j)) (hq_be : ∀ j : Nat, q_be j (gbe j)) (hq_du : ∀ j : Nat, q_du j (gdu j)) (hxx : 0 ≤ m26.toInt ∧ m26.toInt < 2147483648) (hea : ∀ m : Nat, m < 5 → z_ea gha glw m) : Met l yX10_free (z_ws yX10_free cX10_free 5 (some .int)) (z_R 7 0 0) (va_Pc [.ref mm, .int oo] (z_Pre D vwCl (z_KK D cy adK adV) L f sz)) (z_Qi D vwCl (fun r u => L = u.1 ∧ (∀ b ∈ L, b ≠ mm → b ≠ ro → b ≠ ct → b ≠ se → b ≠ th → b ≠ cn → b ≠ db → b ≠ be → b ≠ du → b ≠ lw → u.2 b = f b) ∧ (∃ (o2 mn2 i2 u2 n2 d2 y2 : Int32) (x2 : Int64) (nro nct nse nth ncn ndb nbe ndu nlw : Nat → Int32), (u.2 mm = .inr (10, [.int 0, .ref wd, .ref my, .ref ce, .ref mv, .ref ta, .int m6, .int m7, .int m8, .int m9, .int m10, .long m11, .int m12, .int m13, .int m14, .int m15, .ref li, .ref ha, .ref lw, .ref st, .ref fo, .ref dr, .int m22, .ref ik, .int o2, .int mn2, .long x2, .int i2, .int u2, .ref ro, .int n2, .ref ct, .ref se, .ref th, .ref cn, .ref be, .int y2, .ref du, .int d2, .ref db, .int m40, .int m41, .int m42, .ref pn, .ref wg, .ref wh, .ref tn, .ref he, .int m48, .ref tr, .ref fd, .ref po, .int m52, .int m53])) ∧ (u.2 ro = .inl (cy 1, 13, .inl nro)) ∧ (u.2 ct = .inl (cy 1, 4, .inl nct)) ∧ (u.2 se = .inl (cy 1, 36, .inl nse)) ∧ (u.2 th = .inl (cy 1, 36, .inl nth)) ∧ (u.2 cn = .inl (cy 1, 36, .inl ncn)) ∧ (u.2 db = .inl (cy 1, 5, .inl ndb)) ∧ (u.2 be = .inl (cy 1, 2574, .inl nbe)) ∧ (u.2 du = .inl (cy 1, 5200, .inl ndu)) ∧ (u.2 lw = .inl (cy 1, 25, .inl nlw)) ∧ (∀ j : Nat, q_12 j (nro j)) ∧ (∀ j : Nat, q_law j (nct j)) ∧ (∀ j : Nat, q_be j (nbe j)) ∧ (∀ j : Nat, q_du j (ndu j)) ∧ (∀ j : Nat, q_law j (nlw j)) ∧ ((0 ≤ x2.toInt ∧ x2.toInt < 2147483648) ∧ ∀ m : Nat, m < 5 → z_ea gha nlw m))) L sz) 0 0 (z_A L sz) := by
  refine z_met (cc := cX10_free) (maxL := 5) (ret := (some .int)) (lv := [(0, .ref mm), (1, .int oo)]) (by decide) rfl (Nat.le_of_ble_eq_true rfl) rfl ?_
  intro p e s m below meth c ls hx hb hr hlk hml hown hnm hts hKK hA hw hl
  have hK := hKK.1.1
  have hown : s.vm.findClass RX10 = some m.cls := hown
  have hT : ∀ w ∈ lw_all, w.before ([.ref mm, .int oo] : List Value).toArray s = true := fun w h => hts w (z_cons w h)
  have hsub : L = L := rfl
  have hfr : ∀ b ∈ L, b ≠ mm → b ≠ ro → b ≠ ct → b ≠ se → b ≠ th → b ≠ cn → b ≠ db → b ≠ be → b ≠ du → b ≠ lw → f b = f b := fun _ _ _ _ _ _ _ _ _ _ _ _ => rfl
  have hh0 := (hq_ha 0).1 rfl
  have hh1 := (hq_ha 1).2.1 rfl
  have hh2 := (hq_ha 2).2.2.1 rfl
  have hh3 := (hq_ha 3).2.2.2 rfl
  have hea0 : 2 ≤ (glw 3).toInt ∨ ((gha 3).toInt = 0 ∧ (gha 0).toInt = 0) := hea 0 (by decide)
  have hz_m2 : (-2 : Int32).toInt = -2 := by decide
  have hz_m1 : (-1 : Int32).toInt = -1 := by decide
  have hz_0 : (0 : Int32).toInt = 0 := by decide
  refine lv_aload_n hx hb dX10_free_0 rfl (lv_at hl 0 rfl) ?_
  refine lv_iconst (v := 0) hx hb dX10_free_1 (by decide) ?_
  refine z_put (C := RX10) (T := TX10) (N := 54) (ci := 10) (v := .int 0) (fs' := [.int 0, .ref wd, .ref my, .ref ce, .ref mv, .ref ta, .int m6, .int m7, .int m8, .int m9, .int m10, .long m11, .int m12, .int m13, .int m14, .int m15, .ref li, .ref ha, .ref lw, .ref st, .ref fo, .ref dr, .int m22, .ref ik, .int m24, .int m25, .long m26, .int m27, .int m28, .ref ro, .int m30, .ref ct, .ref se, .ref th, .ref cn, .ref be, .int m36, .ref du, .int m38, .ref db, .int m40, .int m41, .int m42, .ref pn, .ref wg, .ref wh, .ref tn, .ref he, .int m48, .ref tr, .ref fd, .ref po, .int m52, .int m53]) hx hb hT zin_X10 tyX10_ok nmX10 hown hK hw hm_mm hf_mm rfl 0 (by decide) (hT _ kw_1168) rfl rfl rfl (Nat.le_of_ble_eq_true rfl) rfl dX10_free_2 (fun H locs hw => ?_)
  obtain ⟨f1, e_f1⟩ : ∃ z, z = va_up f mm (.inr (10, [.int 0, .ref wd, .ref my, .ref ce, .ref mv, .ref ta, .int m6, .int m7, .int m8, .int m9, .int m10, .long m11, .int m12, .int m13, .int m14, .int m15, .ref li, .ref ha, .ref lw, .ref st, .ref fo, .ref dr, .int m22, .ref ik, .int m24, .int m25, .long m26, .int m27, .int m28, .ref ro, .int m30, .ref ct, .ref se, .ref th, .ref cn, .ref be, .int m36, .ref du, .int m38, .ref db, .int m40, .int m41, .int m42, .ref pn, .ref wg, .ref wh, .ref tn, .ref he, .int m48, .ref tr, .ref fd, .ref po, .int m52, .int m53])) := ⟨_, rfl⟩
  rw [← e_f1] at hw
  have hf_ha : f1 ha = .inl (cy 1, 30, .inl gha) := (congrFun e_f1 ha).trans (z_up_ne (z_tne hf_ha hf_mm (m := 340) (n := 10) rfl rfl (by decide)) hf_ha)
  have hf_dr : f1 dr = .inl (cy 1, 520, .inl gdr) := (congrFun e_f1 dr).trans (z_up_ne (z_tne hf_dr hf_mm (m := 4260) (n := 10) rfl rfl (by decide)) hf_dr)
  have hf_ro : f1 ro = .inl (cy 1, 13, .inl gro) := (congrFun e_f1 ro).trans (z_up_ne (z_tne hf_ro hf_mm (m := 204) (n := 10) rfl rfl (by decide)) hf_ro)
  have hf_lw : f1 lw = .inl (cy 1, 25, .inl glw) := (congrFun e_f1 lw).trans (z_up_ne (z_tne hf_lw hf_mm (m := 300) (n := 10) rfl rfl (by decide)) hf_lw)
  have hf_st : f1 st = .inl (cy 1, 20, .inl gst) := (congrFun e_f1 st).trans (z_up_ne (z_tne hf_st hf_mm (m := 260) (n := 10) rfl rfl (by decide)) hf_st)
  have hf_ct : f1 ct = .inl (cy 1, 4, .inl gct) := (congrFun e_f1 ct).trans (z_up_ne (z_tne hf_ct hf_mm (m := 132) (n := 10) rfl rfl (by decide)) hf_ct)
  have hf_se : f1 se = .inl (cy 1, 36, .inl gse) := (congrFun e_f1 se).trans (z_up_ne (z_tne hf_se hf_mm (m := 388) (n := 10) rfl rfl (by decide)) hf_se)
  have hf_th : f1 th = .inl (cy 1, 36, .inl gth) := (congrFun e_f1 th).trans (z_up_ne (z_tne hf_th hf_mm (m := 388) (n := 10) rfl rfl (by decide)) hf_th)
  have hf_cn : f1 cn = .inl (cy 1, 36, .inl gcn) := (congrFun e_f1 cn).trans (z_up_ne (z_tne hf_cn hf_mm (m := 388) (n := 10) rfl rfl (by decide)) hf_cn)
  have hf_db : f1 db = .inl (cy 1, 5, .inl gdb) := (congrFun e_f1 db).trans (z_up_ne (z_tne hf_db hf_mm (m := 140) (n := 10) rfl rfl (by decide)) hf_db)
  have hf_be : f1 be = .inl (cy 1, 2574, .inl gbe) := (congrFun e_f1 be).trans (z_up_ne (z_tne hf_be hf_mm (m := 20692) (n := 10) rfl rfl (by decide)) hf_be)
  have hf_du : f1 du = .inl (cy 1, 5200, .inl gdu) := (congrFun e_f1 du).trans (z_up_ne (z_tne hf_du hf_mm (m := 41700) (n := 10) rfl rfl (by decide)) hf_du)
  have hf_fo : f1 fo = .inl (cy 1, 180, .inl gfo) := (congrFun e_f1 fo).trans (z_up_ne (z_tne hf_fo hf_mm (m := 1540) (n := 10) rfl rfl (by decide)) hf_fo)
  have hf_li : f1 li = .inl (cy 1, 5, .inl gli) := (congrFun e_f1 li).trans (z_up_ne (z_tne hf_li hf_mm (m := 140) (n := 10) rfl rfl (by decide)) hf_li)
  have hf_mm : f1 mm = .inr (10, [.int 0, .ref wd, .ref my, .ref ce, .ref mv, .ref ta, .int m6, .int m7, .int m8, .int m9, .int m10, .long m11, .int m12, .int m13, .int m14, .int m15, .ref li, .ref ha, .ref lw, .ref st, .ref fo, .ref dr, .int m22, .ref ik, .int m24, .int m25, .long m26, .int m27, .int m28, .ref ro, .int m30, .ref ct, .ref se, .ref th, .ref cn, .ref be, .int m36, .ref du, .int m38, .ref db, .int m40, .int m41, .int m42, .ref pn, .ref wg, .ref wh, .ref tn, .ref he, .int m48, .ref tr, .ref fd, .ref po, .int m52, .int m53]) := (congrFun e_f1 mm).trans z_up_self
  have hfr : ∀ b ∈ L, b ≠ mm → b ≠ ro → b ≠ ct → b ≠ se → b ≠ th → b ≠ cn → b ≠ db → b ≠ be → b ≠ du → b ≠ lw → f1 b = f b := fun b hb h0 h1 h2 h3 h4 h5 h6 h7 h8 h9 => (congrFun e_f1 b).trans (z_up_ne h0 (hfr b hb h0 h1 h2 h3 h4 h5 h6 h7 h8 h9))
  refine lv_aload_n hx hb dX10_free_5 rfl (lv_at hl 0 rfl) ?_
  refine lv_iload_n hx hb dX10_free_6 rfl (lv_at hl 1 rfl) ?_
  refine lv_i2l hx hb dX10_free_7 rfl ?_
  refine lv_topl (fun w2 e_w2 => ?_)
  have i_w2 : w2.toInt = oo.toInt := z_i2l e_w2 rfl
  refine z_calliV (cells := 0) (slots := 0) (b := mm) (As := [.long w2]) (rest := []) (ci := 10) (q0 := (RX10, TX10, 54)) ⟨hx, hb, hml, hown, hT⟩ (c_X10_isOwner l hm_mm hm_li hm_ha hf_mm hf_li hf_ha hq_ha) (cwV 1 hT (z_goodV (fun _ h => h) kw_1604 kw_1606 kw_69 kw_96 kw_1607) rfl rfl rfl (by decide +kernel) ⟨by decide, by decide⟩) z_mv hKK hK hw hA hm_mm hf_mm rfl rfl rfl hl.1 rfl (Nat.le_of_ble_eq_true rfl) dX10_free_8 ⟨by decide, by decide⟩ (fun r3 u H locs hp hw => ?_)
  obtain ⟨rfl, hp⟩ := hp
  have hw : z_H D vwCl (z_A L sz) s.heap L f1 H locs := hw
  rcases hp with ⟨rfl, h4⟩ | ⟨rfl, h4⟩
  · skip
    refine z_if_ne (tgt := 17) hx hb (show (1 : Int32).toInt = 1 by decide) dX10_free_11 (by decide) (fun _ => ?_) (fun h => absurd h (by decide))
    refine lv_aload_n hx hb dX10_free_17 rfl (lv_at hl 0 rfl) ?_
    refine z_get (C := RX10) (T := TX10) (N := 54) (ci := 10) (v := .ref lw) hx hb hT zin_X10 hown hK hw hm_mm hf_mm rfl 18 (by decide) (hT _ kw_1186) rfl dX10_free_18 ?_
    refine lv_iconst (v := 3) hx hb dX10_free_21 (by decide) ?_
    refine z_iald hx hb hK hw 1 hm_lw hf_lw rfl (z_ix (show (3 : Int32).toInt = 3 by decide) (by decide)) dX10_free_22 ?_
    refine lv_topi (fun w5 e_w5 => ?_)
    have hv_w5 : 0 ≤ w5.toInt ∧ w5.toInt ≤ 999 := by rw [e_w5]; exact hq_lw _
    have hwas : w5.toInt = (glw 3).toInt := by rw [e_w5]; rfl
    refine lv_istore_n (lv' := [(2, .int w5), (0, .ref mm), (1, .int oo)]) hx hb dX10_free_23 rfl hl (by decide) rfl (fun ls hl => ?_)
    refine lv_iconst (v := (-1)) hx hb dX10_free_24 (by decide) ?_
    refine lv_istore_n (lv' := [(3, .int (-1)), (2, .int w5), (0, .ref mm), (1, .int oo)]) hx hb dX10_free_25 rfl hl (by decide) rfl (fun ls hl => ?_)
    refine lv_iconst (v := 2) hx hb dX10_free_26 (by decide) ?_
    refine lv_istore (lv' := [(4, .int 2), (3, .int (-1)), (2, .int w5), (0, .ref mm), (1, .int oo)]) hx hb dX10_free_27 hl (by decide) rfl (fun ls hl => ?_)
    have hzk : (2 : Int32).toInt = 2 := by decide
    refine z_loop (fun n H locs ls => ∃ (K6 : Int32) (G16 : Nat → Int32) (G18 : Nat → Int32) (G19 : Nat → Int32) (G20 : Nat → Int32) (G21 : Nat → Int32) (G22 : Nat → Int32) (G23 : Nat → Int32) (G24 : Nat → Int32) (G17 : Nat → Int32) (WO8 : Int32) (MN9 : Int32) (IM10 : Int32) (UT11 : Int32) (RM12 : Int32) (DM13 : Int32) (DN14 : Int32) (XX15 : Int64) (V25 : Int32) (f7 : Nat → va_E), (n = (101 - K6.toInt).toNat) ∧ (2 ≤ K6.toInt) ∧ (K6.toInt ≤ 101) ∧ (0 ≤ XX15.toInt ∧ XX15.toInt < 2147483648) ∧ (∀ m : Nat, m < 5 → z_ea gha G17 m) ∧ (z_H D vwCl (z_A L sz) s.heap L f7 H locs) ∧ (f7 mm = .inr (10, [.int 0, .ref wd, .ref my, .ref ce, .ref mv, .ref ta, .int m6, .int m7, .int m8, .int m9, .int m10, .long m11, .int m12, .int m13, .int m14, .int m15, .ref li, .ref ha, .ref lw, .ref st, .ref fo, .ref dr, .int m22, .ref ik, .int WO8, .int MN9, .long XX15, .int IM10, .int UT11, .ref ro, .int RM12, .ref ct, .ref se, .ref th, .ref cn, .ref be, .int DN14, .ref du, .int DM13, .ref db, .int m40, .int m41, .int m42, .ref pn, .ref wg, .ref wh, .ref tn, .ref he, .int m48, .ref tr, .ref fd, .ref po, .int m52, .int m53])) ∧ (f7 ha = .inl (cy 1, 30, .inl gha)) ∧ (f7 dr = .inl (cy 1, 520, .inl gdr)) ∧ (f7 ro = .inl (cy 1, 13, .inl G16)) ∧ (f7 lw = .inl (cy 1, 25, .inl G17)) ∧ (f7 st = .inl (cy 1, 20, .inl gst)) ∧ (f7 ct = .inl (cy 1, 4, .inl G18)) ∧ (f7 se = .inl (cy 1, 36, .inl G19)) ∧ (f7 th = .inl (cy 1, 36, .inl G20)) ∧ (f7 cn = .inl (cy 1, 36, .inl G21)) ∧ (f7 db = .inl (cy 1, 5, .inl G22)) ∧ (f7 be = .inl (cy 1, 2574, .inl G23)) ∧ (f7 du = .inl (cy 1, 5200, .inl G24)) ∧ (f7 fo = .inl (cy 1, 180, .inl gfo)) ∧ (f7 li = .inl (cy 1, 5, .inl gli)) ∧ (∀ b ∈ L, b ≠ mm → b ≠ ro → b ≠ ct → b ≠ se → b ≠ th → b ≠ cn → b ≠ db → b ≠ be → b ≠ du → b ≠ lw → f7 b = f b) ∧ (∀ j : Nat, q_12 j (G16 j)) ∧ (∀ j : Nat, q_law j (G18 j)) ∧ (∀ j : Nat, q_be j (G23 j)) ∧ (∀ j : Nat, q_du j (G24 j)) ∧ (∀ j : Nat, q_law j (G17 j)) ∧ (lv_has ls 5 [(4, .int K6), (3, .int V25), (2, .int w5), (0, .ref mm), (1, .int oo)])) _ ⟨2, gro, gct, gse, gth, gcn, gdb, gbe, gdu, glw, m24, m25, m27, m28, m30, m38, m36, m26, (-1), f1, rfl, (by first | decide | omega), (by first | decide | omega), (by omega), hea, hw, hf_mm, hf_ha, hf_dr, hf_ro, hf_lw, hf_st, hf_ct, hf_se, hf_th, hf_cn, hf_db, hf_be, hf_du, hf_fo, hf_li, hfr, hq_ro, hq_ct, hq_be, hq_du, hq_lw, (lv_sub hl [0, 1, 2, 3, 4] rfl)⟩ (fun n H locs ls hI ih_29 => ?_)
    obtain ⟨K6, G16, G18, G19, G20, G21, G22, G23, G24, G17, WO8, MN9, IM10, UT11, RM12, DM13, DN14, XX15, V25, f7, hn, hk0, hk1, hi0, hi1, hw, hf_mm, hf_ha, hf_dr, hf_ro, hf_lw, hf_st, hf_ct, hf_se, hf_th, hf_cn, hf_db, hf_be, hf_du, hf_fo, hf_li, hfr, hq_ro, hq_ct, hq_be, hq_du, hq_lw, hl⟩ := hI
    refine lv_iload hx hb dX10_free_29 (lv_at hl 0 rfl) ?_
    refine lv_bipush (v := 100) hx hb dX10_free_31 (by decide) ?_
    refine z_icmp_gt (tgt := 74) hx hb rfl (show (100 : Int32).toInt = 100 by decide) dX10_free_33 (by decide) (fun c26 => ?_) (fun c26 => ?_)
    · skip
      refine lv_aload_n hx hb dX10_free_74 rfl (lv_at hl 3 rfl) ?_
      refine z_get (C := RX10) (T := TX10) (N := 54) (ci := 10) (v := .ref lw) hx hb hT zin_X10 hown hK hw hm_mm hf_mm rfl 18 (by decide) (hT _ kw_1186) rfl dX10_free_75 ?_
      refine lv_iconst (v := 3) hx hb dX10_free_78 (by decide) ?_
      refine lv_iload_n hx hb dX10_free_79 rfl (lv_at hl 2 rfl) ?_
      refine z_iast hx hb hK hw 1 hm_lw hf_lw rfl (z_ix (show (3 : Int32).toInt = 3 by decide) (by decide)) dX10_free_80 (fun H locs hw => ?_)
      obtain ⟨f28, e_f28⟩ : ∃ z, z = va_up f7 lw (.inl (cy 1, 25, .inl (upd G17 (3 : Int32).toNatClampNeg w5))) := ⟨_, rfl⟩
      rw [← e_f28] at hw
      have hf_mm : f28 mm = .inr (10, [.int 0, .ref wd, .ref my, .ref ce, .ref mv, .ref ta, .int m6, .int m7, .int m8, .int m9, .int m10, .long m11, .int m12, .int m13, .int m14, .int m15, .ref li, .ref ha, .ref lw, .ref st, .ref fo, .ref dr, .int m22, .ref ik, .int WO8, .int MN9, .long XX15, .int IM10, .int UT11, .ref ro, .int RM12, .ref ct, .ref se, .ref th, .ref cn, .ref be, .int DN14, .ref du, .int DM13, .ref db, .int m40, .int m41, .int m42, .ref pn, .ref wg, .ref wh, .ref tn, .ref he, .int m48, .ref tr, .ref fd, .ref po, .int m52, .int m53]) := (congrFun e_f28 mm).trans (z_up_ne (z_tne hf_mm hf_lw (m := 10) (n := 300) rfl rfl (by decide)) hf_mm)
      have hf_ha : f28 ha = .inl (cy 1, 30, .inl gha) := (congrFun e_f28 ha).trans (z_up_ne (z_tne hf_ha hf_lw (m := 340) (n := 300) rfl rfl (by decide)) hf_ha)
      have hf_dr : f28 dr = .inl (cy 1, 520, .inl gdr) := (congrFun e_f28 dr).trans (z_up_ne (z_tne hf_dr hf_lw (m := 4260) (n := 300) rfl rfl (by decide)) hf_dr)
      have hf_ro : f28 ro = .inl (cy 1, 13, .inl G16) := (congrFun e_f28 ro).trans (z_up_ne (z_tne hf_ro hf_lw (m := 204) (n := 300) rfl rfl (by decide)) hf_ro)
      have hf_st : f28 st = .inl (cy 1, 20, .inl gst) := (congrFun e_f28 st).trans (z_up_ne (z_tne hf_st hf_lw (m := 260) (n := 300) rfl rfl (by decide)) hf_st)
      have hf_ct : f28 ct = .inl (cy 1, 4, .inl G18) := (congrFun e_f28 ct).trans (z_up_ne (z_tne hf_ct hf_lw (m := 132) (n := 300) rfl rfl (by decide)) hf_ct)
      have hf_se : f28 se = .inl (cy 1, 36, .inl G19) := (congrFun e_f28 se).trans (z_up_ne (z_tne hf_se hf_lw (m := 388) (n := 300) rfl rfl (by decide)) hf_se)
      have hf_th : f28 th = .inl (cy 1, 36, .inl G20) := (congrFun e_f28 th).trans (z_up_ne (z_tne hf_th hf_lw (m := 388) (n := 300) rfl rfl (by decide)) hf_th)
      have hf_cn : f28 cn = .inl (cy 1, 36, .inl G21) := (congrFun e_f28 cn).trans (z_up_ne (z_tne hf_cn hf_lw (m := 388) (n := 300) rfl rfl (by decide)) hf_cn)
      have hf_db : f28 db = .inl (cy 1, 5, .inl G22) := (congrFun e_f28 db).trans (z_up_ne (z_tne hf_db hf_lw (m := 140) (n := 300) rfl rfl (by decide)) hf_db)
      have hf_be : f28 be = .inl (cy 1, 2574, .inl G23) := (congrFun e_f28 be).trans (z_up_ne (z_tne hf_be hf_lw (m := 20692) (n := 300) rfl rfl (by decide)) hf_be)
      have hf_du : f28 du = .inl (cy 1, 5200, .inl G24) := (congrFun e_f28 du).trans (z_up_ne (z_tne hf_du hf_lw (m := 41700) (n := 300) rfl rfl (by decide)) hf_du)
      have hf_fo : f28 fo = .inl (cy 1, 180, .inl gfo) := (congrFun e_f28 fo).trans (z_up_ne (z_tne hf_fo hf_lw (m := 1540) (n := 300) rfl rfl (by decide)) hf_fo)
      have hf_li : f28 li = .inl (cy 1, 5, .inl gli) := (congrFun e_f28 li).trans (z_up_ne (z_tne hf_li hf_lw (m := 140) (n := 300) rfl rfl (by decide)) hf_li)
      have hf_lw : f28 lw = .inl (cy 1, 25, .inl (upd G17 (3 : Int32).toNatClampNeg w5)) := (congrFun e_f28 lw).trans z_up_self
      have hfr : ∀ b ∈ L, b ≠ mm → b ≠ ro → b ≠ ct → b ≠ se → b ≠ th → b ≠ cn → b ≠ db → b ≠ be → b ≠ du → b ≠ lw → f28 b = f b := fun b hb h0 h1 h2 h3 h4 h5 h6 h7 h8 h9 => (congrFun e_f28 b).trans (z_up_ne h9 (hfr b hb h0 h1 h2 h3 h4 h5 h6 h7 h8 h9))
      obtain ⟨g27, e_g27⟩ : ∃ z, z = (upd G17 (3 : Int32).toNatClampNeg w5) := ⟨_, rfl⟩
      rw [← e_g27] at hf_lw
      have hq_lw : ∀ j : Nat, q_law j (g27 j) := z_updQ hq_lw e_g27 (show 0 ≤ (w5 : Int32).toInt ∧ (w5 : Int32).toInt ≤ 999 by first | decide | omega)
      have hea := z_ea_law3 hi1 e_g27 (by omega)
      refine lv_iload_n hx hb dX10_free_81 rfl (lv_at hl 1 rfl) ?_
      exact z_iret hx hb hr hlk (by decide) (by decide) hw (⟨hsub, hfr, WO8, MN9, IM10, UT11, RM12, DM13, DN14, XX15, G16, G18, G19, G20, G21, G22, G23, G24, g27, hf_mm, hf_ro, hf_ct, hf_se, hf_th, hf_cn, hf_db, hf_be, hf_du, hf_lw, hq_ro, hq_ct, hq_be, hq_du, hq_lw, by omega, hea⟩) dX10_free_82
    · skip
      refine lv_iload_n hx hb dX10_free_36 rfl (lv_at hl 1 rfl) ?_
      refine lv_iconst (v := (-1)) hx hb dX10_free_37 (by decide) ?_
      refine z_icmp_ne (tgt := 74) hx hb rfl (show ((-1) : Int32).toInt = (-1) by decide) dX10_free_38 (by decide) (fun c29 => ?_) (fun c29 => ?_)
      · skip
        refine lv_aload_n hx hb dX10_free_74 rfl (lv_at hl 3 rfl) ?_
        refine z_get (C := RX10) (T := TX10) (N := 54) (ci := 10) (v := .ref lw) hx hb hT zin_X10 hown hK hw hm_mm hf_mm rfl 18 (by decide) (hT _ kw_1186) rfl dX10_free_75 ?_
        refine lv_iconst (v := 3) hx hb dX10_free_78 (by decide) ?_
        refine lv_iload_n hx hb dX10_free_79 rfl (lv_at hl 2 rfl) ?_
        refine z_iast hx hb hK hw 1 hm_lw hf_lw rfl (z_ix (show (3 : Int32).toInt = 3 by decide) (by decide)) dX10_free_80 (fun H locs hw => ?_)
        obtain ⟨f31, e_f31⟩ : ∃ z, z = va_up f7 lw (.inl (cy 1, 25, .inl (upd G17 (3 : Int32).toNatClampNeg w5))) := ⟨_, rfl⟩
        rw [← e_f31] at hw
        have hf_mm : f31 mm = .inr (10, [.int 0, .ref wd, .ref my, .ref ce, .ref mv, .ref ta, .int m6, .int m7, .int m8, .int m9, .int m10, .long m11, .int m12, .int m13, .int m14, .int m15, .ref li, .ref ha, .ref lw, .ref st, .ref fo, .ref dr, .int m22, .ref ik, .int WO8, .int MN9, .long XX15, .int IM10, .int UT11, .ref ro, .int RM12, .ref ct, .ref se, .ref th, .ref cn, .ref be, .int DN14, .ref du, .int DM13, .ref db, .int m40, .int m41, .int m42, .ref pn, .ref wg, .ref wh, .ref tn, .ref he, .int m48, .ref tr, .ref fd, .ref po, .int m52, .int m53]) := (congrFun e_f31 mm).trans (z_up_ne (z_tne hf_mm hf_lw (m := 10) (n := 300) rfl rfl (by decide)) hf_mm)
        have hf_ha : f31 ha = .inl (cy 1, 30, .inl gha) := (congrFun e_f31 ha).trans (z_up_ne (z_tne hf_ha hf_lw (m := 340) (n := 300) rfl rfl (by decide)) hf_ha)
        have hf_dr : f31 dr = .inl (cy 1, 520, .inl gdr) := (congrFun e_f31 dr).trans (z_up_ne (z_tne hf_dr hf_lw (m := 4260) (n := 300) rfl rfl (by decide)) hf_dr)
        have hf_ro : f31 ro = .inl (cy 1, 13, .inl G16) := (congrFun e_f31 ro).trans (z_up_ne (z_tne hf_ro hf_lw (m := 204) (n := 300) rfl rfl (by decide)) hf_ro)
        have hf_st : f31 st = .inl (cy 1, 20, .inl gst) := (congrFun e_f31 st).trans (z_up_ne (z_tne hf_st hf_lw (m := 260) (n := 300) rfl rfl (by decide)) hf_st)
        have hf_ct : f31 ct = .inl (cy 1, 4, .inl G18) := (congrFun e_f31 ct).trans (z_up_ne (z_tne hf_ct hf_lw (m := 132) (n := 300) rfl rfl (by decide)) hf_ct)
        have hf_se : f31 se = .inl (cy 1, 36, .inl G19) := (congrFun e_f31 se).trans (z_up_ne (z_tne hf_se hf_lw (m := 388) (n := 300) rfl rfl (by decide)) hf_se)
        have hf_th : f31 th = .inl (cy 1, 36, .inl G20) := (congrFun e_f31 th).trans (z_up_ne (z_tne hf_th hf_lw (m := 388) (n := 300) rfl rfl (by decide)) hf_th)
        have hf_cn : f31 cn = .inl (cy 1, 36, .inl G21) := (congrFun e_f31 cn).trans (z_up_ne (z_tne hf_cn hf_lw (m := 388) (n := 300) rfl rfl (by decide)) hf_cn)
        have hf_db : f31 db = .inl (cy 1, 5, .inl G22) := (congrFun e_f31 db).trans (z_up_ne (z_tne hf_db hf_lw (m := 140) (n := 300) rfl rfl (by decide)) hf_db)
        have hf_be : f31 be = .inl (cy 1, 2574, .inl G23) := (congrFun e_f31 be).trans (z_up_ne (z_tne hf_be hf_lw (m := 20692) (n := 300) rfl rfl (by decide)) hf_be)
        have hf_du : f31 du = .inl (cy 1, 5200, .inl G24) := (congrFun e_f31 du).trans (z_up_ne (z_tne hf_du hf_lw (m := 41700) (n := 300) rfl rfl (by decide)) hf_du)
        have hf_fo : f31 fo = .inl (cy 1, 180, .inl gfo) := (congrFun e_f31 fo).trans (z_up_ne (z_tne hf_fo hf_lw (m := 1540) (n := 300) rfl rfl (by decide)) hf_fo)
        have hf_li : f31 li = .inl (cy 1, 5, .inl gli) := (congrFun e_f31 li).trans (z_up_ne (z_tne hf_li hf_lw (m := 140) (n := 300) rfl rfl (by decide)) hf_li)
        have hf_lw : f31 lw = .inl (cy 1, 25, .inl (upd G17 (3 : Int32).toNatClampNeg w5)) := (congrFun e_f31 lw).trans z_up_self
        have hfr : ∀ b ∈ L, b ≠ mm → b ≠ ro → b ≠ ct → b ≠ se → b ≠ th → b ≠ cn → b ≠ db → b ≠ be → b ≠ du → b ≠ lw → f31 b = f b := fun b hb h0 h1 h2 h3 h4 h5 h6 h7 h8 h9 => (congrFun e_f31 b).trans (z_up_ne h9 (hfr b hb h0 h1 h2 h3 h4 h5 h6 h7 h8 h9))
        obtain ⟨g30, e_g30⟩ : ∃ z, z = (upd G17 (3 : Int32).toNatClampNeg w5) := ⟨_, rfl⟩
        rw [← e_g30] at hf_lw
        have hq_lw : ∀ j : Nat, q_law j (g30 j) := z_updQ hq_lw e_g30 (show 0 ≤ (w5 : Int32).toInt ∧ (w5 : Int32).toInt ≤ 999 by first | decide | omega)
        have hea := z_ea_law3 hi1 e_g30 (by omega)
        refine lv_iload_n hx hb dX10_free_81 rfl (lv_at hl 1 rfl) ?_
        exact z_iret hx hb hr hlk (by decide) (by decide) hw (⟨hsub, hfr, WO8, MN9, IM10, UT11, RM12, DM13, DN14, XX15, G16, G18, G19, G20, G21, G22, G23, G24, g30, hf_mm, hf_ro, hf_ct, hf_se, hf_th, hf_cn, hf_db, hf_be, hf_du, hf_lw, hq_ro, hq_ct, hq_be, hq_du, hq_lw, by omega, hea⟩) dX10_free_82
      · skip
        refine lv_aload_n hx hb dX10_free_41 rfl (lv_at hl 3 rfl) ?_
        refine z_get (C := RX10) (T := TX10) (N := 54) (ci := 10) (v := .ref lw) hx hb hT zin_X10 hown hK hw hm_mm hf_mm rfl 18 (by decide) (hT _ kw_1186) rfl dX10_free_42 ?_
        refine lv_iconst (v := 3) hx hb dX10_free_45 (by decide) ?_
        refine lv_iload hx hb dX10_free_46 (lv_at hl 0 rfl) ?_
        refine z_iast hx hb hK hw 1 hm_lw hf_lw rfl (z_ix (show (3 : Int32).toInt = 3 by decide) (by decide)) dX10_free_48 (fun H locs hw => ?_)
        obtain ⟨f33, e_f33⟩ : ∃ z, z = va_up f7 lw (.inl (cy 1, 25, .inl (upd G17 (3 : Int32).toNatClampNeg K6))) := ⟨_, rfl⟩
        rw [← e_f33] at hw
        have hf_mm : f33 mm = .inr (10, [.int 0, .ref wd, .ref my, .ref ce, .ref mv, .ref ta, .int m6, .int m7, .int m8, .int m9, .int m10, .long m11, .int m12, .int m13, .int m14, .int m15, .ref li, .ref ha, .ref lw, .ref st, .ref fo, .ref dr, .int m22, .ref ik, .int WO8, .int MN9, .long XX15, .int IM10, .int UT11, .ref ro, .int RM12, .ref ct, .ref se, .ref th, .ref cn, .ref be, .int DN14, .ref du, .int DM13, .ref db, .int m40, .int m41, .int m42, .ref pn, .ref wg, .ref wh, .ref tn, .ref he, .int m48, .ref tr, .ref fd, .ref po, .int m52, .int m53]) := (congrFun e_f33 mm).trans (z_up_ne (z_tne hf_mm hf_lw (m := 10) (n := 300) rfl rfl (by decide)) hf_mm)
        have hf_ha : f33 ha = .inl (cy 1, 30, .inl gha) := (congrFun e_f33 ha).trans (z_up_ne (z_tne hf_ha hf_lw (m := 340) (n := 300) rfl rfl (by decide)) hf_ha)
        have hf_dr : f33 dr = .inl (cy 1, 520, .inl gdr) := (congrFun e_f33 dr).trans (z_up_ne (z_tne hf_dr hf_lw (m := 4260) (n := 300) rfl rfl (by decide)) hf_dr)
        have hf_ro : f33 ro = .inl (cy 1, 13, .inl G16) := (congrFun e_f33 ro).trans (z_up_ne (z_tne hf_ro hf_lw (m := 204) (n := 300) rfl rfl (by decide)) hf_ro)
        have hf_st : f33 st = .inl (cy 1, 20, .inl gst) := (congrFun e_f33 st).trans (z_up_ne (z_tne hf_st hf_lw (m := 260) (n := 300) rfl rfl (by decide)) hf_st)
        have hf_ct : f33 ct = .inl (cy 1, 4, .inl G18) := (congrFun e_f33 ct).trans (z_up_ne (z_tne hf_ct hf_lw (m := 132) (n := 300) rfl rfl (by decide)) hf_ct)
        have hf_se : f33 se = .inl (cy 1, 36, .inl G19) := (congrFun e_f33 se).trans (z_up_ne (z_tne hf_se hf_lw (m := 388) (n := 300) rfl rfl (by decide)) hf_se)
        have hf_th : f33 th = .inl (cy 1, 36, .inl G20) := (congrFun e_f33 th).trans (z_up_ne (z_tne hf_th hf_lw (m := 388) (n := 300) rfl rfl (by decide)) hf_th)
        have hf_cn : f33 cn = .inl (cy 1, 36, .inl G21) := (congrFun e_f33 cn).trans (z_up_ne (z_tne hf_cn hf_lw (m := 388) (n := 300) rfl rfl (by decide)) hf_cn)
        have hf_db : f33 db = .inl (cy 1, 5, .inl G22) := (congrFun e_f33 db).trans (z_up_ne (z_tne hf_db hf_lw (m := 140) (n := 300) rfl rfl (by decide)) hf_db)
        have hf_be : f33 be = .inl (cy 1, 2574, .inl G23) := (congrFun e_f33 be).trans (z_up_ne (z_tne hf_be hf_lw (m := 20692) (n := 300) rfl rfl (by decide)) hf_be)
        have hf_du : f33 du = .inl (cy 1, 5200, .inl G24) := (congrFun e_f33 du).trans (z_up_ne (z_tne hf_du hf_lw (m := 41700) (n := 300) rfl rfl (by decide)) hf_du)
        have hf_fo : f33 fo = .inl (cy 1, 180, .inl gfo) := (congrFun e_f33 fo).trans (z_up_ne (z_tne hf_fo hf_lw (m := 1540) (n := 300) rfl rfl (by decide)) hf_fo)
        have hf_li : f33 li = .inl (cy 1, 5, .inl gli) := (congrFun e_f33 li).trans (z_up_ne (z_tne hf_li hf_lw (m := 140) (n := 300) rfl rfl (by decide)) hf_li)
        have hf_lw : f33 lw = .inl (cy 1, 25, .inl (upd G17 (3 : Int32).toNatClampNeg K6)) := (congrFun e_f33 lw).trans z_up_self
        have hfr : ∀ b ∈ L, b ≠ mm → b ≠ ro → b ≠ ct → b ≠ se → b ≠ th → b ≠ cn → b ≠ db → b ≠ be → b ≠ du → b ≠ lw → f33 b = f b := fun b hb h0 h1 h2 h3 h4 h5 h6 h7 h8 h9 => (congrFun e_f33 b).trans (z_up_ne h9 (hfr b hb h0 h1 h2 h3 h4 h5 h6 h7 h8 h9))
        obtain ⟨g32, e_g32⟩ : ∃ z, z = (upd G17 (3 : Int32).toNatClampNeg K6) := ⟨_, rfl⟩
        rw [← e_g32] at hf_lw
        have hq_lw : ∀ j : Nat, q_law j (g32 j) := z_updQ hq_lw e_g32 (show 0 ≤ (K6 : Int32).toInt ∧ (K6 : Int32).toInt ≤ 999 by first | decide | omega)
        have heaL := z_ea_law hi1 e_g32 (Or.inr (Or.inl (by omega)))
        refine lv_aload_n hx hb dX10_free_49 rfl (lv_at hl 3 rfl) ?_
        refine z_callvV (cells := 0) (slots := 0) (b := mm) (As := []) (rest := []) (ci := 10) (q0 := (RX10, TX10, 54)) ⟨hx, hb, hml, hown, hT⟩ (c_X10_asTold l hm_mm hm_ha hm_dr hm_ro hm_lw hm_st hm_ct hm_se hm_th hm_cn hm_db hm_be hm_du hm_fo hf_mm hf_ha hf_dr hf_ro hf_lw hf_st hf_ct hf_se hf_th hf_cn hf_db hf_be hf_du hf_fo ne_se_th ne_se_cn ne_th_cn hq_ha hq_dr hq_ro hq_lw hq_st hq_ct hq_be hq_du (by first | omega | decide | assumption) heaL) (cwV 0 hT (z_goodV (fun _ h => h) kw_1587 kw_1589 kw_68 kw_96 kw_1590) rfl rfl rfl (by decide +kernel) ⟨by decide, by decide⟩) z_mv hKK hK hw hA hm_mm hf_mm rfl rfl rfl hl.1 rfl (Nat.le_of_ble_eq_true rfl) dX10_free_50 ⟨by decide, by decide⟩ (fun u H locs hp hw => ?_)
        obtain ⟨L34, f35⟩ := u
        obtain ⟨hsb, hfm, mn2_36, n2_37, d2_38, y2_39, x2_40, nro_41, nct_42, nse_43, nth_44, ncn_45, ndb_46, nbe_47, ndu_48, ha_0, ha_1, ha_2, ha_3, ha_4, ha_5, ha_6, ha_7, ha_8, hq_ro, hq_ct, hq_be, hq_du, hp⟩ := hp
        have hsb : L = L34 := hsb
        subst hsb
        have hsb : ∀ b ∈ L, b ∈ L := fun _ h => h
        have hw : z_H D vwCl (z_A L sz) s.heap L f35 H locs := hw
        have hfr : ∀ b ∈ L, b ≠ mm → b ≠ ro → b ≠ ct → b ≠ se → b ≠ th → b ≠ cn → b ≠ db → b ≠ be → b ≠ du → b ≠ lw → f35 b = f b := fun b hb h0 h1 h2 h3 h4 h5 h6 h7 h8 h9 => (hfm b hb h0 h1 h2 h3 h4 h5 h6 h7 h8).trans (hfr b hb h0 h1 h2 h3 h4 h5 h6 h7 h8 h9)
        have hf_ha : f35 ha = .inl (cy 1, 30, .inl gha) := (hfm ha hm_ha (z_tne hf_ha hf_mm (m := 340) (n := 10) rfl rfl (by decide)) (z_tne hf_ha hf_ro (m := 340) (n := 204) rfl rfl (by decide)) (z_tne hf_ha hf_ct (m := 340) (n := 132) rfl rfl (by decide)) (z_tne hf_ha hf_se (m := 340) (n := 388) rfl rfl (by decide)) (z_tne hf_ha hf_th (m := 340) (n := 388) rfl rfl (by decide)) (z_tne hf_ha hf_cn (m := 340) (n := 388) rfl rfl (by decide)) (z_tne hf_ha hf_db (m := 340) (n := 140) rfl rfl (by decide)) (z_tne hf_ha hf_be (m := 340) (n := 20692) rfl rfl (by decide)) (z_tne hf_ha hf_du (m := 340) (n := 41700) rfl rfl (by decide))).trans hf_ha
        have hf_dr : f35 dr = .inl (cy 1, 520, .inl gdr) := (hfm dr hm_dr (z_tne hf_dr hf_mm (m := 4260) (n := 10) rfl rfl (by decide)) (z_tne hf_dr hf_ro (m := 4260) (n := 204) rfl rfl (by decide)) (z_tne hf_dr hf_ct (m := 4260) (n := 132) rfl rfl (by decide)) (z_tne hf_dr hf_se (m := 4260) (n := 388) rfl rfl (by decide)) (z_tne hf_dr hf_th (m := 4260) (n := 388) rfl rfl (by decide)) (z_tne hf_dr hf_cn (m := 4260) (n := 388) rfl rfl (by decide)) (z_tne hf_dr hf_db (m := 4260) (n := 140) rfl rfl (by decide)) (z_tne hf_dr hf_be (m := 4260) (n := 20692) rfl rfl (by decide)) (z_tne hf_dr hf_du (m := 4260) (n := 41700) rfl rfl (by decide))).trans hf_dr
        have hf_lw : f35 lw = .inl (cy 1, 25, .inl g32) := (hfm lw hm_lw (z_tne hf_lw hf_mm (m := 300) (n := 10) rfl rfl (by decide)) (z_tne hf_lw hf_ro (m := 300) (n := 204) rfl rfl (by decide)) (z_tne hf_lw hf_ct (m := 300) (n := 132) rfl rfl (by decide)) (z_tne hf_lw hf_se (m := 300) (n := 388) rfl rfl (by decide)) (z_tne hf_lw hf_th (m := 300) (n := 388) rfl rfl (by decide)) (z_tne hf_lw hf_cn (m := 300) (n := 388) rfl rfl (by decide)) (z_tne hf_lw hf_db (m := 300) (n := 140) rfl rfl (by decide)) (z_tne hf_lw hf_be (m := 300) (n := 20692) rfl rfl (by decide)) (z_tne hf_lw hf_du (m := 300) (n := 41700) rfl rfl (by decide))).trans hf_lw
        have hf_st : f35 st = .inl (cy 1, 20, .inl gst) := (hfm st hm_st (z_tne hf_st hf_mm (m := 260) (n := 10) rfl rfl (by decide)) (z_tne hf_st hf_ro (m := 260) (n := 204) rfl rfl (by decide)) (z_tne hf_st hf_ct (m := 260) (n := 132) rfl rfl (by decide)) (z_tne hf_st hf_se (m := 260) (n := 388) rfl rfl (by decide)) (z_tne hf_st hf_th (m := 260) (n := 388) rfl rfl (by decide)) (z_tne hf_st hf_cn (m := 260) (n := 388) rfl rfl (by decide)) (z_tne hf_st hf_db (m := 260) (n := 140) rfl rfl (by decide)) (z_tne hf_st hf_be (m := 260) (n := 20692) rfl rfl (by decide)) (z_tne hf_st hf_du (m := 260) (n := 41700) rfl rfl (by decide))).trans hf_st
        have hf_fo : f35 fo = .inl (cy 1, 180, .inl gfo) := (hfm fo hm_fo (z_tne hf_fo hf_mm (m := 1540) (n := 10) rfl rfl (by decide)) (z_tne hf_fo hf_ro (m := 1540) (n := 204) rfl rfl (by decide)) (z_tne hf_fo hf_ct (m := 1540) (n := 132) rfl rfl (by decide)) (z_tne hf_fo hf_se (m := 1540) (n := 388) rfl rfl (by decide)) (z_tne hf_fo hf_th (m := 1540) (n := 388) rfl rfl (by decide)) (z_tne hf_fo hf_cn (m := 1540) (n := 388) rfl rfl (by decide)) (z_tne hf_fo hf_db (m := 1540) (n := 140) rfl rfl (by decide)) (z_tne hf_fo hf_be (m := 1540) (n := 20692) rfl rfl (by decide)) (z_tne hf_fo hf_du (m := 1540) (n := 41700) rfl rfl (by decide))).trans hf_fo
        have hf_li : f35 li = .inl (cy 1, 5, .inl gli) := (hfm li hm_li (z_tne hf_li hf_mm (m := 140) (n := 10) rfl rfl (by decide)) (z_tne hf_li hf_ro (m := 140) (n := 204) rfl rfl (by decide)) (z_tne hf_li hf_ct (m := 140) (n := 132) rfl rfl (by decide)) (z_tne hf_li hf_se (m := 140) (n := 388) rfl rfl (by decide)) (z_tne hf_li hf_th (m := 140) (n := 388) rfl rfl (by decide)) (z_tne hf_li hf_cn (m := 140) (n := 388) rfl rfl (by decide)) (Ne.symm ne_db_li) (z_tne hf_li hf_be (m := 140) (n := 20692) rfl rfl (by decide)) (z_tne hf_li hf_du (m := 140) (n := 41700) rfl rfl (by decide))).trans hf_li
        have hf_mm : f35 mm = .inr (10, [.int 0, .ref wd, .ref my, .ref ce, .ref mv, .ref ta, .int m6, .int m7, .int m8, .int m9, .int m10, .long m11, .int m12, .int m13, .int m14, .int m15, .ref li, .ref ha, .ref lw, .ref st, .ref fo, .ref dr, .int m22, .ref ik, .int (-1), .int mn2_36, .long x2_40, .int 0, .int 1000, .ref ro, .int n2_37, .ref ct, .ref se, .ref th, .ref cn, .ref be, .int y2_39, .ref du, .int d2_38, .ref db, .int m40, .int m41, .int m42, .ref pn, .ref wg, .ref wh, .ref tn, .ref he, .int m48, .ref tr, .ref fd, .ref po, .int m52, .int m53]) := ha_0
        have hf_ro : f35 ro = .inl (cy 1, 13, .inl nro_41) := ha_1
        have hf_ct : f35 ct = .inl (cy 1, 4, .inl nct_42) := ha_2
        have hf_se : f35 se = .inl (cy 1, 36, .inl nse_43) := ha_3
        have hf_th : f35 th = .inl (cy 1, 36, .inl nth_44) := ha_4
        have hf_cn : f35 cn = .inl (cy 1, 36, .inl ncn_45) := ha_5
        have hf_db : f35 db = .inl (cy 1, 5, .inl ndb_46) := ha_6
        have hf_be : f35 be = .inl (cy 1, 2574, .inl nbe_47) := ha_7
        have hf_du : f35 du = .inl (cy 1, 5200, .inl ndu_48) := ha_8
        have hq49 := hp
        refine lv_aload_n hx hb dX10_free_53 rfl (lv_at hl 3 rfl) ?_
        refine lv_iload_n hx hb dX10_free_54 rfl (lv_at hl 4 rfl) ?_
        refine z_calliV (cells := 0) (slots := 0) (b := mm) (As := [.int oo]) (rest := []) (ci := 10) (q0 := (RX10, TX10, 54)) ⟨hx, hb, hml, hown, hT⟩ (c_X10_paidBy l hm_mm hm_db hm_lw hf_mm hf_db hf_lw hq_lw (by first | omega | decide | assumption)) (cwV 1 hT (z_goodV (fun _ h => h) kw_1608 kw_1610 kw_70 kw_96 kw_1611) rfl rfl rfl (by decide +kernel) ⟨by decide, by decide⟩) z_mv hKK hK hw hA hm_mm hf_mm rfl rfl rfl hl.1 rfl (Nat.le_of_ble_eq_true rfl) dX10_free_55 ⟨by decide, by decide⟩ (fun r50 u H locs hp hw => ?_)
        obtain ⟨rfl, hp⟩ := hp
        have hw : z_H D vwCl (z_A L sz) s.heap L f35 H locs := hw
        refine z_if_ne (tgt := 66) hx hb rfl dX10_free_58 (by decide) (fun c51 => ?_) (fun c51 => ?_)
        · skip
          refine lv_iconst (v := (-1)) hx hb dX10_free_66 (by decide) ?_
          refine lv_istore_n (lv' := [(3, .int (-1)), (4, .int K6), (2, .int w5), (0, .ref mm), (1, .int oo)]) hx hb dX10_free_67 rfl hl (by decide) rfl (fun ls hl => ?_)
          obtain ⟨k52, e_k52⟩ : ∃ z : Int32, z = K6 + 1 := ⟨_, rfl⟩
          refine lv_iinc (v := k52) (lv' := [(4, .int k52), (3, .int (-1)), (2, .int w5), (0, .ref mm), (1, .int oo)]) hx hb dX10_free_68 hl (k := 1) rfl (by rw [e_k52]; rfl) (by decide) rfl (fun ls hl => ?_)
          have i_k52 : k52.toInt = (K6.toInt + 1) := z_add e_k52 rfl (by decide) (by omega)
          refine lv_goto (tgt := 29) hx hb dX10_free_71 (by decide) ?_
          exact ih_29 _ (by omega) _ _ _ ⟨k52, nro_41, nct_42, nse_43, nth_44, ncn_45, ndb_46, nbe_47, ndu_48, g32, (-1), mn2_36, 0, 1000, n2_37, d2_38, y2_39, x2_40, (-1), f35, rfl, (by first | decide | omega), (by first | decide | omega), (by omega), heaL, hw, hf_mm, hf_ha, hf_dr, hf_ro, hf_lw, hf_st, hf_ct, hf_se, hf_th, hf_cn, hf_db, hf_be, hf_du, hf_fo, hf_li, hfr, hq_ro, hq_ct, hq_be, hq_du, hq_lw, (lv_sub hl [0, 1, 2, 3, 4] rfl)⟩
        · skip
          refine lv_iload hx hb dX10_free_61 (lv_at hl 0 rfl) ?_
          refine lv_goto (tgt := 67) hx hb dX10_free_63 (by decide) ?_
          refine lv_istore_n (lv' := [(3, .int K6), (4, .int K6), (2, .int w5), (0, .ref mm), (1, .int oo)]) hx hb dX10_free_67 rfl hl (by decide) rfl (fun ls hl => ?_)
          obtain ⟨k53, e_k53⟩ : ∃ z : Int32, z = K6 + 1 := ⟨_, rfl⟩
          refine lv_iinc (v := k53) (lv' := [(4, .int k53), (3, .int K6), (2, .int w5), (0, .ref mm), (1, .int oo)]) hx hb dX10_free_68 hl (k := 1) rfl (by rw [e_k53]; rfl) (by decide) rfl (fun ls hl => ?_)
          have i_k53 : k53.toInt = (K6.toInt + 1) := z_add e_k53 rfl (by decide) (by omega)
          refine lv_goto (tgt := 29) hx hb dX10_free_71 (by decide) ?_
          exact ih_29 _ (by omega) _ _ _ ⟨k53, nro_41, nct_42, nse_43, nth_44, ncn_45, ndb_46, nbe_47, ndu_48, g32, (-1), mn2_36, 0, 1000, n2_37, d2_38, y2_39, x2_40, K6, f35, rfl, (by first | decide | omega), (by first | decide | omega), (by omega), heaL, hw, hf_mm, hf_ha, hf_dr, hf_ro, hf_lw, hf_st, hf_ct, hf_se, hf_th, hf_cn, hf_db, hf_be, hf_du, hf_fo, hf_li, hfr, hq_ro, hq_ct, hq_be, hq_du, hq_lw, (lv_sub hl [0, 1, 2, 3, 4] rfl)⟩
  · skip
    refine z_if_ne (tgt := 17) hx hb (show (0 : Int32).toInt = 0 by decide) dX10_free_11 (by decide) (fun h => absurd h (by decide)) (fun _ => ?_)
    refine lv_bipush (v := (-2)) hx hb dX10_free_14 (by decide) ?_
    exact z_iret hx hb hr hlk (by decide) (by decide) hw (⟨hsub, hfr, m24, m25, m27, m28, m30, m38, m36, m26, gro, gct, gse, gth, gcn, gdb, gbe, gdu, glw, hf_mm, hf_ro, hf_ct, hf_se, hf_th, hf_cn, hf_db, hf_be, hf_du, hf_lw, hq_ro, hq_ct, hq_be, hq_du, hq_lw, by omega, hea⟩) dX10_free_16

set_option maxHeartbeats 2000000 in
set_option maxRecDepth 100000 in
theorem c_X10_all (l : Launch) {D : va_G} {cy : Nat → ClassId} {L : List Nat} {f : Nat → va_E} {sz : Nat} {adK adV : Nat → Nat} {mm wd my ce mv ta li ha lw st fo dr ik ro ct se th cn be du db pn wg wh tn he tr fd po : Nat} {m0 m6 m7 m8 m9 m10 m12 m13 m14 m15 m22 m24 m25 m27 m28 m30 m36 m38 m40 m41 m42 m48 m52 m53 : Int32} {m11 m26 : Int64} {gli gha glw gst gfo gdr gro gct gse gth gcn gbe gdu gdb : Nat → Int32}  {wt : Int32} (hm_mm : mm ∈ L) (hm_ha : ha ∈ L) (hm_dr : dr ∈ L) (hm_ro : ro ∈ L) (hm_lw : lw ∈ L) (hm_st : st ∈ L) (hm_ct : ct ∈ L) (hm_se : se ∈ L) (hm_th : th ∈ L) (hm_cn : cn ∈ L) (hm_db : db ∈ L) (hm_be : be ∈ L) (hm_du : du ∈ L) (hm_fo : fo ∈ L) (hm_li : li ∈ L) (hf_mm : f mm = .inr (10, [.int m0, .ref wd, .ref my, .ref ce, .ref mv, .ref ta, .int m6, .int m7, .int m8, .int m9, .int m10, .long m11, .int m12, .int m13, .int m14, .int m15, .ref li, .ref ha, .ref lw, .ref st, .ref fo, .ref dr, .int m22, .ref ik, .int m24, .int m25, .long m26, .int m27, .int m28, .ref ro, .int m30, .ref ct, .ref se, .ref th, .ref cn, .ref be, .int m36, .ref du, .int m38, .ref db, .int m40, .int m41, .int m42, .ref pn, .ref wg, .ref wh, .ref tn, .ref he, .int m48, .ref tr, .ref fd, .ref po, .int m52, .int m53])) (hf_ha : f ha = .inl (cy 1, 30, .inl gha)) (hf_dr : f dr = .inl (cy 1, 520, .inl gdr)) (hf_ro : f ro = .inl (cy 1, 13, .inl gro)) (hf_lw : f lw = .inl (cy 1, 25, .inl glw)) (hf_st : f st = .inl (cy 1, 20, .inl gst)) (hf_ct : f ct = .inl (cy 1, 4, .inl gct)) (hf_se : f se = .inl (cy 1, 36, .inl gse)) (hf_th : f th = .inl (cy 1, 36, .inl gth)) (hf_cn : f cn = .inl (cy 1, 36, .inl gcn)) (hf_db : f db = .inl (cy 1, 5, .inl gdb)) (hf_be : f be = .inl (cy 1, 2574, .inl gbe)) (hf_du : f du = .inl (cy 1, 5200, .inl gdu)) (hf_fo : f fo = .inl (cy 1, 180, .inl gfo)) (hf_li : f li = .inl (cy 1, 5, .inl gli)) (ne_se_th : se ≠ th) (ne_se_cn : se ≠ cn) (ne_th_cn : th ≠ cn) (ne_db_li : db ≠ li) (hq_ha : ∀ j : Nat, q_has j (gha j)) (hq_dr : ∀ j : Nat, q_drv j (gdr j)) (hq_ro : ∀ j : Nat, q_12 j (gro j)) (hq_lw : ∀ j : Nat, q_law j (glw j)) (hq_st : ∀ j : Nat, q_law j (gst j)) (hq_ct : ∀ j : Nat, q_law j (gct j)) (hq_be : ∀ j : Nat, q_be j (gbe j)) (hq_du : ∀ j : Nat, q_du j (gdu j)) (hxx : 0 ≤ m26.toInt ∧ m26.toInt < 2147483648) (hea : ∀ m : Nat, m < 5 → z_ea gha glw m) : Met l yX10_all (z_ws yX10_all cX10_all 4 (some .int)) (z_R 7 0 0) (va_Pc [.ref mm, .int wt] (z_Pre D vwCl (z_KK D cy adK adV) L f sz)) (z_Qi D vwCl (fun r u => L = u.1 ∧ (∀ b ∈ L, b ≠ mm → b ≠ ro → b ≠ ct → b ≠ se → b ≠ th → b ≠ cn → b ≠ db → b ≠ be → b ≠ du → b ≠ lw → u.2 b = f b) ∧ (∃ (o2 mn2 i2 u2 n2 d2 y2 : Int32) (x2 : Int64) (nro nct nse nth ncn ndb nbe ndu nlw : Nat → Int32), (u.2 mm = .inr (10, [.int 0, .ref wd, .ref my, .ref ce, .ref mv, .ref ta, .int m6, .int m7, .int m8, .int m9, .int m10, .long m11, .int m12, .int m13, .int m14, .int m15, .ref li, .ref ha, .ref lw, .ref st, .ref fo, .ref dr, .int m22, .ref ik, .int o2, .int mn2, .long x2, .int i2, .int u2, .ref ro, .int n2, .ref ct, .ref se, .ref th, .ref cn, .ref be, .int y2, .ref du, .int d2, .ref db, .int m40, .int m41, .int m42, .ref pn, .ref wg, .ref wh, .ref tn, .ref he, .int m48, .ref tr, .ref fd, .ref po, .int m52, .int m53])) ∧ (u.2 ro = .inl (cy 1, 13, .inl nro)) ∧ (u.2 ct = .inl (cy 1, 4, .inl nct)) ∧ (u.2 se = .inl (cy 1, 36, .inl nse)) ∧ (u.2 th = .inl (cy 1, 36, .inl nth)) ∧ (u.2 cn = .inl (cy 1, 36, .inl ncn)) ∧ (u.2 db = .inl (cy 1, 5, .inl ndb)) ∧ (u.2 be = .inl (cy 1, 2574, .inl nbe)) ∧ (u.2 du = .inl (cy 1, 5200, .inl ndu)) ∧ (u.2 lw = .inl (cy 1, 25, .inl nlw)) ∧ (∀ j : Nat, q_12 j (nro j)) ∧ (∀ j : Nat, q_law j (nct j)) ∧ (∀ j : Nat, q_be j (nbe j)) ∧ (∀ j : Nat, q_du j (ndu j)) ∧ (∀ j : Nat, q_law j (nlw j)) ∧ ((0 ≤ x2.toInt ∧ x2.toInt < 2147483648) ∧ ∀ m : Nat, m < 5 → z_ea gha nlw m))) L sz) 0 0 (z_A L sz) := by
  refine z_met (cc := cX10_all) (maxL := 4) (ret := (some .int)) (lv := [(0, .ref mm), (1, .int wt)]) (by decide) rfl (Nat.le_of_ble_eq_true rfl) rfl ?_
  intro p e s m below meth c ls hx hb hr hlk hml hown hnm hts hKK hA hw hl
  have hK := hKK.1.1
  have hown : s.vm.findClass RX10 = some m.cls := hown
  have hT : ∀ w ∈ lw_all, w.before ([.ref mm, .int wt] : List Value).toArray s = true := fun w h => hts w (z_cons w h)
  have hsub : L = L := rfl
  have hfr : ∀ b ∈ L, b ≠ mm → b ≠ ro → b ≠ ct → b ≠ se → b ≠ th → b ≠ cn → b ≠ db → b ≠ be → b ≠ du → b ≠ lw → f b = f b := fun _ _ _ _ _ _ _ _ _ _ _ _ => rfl
  have hh0 := (hq_ha 0).1 rfl
  have hh1 := (hq_ha 1).2.1 rfl
  have hh2 := (hq_ha 2).2.2.1 rfl
  have hh3 := (hq_ha 3).2.2.2 rfl
  have hea0 : 2 ≤ (glw 3).toInt ∨ ((gha 3).toInt = 0 ∧ (gha 0).toInt = 0) := hea 0 (by decide)
  have hz_m2 : (-2 : Int32).toInt = -2 := by decide
  have hz_m1 : (-1 : Int32).toInt = -1 := by decide
  have hz_0 : (0 : Int32).toInt = 0 := by decide
  refine lv_aload_n hx hb dX10_all_0 rfl (lv_at hl 0 rfl) ?_
  refine lv_iconst (v := 0) hx hb dX10_all_1 (by decide) ?_
  refine z_put (C := RX10) (T := TX10) (N := 54) (ci := 10) (v := .int 0) (fs' := [.int 0, .ref wd, .ref my, .ref ce, .ref mv, .ref ta, .int m6, .int m7, .int m8, .int m9, .int m10, .long m11, .int m12, .int m13, .int m14, .int m15, .ref li, .ref ha, .ref lw, .ref st, .ref fo, .ref dr, .int m22, .ref ik, .int m24, .int m25, .long m26, .int m27, .int m28, .ref ro, .int m30, .ref ct, .ref se, .ref th, .ref cn, .ref be, .int m36, .ref du, .int m38, .ref db, .int m40, .int m41, .int m42, .ref pn, .ref wg, .ref wh, .ref tn, .ref he, .int m48, .ref tr, .ref fd, .ref po, .int m52, .int m53]) hx hb hT zin_X10 tyX10_ok nmX10 hown hK hw hm_mm hf_mm rfl 0 (by decide) (hT _ kw_1168) rfl rfl rfl (Nat.le_of_ble_eq_true rfl) rfl dX10_all_2 (fun H locs hw => ?_)
  obtain ⟨f1, e_f1⟩ : ∃ z, z = va_up f mm (.inr (10, [.int 0, .ref wd, .ref my, .ref ce, .ref mv, .ref ta, .int m6, .int m7, .int m8, .int m9, .int m10, .long m11, .int m12, .int m13, .int m14, .int m15, .ref li, .ref ha, .ref lw, .ref st, .ref fo, .ref dr, .int m22, .ref ik, .int m24, .int m25, .long m26, .int m27, .int m28, .ref ro, .int m30, .ref ct, .ref se, .ref th, .ref cn, .ref be, .int m36, .ref du, .int m38, .ref db, .int m40, .int m41, .int m42, .ref pn, .ref wg, .ref wh, .ref tn, .ref he, .int m48, .ref tr, .ref fd, .ref po, .int m52, .int m53])) := ⟨_, rfl⟩
  rw [← e_f1] at hw
  have hf_ha : f1 ha = .inl (cy 1, 30, .inl gha) := (congrFun e_f1 ha).trans (z_up_ne (z_tne hf_ha hf_mm (m := 340) (n := 10) rfl rfl (by decide)) hf_ha)
  have hf_dr : f1 dr = .inl (cy 1, 520, .inl gdr) := (congrFun e_f1 dr).trans (z_up_ne (z_tne hf_dr hf_mm (m := 4260) (n := 10) rfl rfl (by decide)) hf_dr)
  have hf_ro : f1 ro = .inl (cy 1, 13, .inl gro) := (congrFun e_f1 ro).trans (z_up_ne (z_tne hf_ro hf_mm (m := 204) (n := 10) rfl rfl (by decide)) hf_ro)
  have hf_lw : f1 lw = .inl (cy 1, 25, .inl glw) := (congrFun e_f1 lw).trans (z_up_ne (z_tne hf_lw hf_mm (m := 300) (n := 10) rfl rfl (by decide)) hf_lw)
  have hf_st : f1 st = .inl (cy 1, 20, .inl gst) := (congrFun e_f1 st).trans (z_up_ne (z_tne hf_st hf_mm (m := 260) (n := 10) rfl rfl (by decide)) hf_st)
  have hf_ct : f1 ct = .inl (cy 1, 4, .inl gct) := (congrFun e_f1 ct).trans (z_up_ne (z_tne hf_ct hf_mm (m := 132) (n := 10) rfl rfl (by decide)) hf_ct)
  have hf_se : f1 se = .inl (cy 1, 36, .inl gse) := (congrFun e_f1 se).trans (z_up_ne (z_tne hf_se hf_mm (m := 388) (n := 10) rfl rfl (by decide)) hf_se)
  have hf_th : f1 th = .inl (cy 1, 36, .inl gth) := (congrFun e_f1 th).trans (z_up_ne (z_tne hf_th hf_mm (m := 388) (n := 10) rfl rfl (by decide)) hf_th)
  have hf_cn : f1 cn = .inl (cy 1, 36, .inl gcn) := (congrFun e_f1 cn).trans (z_up_ne (z_tne hf_cn hf_mm (m := 388) (n := 10) rfl rfl (by decide)) hf_cn)
  have hf_db : f1 db = .inl (cy 1, 5, .inl gdb) := (congrFun e_f1 db).trans (z_up_ne (z_tne hf_db hf_mm (m := 140) (n := 10) rfl rfl (by decide)) hf_db)
  have hf_be : f1 be = .inl (cy 1, 2574, .inl gbe) := (congrFun e_f1 be).trans (z_up_ne (z_tne hf_be hf_mm (m := 20692) (n := 10) rfl rfl (by decide)) hf_be)
  have hf_du : f1 du = .inl (cy 1, 5200, .inl gdu) := (congrFun e_f1 du).trans (z_up_ne (z_tne hf_du hf_mm (m := 41700) (n := 10) rfl rfl (by decide)) hf_du)
  have hf_fo : f1 fo = .inl (cy 1, 180, .inl gfo) := (congrFun e_f1 fo).trans (z_up_ne (z_tne hf_fo hf_mm (m := 1540) (n := 10) rfl rfl (by decide)) hf_fo)
  have hf_li : f1 li = .inl (cy 1, 5, .inl gli) := (congrFun e_f1 li).trans (z_up_ne (z_tne hf_li hf_mm (m := 140) (n := 10) rfl rfl (by decide)) hf_li)
  have hf_mm : f1 mm = .inr (10, [.int 0, .ref wd, .ref my, .ref ce, .ref mv, .ref ta, .int m6, .int m7, .int m8, .int m9, .int m10, .long m11, .int m12, .int m13, .int m14, .int m15, .ref li, .ref ha, .ref lw, .ref st, .ref fo, .ref dr, .int m22, .ref ik, .int m24, .int m25, .long m26, .int m27, .int m28, .ref ro, .int m30, .ref ct, .ref se, .ref th, .ref cn, .ref be, .int m36, .ref du, .int m38, .ref db, .int m40, .int m41, .int m42, .ref pn, .ref wg, .ref wh, .ref tn, .ref he, .int m48, .ref tr, .ref fd, .ref po, .int m52, .int m53]) := (congrFun e_f1 mm).trans z_up_self
  have hfr : ∀ b ∈ L, b ≠ mm → b ≠ ro → b ≠ ct → b ≠ se → b ≠ th → b ≠ cn → b ≠ db → b ≠ be → b ≠ du → b ≠ lw → f1 b = f b := fun b hb h0 h1 h2 h3 h4 h5 h6 h7 h8 h9 => (congrFun e_f1 b).trans (z_up_ne h0 (hfr b hb h0 h1 h2 h3 h4 h5 h6 h7 h8 h9))
  refine lv_aload_n hx hb dX10_all_5 rfl (lv_at hl 0 rfl) ?_
  refine z_calliV (cells := 0) (slots := 0) (b := mm) (As := []) (rest := []) (ci := 10) (q0 := (RX10, TX10, 54)) ⟨hx, hb, hml, hown, hT⟩ (c_X10_isMoor l hm_mm hm_li hf_mm hf_li) (cwV 0 hT (z_goodV (fun _ h => h) kw_1507 kw_1509 kw_54 kw_96 kw_1510) rfl rfl rfl (by decide +kernel) ⟨by decide, by decide⟩) z_mv hKK hK hw hA hm_mm hf_mm rfl rfl rfl hl.1 rfl (Nat.le_of_ble_eq_true rfl) dX10_all_6 ⟨by decide, by decide⟩ (fun r2 u H locs hp hw => ?_)
  obtain ⟨rfl, hp⟩ := hp
  have hw : z_H D vwCl (z_A L sz) s.heap L f1 H locs := hw
  rcases hp with ⟨rfl, h3⟩ | ⟨rfl, h3⟩
  · skip
    refine z_if_eq (tgt := 24) hx hb (show (1 : Int32).toInt = 1 by decide) dX10_all_9 (by decide) (fun h => absurd h (by decide)) (fun _ => ?_)
    refine lv_iload_n hx hb dX10_all_12 rfl (lv_at hl 1 rfl) ?_
    refine lv_i2l hx hb dX10_all_13 rfl ?_
    refine lv_topl (fun w4 e_w4 => ?_)
    have i_w4 : w4.toInt = wt.toInt := z_i2l e_w4 rfl
    refine lv_lconst (v := 0) hx hb dX10_all_14 (by decide) ?_
    refine lv_ldc2 (v := 3) hx hb hown (hT _ kw_1338) dX10_all_15 ?_
    have hz5 := (show (0 : Int64).toInt = 0 by decide)
    have hz6 := (show (3 : Int64).toInt = 3 by decide)
    refine z_calliS (cells := 0) (slots := 0) (As := [.long w4, .long 0, .long 3]) (rest := []) ⟨hx, hb, hml, hown, hT⟩ (c_X10_in l ) (va_cwS 3 hT (z_goodS (fun _ h => h) kw_1339 kw_1340 kw_96 kw_1341) rfl rfl rfl (by decide +kernel) ⟨by decide, by decide⟩) z_mv hKK hw hA rfl hl.1 rfl (Nat.le_of_ble_eq_true rfl) dX10_all_18 ⟨by decide, by decide⟩ (fun r7 u H locs hp hw => ?_)
    obtain ⟨rfl, hp⟩ := hp
    have hw : z_H D vwCl (z_A L sz) s.heap L f1 H locs := hw
    rcases hp with ⟨rfl, h8⟩ | ⟨rfl, h8⟩
    · skip
      refine z_if_ne (tgt := 27) hx hb (show (1 : Int32).toInt = 1 by decide) dX10_all_21 (by decide) (fun _ => ?_) (fun h => absurd h (by decide))
      refine lv_aload_n hx hb dX10_all_27 rfl (lv_at hl 0 rfl) ?_
      refine z_get (C := RX10) (T := TX10) (N := 54) (ci := 10) (v := .ref lw) hx hb hT zin_X10 hown hK hw hm_mm hf_mm rfl 18 (by decide) (hT _ kw_1186) rfl dX10_all_28 ?_
      refine lv_iconst (v := 0) hx hb dX10_all_31 (by decide) ?_
      refine z_iald hx hb hK hw 1 hm_lw hf_lw rfl (z_ix (show (0 : Int32).toInt = 0 by decide) (by decide)) dX10_all_32 ?_
      refine lv_topi (fun w9 e_w9 => ?_)
      have hv_w9 : 0 ≤ w9.toInt ∧ w9.toInt ≤ 999 := by rw [e_w9]; exact hq_lw _
      refine lv_istore_n (lv' := [(2, .int w9), (0, .ref mm), (1, .int wt)]) hx hb dX10_all_33 rfl hl (by decide) rfl (fun ls hl => ?_)
      refine lv_aload_n hx hb dX10_all_34 rfl (lv_at hl 1 rfl) ?_
      refine z_get (C := RX10) (T := TX10) (N := 54) (ci := 10) (v := .ref lw) hx hb hT zin_X10 hown hK hw hm_mm hf_mm rfl 18 (by decide) (hT _ kw_1186) rfl dX10_all_35 ?_
      refine lv_iconst (v := 1) hx hb dX10_all_38 (by decide) ?_
      refine z_iald hx hb hK hw 1 hm_lw hf_lw rfl (z_ix (show (1 : Int32).toInt = 1 by decide) (by decide)) dX10_all_39 ?_
      refine lv_topi (fun w10 e_w10 => ?_)
      have hv_w10 : 0 ≤ w10.toInt ∧ w10.toInt ≤ 999 := by rw [e_w10]; exact hq_lw _
      refine lv_istore_n (lv' := [(3, .int w10), (2, .int w9), (0, .ref mm), (1, .int wt)]) hx hb dX10_all_40 rfl hl (by decide) rfl (fun ls hl => ?_)
      refine lv_aload_n hx hb dX10_all_41 rfl (lv_at hl 2 rfl) ?_
      refine z_get (C := RX10) (T := TX10) (N := 54) (ci := 10) (v := .ref lw) hx hb hT zin_X10 hown hK hw hm_mm hf_mm rfl 18 (by decide) (hT _ kw_1186) rfl dX10_all_42 ?_
      refine lv_iconst (v := 0) hx hb dX10_all_45 (by decide) ?_
      refine lv_iload_n hx hb dX10_all_46 rfl (lv_at hl 3 rfl) ?_
      refine lv_iconst (v := 2) hx hb dX10_all_47 (by decide) ?_
      refine lv_idiv hx hb dX10_all_48 (by decide) ?_
      refine lv_topi (fun w11 e_w11 => ?_)
      have i_w11 : w11.toInt = wt.toInt / 2 := z_div e_w11 rfl (show (2 : Int32).toInt = 2 by decide) (by omega)
      refine z_iast hx hb hK hw 1 hm_lw hf_lw rfl (z_ix (show (0 : Int32).toInt = 0 by decide) (by decide)) dX10_all_49 (fun H locs hw => ?_)
      obtain ⟨f13, e_f13⟩ : ∃ z, z = va_up f1 lw (.inl (cy 1, 25, .inl (upd glw (0 : Int32).toNatClampNeg w11))) := ⟨_, rfl⟩
      rw [← e_f13] at hw
      have hf_mm : f13 mm = .inr (10, [.int 0, .ref wd, .ref my, .ref ce, .ref mv, .ref ta, .int m6, .int m7, .int m8, .int m9, .int m10, .long m11, .int m12, .int m13, .int m14, .int m15, .ref li, .ref ha, .ref lw, .ref st, .ref fo, .ref dr, .int m22, .ref ik, .int m24, .int m25, .long m26, .int m27, .int m28, .ref ro, .int m30, .ref ct, .ref se, .ref th, .ref cn, .ref be, .int m36, .ref du, .int m38, .ref db, .int m40, .int m41, .int m42, .ref pn, .ref wg, .ref wh, .ref tn, .ref he, .int m48, .ref tr, .ref fd, .ref po, .int m52, .int m53]) := (congrFun e_f13 mm).trans (z_up_ne (z_tne hf_mm hf_lw (m := 10) (n := 300) rfl rfl (by decide)) hf_mm)
      have hf_ha : f13 ha = .inl (cy 1, 30, .inl gha) := (congrFun e_f13 ha).trans (z_up_ne (z_tne hf_ha hf_lw (m := 340) (n := 300) rfl rfl (by decide)) hf_ha)
      have hf_dr : f13 dr = .inl (cy 1, 520, .inl gdr) := (congrFun e_f13 dr).trans (z_up_ne (z_tne hf_dr hf_lw (m := 4260) (n := 300) rfl rfl (by decide)) hf_dr)
      have hf_ro : f13 ro = .inl (cy 1, 13, .inl gro) := (congrFun e_f13 ro).trans (z_up_ne (z_tne hf_ro hf_lw (m := 204) (n := 300) rfl rfl (by decide)) hf_ro)
      have hf_st : f13 st = .inl (cy 1, 20, .inl gst) := (congrFun e_f13 st).trans (z_up_ne (z_tne hf_st hf_lw (m := 260) (n := 300) rfl rfl (by decide)) hf_st)
      have hf_ct : f13 ct = .inl (cy 1, 4, .inl gct) := (congrFun e_f13 ct).trans (z_up_ne (z_tne hf_ct hf_lw (m := 132) (n := 300) rfl rfl (by decide)) hf_ct)
      have hf_se : f13 se = .inl (cy 1, 36, .inl gse) := (congrFun e_f13 se).trans (z_up_ne (z_tne hf_se hf_lw (m := 388) (n := 300) rfl rfl (by decide)) hf_se)
      have hf_th : f13 th = .inl (cy 1, 36, .inl gth) := (congrFun e_f13 th).trans (z_up_ne (z_tne hf_th hf_lw (m := 388) (n := 300) rfl rfl (by decide)) hf_th)
      have hf_cn : f13 cn = .inl (cy 1, 36, .inl gcn) := (congrFun e_f13 cn).trans (z_up_ne (z_tne hf_cn hf_lw (m := 388) (n := 300) rfl rfl (by decide)) hf_cn)
      have hf_db : f13 db = .inl (cy 1, 5, .inl gdb) := (congrFun e_f13 db).trans (z_up_ne (z_tne hf_db hf_lw (m := 140) (n := 300) rfl rfl (by decide)) hf_db)
      have hf_be : f13 be = .inl (cy 1, 2574, .inl gbe) := (congrFun e_f13 be).trans (z_up_ne (z_tne hf_be hf_lw (m := 20692) (n := 300) rfl rfl (by decide)) hf_be)
      have hf_du : f13 du = .inl (cy 1, 5200, .inl gdu) := (congrFun e_f13 du).trans (z_up_ne (z_tne hf_du hf_lw (m := 41700) (n := 300) rfl rfl (by decide)) hf_du)
      have hf_fo : f13 fo = .inl (cy 1, 180, .inl gfo) := (congrFun e_f13 fo).trans (z_up_ne (z_tne hf_fo hf_lw (m := 1540) (n := 300) rfl rfl (by decide)) hf_fo)
      have hf_li : f13 li = .inl (cy 1, 5, .inl gli) := (congrFun e_f13 li).trans (z_up_ne (z_tne hf_li hf_lw (m := 140) (n := 300) rfl rfl (by decide)) hf_li)
      have hf_lw : f13 lw = .inl (cy 1, 25, .inl (upd glw (0 : Int32).toNatClampNeg w11)) := (congrFun e_f13 lw).trans z_up_self
      have hfr : ∀ b ∈ L, b ≠ mm → b ≠ ro → b ≠ ct → b ≠ se → b ≠ th → b ≠ cn → b ≠ db → b ≠ be → b ≠ du → b ≠ lw → f13 b = f b := fun b hb h0 h1 h2 h3 h4 h5 h6 h7 h8 h9 => (congrFun e_f13 b).trans (z_up_ne h9 (hfr b hb h0 h1 h2 h3 h4 h5 h6 h7 h8 h9))
      obtain ⟨g12, e_g12⟩ : ∃ z, z = (upd glw (0 : Int32).toNatClampNeg w11) := ⟨_, rfl⟩
      rw [← e_g12] at hf_lw
      have hq_lw : ∀ j : Nat, q_law j (g12 j) := z_updQ hq_lw e_g12 (show 0 ≤ (w11 : Int32).toInt ∧ (w11 : Int32).toInt ≤ 999 by first | decide | omega)
      have hea := z_ea_law hea e_g12 (Or.inl (by decide))
      refine lv_aload_n hx hb dX10_all_50 rfl (lv_at hl 2 rfl) ?_
      refine z_get (C := RX10) (T := TX10) (N := 54) (ci := 10) (v := .ref lw) hx hb hT zin_X10 hown hK hw hm_mm hf_mm rfl 18 (by decide) (hT _ kw_1186) rfl dX10_all_51 ?_
      refine lv_iconst (v := 1) hx hb dX10_all_54 (by decide) ?_
      refine lv_iload_n hx hb dX10_all_55 rfl (lv_at hl 3 rfl) ?_
      refine lv_iconst (v := 2) hx hb dX10_all_56 (by decide) ?_
      refine lv_irem hx hb dX10_all_57 (by decide) ?_
      refine lv_topi (fun w14 e_w14 => ?_)
      have i_w14 : w14.toInt = (wt.toInt % 2) := z_remI e_w14 rfl (show (2 : Int32).toInt = 2 by decide) (by omega)
      refine z_iast hx hb hK hw 1 hm_lw hf_lw rfl (z_ix (show (1 : Int32).toInt = 1 by decide) (by decide)) dX10_all_58 (fun H locs hw => ?_)
      obtain ⟨f16, e_f16⟩ : ∃ z, z = va_up f13 lw (.inl (cy 1, 25, .inl (upd g12 (1 : Int32).toNatClampNeg w14))) := ⟨_, rfl⟩
      rw [← e_f16] at hw
      have hf_mm : f16 mm = .inr (10, [.int 0, .ref wd, .ref my, .ref ce, .ref mv, .ref ta, .int m6, .int m7, .int m8, .int m9, .int m10, .long m11, .int m12, .int m13, .int m14, .int m15, .ref li, .ref ha, .ref lw, .ref st, .ref fo, .ref dr, .int m22, .ref ik, .int m24, .int m25, .long m26, .int m27, .int m28, .ref ro, .int m30, .ref ct, .ref se, .ref th, .ref cn, .ref be, .int m36, .ref du, .int m38, .ref db, .int m40, .int m41, .int m42, .ref pn, .ref wg, .ref wh, .ref tn, .ref he, .int m48, .ref tr, .ref fd, .ref po, .int m52, .int m53]) := (congrFun e_f16 mm).trans (z_up_ne (z_tne hf_mm hf_lw (m := 10) (n := 300) rfl rfl (by decide)) hf_mm)
      have hf_ha : f16 ha = .inl (cy 1, 30, .inl gha) := (congrFun e_f16 ha).trans (z_up_ne (z_tne hf_ha hf_lw (m := 340) (n := 300) rfl rfl (by decide)) hf_ha)
      have hf_dr : f16 dr = .inl (cy 1, 520, .inl gdr) := (congrFun e_f16 dr).trans (z_up_ne (z_tne hf_dr hf_lw (m := 4260) (n := 300) rfl rfl (by decide)) hf_dr)
      have hf_ro : f16 ro = .inl (cy 1, 13, .inl gro) := (congrFun e_f16 ro).trans (z_up_ne (z_tne hf_ro hf_lw (m := 204) (n := 300) rfl rfl (by decide)) hf_ro)
      have hf_st : f16 st = .inl (cy 1, 20, .inl gst) := (congrFun e_f16 st).trans (z_up_ne (z_tne hf_st hf_lw (m := 260) (n := 300) rfl rfl (by decide)) hf_st)
      have hf_ct : f16 ct = .inl (cy 1, 4, .inl gct) := (congrFun e_f16 ct).trans (z_up_ne (z_tne hf_ct hf_lw (m := 132) (n := 300) rfl rfl (by decide)) hf_ct)
      have hf_se : f16 se = .inl (cy 1, 36, .inl gse) := (congrFun e_f16 se).trans (z_up_ne (z_tne hf_se hf_lw (m := 388) (n := 300) rfl rfl (by decide)) hf_se)
      have hf_th : f16 th = .inl (cy 1, 36, .inl gth) := (congrFun e_f16 th).trans (z_up_ne (z_tne hf_th hf_lw (m := 388) (n := 300) rfl rfl (by decide)) hf_th)
      have hf_cn : f16 cn = .inl (cy 1, 36, .inl gcn) := (congrFun e_f16 cn).trans (z_up_ne (z_tne hf_cn hf_lw (m := 388) (n := 300) rfl rfl (by decide)) hf_cn)
      have hf_db : f16 db = .inl (cy 1, 5, .inl gdb) := (congrFun e_f16 db).trans (z_up_ne (z_tne hf_db hf_lw (m := 140) (n := 300) rfl rfl (by decide)) hf_db)
      have hf_be : f16 be = .inl (cy 1, 2574, .inl gbe) := (congrFun e_f16 be).trans (z_up_ne (z_tne hf_be hf_lw (m := 20692) (n := 300) rfl rfl (by decide)) hf_be)
      have hf_du : f16 du = .inl (cy 1, 5200, .inl gdu) := (congrFun e_f16 du).trans (z_up_ne (z_tne hf_du hf_lw (m := 41700) (n := 300) rfl rfl (by decide)) hf_du)
      have hf_fo : f16 fo = .inl (cy 1, 180, .inl gfo) := (congrFun e_f16 fo).trans (z_up_ne (z_tne hf_fo hf_lw (m := 1540) (n := 300) rfl rfl (by decide)) hf_fo)
      have hf_li : f16 li = .inl (cy 1, 5, .inl gli) := (congrFun e_f16 li).trans (z_up_ne (z_tne hf_li hf_lw (m := 140) (n := 300) rfl rfl (by decide)) hf_li)
      have hf_lw : f16 lw = .inl (cy 1, 25, .inl (upd g12 (1 : Int32).toNatClampNeg w14)) := (congrFun e_f16 lw).trans z_up_self
      have hfr : ∀ b ∈ L, b ≠ mm → b ≠ ro → b ≠ ct → b ≠ se → b ≠ th → b ≠ cn → b ≠ db → b ≠ be → b ≠ du → b ≠ lw → f16 b = f b := fun b hb h0 h1 h2 h3 h4 h5 h6 h7 h8 h9 => (congrFun e_f16 b).trans (z_up_ne h9 (hfr b hb h0 h1 h2 h3 h4 h5 h6 h7 h8 h9))
      obtain ⟨g15, e_g15⟩ : ∃ z, z = (upd g12 (1 : Int32).toNatClampNeg w14) := ⟨_, rfl⟩
      rw [← e_g15] at hf_lw
      have hq_lw : ∀ j : Nat, q_law j (g15 j) := z_updQ hq_lw e_g15 (show 0 ≤ (w14 : Int32).toInt ∧ (w14 : Int32).toInt ≤ 999 by first | decide | omega)
      have hea := z_ea_law hea e_g15 (Or.inl (by decide))
      refine lv_aload_n hx hb dX10_all_59 rfl (lv_at hl 2 rfl) ?_
      refine z_callvV (cells := 0) (slots := 0) (b := mm) (As := []) (rest := []) (ci := 10) (q0 := (RX10, TX10, 54)) ⟨hx, hb, hml, hown, hT⟩ (c_X10_asTold l hm_mm hm_ha hm_dr hm_ro hm_lw hm_st hm_ct hm_se hm_th hm_cn hm_db hm_be hm_du hm_fo hf_mm hf_ha hf_dr hf_ro hf_lw hf_st hf_ct hf_se hf_th hf_cn hf_db hf_be hf_du hf_fo ne_se_th ne_se_cn ne_th_cn hq_ha hq_dr hq_ro hq_lw hq_st hq_ct hq_be hq_du (by first | omega | decide | assumption) hea) (cwV 0 hT (z_goodV (fun _ h => h) kw_1587 kw_1589 kw_68 kw_96 kw_1590) rfl rfl rfl (by decide +kernel) ⟨by decide, by decide⟩) z_mv hKK hK hw hA hm_mm hf_mm rfl rfl rfl hl.1 rfl (Nat.le_of_ble_eq_true rfl) dX10_all_60 ⟨by decide, by decide⟩ (fun u H locs hp hw => ?_)
      obtain ⟨L17, f18⟩ := u
      obtain ⟨hsb, hfm, mn2_19, n2_20, d2_21, y2_22, x2_23, nro_24, nct_25, nse_26, nth_27, ncn_28, ndb_29, nbe_30, ndu_31, ha_0, ha_1, ha_2, ha_3, ha_4, ha_5, ha_6, ha_7, ha_8, hq_ro, hq_ct, hq_be, hq_du, hp⟩ := hp
      have hsb : L = L17 := hsb
      subst hsb
      have hsb : ∀ b ∈ L, b ∈ L := fun _ h => h
      have hw : z_H D vwCl (z_A L sz) s.heap L f18 H locs := hw
      have hfr : ∀ b ∈ L, b ≠ mm → b ≠ ro → b ≠ ct → b ≠ se → b ≠ th → b ≠ cn → b ≠ db → b ≠ be → b ≠ du → b ≠ lw → f18 b = f b := fun b hb h0 h1 h2 h3 h4 h5 h6 h7 h8 h9 => (hfm b hb h0 h1 h2 h3 h4 h5 h6 h7 h8).trans (hfr b hb h0 h1 h2 h3 h4 h5 h6 h7 h8 h9)
      have hf_ha : f18 ha = .inl (cy 1, 30, .inl gha) := (hfm ha hm_ha (z_tne hf_ha hf_mm (m := 340) (n := 10) rfl rfl (by decide)) (z_tne hf_ha hf_ro (m := 340) (n := 204) rfl rfl (by decide)) (z_tne hf_ha hf_ct (m := 340) (n := 132) rfl rfl (by decide)) (z_tne hf_ha hf_se (m := 340) (n := 388) rfl rfl (by decide)) (z_tne hf_ha hf_th (m := 340) (n := 388) rfl rfl (by decide)) (z_tne hf_ha hf_cn (m := 340) (n := 388) rfl rfl (by decide)) (z_tne hf_ha hf_db (m := 340) (n := 140) rfl rfl (by decide)) (z_tne hf_ha hf_be (m := 340) (n := 20692) rfl rfl (by decide)) (z_tne hf_ha hf_du (m := 340) (n := 41700) rfl rfl (by decide))).trans hf_ha
      have hf_dr : f18 dr = .inl (cy 1, 520, .inl gdr) := (hfm dr hm_dr (z_tne hf_dr hf_mm (m := 4260) (n := 10) rfl rfl (by decide)) (z_tne hf_dr hf_ro (m := 4260) (n := 204) rfl rfl (by decide)) (z_tne hf_dr hf_ct (m := 4260) (n := 132) rfl rfl (by decide)) (z_tne hf_dr hf_se (m := 4260) (n := 388) rfl rfl (by decide)) (z_tne hf_dr hf_th (m := 4260) (n := 388) rfl rfl (by decide)) (z_tne hf_dr hf_cn (m := 4260) (n := 388) rfl rfl (by decide)) (z_tne hf_dr hf_db (m := 4260) (n := 140) rfl rfl (by decide)) (z_tne hf_dr hf_be (m := 4260) (n := 20692) rfl rfl (by decide)) (z_tne hf_dr hf_du (m := 4260) (n := 41700) rfl rfl (by decide))).trans hf_dr
      have hf_lw : f18 lw = .inl (cy 1, 25, .inl g15) := (hfm lw hm_lw (z_tne hf_lw hf_mm (m := 300) (n := 10) rfl rfl (by decide)) (z_tne hf_lw hf_ro (m := 300) (n := 204) rfl rfl (by decide)) (z_tne hf_lw hf_ct (m := 300) (n := 132) rfl rfl (by decide)) (z_tne hf_lw hf_se (m := 300) (n := 388) rfl rfl (by decide)) (z_tne hf_lw hf_th (m := 300) (n := 388) rfl rfl (by decide)) (z_tne hf_lw hf_cn (m := 300) (n := 388) rfl rfl (by decide)) (z_tne hf_lw hf_db (m := 300) (n := 140) rfl rfl (by decide)) (z_tne hf_lw hf_be (m := 300) (n := 20692) rfl rfl (by decide)) (z_tne hf_lw hf_du (m := 300) (n := 41700) rfl rfl (by decide))).trans hf_lw
      have hf_st : f18 st = .inl (cy 1, 20, .inl gst) := (hfm st hm_st (z_tne hf_st hf_mm (m := 260) (n := 10) rfl rfl (by decide)) (z_tne hf_st hf_ro (m := 260) (n := 204) rfl rfl (by decide)) (z_tne hf_st hf_ct (m := 260) (n := 132) rfl rfl (by decide)) (z_tne hf_st hf_se (m := 260) (n := 388) rfl rfl (by decide)) (z_tne hf_st hf_th (m := 260) (n := 388) rfl rfl (by decide)) (z_tne hf_st hf_cn (m := 260) (n := 388) rfl rfl (by decide)) (z_tne hf_st hf_db (m := 260) (n := 140) rfl rfl (by decide)) (z_tne hf_st hf_be (m := 260) (n := 20692) rfl rfl (by decide)) (z_tne hf_st hf_du (m := 260) (n := 41700) rfl rfl (by decide))).trans hf_st
      have hf_fo : f18 fo = .inl (cy 1, 180, .inl gfo) := (hfm fo hm_fo (z_tne hf_fo hf_mm (m := 1540) (n := 10) rfl rfl (by decide)) (z_tne hf_fo hf_ro (m := 1540) (n := 204) rfl rfl (by decide)) (z_tne hf_fo hf_ct (m := 1540) (n := 132) rfl rfl (by decide)) (z_tne hf_fo hf_se (m := 1540) (n := 388) rfl rfl (by decide)) (z_tne hf_fo hf_th (m := 1540) (n := 388) rfl rfl (by decide)) (z_tne hf_fo hf_cn (m := 1540) (n := 388) rfl rfl (by decide)) (z_tne hf_fo hf_db (m := 1540) (n := 140) rfl rfl (by decide)) (z_tne hf_fo hf_be (m := 1540) (n := 20692) rfl rfl (by decide)) (z_tne hf_fo hf_du (m := 1540) (n := 41700) rfl rfl (by decide))).trans hf_fo
      have hf_li : f18 li = .inl (cy 1, 5, .inl gli) := (hfm li hm_li (z_tne hf_li hf_mm (m := 140) (n := 10) rfl rfl (by decide)) (z_tne hf_li hf_ro (m := 140) (n := 204) rfl rfl (by decide)) (z_tne hf_li hf_ct (m := 140) (n := 132) rfl rfl (by decide)) (z_tne hf_li hf_se (m := 140) (n := 388) rfl rfl (by decide)) (z_tne hf_li hf_th (m := 140) (n := 388) rfl rfl (by decide)) (z_tne hf_li hf_cn (m := 140) (n := 388) rfl rfl (by decide)) (Ne.symm ne_db_li) (z_tne hf_li hf_be (m := 140) (n := 20692) rfl rfl (by decide)) (z_tne hf_li hf_du (m := 140) (n := 41700) rfl rfl (by decide))).trans hf_li
      have hf_mm : f18 mm = .inr (10, [.int 0, .ref wd, .ref my, .ref ce, .ref mv, .ref ta, .int m6, .int m7, .int m8, .int m9, .int m10, .long m11, .int m12, .int m13, .int m14, .int m15, .ref li, .ref ha, .ref lw, .ref st, .ref fo, .ref dr, .int m22, .ref ik, .int (-1), .int mn2_19, .long x2_23, .int 0, .int 1000, .ref ro, .int n2_20, .ref ct, .ref se, .ref th, .ref cn, .ref be, .int y2_22, .ref du, .int d2_21, .ref db, .int m40, .int m41, .int m42, .ref pn, .ref wg, .ref wh, .ref tn, .ref he, .int m48, .ref tr, .ref fd, .ref po, .int m52, .int m53]) := ha_0
      have hf_ro : f18 ro = .inl (cy 1, 13, .inl nro_24) := ha_1
      have hf_ct : f18 ct = .inl (cy 1, 4, .inl nct_25) := ha_2
      have hf_se : f18 se = .inl (cy 1, 36, .inl nse_26) := ha_3
      have hf_th : f18 th = .inl (cy 1, 36, .inl nth_27) := ha_4
      have hf_cn : f18 cn = .inl (cy 1, 36, .inl ncn_28) := ha_5
      have hf_db : f18 db = .inl (cy 1, 5, .inl ndb_29) := ha_6
      have hf_be : f18 be = .inl (cy 1, 2574, .inl nbe_30) := ha_7
      have hf_du : f18 du = .inl (cy 1, 5200, .inl ndu_31) := ha_8
      have hto := hp
      refine lv_aload_n hx hb dX10_all_63 rfl (lv_at hl 2 rfl) ?_
      refine z_get (C := RX10) (T := TX10) (N := 54) (ci := 10) (v := .ref lw) hx hb hT zin_X10 hown hK hw hm_mm hf_mm rfl 18 (by decide) (hT _ kw_1186) rfl dX10_all_64 ?_
      refine lv_iconst (v := 0) hx hb dX10_all_67 (by decide) ?_
      refine lv_iload_n hx hb dX10_all_68 rfl (lv_at hl 1 rfl) ?_
      refine z_iast hx hb hK hw 1 hm_lw hf_lw rfl (z_ix (show (0 : Int32).toInt = 0 by decide) (by decide)) dX10_all_69 (fun H locs hw => ?_)
      obtain ⟨f33, e_f33⟩ : ∃ z, z = va_up f18 lw (.inl (cy 1, 25, .inl (upd g15 (0 : Int32).toNatClampNeg w9))) := ⟨_, rfl⟩
      rw [← e_f33] at hw
      have hf_mm : f33 mm = .inr (10, [.int 0, .ref wd, .ref my, .ref ce, .ref mv, .ref ta, .int m6, .int m7, .int m8, .int m9, .int m10, .long m11, .int m12, .int m13, .int m14, .int m15, .ref li, .ref ha, .ref lw, .ref st, .ref fo, .ref dr, .int m22, .ref ik, .int (-1), .int mn2_19, .long x2_23, .int 0, .int 1000, .ref ro, .int n2_20, .ref ct, .ref se, .ref th, .ref cn, .ref be, .int y2_22, .ref du, .int d2_21, .ref db, .int m40, .int m41, .int m42, .ref pn, .ref wg, .ref wh, .ref tn, .ref he, .int m48, .ref tr, .ref fd, .ref po, .int m52, .int m53]) := (congrFun e_f33 mm).trans (z_up_ne (z_tne hf_mm hf_lw (m := 10) (n := 300) rfl rfl (by decide)) hf_mm)
      have hf_ha : f33 ha = .inl (cy 1, 30, .inl gha) := (congrFun e_f33 ha).trans (z_up_ne (z_tne hf_ha hf_lw (m := 340) (n := 300) rfl rfl (by decide)) hf_ha)
      have hf_dr : f33 dr = .inl (cy 1, 520, .inl gdr) := (congrFun e_f33 dr).trans (z_up_ne (z_tne hf_dr hf_lw (m := 4260) (n := 300) rfl rfl (by decide)) hf_dr)
      have hf_ro : f33 ro = .inl (cy 1, 13, .inl nro_24) := (congrFun e_f33 ro).trans (z_up_ne (z_tne hf_ro hf_lw (m := 204) (n := 300) rfl rfl (by decide)) hf_ro)
      have hf_st : f33 st = .inl (cy 1, 20, .inl gst) := (congrFun e_f33 st).trans (z_up_ne (z_tne hf_st hf_lw (m := 260) (n := 300) rfl rfl (by decide)) hf_st)
      have hf_ct : f33 ct = .inl (cy 1, 4, .inl nct_25) := (congrFun e_f33 ct).trans (z_up_ne (z_tne hf_ct hf_lw (m := 132) (n := 300) rfl rfl (by decide)) hf_ct)
      have hf_se : f33 se = .inl (cy 1, 36, .inl nse_26) := (congrFun e_f33 se).trans (z_up_ne (z_tne hf_se hf_lw (m := 388) (n := 300) rfl rfl (by decide)) hf_se)
      have hf_th : f33 th = .inl (cy 1, 36, .inl nth_27) := (congrFun e_f33 th).trans (z_up_ne (z_tne hf_th hf_lw (m := 388) (n := 300) rfl rfl (by decide)) hf_th)
      have hf_cn : f33 cn = .inl (cy 1, 36, .inl ncn_28) := (congrFun e_f33 cn).trans (z_up_ne (z_tne hf_cn hf_lw (m := 388) (n := 300) rfl rfl (by decide)) hf_cn)
      have hf_db : f33 db = .inl (cy 1, 5, .inl ndb_29) := (congrFun e_f33 db).trans (z_up_ne (z_tne hf_db hf_lw (m := 140) (n := 300) rfl rfl (by decide)) hf_db)
      have hf_be : f33 be = .inl (cy 1, 2574, .inl nbe_30) := (congrFun e_f33 be).trans (z_up_ne (z_tne hf_be hf_lw (m := 20692) (n := 300) rfl rfl (by decide)) hf_be)
      have hf_du : f33 du = .inl (cy 1, 5200, .inl ndu_31) := (congrFun e_f33 du).trans (z_up_ne (z_tne hf_du hf_lw (m := 41700) (n := 300) rfl rfl (by decide)) hf_du)
      have hf_fo : f33 fo = .inl (cy 1, 180, .inl gfo) := (congrFun e_f33 fo).trans (z_up_ne (z_tne hf_fo hf_lw (m := 1540) (n := 300) rfl rfl (by decide)) hf_fo)
      have hf_li : f33 li = .inl (cy 1, 5, .inl gli) := (congrFun e_f33 li).trans (z_up_ne (z_tne hf_li hf_lw (m := 140) (n := 300) rfl rfl (by decide)) hf_li)
      have hf_lw : f33 lw = .inl (cy 1, 25, .inl (upd g15 (0 : Int32).toNatClampNeg w9)) := (congrFun e_f33 lw).trans z_up_self
      have hfr : ∀ b ∈ L, b ≠ mm → b ≠ ro → b ≠ ct → b ≠ se → b ≠ th → b ≠ cn → b ≠ db → b ≠ be → b ≠ du → b ≠ lw → f33 b = f b := fun b hb h0 h1 h2 h3 h4 h5 h6 h7 h8 h9 => (congrFun e_f33 b).trans (z_up_ne h9 (hfr b hb h0 h1 h2 h3 h4 h5 h6 h7 h8 h9))
      obtain ⟨g32, e_g32⟩ : ∃ z, z = (upd g15 (0 : Int32).toNatClampNeg w9) := ⟨_, rfl⟩
      rw [← e_g32] at hf_lw
      have hq_lw : ∀ j : Nat, q_law j (g32 j) := z_updQ hq_lw e_g32 (show 0 ≤ (w9 : Int32).toInt ∧ (w9 : Int32).toInt ≤ 999 by first | decide | omega)
      have hea := z_ea_law hea e_g32 (Or.inl (by decide))
      refine lv_aload_n hx hb dX10_all_70 rfl (lv_at hl 2 rfl) ?_
      refine z_get (C := RX10) (T := TX10) (N := 54) (ci := 10) (v := .ref lw) hx hb hT zin_X10 hown hK hw hm_mm hf_mm rfl 18 (by decide) (hT _ kw_1186) rfl dX10_all_71 ?_
      refine lv_iconst (v := 1) hx hb dX10_all_74 (by decide) ?_
      refine lv_iload_n hx hb dX10_all_75 rfl (lv_at hl 0 rfl) ?_
      refine z_iast hx hb hK hw 1 hm_lw hf_lw rfl (z_ix (show (1 : Int32).toInt = 1 by decide) (by decide)) dX10_all_76 (fun H locs hw => ?_)
      obtain ⟨f35, e_f35⟩ : ∃ z, z = va_up f33 lw (.inl (cy 1, 25, .inl (upd g32 (1 : Int32).toNatClampNeg w10))) := ⟨_, rfl⟩
      rw [← e_f35] at hw
      have hf_mm : f35 mm = .inr (10, [.int 0, .ref wd, .ref my, .ref ce, .ref mv, .ref ta, .int m6, .int m7, .int m8, .int m9, .int m10, .long m11, .int m12, .int m13, .int m14, .int m15, .ref li, .ref ha, .ref lw, .ref st, .ref fo, .ref dr, .int m22, .ref ik, .int (-1), .int mn2_19, .long x2_23, .int 0, .int 1000, .ref ro, .int n2_20, .ref ct, .ref se, .ref th, .ref cn, .ref be, .int y2_22, .ref du, .int d2_21, .ref db, .int m40, .int m41, .int m42, .ref pn, .ref wg, .ref wh, .ref tn, .ref he, .int m48, .ref tr, .ref fd, .ref po, .int m52, .int m53]) := (congrFun e_f35 mm).trans (z_up_ne (z_tne hf_mm hf_lw (m := 10) (n := 300) rfl rfl (by decide)) hf_mm)
      have hf_ha : f35 ha = .inl (cy 1, 30, .inl gha) := (congrFun e_f35 ha).trans (z_up_ne (z_tne hf_ha hf_lw (m := 340) (n := 300) rfl rfl (by decide)) hf_ha)
      have hf_dr : f35 dr = .inl (cy 1, 520, .inl gdr) := (congrFun e_f35 dr).trans (z_up_ne (z_tne hf_dr hf_lw (m := 4260) (n := 300) rfl rfl (by decide)) hf_dr)
      have hf_ro : f35 ro = .inl (cy 1, 13, .inl nro_24) := (congrFun e_f35 ro).trans (z_up_ne (z_tne hf_ro hf_lw (m := 204) (n := 300) rfl rfl (by decide)) hf_ro)
      have hf_st : f35 st = .inl (cy 1, 20, .inl gst) := (congrFun e_f35 st).trans (z_up_ne (z_tne hf_st hf_lw (m := 260) (n := 300) rfl rfl (by decide)) hf_st)
      have hf_ct : f35 ct = .inl (cy 1, 4, .inl nct_25) := (congrFun e_f35 ct).trans (z_up_ne (z_tne hf_ct hf_lw (m := 132) (n := 300) rfl rfl (by decide)) hf_ct)
      have hf_se : f35 se = .inl (cy 1, 36, .inl nse_26) := (congrFun e_f35 se).trans (z_up_ne (z_tne hf_se hf_lw (m := 388) (n := 300) rfl rfl (by decide)) hf_se)
      have hf_th : f35 th = .inl (cy 1, 36, .inl nth_27) := (congrFun e_f35 th).trans (z_up_ne (z_tne hf_th hf_lw (m := 388) (n := 300) rfl rfl (by decide)) hf_th)
      have hf_cn : f35 cn = .inl (cy 1, 36, .inl ncn_28) := (congrFun e_f35 cn).trans (z_up_ne (z_tne hf_cn hf_lw (m := 388) (n := 300) rfl rfl (by decide)) hf_cn)
      have hf_db : f35 db = .inl (cy 1, 5, .inl ndb_29) := (congrFun e_f35 db).trans (z_up_ne (z_tne hf_db hf_lw (m := 140) (n := 300) rfl rfl (by decide)) hf_db)
      have hf_be : f35 be = .inl (cy 1, 2574, .inl nbe_30) := (congrFun e_f35 be).trans (z_up_ne (z_tne hf_be hf_lw (m := 20692) (n := 300) rfl rfl (by decide)) hf_be)
      have hf_du : f35 du = .inl (cy 1, 5200, .inl ndu_31) := (congrFun e_f35 du).trans (z_up_ne (z_tne hf_du hf_lw (m := 41700) (n := 300) rfl rfl (by decide)) hf_du)
      have hf_fo : f35 fo = .inl (cy 1, 180, .inl gfo) := (congrFun e_f35 fo).trans (z_up_ne (z_tne hf_fo hf_lw (m := 1540) (n := 300) rfl rfl (by decide)) hf_fo)
      have hf_li : f35 li = .inl (cy 1, 5, .inl gli) := (congrFun e_f35 li).trans (z_up_ne (z_tne hf_li hf_lw (m := 140) (n := 300) rfl rfl (by decide)) hf_li)
      have hf_lw : f35 lw = .inl (cy 1, 25, .inl (upd g32 (1 : Int32).toNatClampNeg w10)) := (congrFun e_f35 lw).trans z_up_self
      have hfr : ∀ b ∈ L, b ≠ mm → b ≠ ro → b ≠ ct → b ≠ se → b ≠ th → b ≠ cn → b ≠ db → b ≠ be → b ≠ du → b ≠ lw → f35 b = f b := fun b hb h0 h1 h2 h3 h4 h5 h6 h7 h8 h9 => (congrFun e_f35 b).trans (z_up_ne h9 (hfr b hb h0 h1 h2 h3 h4 h5 h6 h7 h8 h9))
      obtain ⟨g34, e_g34⟩ : ∃ z, z = (upd g32 (1 : Int32).toNatClampNeg w10) := ⟨_, rfl⟩
      rw [← e_g34] at hf_lw
      have hq_lw : ∀ j : Nat, q_law j (g34 j) := z_updQ hq_lw e_g34 (show 0 ≤ (w10 : Int32).toInt ∧ (w10 : Int32).toInt ≤ 999 by first | decide | omega)
      have hea := z_ea_law hea e_g34 (Or.inl (by decide))
      refine lv_aload_n hx hb dX10_all_77 rfl (lv_at hl 2 rfl) ?_
      refine z_get (C := RX10) (T := TX10) (N := 54) (ci := 10) (v := .int d2_21) hx hb hT zin_X10 hown hK hw hm_mm hf_mm rfl 38 (by decide) (hT _ kw_1206) rfl dX10_all_78 ?_
      refine lv_aload_n hx hb dX10_all_81 rfl (lv_at hl 2 rfl) ?_
      refine z_get (C := RX10) (T := TX10) (N := 54) (ci := 10) (v := .ref lw) hx hb hT zin_X10 hown hK hw hm_mm hf_mm rfl 18 (by decide) (hT _ kw_1186) rfl dX10_all_82 ?_
      refine lv_iconst (v := 4) hx hb dX10_all_85 (by decide) ?_
      refine z_iald hx hb hK hw 1 hm_lw hf_lw rfl (z_ix (show (4 : Int32).toInt = 4 by decide) (by decide)) dX10_all_86 ?_
      refine lv_topi (fun w36 e_w36 => ?_)
      have hv_w36 : 0 ≤ w36.toInt ∧ w36.toInt ≤ 999 := by rw [e_w36]; exact hq_lw _
      refine lv_imul hx hb dX10_all_87 ?_
      refine lv_topi (fun w37 e_w37 => ?_)
      exact z_iret hx hb hr hlk (by decide) (by decide) hw (⟨hsub, hfr, (-1), mn2_19, 0, 1000, n2_20, d2_21, y2_22, x2_23, nro_24, nct_25, nse_26, nth_27, ncn_28, ndb_29, nbe_30, ndu_31, g34, hf_mm, hf_ro, hf_ct, hf_se, hf_th, hf_cn, hf_db, hf_be, hf_du, hf_lw, hq_ro, hq_ct, hq_be, hq_du, hq_lw, by omega, hea⟩) dX10_all_88
    · skip
      refine z_if_ne (tgt := 27) hx hb (show (0 : Int32).toInt = 0 by decide) dX10_all_21 (by decide) (fun h => absurd h (by decide)) (fun _ => ?_)
      refine lv_bipush (v := (-2)) hx hb dX10_all_24 (by decide) ?_
      exact z_iret hx hb hr hlk (by decide) (by decide) hw (⟨hsub, hfr, m24, m25, m27, m28, m30, m38, m36, m26, gro, gct, gse, gth, gcn, gdb, gbe, gdu, glw, hf_mm, hf_ro, hf_ct, hf_se, hf_th, hf_cn, hf_db, hf_be, hf_du, hf_lw, hq_ro, hq_ct, hq_be, hq_du, hq_lw, by omega, hea⟩) dX10_all_26
  · skip
    refine z_if_eq (tgt := 24) hx hb (show (0 : Int32).toInt = 0 by decide) dX10_all_9 (by decide) (fun _ => ?_) (fun h => absurd h (by decide))
    refine lv_bipush (v := (-2)) hx hb dX10_all_24 (by decide) ?_
    exact z_iret hx hb hr hlk (by decide) (by decide) hw (⟨hsub, hfr, m24, m25, m27, m28, m30, m38, m36, m26, gro, gct, gse, gth, gcn, gdb, gbe, gdu, glw, hf_mm, hf_ro, hf_ct, hf_se, hf_th, hf_cn, hf_db, hf_be, hf_du, hf_lw, hq_ro, hq_ct, hq_be, hq_du, hq_lw, by omega, hea⟩) dX10_all_26

set_option maxHeartbeats 2000000 in
set_option maxRecDepth 100000 in
theorem c_X10_count (l : Launch) {D : va_G} {cy : Nat → ClassId} {L : List Nat} {f : Nat → va_E} {sz : Nat} {adK adV : Nat → Nat} {mm wd my ce mv ta li ha lw st fo dr ik ro ct se th cn be du db pn wg wh tn he tr fd po : Nat} {m0 m6 m7 m8 m9 m10 m12 m13 m14 m15 m22 m24 m25 m27 m28 m30 m36 m38 m40 m41 m42 m48 m52 m53 : Int32} {m11 m26 : Int64} {gwd gli gha : Nat → Int32}  {wt : Int32} (hm_mm : mm ∈ L) (hm_ha : ha ∈ L) (hm_li : li ∈ L) (hm_wd : wd ∈ L) (hf_mm : f mm = .inr (10, [.int m0, .ref wd, .ref my, .ref ce, .ref mv, .ref ta, .int m6, .int m7, .int m8, .int m9, .int m10, .long m11, .int m12, .int m13, .int m14, .int m15, .ref li, .ref ha, .ref lw, .ref st, .ref fo, .ref dr, .int m22, .ref ik, .int m24, .int m25, .long m26, .int m27, .int m28, .ref ro, .int m30, .ref ct, .ref se, .ref th, .ref cn, .ref be, .int m36, .ref du, .int m38, .ref db, .int m40, .int m41, .int m42, .ref pn, .ref wg, .ref wh, .ref tn, .ref he, .int m48, .ref tr, .ref fd, .ref po, .int m52, .int m53])) (hf_ha : f ha = .inl (cy 1, 30, .inl gha)) (hf_li : f li = .inl (cy 1, 5, .inl gli)) (hf_wd : f wd = .inl (cy 1, 4, .inl gwd)) (hq_ha : ∀ j : Nat, q_has j (gha j)) : Met l yX10_count (z_ws yX10_count cX10_count 4 (some .int)) (z_R 1 0 0) (va_Pc [.ref mm, .int wt] (z_Pre D vwCl (z_KK D cy adK adV) L f sz)) (z_Qi D vwCl (fun r u => L = u.1 ∧ (∀ b ∈ L, b ≠ mm → u.2 b = f b) ∧ ((u.2 mm = .inr (10, [.int 0, .ref wd, .ref my, .ref ce, .ref mv, .ref ta, .int m6, .int m7, .int m8, .int m9, .int m10, .long m11, .int m12, .int m13, .int m14, .int m15, .ref li, .ref ha, .ref lw, .ref st, .ref fo, .ref dr, .int m22, .ref ik, .int m24, .int m25, .long m26, .int m27, .int m28, .ref ro, .int m30, .ref ct, .ref se, .ref th, .ref cn, .ref be, .int m36, .ref du, .int m38, .ref db, .int m40, .int m41, .int m42, .ref pn, .ref wg, .ref wh, .ref tn, .ref he, .int m48, .ref tr, .ref fd, .ref po, .int m52, .int m53])) ∧ (True))) L sz) 0 0 (z_A L sz) := by
  refine z_met (cc := cX10_count) (maxL := 4) (ret := (some .int)) (lv := [(0, .ref mm), (1, .int wt)]) (by decide) rfl (Nat.le_of_ble_eq_true rfl) rfl ?_
  intro p e s m below meth c ls hx hb hr hlk hml hown hnm hts hKK hA hw hl
  have hK := hKK.1.1
  have hown : s.vm.findClass RX10 = some m.cls := hown
  have hT : ∀ w ∈ lw_all, w.before ([.ref mm, .int wt] : List Value).toArray s = true := fun w h => hts w (z_cons w h)
  have hsub : L = L := rfl
  have hfr : ∀ b ∈ L, b ≠ mm → f b = f b := fun _ _ _ => rfl
  refine lv_aload_n hx hb dX10_count_0 rfl (lv_at hl 0 rfl) ?_
  refine lv_iconst (v := 0) hx hb dX10_count_1 (by decide) ?_
  refine z_put (C := RX10) (T := TX10) (N := 54) (ci := 10) (v := .int 0) (fs' := [.int 0, .ref wd, .ref my, .ref ce, .ref mv, .ref ta, .int m6, .int m7, .int m8, .int m9, .int m10, .long m11, .int m12, .int m13, .int m14, .int m15, .ref li, .ref ha, .ref lw, .ref st, .ref fo, .ref dr, .int m22, .ref ik, .int m24, .int m25, .long m26, .int m27, .int m28, .ref ro, .int m30, .ref ct, .ref se, .ref th, .ref cn, .ref be, .int m36, .ref du, .int m38, .ref db, .int m40, .int m41, .int m42, .ref pn, .ref wg, .ref wh, .ref tn, .ref he, .int m48, .ref tr, .ref fd, .ref po, .int m52, .int m53]) hx hb hT zin_X10 tyX10_ok nmX10 hown hK hw hm_mm hf_mm rfl 0 (by decide) (hT _ kw_1168) rfl rfl rfl (Nat.le_of_ble_eq_true rfl) rfl dX10_count_2 (fun H locs hw => ?_)
  obtain ⟨f1, e_f1⟩ : ∃ z, z = va_up f mm (.inr (10, [.int 0, .ref wd, .ref my, .ref ce, .ref mv, .ref ta, .int m6, .int m7, .int m8, .int m9, .int m10, .long m11, .int m12, .int m13, .int m14, .int m15, .ref li, .ref ha, .ref lw, .ref st, .ref fo, .ref dr, .int m22, .ref ik, .int m24, .int m25, .long m26, .int m27, .int m28, .ref ro, .int m30, .ref ct, .ref se, .ref th, .ref cn, .ref be, .int m36, .ref du, .int m38, .ref db, .int m40, .int m41, .int m42, .ref pn, .ref wg, .ref wh, .ref tn, .ref he, .int m48, .ref tr, .ref fd, .ref po, .int m52, .int m53])) := ⟨_, rfl⟩
  rw [← e_f1] at hw
  have hf_ha : f1 ha = .inl (cy 1, 30, .inl gha) := (congrFun e_f1 ha).trans (z_up_ne (z_tne hf_ha hf_mm (m := 340) (n := 10) rfl rfl (by decide)) hf_ha)
  have hf_li : f1 li = .inl (cy 1, 5, .inl gli) := (congrFun e_f1 li).trans (z_up_ne (z_tne hf_li hf_mm (m := 140) (n := 10) rfl rfl (by decide)) hf_li)
  have hf_wd : f1 wd = .inl (cy 1, 4, .inl gwd) := (congrFun e_f1 wd).trans (z_up_ne (z_tne hf_wd hf_mm (m := 132) (n := 10) rfl rfl (by decide)) hf_wd)
  have hf_mm : f1 mm = .inr (10, [.int 0, .ref wd, .ref my, .ref ce, .ref mv, .ref ta, .int m6, .int m7, .int m8, .int m9, .int m10, .long m11, .int m12, .int m13, .int m14, .int m15, .ref li, .ref ha, .ref lw, .ref st, .ref fo, .ref dr, .int m22, .ref ik, .int m24, .int m25, .long m26, .int m27, .int m28, .ref ro, .int m30, .ref ct, .ref se, .ref th, .ref cn, .ref be, .int m36, .ref du, .int m38, .ref db, .int m40, .int m41, .int m42, .ref pn, .ref wg, .ref wh, .ref tn, .ref he, .int m48, .ref tr, .ref fd, .ref po, .int m52, .int m53]) := (congrFun e_f1 mm).trans z_up_self
  have hfr : ∀ b ∈ L, b ≠ mm → f1 b = f b := fun b hb h0 => (congrFun e_f1 b).trans (z_up_ne h0 (hfr b hb h0))
  refine lv_iconst (v := 0) hx hb dX10_count_5 (by decide) ?_
  refine lv_istore_n (lv' := [(2, .int 0), (0, .ref mm), (1, .int wt)]) hx hb dX10_count_6 rfl hl (by decide) rfl (fun ls hl => ?_)
  refine lv_iload_n hx hb dX10_count_7 rfl (lv_at hl 2 rfl) ?_
  by_cases c2 : wt.toInt < 0 ∨ 8 < wt.toInt
  · skip
    refine lv_tableOut (tgt := 147) hx hb dX10_count_8 (by rw [show wt.toInt = wt.toInt from rfl]; exact c2) (by decide) ?_
    refine lv_iconst (v := (-1)) hx hb dX10_count_147 (by decide) ?_
    exact z_iret hx hb hr hlk (by decide) (by decide) hw (⟨hsub, hfr, hf_mm, trivial⟩) dX10_count_148
  · skip
    have c2s : wt.toInt = 0 ∨ wt.toInt = 1 ∨ wt.toInt = 2 ∨ wt.toInt = 3 ∨ wt.toInt = 4 ∨ wt.toInt = 5 ∨ wt.toInt = 6 ∨ wt.toInt = 7 ∨ wt.toInt = 8 := by omega
    rcases c2s with c2 | c2 | c2 | c2 | c2 | c2 | c2 | c2 | c2
    · skip
      refine lv_tableIn (off := 52) (tgt := 60) hx hb dX10_count_8 (by omega) (by omega) (by rw [show wt.toInt = 0 from c2]; rfl) (by decide) ?_
      refine lv_aload_n hx hb dX10_count_60 rfl (lv_at hl 1 rfl) ?_
      refine z_get (C := RX10) (T := TX10) (N := 54) (ci := 10) (v := .ref ha) hx hb hT zin_X10 hown hK hw hm_mm hf_mm rfl 17 (by decide) (hT _ kw_1185) rfl dX10_count_61 ?_
      refine lv_iconst (v := 0) hx hb dX10_count_64 (by decide) ?_
      refine z_iald hx hb hK hw 1 hm_ha hf_ha rfl (z_ix (show (0 : Int32).toInt = 0 by decide) (by decide)) dX10_count_65 ?_
      refine lv_topi (fun w3 e_w3 => ?_)
      have hv_w3 : 0 ≤ w3.toInt ∧ w3.toInt ≤ 4 := by rw [e_w3]; exact (hq_ha _).1 rfl
      exact z_iret hx hb hr hlk (by decide) (by decide) hw (⟨hsub, hfr, hf_mm, trivial⟩) dX10_count_66
    · skip
      refine lv_tableIn (off := 59) (tgt := 67) hx hb dX10_count_8 (by omega) (by omega) (by rw [show wt.toInt = 1 from c2]; rfl) (by decide) ?_
      refine lv_aload_n hx hb dX10_count_67 rfl (lv_at hl 1 rfl) ?_
      refine z_get (C := RX10) (T := TX10) (N := 54) (ci := 10) (v := .ref ha) hx hb hT zin_X10 hown hK hw hm_mm hf_mm rfl 17 (by decide) (hT _ kw_1185) rfl dX10_count_68 ?_
      refine lv_iconst (v := 1) hx hb dX10_count_71 (by decide) ?_
      refine z_iald hx hb hK hw 1 hm_ha hf_ha rfl (z_ix (show (1 : Int32).toInt = 1 by decide) (by decide)) dX10_count_72 ?_
      refine lv_topi (fun w4 e_w4 => ?_)
      have hv_w4 : 0 ≤ w4.toInt ∧ w4.toInt ≤ 9 := by rw [e_w4]; exact (hq_ha _).2.1 rfl
      exact z_iret hx hb hr hlk (by decide) (by decide) hw (⟨hsub, hfr, hf_mm, trivial⟩) dX10_count_73
    · skip
      refine lv_tableIn (off := 66) (tgt := 74) hx hb dX10_count_8 (by omega) (by omega) (by rw [show wt.toInt = 2 from c2]; rfl) (by decide) ?_
      refine lv_aload_n hx hb dX10_count_74 rfl (lv_at hl 1 rfl) ?_
      refine z_get (C := RX10) (T := TX10) (N := 54) (ci := 10) (v := .ref ha) hx hb hT zin_X10 hown hK hw hm_mm hf_mm rfl 17 (by decide) (hT _ kw_1185) rfl dX10_count_75 ?_
      refine lv_iconst (v := 2) hx hb dX10_count_78 (by decide) ?_
      refine z_iald hx hb hK hw 1 hm_ha hf_ha rfl (z_ix (show (2 : Int32).toInt = 2 by decide) (by decide)) dX10_count_79 ?_
      refine lv_topi (fun w5 e_w5 => ?_)
      have hv_w5 : 0 ≤ w5.toInt ∧ w5.toInt ≤ 5 := by rw [e_w5]; exact (hq_ha _).2.2.1 rfl
      exact z_iret hx hb hr hlk (by decide) (by decide) hw (⟨hsub, hfr, hf_mm, trivial⟩) dX10_count_80
    · skip
      refine lv_tableIn (off := 73) (tgt := 81) hx hb dX10_count_8 (by omega) (by omega) (by rw [show wt.toInt = 3 from c2]; rfl) (by decide) ?_
      refine lv_aload_n hx hb dX10_count_81 rfl (lv_at hl 1 rfl) ?_
      refine z_get (C := RX10) (T := TX10) (N := 54) (ci := 10) (v := .ref ha) hx hb hT zin_X10 hown hK hw hm_mm hf_mm rfl 17 (by decide) (hT _ kw_1185) rfl dX10_count_82 ?_
      refine lv_iconst (v := 3) hx hb dX10_count_85 (by decide) ?_
      refine z_iald hx hb hK hw 1 hm_ha hf_ha rfl (z_ix (show (3 : Int32).toInt = 3 by decide) (by decide)) dX10_count_86 ?_
      refine lv_topi (fun w6 e_w6 => ?_)
      have hv_w6 : 0 ≤ w6.toInt ∧ w6.toInt ≤ 12 := by rw [e_w6]; exact (hq_ha _).2.2.2 rfl
      exact z_iret hx hb hr hlk (by decide) (by decide) hw (⟨hsub, hfr, hf_mm, trivial⟩) dX10_count_87
    · skip
      refine lv_tableIn (off := 80) (tgt := 88) hx hb dX10_count_8 (by omega) (by omega) (by rw [show wt.toInt = 4 from c2]; rfl) (by decide) ?_
      refine lv_aload_n hx hb dX10_count_88 rfl (lv_at hl 1 rfl) ?_
      refine z_get (C := RX10) (T := TX10) (N := 54) (ci := 10) (v := .ref ha) hx hb hT zin_X10 hown hK hw hm_mm hf_mm rfl 17 (by decide) (hT _ kw_1185) rfl dX10_count_89 ?_
      refine lv_iconst (v := 4) hx hb dX10_count_92 (by decide) ?_
      refine z_iald hx hb hK hw 1 hm_ha hf_ha rfl (z_ix (show (4 : Int32).toInt = 4 by decide) (by decide)) dX10_count_93 ?_
      refine lv_topi (fun w7 e_w7 => ?_)
      exact z_iret hx hb hr hlk (by decide) (by decide) hw (⟨hsub, hfr, hf_mm, trivial⟩) dX10_count_94
    · skip
      refine lv_tableIn (off := 87) (tgt := 95) hx hb dX10_count_8 (by omega) (by omega) (by rw [show wt.toInt = 5 from c2]; rfl) (by decide) ?_
      refine lv_aload_n hx hb dX10_count_95 rfl (lv_at hl 1 rfl) ?_
      refine z_get (C := RX10) (T := TX10) (N := 54) (ci := 10) (v := .ref li) hx hb hT zin_X10 hown hK hw hm_mm hf_mm rfl 16 (by decide) (hT _ kw_1184) rfl dX10_count_96 ?_
      refine lv_iconst (v := 0) hx hb dX10_count_99 (by decide) ?_
      refine z_iald hx hb hK hw 1 hm_li hf_li rfl (z_ix (show (0 : Int32).toInt = 0 by decide) (by decide)) dX10_count_100 ?_
      refine lv_topi (fun w8 e_w8 => ?_)
      exact z_iret hx hb hr hlk (by decide) (by decide) hw (⟨hsub, hfr, hf_mm, trivial⟩) dX10_count_101
    · skip
      refine lv_tableIn (off := 94) (tgt := 102) hx hb dX10_count_8 (by omega) (by omega) (by rw [show wt.toInt = 6 from c2]; rfl) (by decide) ?_
      refine lv_aload_n hx hb dX10_count_102 rfl (lv_at hl 1 rfl) ?_
      refine z_get (C := RX10) (T := TX10) (N := 54) (ci := 10) (v := .int m6) hx hb hT zin_X10 hown hK hw hm_mm hf_mm rfl 6 (by decide) (hT _ kw_1174) rfl dX10_count_103 ?_
      exact z_iret hx hb hr hlk (by decide) (by decide) hw (⟨hsub, hfr, hf_mm, trivial⟩) dX10_count_106
    · skip
      refine lv_tableIn (off := 99) (tgt := 107) hx hb dX10_count_8 (by omega) (by omega) (by rw [show wt.toInt = 7 from c2]; rfl) (by decide) ?_
      refine lv_aload_n hx hb dX10_count_107 rfl (lv_at hl 1 rfl) ?_
      refine z_get (C := RX10) (T := TX10) (N := 54) (ci := 10) (v := .ref ha) hx hb hT zin_X10 hown hK hw hm_mm hf_mm rfl 17 (by decide) (hT _ kw_1185) rfl dX10_count_108 ?_
      refine lv_iconst (v := 5) hx hb dX10_count_111 (by decide) ?_
      refine z_iald hx hb hK hw 1 hm_ha hf_ha rfl (z_ix (show (5 : Int32).toInt = 5 by decide) (by decide)) dX10_count_112 ?_
      refine lv_topi (fun w9 e_w9 => ?_)
      exact z_iret hx hb hr hlk (by decide) (by decide) hw (⟨hsub, hfr, hf_mm, trivial⟩) dX10_count_113
    · skip
      refine lv_tableIn (off := 106) (tgt := 114) hx hb dX10_count_8 (by omega) (by omega) (by rw [show wt.toInt = 8 from c2]; rfl) (by decide) ?_
      refine lv_iconst (v := 0) hx hb dX10_count_114 (by decide) ?_
      refine lv_istore_n (lv' := [(3, .int 0), (2, .int 0), (0, .ref mm), (1, .int wt)]) hx hb dX10_count_115 rfl hl (by decide) rfl (fun ls hl => ?_)
      have hzk : (0 : Int32).toInt = 0 := by decide
      refine z_loop (fun n H locs ls => ∃ (K10 : Int32) (V12 : Int32) (f11 : Nat → va_E), (n = (4 - K10.toInt).toNat) ∧ (0 ≤ K10.toInt) ∧ (K10.toInt ≤ 4) ∧ (z_H D vwCl (z_A L sz) s.heap L f11 H locs) ∧ (f11 mm = .inr (10, [.int 0, .ref wd, .ref my, .ref ce, .ref mv, .ref ta, .int m6, .int m7, .int m8, .int m9, .int m10, .long m11, .int m12, .int m13, .int m14, .int m15, .ref li, .ref ha, .ref lw, .ref st, .ref fo, .ref dr, .int m22, .ref ik, .int m24, .int m25, .long m26, .int m27, .int m28, .ref ro, .int m30, .ref ct, .ref se, .ref th, .ref cn, .ref be, .int m36, .ref du, .int m38, .ref db, .int m40, .int m41, .int m42, .ref pn, .ref wg, .ref wh, .ref tn, .ref he, .int m48, .ref tr, .ref fd, .ref po, .int m52, .int m53])) ∧ (f11 ha = .inl (cy 1, 30, .inl gha)) ∧ (f11 li = .inl (cy 1, 5, .inl gli)) ∧ (f11 wd = .inl (cy 1, 4, .inl gwd)) ∧ (∀ b ∈ L, b ≠ mm → f11 b = f b) ∧ (lv_has ls 4 [(3, .int K10), (2, .int V12), (0, .ref mm), (1, .int wt)])) _ ⟨0, 0, f1, rfl, (by first | decide | omega), (by first | decide | omega), hw, hf_mm, hf_ha, hf_li, hf_wd, hfr, (lv_sub hl [0, 1, 2, 3] rfl)⟩ (fun n H locs ls hI ih_116 => ?_)
      obtain ⟨K10, V12, f11, hn, hk0, hk1, hw, hf_mm, hf_ha, hf_li, hf_wd, hfr, hl⟩ := hI
      refine lv_iload_n hx hb dX10_count_116 rfl (lv_at hl 0 rfl) ?_
      refine lv_iconst (v := 4) hx hb dX10_count_117 (by decide) ?_
      refine z_icmp_ge (tgt := 145) hx hb rfl (show (4 : Int32).toInt = 4 by decide) dX10_count_118 (by decide) (fun c13 => ?_) (fun c13 => ?_)
      · skip
        refine lv_iload_n hx hb dX10_count_145 rfl (lv_at hl 1 rfl) ?_
        exact z_iret hx hb hr hlk (by decide) (by decide) hw (⟨hsub, hfr, hf_mm, trivial⟩) dX10_count_146
      · skip
        refine lv_iload_n hx hb dX10_count_121 rfl (lv_at hl 1 rfl) ?_
        refine lv_aload_n hx hb dX10_count_122 rfl (lv_at hl 2 rfl) ?_
        refine z_get (C := RX10) (T := TX10) (N := 54) (ci := 10) (v := .ref wd) hx hb hT zin_X10 hown hK hw hm_mm hf_mm rfl 1 (by decide) (hT _ kw_1169) rfl dX10_count_123 ?_
        refine lv_iload_n hx hb dX10_count_126 rfl (lv_at hl 0 rfl) ?_
        refine z_iald hx hb hK hw 1 hm_wd hf_wd rfl (z_ix rfl (by omega)) dX10_count_127 ?_
        refine lv_topi (fun w14 e_w14 => ?_)
        refine lv_iconst (v := (-1)) hx hb dX10_count_128 (by decide) ?_
        refine z_icmp_ne (tgt := 136) hx hb rfl (show ((-1) : Int32).toInt = (-1) by decide) dX10_count_129 (by decide) (fun c15 => ?_) (fun c15 => ?_)
        · skip
          refine lv_iconst (v := 1) hx hb dX10_count_136 (by decide) ?_
          refine lv_iadd hx hb dX10_count_137 ?_
          refine lv_topi (fun w16 e_w16 => ?_)
          refine lv_istore_n (lv' := [(2, .int w16), (3, .int K10), (0, .ref mm), (1, .int wt)]) hx hb dX10_count_138 rfl hl (by decide) rfl (fun ls hl => ?_)
          obtain ⟨k17, e_k17⟩ : ∃ z : Int32, z = K10 + 1 := ⟨_, rfl⟩
          refine lv_iinc (v := k17) (lv' := [(3, .int k17), (2, .int w16), (0, .ref mm), (1, .int wt)]) hx hb dX10_count_139 hl (k := 1) rfl (by rw [e_k17]; rfl) (by decide) rfl (fun ls hl => ?_)
          have i_k17 : k17.toInt = (K10.toInt + 1) := z_add e_k17 rfl (by decide) (by omega)
          refine lv_goto (tgt := 116) hx hb dX10_count_142 (by decide) ?_
          exact ih_116 _ (by omega) _ _ _ ⟨k17, w16, f11, rfl, (by first | decide | omega), (by first | decide | omega), hw, hf_mm, hf_ha, hf_li, hf_wd, hfr, (lv_sub hl [0, 1, 2, 3] rfl)⟩
        · skip
          refine lv_iconst (v := 0) hx hb dX10_count_132 (by decide) ?_
          refine lv_goto (tgt := 137) hx hb dX10_count_133 (by decide) ?_
          refine lv_iadd hx hb dX10_count_137 ?_
          refine lv_topi (fun w18 e_w18 => ?_)
          refine lv_istore_n (lv' := [(2, .int w18), (3, .int K10), (0, .ref mm), (1, .int wt)]) hx hb dX10_count_138 rfl hl (by decide) rfl (fun ls hl => ?_)
          obtain ⟨k19, e_k19⟩ : ∃ z : Int32, z = K10 + 1 := ⟨_, rfl⟩
          refine lv_iinc (v := k19) (lv' := [(3, .int k19), (2, .int w18), (0, .ref mm), (1, .int wt)]) hx hb dX10_count_139 hl (k := 1) rfl (by rw [e_k19]; rfl) (by decide) rfl (fun ls hl => ?_)
          have i_k19 : k19.toInt = (K10.toInt + 1) := z_add e_k19 rfl (by decide) (by omega)
          refine lv_goto (tgt := 116) hx hb dX10_count_142 (by decide) ?_
          exact ih_116 _ (by omega) _ _ _ ⟨k19, w18, f11, rfl, (by first | decide | omega), (by first | decide | omega), hw, hf_mm, hf_ha, hf_li, hf_wd, hfr, (lv_sub hl [0, 1, 2, 3] rfl)⟩

set_option maxHeartbeats 2000000 in
set_option maxRecDepth 100000 in
theorem c_X10_keep (l : Launch) {D : va_G} {cy : Nat → ClassId} {L : List Nat} {f : Nat → va_E} {sz : Nat} {adK adV : Nat → Nat} {mm wd my ce mv ta li ha lw st fo dr ik ro ct se th cn be du db pn wg wh tn he tr fd po : Nat} {m0 m6 m7 m8 m9 m10 m12 m13 m14 m15 m22 m24 m25 m27 m28 m30 m36 m38 m40 m41 m42 m48 m52 m53 : Int32} {m11 m26 : Int64} {gli gha glw gst gfo gdr gik : Nat → Int32}  {kk : Int32} (hm_mm : mm ∈ L) (hm_li : li ∈ L) (hm_ha : ha ∈ L) (hm_lw : lw ∈ L) (hm_st : st ∈ L) (hm_fo : fo ∈ L) (hm_dr : dr ∈ L) (hm_ik : ik ∈ L) (hf_mm : f mm = .inr (10, [.int m0, .ref wd, .ref my, .ref ce, .ref mv, .ref ta, .int m6, .int m7, .int m8, .int m9, .int m10, .long m11, .int m12, .int m13, .int m14, .int m15, .ref li, .ref ha, .ref lw, .ref st, .ref fo, .ref dr, .int m22, .ref ik, .int m24, .int m25, .long m26, .int m27, .int m28, .ref ro, .int m30, .ref ct, .ref se, .ref th, .ref cn, .ref be, .int m36, .ref du, .int m38, .ref db, .int m40, .int m41, .int m42, .ref pn, .ref wg, .ref wh, .ref tn, .ref he, .int m48, .ref tr, .ref fd, .ref po, .int m52, .int m53])) (hf_li : f li = .inl (cy 1, 5, .inl gli)) (hf_ha : f ha = .inl (cy 1, 30, .inl gha)) (hf_lw : f lw = .inl (cy 1, 25, .inl glw)) (hf_st : f st = .inl (cy 1, 20, .inl gst)) (hf_fo : f fo = .inl (cy 1, 180, .inl gfo)) (hf_dr : f dr = .inl (cy 1, 520, .inl gdr)) (hf_ik : f ik = .inl (cy 3, 3, .inl gik)) (hq_ha : ∀ j : Nat, q_has j (gha j)) (hq_lw : ∀ j : Nat, q_law j (glw j)) (hq_st : ∀ j : Nat, q_law j (gst j)) (hq_dr : ∀ j : Nat, q_drv j (gdr j)) (hea : ∀ m : Nat, m < 5 → z_ea gha glw m) : Met l yX10_keep (z_ws yX10_keep cX10_keep 2 (some .int)) (z_R 3 0 0) (va_Pc [.ref mm, .int kk] (z_Pre D vwCl (z_KK D cy adK adV) L f sz)) (z_Qi D vwCl (fun r u => L = u.1 ∧ (∀ b ∈ L, b ≠ mm → b ≠ li → b ≠ ha → b ≠ lw → b ≠ st → b ≠ fo → b ≠ dr → b ≠ ik → u.2 b = f b) ∧ (∃ (nli nha nlw nst nfo ndr nik : Nat → Int32), (u.2 mm = .inr (10, [.int 0, .ref wd, .ref my, .ref ce, .ref mv, .ref ta, .int m6, .int m7, .int m8, .int m9, .int m10, .long m11, .int m12, .int m13, .int m14, .int m15, .ref li, .ref ha, .ref lw, .ref st, .ref fo, .ref dr, .int m22, .ref ik, .int m24, .int m25, .long m26, .int m27, .int m28, .ref ro, .int m30, .ref ct, .ref se, .ref th, .ref cn, .ref be, .int m36, .ref du, .int m38, .ref db, .int m40, .int m41, .int m42, .ref pn, .ref wg, .ref wh, .ref tn, .ref he, .int m48, .ref tr, .ref fd, .ref po, .int m52, .int m53])) ∧ (u.2 li = .inl (cy 1, 5, .inl nli)) ∧ (u.2 ha = .inl (cy 1, 30, .inl nha)) ∧ (u.2 lw = .inl (cy 1, 25, .inl nlw)) ∧ (u.2 st = .inl (cy 1, 20, .inl nst)) ∧ (u.2 fo = .inl (cy 1, 180, .inl nfo)) ∧ (u.2 dr = .inl (cy 1, 520, .inl ndr)) ∧ (u.2 ik = .inl (cy 3, 3, .inl nik)) ∧ (∀ j : Nat, q_has j (nha j)) ∧ (∀ j : Nat, q_law j (nlw j)) ∧ (∀ j : Nat, q_law j (nst j)) ∧ (∀ j : Nat, q_drv j (ndr j)) ∧ ((∀ m : Nat, m < 5 → z_ea nha nlw m) ∧ ((r = 0 ∧ (0 ≤ kk.toInt ∧ kk.toInt < 3) ∧ nik = upd gik kk.toNatClampNeg 1) ∨ (r = -2 ∧ ¬ (0 ≤ kk.toInt ∧ kk.toInt < 3) ∧ nik = gik))))) L sz) 0 0 (z_A L sz) := by
  refine z_met (cc := cX10_keep) (maxL := 2) (ret := (some .int)) (lv := [(0, .ref mm), (1, .int kk)]) (by decide) rfl (Nat.le_of_ble_eq_true rfl) rfl ?_
  intro p e s m below meth c ls hx hb hr hlk hml hown hnm hts hKK hA hw hl
  have hK := hKK.1.1
  have hown : s.vm.findClass RX10 = some m.cls := hown
  have hT : ∀ w ∈ lw_all, w.before ([.ref mm, .int kk] : List Value).toArray s = true := fun w h => hts w (z_cons w h)
  have hsub : L = L := rfl
  have hfr : ∀ b ∈ L, b ≠ mm → b ≠ li → b ≠ ha → b ≠ lw → b ≠ st → b ≠ fo → b ≠ dr → b ≠ ik → f b = f b := fun _ _ _ _ _ _ _ _ _ _ => rfl
  have hz_0 : (0 : Int32).toInt = 0 := by decide
  refine lv_aload_n hx hb dX10_keep_0 rfl (lv_at hl 0 rfl) ?_
  refine lv_iconst (v := 0) hx hb dX10_keep_1 (by decide) ?_
  refine z_put (C := RX10) (T := TX10) (N := 54) (ci := 10) (v := .int 0) (fs' := [.int 0, .ref wd, .ref my, .ref ce, .ref mv, .ref ta, .int m6, .int m7, .int m8, .int m9, .int m10, .long m11, .int m12, .int m13, .int m14, .int m15, .ref li, .ref ha, .ref lw, .ref st, .ref fo, .ref dr, .int m22, .ref ik, .int m24, .int m25, .long m26, .int m27, .int m28, .ref ro, .int m30, .ref ct, .ref se, .ref th, .ref cn, .ref be, .int m36, .ref du, .int m38, .ref db, .int m40, .int m41, .int m42, .ref pn, .ref wg, .ref wh, .ref tn, .ref he, .int m48, .ref tr, .ref fd, .ref po, .int m52, .int m53]) hx hb hT zin_X10 tyX10_ok nmX10 hown hK hw hm_mm hf_mm rfl 0 (by decide) (hT _ kw_1168) rfl rfl rfl (Nat.le_of_ble_eq_true rfl) rfl dX10_keep_2 (fun H locs hw => ?_)
  obtain ⟨f1, e_f1⟩ : ∃ z, z = va_up f mm (.inr (10, [.int 0, .ref wd, .ref my, .ref ce, .ref mv, .ref ta, .int m6, .int m7, .int m8, .int m9, .int m10, .long m11, .int m12, .int m13, .int m14, .int m15, .ref li, .ref ha, .ref lw, .ref st, .ref fo, .ref dr, .int m22, .ref ik, .int m24, .int m25, .long m26, .int m27, .int m28, .ref ro, .int m30, .ref ct, .ref se, .ref th, .ref cn, .ref be, .int m36, .ref du, .int m38, .ref db, .int m40, .int m41, .int m42, .ref pn, .ref wg, .ref wh, .ref tn, .ref he, .int m48, .ref tr, .ref fd, .ref po, .int m52, .int m53])) := ⟨_, rfl⟩
  rw [← e_f1] at hw
  have hf_li : f1 li = .inl (cy 1, 5, .inl gli) := (congrFun e_f1 li).trans (z_up_ne (z_tne hf_li hf_mm (m := 140) (n := 10) rfl rfl (by decide)) hf_li)
  have hf_ha : f1 ha = .inl (cy 1, 30, .inl gha) := (congrFun e_f1 ha).trans (z_up_ne (z_tne hf_ha hf_mm (m := 340) (n := 10) rfl rfl (by decide)) hf_ha)
  have hf_lw : f1 lw = .inl (cy 1, 25, .inl glw) := (congrFun e_f1 lw).trans (z_up_ne (z_tne hf_lw hf_mm (m := 300) (n := 10) rfl rfl (by decide)) hf_lw)
  have hf_st : f1 st = .inl (cy 1, 20, .inl gst) := (congrFun e_f1 st).trans (z_up_ne (z_tne hf_st hf_mm (m := 260) (n := 10) rfl rfl (by decide)) hf_st)
  have hf_fo : f1 fo = .inl (cy 1, 180, .inl gfo) := (congrFun e_f1 fo).trans (z_up_ne (z_tne hf_fo hf_mm (m := 1540) (n := 10) rfl rfl (by decide)) hf_fo)
  have hf_dr : f1 dr = .inl (cy 1, 520, .inl gdr) := (congrFun e_f1 dr).trans (z_up_ne (z_tne hf_dr hf_mm (m := 4260) (n := 10) rfl rfl (by decide)) hf_dr)
  have hf_ik : f1 ik = .inl (cy 3, 3, .inl gik) := (congrFun e_f1 ik).trans (z_up_ne (z_tne hf_ik hf_mm (m := 124) (n := 10) rfl rfl (by decide)) hf_ik)
  have hf_mm : f1 mm = .inr (10, [.int 0, .ref wd, .ref my, .ref ce, .ref mv, .ref ta, .int m6, .int m7, .int m8, .int m9, .int m10, .long m11, .int m12, .int m13, .int m14, .int m15, .ref li, .ref ha, .ref lw, .ref st, .ref fo, .ref dr, .int m22, .ref ik, .int m24, .int m25, .long m26, .int m27, .int m28, .ref ro, .int m30, .ref ct, .ref se, .ref th, .ref cn, .ref be, .int m36, .ref du, .int m38, .ref db, .int m40, .int m41, .int m42, .ref pn, .ref wg, .ref wh, .ref tn, .ref he, .int m48, .ref tr, .ref fd, .ref po, .int m52, .int m53]) := (congrFun e_f1 mm).trans z_up_self
  have hfr : ∀ b ∈ L, b ≠ mm → b ≠ li → b ≠ ha → b ≠ lw → b ≠ st → b ≠ fo → b ≠ dr → b ≠ ik → f1 b = f b := fun b hb h0 h1 h2 h3 h4 h5 h6 h7 => (congrFun e_f1 b).trans (z_up_ne h0 (hfr b hb h0 h1 h2 h3 h4 h5 h6 h7))
  refine lv_iload_n hx hb dX10_keep_5 rfl (lv_at hl 1 rfl) ?_
  refine lv_i2l hx hb dX10_keep_6 rfl ?_
  refine lv_topl (fun w2 e_w2 => ?_)
  have i_w2 : w2.toInt = kk.toInt := z_i2l e_w2 rfl
  refine lv_lconst (v := 0) hx hb dX10_keep_7 (by decide) ?_
  refine lv_ldc2 (v := 2) hx hb hown (hT _ kw_1512) dX10_keep_8 ?_
  have hz3 := (show (0 : Int64).toInt = 0 by decide)
  have hz4 := (show (2 : Int64).toInt = 2 by decide)
  refine z_calliS (cells := 0) (slots := 0) (As := [.long w2, .long 0, .long 2]) (rest := []) ⟨hx, hb, hml, hown, hT⟩ (c_X10_in l ) (va_cwS 3 hT (z_goodS (fun _ h => h) kw_1339 kw_1340 kw_96 kw_1341) rfl rfl rfl (by decide +kernel) ⟨by decide, by decide⟩) z_mv hKK hw hA rfl hl.1 rfl (Nat.le_of_ble_eq_true rfl) dX10_keep_11 ⟨by decide, by decide⟩ (fun r5 u H locs hp hw => ?_)
  obtain ⟨rfl, hp⟩ := hp
  have hw : z_H D vwCl (z_A L sz) s.heap L f1 H locs := hw
  rcases hp with ⟨rfl, h6⟩ | ⟨rfl, h6⟩
  · skip
    refine z_if_ne (tgt := 20) hx hb (show (1 : Int32).toInt = 1 by decide) dX10_keep_14 (by decide) (fun _ => ?_) (fun h => absurd h (by decide))
    refine lv_aload_n hx hb dX10_keep_20 rfl (lv_at hl 0 rfl) ?_
    refine lv_iconst (v := 0) hx hb dX10_keep_21 (by decide) ?_
    refine lv_iconst (v := 1) hx hb dX10_keep_22 (by decide) ?_
    refine lv_iload_n hx hb dX10_keep_23 rfl (lv_at hl 1 rfl) ?_
    refine lv_iadd hx hb dX10_keep_24 ?_
    refine lv_topi (fun w7 e_w7 => ?_)
    have i_w7 : w7.toInt = (1 + kk.toInt) := z_add e_w7 (show (1 : Int32).toInt = 1 by decide) rfl (by omega)
    have hz8 := (show (0 : Int32).toInt = 0 by decide)
    refine z_callvV (cells := 0) (slots := 0) (b := mm) (As := [.int 0, .int w7]) (rest := []) (ci := 10) (q0 := (RX10, TX10, 54)) ⟨hx, hb, hml, hown, hT⟩ (c_X10_copyMoor l hm_mm hm_li hm_ha hm_lw hm_st hm_fo hm_dr hf_mm hf_li hf_ha hf_lw hf_st hf_fo hf_dr hq_ha hq_lw hq_st hq_dr (by first | omega | decide | assumption) (by first | omega | decide | assumption) hea) (cwV 2 hT (z_goodV (fun _ h => h) kw_1471 kw_1473 kw_49 kw_96 kw_1474) rfl rfl rfl (by decide +kernel) ⟨by decide, by decide⟩) z_mv hKK hK hw hA hm_mm hf_mm rfl rfl rfl hl.1 rfl (Nat.le_of_ble_eq_true rfl) dX10_keep_25 ⟨by decide, by decide⟩ (fun u H locs hp hw => ?_)
    obtain ⟨L9, f10⟩ := u
    obtain ⟨hsb, hfm, nli_11, nha_12, nlw_13, nst_14, nfo_15, ndr_16, ha_0, ha_1, ha_2, ha_3, ha_4, ha_5, hq_ha, hq_lw, hq_st, hq_dr, hp⟩ := hp
    have hsb : L = L9 := hsb
    subst hsb
    have hsb : ∀ b ∈ L, b ∈ L := fun _ h => h
    have hw : z_H D vwCl (z_A L sz) s.heap L f10 H locs := hw
    have hfr : ∀ b ∈ L, b ≠ mm → b ≠ li → b ≠ ha → b ≠ lw → b ≠ st → b ≠ fo → b ≠ dr → b ≠ ik → f10 b = f b := fun b hb h0 h1 h2 h3 h4 h5 h6 h7 => (hfm b hb h1 h2 h3 h4 h5 h6).trans (hfr b hb h0 h1 h2 h3 h4 h5 h6 h7)
    have hf_mm : f10 mm = .inr (10, [.int 0, .ref wd, .ref my, .ref ce, .ref mv, .ref ta, .int m6, .int m7, .int m8, .int m9, .int m10, .long m11, .int m12, .int m13, .int m14, .int m15, .ref li, .ref ha, .ref lw, .ref st, .ref fo, .ref dr, .int m22, .ref ik, .int m24, .int m25, .long m26, .int m27, .int m28, .ref ro, .int m30, .ref ct, .ref se, .ref th, .ref cn, .ref be, .int m36, .ref du, .int m38, .ref db, .int m40, .int m41, .int m42, .ref pn, .ref wg, .ref wh, .ref tn, .ref he, .int m48, .ref tr, .ref fd, .ref po, .int m52, .int m53]) := (hfm mm hm_mm (z_tne hf_mm hf_li (m := 10) (n := 140) rfl rfl (by decide)) (z_tne hf_mm hf_ha (m := 10) (n := 340) rfl rfl (by decide)) (z_tne hf_mm hf_lw (m := 10) (n := 300) rfl rfl (by decide)) (z_tne hf_mm hf_st (m := 10) (n := 260) rfl rfl (by decide)) (z_tne hf_mm hf_fo (m := 10) (n := 1540) rfl rfl (by decide)) (z_tne hf_mm hf_dr (m := 10) (n := 4260) rfl rfl (by decide))).trans hf_mm
    have hf_ik : f10 ik = .inl (cy 3, 3, .inl gik) := (hfm ik hm_ik (z_tne hf_ik hf_li (m := 124) (n := 140) rfl rfl (by decide)) (z_tne hf_ik hf_ha (m := 124) (n := 340) rfl rfl (by decide)) (z_tne hf_ik hf_lw (m := 124) (n := 300) rfl rfl (by decide)) (z_tne hf_ik hf_st (m := 124) (n := 260) rfl rfl (by decide)) (z_tne hf_ik hf_fo (m := 124) (n := 1540) rfl rfl (by decide)) (z_tne hf_ik hf_dr (m := 124) (n := 4260) rfl rfl (by decide))).trans hf_ik
    have hf_li : f10 li = .inl (cy 1, 5, .inl nli_11) := ha_0
    have hf_ha : f10 ha = .inl (cy 1, 30, .inl nha_12) := ha_1
    have hf_lw : f10 lw = .inl (cy 1, 25, .inl nlw_13) := ha_2
    have hf_st : f10 st = .inl (cy 1, 20, .inl nst_14) := ha_3
    have hf_fo : f10 fo = .inl (cy 1, 180, .inl nfo_15) := ha_4
    have hf_dr : f10 dr = .inl (cy 1, 520, .inl ndr_16) := ha_5
    have hea := hp
    refine lv_aload_n hx hb dX10_keep_28 rfl (lv_at hl 0 rfl) ?_
    refine z_get (C := RX10) (T := TX10) (N := 54) (ci := 10) (v := .ref ik) hx hb hT zin_X10 hown hK hw hm_mm hf_mm rfl 23 (by decide) (hT _ kw_1191) rfl dX10_keep_29 ?_
    refine lv_iload_n hx hb dX10_keep_32 rfl (lv_at hl 1 rfl) ?_
    refine lv_iconst (v := 1) hx hb dX10_keep_33 (by decide) ?_
    refine z_zast hx hb hK hw 3 hm_ik hf_ik rfl (z_ix rfl (by omega)) dX10_keep_34 (fun H locs hw => ?_)
    obtain ⟨f18, e_f18⟩ : ∃ z, z = va_up f10 ik (.inl (cy 3, 3, .inl (upd gik kk.toNatClampNeg (vp_nar .boolean 1)))) := ⟨_, rfl⟩
    rw [← e_f18] at hw
    have hf_mm : f18 mm = .inr (10, [.int 0, .ref wd, .ref my, .ref ce, .ref mv, .ref ta, .int m6, .int m7, .int m8, .int m9, .int m10, .long m11, .int m12, .int m13, .int m14, .int m15, .ref li, .ref ha, .ref lw, .ref st, .ref fo, .ref dr, .int m22, .ref ik, .int m24, .int m25, .long m26, .int m27, .int m28, .ref ro, .int m30, .ref ct, .ref se, .ref th, .ref cn, .ref be, .int m36, .ref du, .int m38, .ref db, .int m40, .int m41, .int m42, .ref pn, .ref wg, .ref wh, .ref tn, .ref he, .int m48, .ref tr, .ref fd, .ref po, .int m52, .int m53]) := (congrFun e_f18 mm).trans (z_up_ne (z_tne hf_mm hf_ik (m := 10) (n := 124) rfl rfl (by decide)) hf_mm)
    have hf_li : f18 li = .inl (cy 1, 5, .inl nli_11) := (congrFun e_f18 li).trans (z_up_ne (z_tne hf_li hf_ik (m := 140) (n := 124) rfl rfl (by decide)) hf_li)
    have hf_ha : f18 ha = .inl (cy 1, 30, .inl nha_12) := (congrFun e_f18 ha).trans (z_up_ne (z_tne hf_ha hf_ik (m := 340) (n := 124) rfl rfl (by decide)) hf_ha)
    have hf_lw : f18 lw = .inl (cy 1, 25, .inl nlw_13) := (congrFun e_f18 lw).trans (z_up_ne (z_tne hf_lw hf_ik (m := 300) (n := 124) rfl rfl (by decide)) hf_lw)
    have hf_st : f18 st = .inl (cy 1, 20, .inl nst_14) := (congrFun e_f18 st).trans (z_up_ne (z_tne hf_st hf_ik (m := 260) (n := 124) rfl rfl (by decide)) hf_st)
    have hf_fo : f18 fo = .inl (cy 1, 180, .inl nfo_15) := (congrFun e_f18 fo).trans (z_up_ne (z_tne hf_fo hf_ik (m := 1540) (n := 124) rfl rfl (by decide)) hf_fo)
    have hf_dr : f18 dr = .inl (cy 1, 520, .inl ndr_16) := (congrFun e_f18 dr).trans (z_up_ne (z_tne hf_dr hf_ik (m := 4260) (n := 124) rfl rfl (by decide)) hf_dr)
    have hf_ik : f18 ik = .inl (cy 3, 3, .inl (upd gik kk.toNatClampNeg (vp_nar .boolean 1))) := (congrFun e_f18 ik).trans z_up_self
    have hfr : ∀ b ∈ L, b ≠ mm → b ≠ li → b ≠ ha → b ≠ lw → b ≠ st → b ≠ fo → b ≠ dr → b ≠ ik → f18 b = f b := fun b hb h0 h1 h2 h3 h4 h5 h6 h7 => (congrFun e_f18 b).trans (z_up_ne h7 (hfr b hb h0 h1 h2 h3 h4 h5 h6 h7))
    obtain ⟨g17, e_g17⟩ : ∃ z, z = (upd gik kk.toNatClampNeg (vp_nar .boolean 1)) := ⟨_, rfl⟩
    rw [← e_g17] at hf_ik
    refine lv_iconst (v := 0) hx hb dX10_keep_35 (by decide) ?_
    exact z_iret hx hb hr hlk (by decide) (by decide) hw (⟨hsub, hfr, nli_11, nha_12, nlw_13, nst_14, nfo_15, ndr_16, g17, hf_mm, hf_li, hf_ha, hf_lw, hf_st, hf_fo, hf_dr, hf_ik, hq_ha, hq_lw, hq_st, hq_dr, hea, Or.inl ⟨rfl, by omega, by rw [e_g17]; rfl⟩⟩) dX10_keep_36
  · skip
    refine z_if_ne (tgt := 20) hx hb (show (0 : Int32).toInt = 0 by decide) dX10_keep_14 (by decide) (fun h => absurd h (by decide)) (fun _ => ?_)
    refine lv_bipush (v := (-2)) hx hb dX10_keep_17 (by decide) ?_
    exact z_iret hx hb hr hlk (by decide) (by decide) hw (⟨hsub, hfr, gli, gha, glw, gst, gfo, gdr, gik, hf_mm, hf_li, hf_ha, hf_lw, hf_st, hf_fo, hf_dr, hf_ik, hq_ha, hq_lw, hq_st, hq_dr, hea, Or.inr ⟨rfl, by omega, rfl⟩⟩) dX10_keep_19

set_option maxHeartbeats 2000000 in
set_option maxRecDepth 100000 in
theorem c_X10_back (l : Launch) {D : va_G} {cy : Nat → ClassId} {L : List Nat} {f : Nat → va_E} {sz : Nat} {adK adV : Nat → Nat} {mm wd my ce mv ta li ha lw st fo dr ik ro ct se th cn be du db pn wg wh tn he tr fd po : Nat} {m0 m6 m7 m8 m9 m10 m12 m13 m14 m15 m22 m24 m25 m27 m28 m30 m36 m38 m40 m41 m42 m48 m52 m53 : Int32} {m11 m26 : Int64} {gli gha glw gst gfo gdr gik : Nat → Int32}  {kk : Int32} (hm_mm : mm ∈ L) (hm_li : li ∈ L) (hm_ha : ha ∈ L) (hm_lw : lw ∈ L) (hm_st : st ∈ L) (hm_fo : fo ∈ L) (hm_dr : dr ∈ L) (hm_ik : ik ∈ L) (hf_mm : f mm = .inr (10, [.int m0, .ref wd, .ref my, .ref ce, .ref mv, .ref ta, .int m6, .int m7, .int m8, .int m9, .int m10, .long m11, .int m12, .int m13, .int m14, .int m15, .ref li, .ref ha, .ref lw, .ref st, .ref fo, .ref dr, .int m22, .ref ik, .int m24, .int m25, .long m26, .int m27, .int m28, .ref ro, .int m30, .ref ct, .ref se, .ref th, .ref cn, .ref be, .int m36, .ref du, .int m38, .ref db, .int m40, .int m41, .int m42, .ref pn, .ref wg, .ref wh, .ref tn, .ref he, .int m48, .ref tr, .ref fd, .ref po, .int m52, .int m53])) (hf_li : f li = .inl (cy 1, 5, .inl gli)) (hf_ha : f ha = .inl (cy 1, 30, .inl gha)) (hf_lw : f lw = .inl (cy 1, 25, .inl glw)) (hf_st : f st = .inl (cy 1, 20, .inl gst)) (hf_fo : f fo = .inl (cy 1, 180, .inl gfo)) (hf_dr : f dr = .inl (cy 1, 520, .inl gdr)) (hf_ik : f ik = .inl (cy 3, 3, .inl gik)) (hq_ha : ∀ j : Nat, q_has j (gha j)) (hq_lw : ∀ j : Nat, q_law j (glw j)) (hq_st : ∀ j : Nat, q_law j (gst j)) (hq_dr : ∀ j : Nat, q_drv j (gdr j)) (hea : ∀ m : Nat, m < 5 → z_ea gha glw m) : Met l yX10_back (z_ws yX10_back cX10_back 2 (some .int)) (z_R 3 0 0) (va_Pc [.ref mm, .int kk] (z_Pre D vwCl (z_KK D cy adK adV) L f sz)) (z_Qi D vwCl (fun r u => L = u.1 ∧ (∀ b ∈ L, b ≠ mm → b ≠ li → b ≠ ha → b ≠ lw → b ≠ st → b ≠ fo → b ≠ dr → u.2 b = f b) ∧ (∃ (nli nha nlw nst nfo ndr : Nat → Int32), (u.2 mm = .inr (10, [.int 0, .ref wd, .ref my, .ref ce, .ref mv, .ref ta, .int m6, .int m7, .int m8, .int m9, .int m10, .long m11, .int m12, .int m13, .int m14, .int m15, .ref li, .ref ha, .ref lw, .ref st, .ref fo, .ref dr, .int m22, .ref ik, .int m24, .int m25, .long m26, .int m27, .int m28, .ref ro, .int m30, .ref ct, .ref se, .ref th, .ref cn, .ref be, .int m36, .ref du, .int m38, .ref db, .int m40, .int m41, .int m42, .ref pn, .ref wg, .ref wh, .ref tn, .ref he, .int m48, .ref tr, .ref fd, .ref po, .int m52, .int m53])) ∧ (u.2 li = .inl (cy 1, 5, .inl nli)) ∧ (u.2 ha = .inl (cy 1, 30, .inl nha)) ∧ (u.2 lw = .inl (cy 1, 25, .inl nlw)) ∧ (u.2 st = .inl (cy 1, 20, .inl nst)) ∧ (u.2 fo = .inl (cy 1, 180, .inl nfo)) ∧ (u.2 dr = .inl (cy 1, 520, .inl ndr)) ∧ (∀ j : Nat, q_has j (nha j)) ∧ (∀ j : Nat, q_law j (nlw j)) ∧ (∀ j : Nat, q_law j (nst j)) ∧ (∀ j : Nat, q_drv j (ndr j)) ∧ ((∀ m : Nat, m < 5 → z_ea nha nlw m) ∧ ((r = 0 ∧ (0 ≤ kk.toInt ∧ kk.toInt < 3) ∧ (gik kk.toNatClampNeg).toInt ≠ 0) ∨ (r = -6 ∧ (0 ≤ kk.toInt ∧ kk.toInt < 3) ∧ (gik kk.toNatClampNeg).toInt = 0) ∨ (r = -2 ∧ ¬ (0 ≤ kk.toInt ∧ kk.toInt < 3)))))) L sz) 0 0 (z_A L sz) := by
  refine z_met (cc := cX10_back) (maxL := 2) (ret := (some .int)) (lv := [(0, .ref mm), (1, .int kk)]) (by decide) rfl (Nat.le_of_ble_eq_true rfl) rfl ?_
  intro p e s m below meth c ls hx hb hr hlk hml hown hnm hts hKK hA hw hl
  have hK := hKK.1.1
  have hown : s.vm.findClass RX10 = some m.cls := hown
  have hT : ∀ w ∈ lw_all, w.before ([.ref mm, .int kk] : List Value).toArray s = true := fun w h => hts w (z_cons w h)
  have hsub : L = L := rfl
  have hfr : ∀ b ∈ L, b ≠ mm → b ≠ li → b ≠ ha → b ≠ lw → b ≠ st → b ≠ fo → b ≠ dr → f b = f b := fun _ _ _ _ _ _ _ _ _ => rfl
  have hz_0 : (0 : Int32).toInt = 0 := by decide
  refine lv_aload_n hx hb dX10_back_0 rfl (lv_at hl 0 rfl) ?_
  refine lv_iconst (v := 0) hx hb dX10_back_1 (by decide) ?_
  refine z_put (C := RX10) (T := TX10) (N := 54) (ci := 10) (v := .int 0) (fs' := [.int 0, .ref wd, .ref my, .ref ce, .ref mv, .ref ta, .int m6, .int m7, .int m8, .int m9, .int m10, .long m11, .int m12, .int m13, .int m14, .int m15, .ref li, .ref ha, .ref lw, .ref st, .ref fo, .ref dr, .int m22, .ref ik, .int m24, .int m25, .long m26, .int m27, .int m28, .ref ro, .int m30, .ref ct, .ref se, .ref th, .ref cn, .ref be, .int m36, .ref du, .int m38, .ref db, .int m40, .int m41, .int m42, .ref pn, .ref wg, .ref wh, .ref tn, .ref he, .int m48, .ref tr, .ref fd, .ref po, .int m52, .int m53]) hx hb hT zin_X10 tyX10_ok nmX10 hown hK hw hm_mm hf_mm rfl 0 (by decide) (hT _ kw_1168) rfl rfl rfl (Nat.le_of_ble_eq_true rfl) rfl dX10_back_2 (fun H locs hw => ?_)
  obtain ⟨f1, e_f1⟩ : ∃ z, z = va_up f mm (.inr (10, [.int 0, .ref wd, .ref my, .ref ce, .ref mv, .ref ta, .int m6, .int m7, .int m8, .int m9, .int m10, .long m11, .int m12, .int m13, .int m14, .int m15, .ref li, .ref ha, .ref lw, .ref st, .ref fo, .ref dr, .int m22, .ref ik, .int m24, .int m25, .long m26, .int m27, .int m28, .ref ro, .int m30, .ref ct, .ref se, .ref th, .ref cn, .ref be, .int m36, .ref du, .int m38, .ref db, .int m40, .int m41, .int m42, .ref pn, .ref wg, .ref wh, .ref tn, .ref he, .int m48, .ref tr, .ref fd, .ref po, .int m52, .int m53])) := ⟨_, rfl⟩
  rw [← e_f1] at hw
  have hf_li : f1 li = .inl (cy 1, 5, .inl gli) := (congrFun e_f1 li).trans (z_up_ne (z_tne hf_li hf_mm (m := 140) (n := 10) rfl rfl (by decide)) hf_li)
  have hf_ha : f1 ha = .inl (cy 1, 30, .inl gha) := (congrFun e_f1 ha).trans (z_up_ne (z_tne hf_ha hf_mm (m := 340) (n := 10) rfl rfl (by decide)) hf_ha)
  have hf_lw : f1 lw = .inl (cy 1, 25, .inl glw) := (congrFun e_f1 lw).trans (z_up_ne (z_tne hf_lw hf_mm (m := 300) (n := 10) rfl rfl (by decide)) hf_lw)
  have hf_st : f1 st = .inl (cy 1, 20, .inl gst) := (congrFun e_f1 st).trans (z_up_ne (z_tne hf_st hf_mm (m := 260) (n := 10) rfl rfl (by decide)) hf_st)
  have hf_fo : f1 fo = .inl (cy 1, 180, .inl gfo) := (congrFun e_f1 fo).trans (z_up_ne (z_tne hf_fo hf_mm (m := 1540) (n := 10) rfl rfl (by decide)) hf_fo)
  have hf_dr : f1 dr = .inl (cy 1, 520, .inl gdr) := (congrFun e_f1 dr).trans (z_up_ne (z_tne hf_dr hf_mm (m := 4260) (n := 10) rfl rfl (by decide)) hf_dr)
  have hf_ik : f1 ik = .inl (cy 3, 3, .inl gik) := (congrFun e_f1 ik).trans (z_up_ne (z_tne hf_ik hf_mm (m := 124) (n := 10) rfl rfl (by decide)) hf_ik)
  have hf_mm : f1 mm = .inr (10, [.int 0, .ref wd, .ref my, .ref ce, .ref mv, .ref ta, .int m6, .int m7, .int m8, .int m9, .int m10, .long m11, .int m12, .int m13, .int m14, .int m15, .ref li, .ref ha, .ref lw, .ref st, .ref fo, .ref dr, .int m22, .ref ik, .int m24, .int m25, .long m26, .int m27, .int m28, .ref ro, .int m30, .ref ct, .ref se, .ref th, .ref cn, .ref be, .int m36, .ref du, .int m38, .ref db, .int m40, .int m41, .int m42, .ref pn, .ref wg, .ref wh, .ref tn, .ref he, .int m48, .ref tr, .ref fd, .ref po, .int m52, .int m53]) := (congrFun e_f1 mm).trans z_up_self
  have hfr : ∀ b ∈ L, b ≠ mm → b ≠ li → b ≠ ha → b ≠ lw → b ≠ st → b ≠ fo → b ≠ dr → f1 b = f b := fun b hb h0 h1 h2 h3 h4 h5 h6 => (congrFun e_f1 b).trans (z_up_ne h0 (hfr b hb h0 h1 h2 h3 h4 h5 h6))
  refine lv_iload_n hx hb dX10_back_5 rfl (lv_at hl 1 rfl) ?_
  refine lv_i2l hx hb dX10_back_6 rfl ?_
  refine lv_topl (fun w2 e_w2 => ?_)
  have i_w2 : w2.toInt = kk.toInt := z_i2l e_w2 rfl
  refine lv_lconst (v := 0) hx hb dX10_back_7 (by decide) ?_
  refine lv_ldc2 (v := 2) hx hb hown (hT _ kw_1512) dX10_back_8 ?_
  have hz3 := (show (0 : Int64).toInt = 0 by decide)
  have hz4 := (show (2 : Int64).toInt = 2 by decide)
  refine z_calliS (cells := 0) (slots := 0) (As := [.long w2, .long 0, .long 2]) (rest := []) ⟨hx, hb, hml, hown, hT⟩ (c_X10_in l ) (va_cwS 3 hT (z_goodS (fun _ h => h) kw_1339 kw_1340 kw_96 kw_1341) rfl rfl rfl (by decide +kernel) ⟨by decide, by decide⟩) z_mv hKK hw hA rfl hl.1 rfl (Nat.le_of_ble_eq_true rfl) dX10_back_11 ⟨by decide, by decide⟩ (fun r5 u H locs hp hw => ?_)
  obtain ⟨rfl, hp⟩ := hp
  have hw : z_H D vwCl (z_A L sz) s.heap L f1 H locs := hw
  rcases hp with ⟨rfl, h6⟩ | ⟨rfl, h6⟩
  · skip
    refine z_if_ne (tgt := 20) hx hb (show (1 : Int32).toInt = 1 by decide) dX10_back_14 (by decide) (fun _ => ?_) (fun h => absurd h (by decide))
    refine lv_aload_n hx hb dX10_back_20 rfl (lv_at hl 0 rfl) ?_
    refine z_get (C := RX10) (T := TX10) (N := 54) (ci := 10) (v := .ref ik) hx hb hT zin_X10 hown hK hw hm_mm hf_mm rfl 23 (by decide) (hT _ kw_1191) rfl dX10_back_21 ?_
    refine lv_iload_n hx hb dX10_back_24 rfl (lv_at hl 1 rfl) ?_
    refine z_zald hx hb hK hw 3 hm_ik hf_ik rfl (z_ix rfl (by omega)) dX10_back_25 ?_
    refine lv_topi (fun w7 e_w7 => ?_)
    refine z_if_ne (tgt := 32) hx hb rfl dX10_back_26 (by decide) (fun c8 => ?_) (fun c8 => ?_)
    · skip
      refine lv_aload_n hx hb dX10_back_32 rfl (lv_at hl 0 rfl) ?_
      refine lv_iconst (v := 1) hx hb dX10_back_33 (by decide) ?_
      refine lv_iload_n hx hb dX10_back_34 rfl (lv_at hl 1 rfl) ?_
      refine lv_iadd hx hb dX10_back_35 ?_
      refine lv_topi (fun w9 e_w9 => ?_)
      have i_w9 : w9.toInt = (1 + kk.toInt) := z_add e_w9 (show (1 : Int32).toInt = 1 by decide) rfl (by omega)
      refine lv_iconst (v := 0) hx hb dX10_back_36 (by decide) ?_
      have hz10 := (show (0 : Int32).toInt = 0 by decide)
      refine z_callvV (cells := 0) (slots := 0) (b := mm) (As := [.int w9, .int 0]) (rest := []) (ci := 10) (q0 := (RX10, TX10, 54)) ⟨hx, hb, hml, hown, hT⟩ (c_X10_copyMoor l hm_mm hm_li hm_ha hm_lw hm_st hm_fo hm_dr hf_mm hf_li hf_ha hf_lw hf_st hf_fo hf_dr hq_ha hq_lw hq_st hq_dr (by first | omega | decide | assumption) (by first | omega | decide | assumption) hea) (cwV 2 hT (z_goodV (fun _ h => h) kw_1471 kw_1473 kw_49 kw_96 kw_1474) rfl rfl rfl (by decide +kernel) ⟨by decide, by decide⟩) z_mv hKK hK hw hA hm_mm hf_mm rfl rfl rfl hl.1 rfl (Nat.le_of_ble_eq_true rfl) dX10_back_37 ⟨by decide, by decide⟩ (fun u H locs hp hw => ?_)
      obtain ⟨L11, f12⟩ := u
      obtain ⟨hsb, hfm, nli_13, nha_14, nlw_15, nst_16, nfo_17, ndr_18, ha_0, ha_1, ha_2, ha_3, ha_4, ha_5, hq_ha, hq_lw, hq_st, hq_dr, hp⟩ := hp
      have hsb : L = L11 := hsb
      subst hsb
      have hsb : ∀ b ∈ L, b ∈ L := fun _ h => h
      have hw : z_H D vwCl (z_A L sz) s.heap L f12 H locs := hw
      have hfr : ∀ b ∈ L, b ≠ mm → b ≠ li → b ≠ ha → b ≠ lw → b ≠ st → b ≠ fo → b ≠ dr → f12 b = f b := fun b hb h0 h1 h2 h3 h4 h5 h6 => (hfm b hb h1 h2 h3 h4 h5 h6).trans (hfr b hb h0 h1 h2 h3 h4 h5 h6)
      have hf_mm : f12 mm = .inr (10, [.int 0, .ref wd, .ref my, .ref ce, .ref mv, .ref ta, .int m6, .int m7, .int m8, .int m9, .int m10, .long m11, .int m12, .int m13, .int m14, .int m15, .ref li, .ref ha, .ref lw, .ref st, .ref fo, .ref dr, .int m22, .ref ik, .int m24, .int m25, .long m26, .int m27, .int m28, .ref ro, .int m30, .ref ct, .ref se, .ref th, .ref cn, .ref be, .int m36, .ref du, .int m38, .ref db, .int m40, .int m41, .int m42, .ref pn, .ref wg, .ref wh, .ref tn, .ref he, .int m48, .ref tr, .ref fd, .ref po, .int m52, .int m53]) := (hfm mm hm_mm (z_tne hf_mm hf_li (m := 10) (n := 140) rfl rfl (by decide)) (z_tne hf_mm hf_ha (m := 10) (n := 340) rfl rfl (by decide)) (z_tne hf_mm hf_lw (m := 10) (n := 300) rfl rfl (by decide)) (z_tne hf_mm hf_st (m := 10) (n := 260) rfl rfl (by decide)) (z_tne hf_mm hf_fo (m := 10) (n := 1540) rfl rfl (by decide)) (z_tne hf_mm hf_dr (m := 10) (n := 4260) rfl rfl (by decide))).trans hf_mm
      have hf_ik : f12 ik = .inl (cy 3, 3, .inl gik) := (hfm ik hm_ik (z_tne hf_ik hf_li (m := 124) (n := 140) rfl rfl (by decide)) (z_tne hf_ik hf_ha (m := 124) (n := 340) rfl rfl (by decide)) (z_tne hf_ik hf_lw (m := 124) (n := 300) rfl rfl (by decide)) (z_tne hf_ik hf_st (m := 124) (n := 260) rfl rfl (by decide)) (z_tne hf_ik hf_fo (m := 124) (n := 1540) rfl rfl (by decide)) (z_tne hf_ik hf_dr (m := 124) (n := 4260) rfl rfl (by decide))).trans hf_ik
      have hf_li : f12 li = .inl (cy 1, 5, .inl nli_13) := ha_0
      have hf_ha : f12 ha = .inl (cy 1, 30, .inl nha_14) := ha_1
      have hf_lw : f12 lw = .inl (cy 1, 25, .inl nlw_15) := ha_2
      have hf_st : f12 st = .inl (cy 1, 20, .inl nst_16) := ha_3
      have hf_fo : f12 fo = .inl (cy 1, 180, .inl nfo_17) := ha_4
      have hf_dr : f12 dr = .inl (cy 1, 520, .inl ndr_18) := ha_5
      have hea := hp
      refine lv_iconst (v := 0) hx hb dX10_back_40 (by decide) ?_
      exact z_iret hx hb hr hlk (by decide) (by decide) hw (⟨hsub, hfr, nli_13, nha_14, nlw_15, nst_16, nfo_17, ndr_18, hf_mm, hf_li, hf_ha, hf_lw, hf_st, hf_fo, hf_dr, hq_ha, hq_lw, hq_st, hq_dr, hea, Or.inl ⟨rfl, by omega, by rw [← e_w7]; omega⟩⟩) dX10_back_41
    · skip
      refine lv_bipush (v := (-6)) hx hb dX10_back_29 (by decide) ?_
      exact z_iret hx hb hr hlk (by decide) (by decide) hw (⟨hsub, hfr, gli, gha, glw, gst, gfo, gdr, hf_mm, hf_li, hf_ha, hf_lw, hf_st, hf_fo, hf_dr, hq_ha, hq_lw, hq_st, hq_dr, hea, Or.inr (Or.inl ⟨rfl, by omega, by rw [← e_w7]; omega⟩)⟩) dX10_back_31
  · skip
    refine z_if_ne (tgt := 20) hx hb (show (0 : Int32).toInt = 0 by decide) dX10_back_14 (by decide) (fun h => absurd h (by decide)) (fun _ => ?_)
    refine lv_bipush (v := (-2)) hx hb dX10_back_17 (by decide) ?_
    exact z_iret hx hb hr hlk (by decide) (by decide) hw (⟨hsub, hfr, gli, gha, glw, gst, gfo, gdr, hf_mm, hf_li, hf_ha, hf_lw, hf_st, hf_fo, hf_dr, hq_ha, hq_lw, hq_st, hq_dr, hea, Or.inr (Or.inr ⟨rfl, by omega⟩)⟩) dX10_back_19

set_option maxHeartbeats 2000000 in
set_option maxRecDepth 100000 in
theorem c_X10_row (l : Launch) {D : va_G} {cy : Nat → ClassId} {L : List Nat} {f : Nat → va_E} {sz : Nat} {adK adV : Nat → Nat} {mm wd my ce mv ta li ha lw st fo dr ik ro ct se th cn be du db pn wg wh tn he tr fd po : Nat} {m0 m6 m7 m8 m9 m10 m12 m13 m14 m15 m22 m24 m25 m27 m28 m30 m36 m38 m40 m41 m42 m48 m52 m53 : Int32} {m11 m26 : Int64} {gwd gmy : Nat → Int32} {gce : Nat → Int64} {sn ow nn : Int32} (hm_mm : mm ∈ L) (hm_wd : wd ∈ L) (hm_my : my ∈ L) (hm_ce : ce ∈ L) (hf_mm : f mm = .inr (10, [.int m0, .ref wd, .ref my, .ref ce, .ref mv, .ref ta, .int m6, .int m7, .int m8, .int m9, .int m10, .long m11, .int m12, .int m13, .int m14, .int m15, .ref li, .ref ha, .ref lw, .ref st, .ref fo, .ref dr, .int m22, .ref ik, .int m24, .int m25, .long m26, .int m27, .int m28, .ref ro, .int m30, .ref ct, .ref se, .ref th, .ref cn, .ref be, .int m36, .ref du, .int m38, .ref db, .int m40, .int m41, .int m42, .ref pn, .ref wg, .ref wh, .ref tn, .ref he, .int m48, .ref tr, .ref fd, .ref po, .int m52, .int m53])) (hf_wd : f wd = .inl (cy 1, 4, .inl gwd)) (hf_my : f my = .inl (cy 1, 4, .inl gmy)) (hf_ce : f ce = .inl (cy 2, 240, .inr (.inl gce))) (ne_wd_my : wd ≠ my) (hq_my : ∀ j : Nat, q_60 j (gmy j)) : Met l yX10_row (z_ws yX10_row cX10_row 5 (some .int)) (z_R 3 0 0) (va_Pc [.ref mm, .int sn, .int ow, .int nn] (z_Pre D vwCl (z_KK D cy adK adV) L f sz)) (z_Qi D vwCl (fun r u => L = u.1 ∧ (∀ b ∈ L, b ≠ mm → b ≠ wd → b ≠ my → b ≠ ce → u.2 b = f b) ∧ (∃ (nwd nmy : Nat → Int32) (nce : Nat → Int64), (u.2 mm = .inr (10, [.int 0, .ref wd, .ref my, .ref ce, .ref mv, .ref ta, .int m6, .int m7, .int m8, .int m9, .int m10, .long m11, .int m12, .int m13, .int m14, .int m15, .ref li, .ref ha, .ref lw, .ref st, .ref fo, .ref dr, .int m22, .ref ik, .int m24, .int m25, .long m26, .int m27, .int m28, .ref ro, .int m30, .ref ct, .ref se, .ref th, .ref cn, .ref be, .int m36, .ref du, .int m38, .ref db, .int m40, .int m41, .int m42, .ref pn, .ref wg, .ref wh, .ref tn, .ref he, .int m48, .ref tr, .ref fd, .ref po, .int m52, .int m53])) ∧ (u.2 wd = .inl (cy 1, 4, .inl nwd)) ∧ (u.2 my = .inl (cy 1, 4, .inl nmy)) ∧ (u.2 ce = .inl (cy 2, 240, .inr (.inl nce))) ∧ (∀ j : Nat, q_60 j (nmy j)) ∧ ((r = 0 ∧ ((0 ≤ sn.toInt ∧ sn.toInt ≤ 3) ∧ (0 ≤ ow.toInt ∧ ow.toInt ≤ 3) ∧ nn.toInt ≤ 60) ∧ 0 ≤ nn.toInt ∧ nwd = upd gwd sn.toNatClampNeg ow ∧ nmy = upd gmy sn.toNatClampNeg nn) ∨ (r = -2 ∧ ¬ ((0 ≤ sn.toInt ∧ sn.toInt ≤ 3) ∧ (0 ≤ ow.toInt ∧ ow.toInt ≤ 3) ∧ nn.toInt ≤ 60) ∧ nwd = gwd ∧ nmy = gmy) ∨ (r = -3 ∧ ((0 ≤ sn.toInt ∧ sn.toInt ≤ 3) ∧ (0 ≤ ow.toInt ∧ ow.toInt ≤ 3) ∧ nn.toInt ≤ 60) ∧ nn.toInt < 0 ∧ nwd = gwd ∧ nmy = gmy)))) L sz) 0 0 (z_A L sz) := by
  refine z_met (cc := cX10_row) (maxL := 5) (ret := (some .int)) (lv := [(0, .ref mm), (1, .int sn), (2, .int ow), (3, .int nn)]) (by decide) rfl (Nat.le_of_ble_eq_true rfl) rfl ?_
  intro p e s m below meth c ls hx hb hr hlk hml hown hnm hts hKK hA hw hl
  have hK := hKK.1.1
  have hown : s.vm.findClass RX10 = some m.cls := hown
  have hT : ∀ w ∈ lw_all, w.before ([.ref mm, .int sn, .int ow, .int nn] : List Value).toArray s = true := fun w h => hts w (z_cons w h)
  have hsub : L = L := rfl
  have hfr : ∀ b ∈ L, b ≠ mm → b ≠ wd → b ≠ my → b ≠ ce → f b = f b := fun _ _ _ _ _ _ => rfl
  refine lv_aload_n hx hb dX10_row_0 rfl (lv_at hl 0 rfl) ?_
  refine lv_iconst (v := 0) hx hb dX10_row_1 (by decide) ?_
  refine z_put (C := RX10) (T := TX10) (N := 54) (ci := 10) (v := .int 0) (fs' := [.int 0, .ref wd, .ref my, .ref ce, .ref mv, .ref ta, .int m6, .int m7, .int m8, .int m9, .int m10, .long m11, .int m12, .int m13, .int m14, .int m15, .ref li, .ref ha, .ref lw, .ref st, .ref fo, .ref dr, .int m22, .ref ik, .int m24, .int m25, .long m26, .int m27, .int m28, .ref ro, .int m30, .ref ct, .ref se, .ref th, .ref cn, .ref be, .int m36, .ref du, .int m38, .ref db, .int m40, .int m41, .int m42, .ref pn, .ref wg, .ref wh, .ref tn, .ref he, .int m48, .ref tr, .ref fd, .ref po, .int m52, .int m53]) hx hb hT zin_X10 tyX10_ok nmX10 hown hK hw hm_mm hf_mm rfl 0 (by decide) (hT _ kw_1168) rfl rfl rfl (Nat.le_of_ble_eq_true rfl) rfl dX10_row_2 (fun H locs hw => ?_)
  obtain ⟨f1, e_f1⟩ : ∃ z, z = va_up f mm (.inr (10, [.int 0, .ref wd, .ref my, .ref ce, .ref mv, .ref ta, .int m6, .int m7, .int m8, .int m9, .int m10, .long m11, .int m12, .int m13, .int m14, .int m15, .ref li, .ref ha, .ref lw, .ref st, .ref fo, .ref dr, .int m22, .ref ik, .int m24, .int m25, .long m26, .int m27, .int m28, .ref ro, .int m30, .ref ct, .ref se, .ref th, .ref cn, .ref be, .int m36, .ref du, .int m38, .ref db, .int m40, .int m41, .int m42, .ref pn, .ref wg, .ref wh, .ref tn, .ref he, .int m48, .ref tr, .ref fd, .ref po, .int m52, .int m53])) := ⟨_, rfl⟩
  rw [← e_f1] at hw
  have hf_wd : f1 wd = .inl (cy 1, 4, .inl gwd) := (congrFun e_f1 wd).trans (z_up_ne (z_tne hf_wd hf_mm (m := 132) (n := 10) rfl rfl (by decide)) hf_wd)
  have hf_my : f1 my = .inl (cy 1, 4, .inl gmy) := (congrFun e_f1 my).trans (z_up_ne (z_tne hf_my hf_mm (m := 132) (n := 10) rfl rfl (by decide)) hf_my)
  have hf_ce : f1 ce = .inl (cy 2, 240, .inr (.inl gce)) := (congrFun e_f1 ce).trans (z_up_ne (z_tne hf_ce hf_mm (m := 2021) (n := 10) rfl rfl (by decide)) hf_ce)
  have hf_mm : f1 mm = .inr (10, [.int 0, .ref wd, .ref my, .ref ce, .ref mv, .ref ta, .int m6, .int m7, .int m8, .int m9, .int m10, .long m11, .int m12, .int m13, .int m14, .int m15, .ref li, .ref ha, .ref lw, .ref st, .ref fo, .ref dr, .int m22, .ref ik, .int m24, .int m25, .long m26, .int m27, .int m28, .ref ro, .int m30, .ref ct, .ref se, .ref th, .ref cn, .ref be, .int m36, .ref du, .int m38, .ref db, .int m40, .int m41, .int m42, .ref pn, .ref wg, .ref wh, .ref tn, .ref he, .int m48, .ref tr, .ref fd, .ref po, .int m52, .int m53]) := (congrFun e_f1 mm).trans z_up_self
  have hfr : ∀ b ∈ L, b ≠ mm → b ≠ wd → b ≠ my → b ≠ ce → f1 b = f b := fun b hb h0 h1 h2 h3 => (congrFun e_f1 b).trans (z_up_ne h0 (hfr b hb h0 h1 h2 h3))
  refine lv_iload_n hx hb dX10_row_5 rfl (lv_at hl 1 rfl) ?_
  refine z_calliS (cells := 0) (slots := 0) (As := [.int sn]) (rest := []) ⟨hx, hb, hml, hown, hT⟩ (c_X10_isSlot l ) (va_cwS 1 hT (z_goodS (fun _ h => h) kw_1335 kw_1336 kw_96 kw_1337) rfl rfl rfl (by decide +kernel) ⟨by decide, by decide⟩) z_mv hKK hw hA rfl hl.1 rfl (Nat.le_of_ble_eq_true rfl) dX10_row_6 ⟨by decide, by decide⟩ (fun r2 u H locs hp hw => ?_)
  obtain ⟨rfl, hp⟩ := hp
  have hw : z_H D vwCl (z_A L sz) s.heap L f1 H locs := hw
  rcases hp with ⟨rfl, h3⟩ | ⟨rfl, h3⟩
  · skip
    refine z_if_eq (tgt := 30) hx hb (show (1 : Int32).toInt = 1 by decide) dX10_row_9 (by decide) (fun h => absurd h (by decide)) (fun _ => ?_)
    refine lv_iload_n hx hb dX10_row_12 rfl (lv_at hl 2 rfl) ?_
    refine lv_i2l hx hb dX10_row_13 rfl ?_
    refine lv_topl (fun w4 e_w4 => ?_)
    have i_w4 : w4.toInt = ow.toInt := z_i2l e_w4 rfl
    refine lv_lconst (v := 0) hx hb dX10_row_14 (by decide) ?_
    refine lv_ldc2 (v := 3) hx hb hown (hT _ kw_1338) dX10_row_15 ?_
    have hz5 := (show (0 : Int64).toInt = 0 by decide)
    have hz6 := (show (3 : Int64).toInt = 3 by decide)
    refine z_calliS (cells := 0) (slots := 0) (As := [.long w4, .long 0, .long 3]) (rest := []) ⟨hx, hb, hml, hown, hT⟩ (c_X10_in l ) (va_cwS 3 hT (z_goodS (fun _ h => h) kw_1339 kw_1340 kw_96 kw_1341) rfl rfl rfl (by decide +kernel) ⟨by decide, by decide⟩) z_mv hKK hw hA rfl hl.1 rfl (Nat.le_of_ble_eq_true rfl) dX10_row_18 ⟨by decide, by decide⟩ (fun r7 u H locs hp hw => ?_)
    obtain ⟨rfl, hp⟩ := hp
    have hw : z_H D vwCl (z_A L sz) s.heap L f1 H locs := hw
    rcases hp with ⟨rfl, h8⟩ | ⟨rfl, h8⟩
    · skip
      refine z_if_eq (tgt := 30) hx hb (show (1 : Int32).toInt = 1 by decide) dX10_row_21 (by decide) (fun h => absurd h (by decide)) (fun _ => ?_)
      refine lv_iload_n hx hb dX10_row_24 rfl (lv_at hl 3 rfl) ?_
      refine lv_bipush (v := 60) hx hb dX10_row_25 (by decide) ?_
      refine z_icmp_le (tgt := 33) hx hb rfl (show (60 : Int32).toInt = 60 by decide) dX10_row_27 (by decide) (fun c9 => ?_) (fun c9 => ?_)
      · skip
        refine lv_iload_n hx hb dX10_row_33 rfl (lv_at hl 3 rfl) ?_
        refine z_if_ge (tgt := 40) hx hb rfl dX10_row_34 (by decide) (fun c10 => ?_) (fun c10 => ?_)
        · skip
          refine lv_aload_n hx hb dX10_row_40 rfl (lv_at hl 0 rfl) ?_
          refine z_get (C := RX10) (T := TX10) (N := 54) (ci := 10) (v := .ref wd) hx hb hT zin_X10 hown hK hw hm_mm hf_mm rfl 1 (by decide) (hT _ kw_1169) rfl dX10_row_41 ?_
          refine lv_iload_n hx hb dX10_row_44 rfl (lv_at hl 1 rfl) ?_
          refine lv_iload_n hx hb dX10_row_45 rfl (lv_at hl 2 rfl) ?_
          refine z_iast hx hb hK hw 1 hm_wd hf_wd rfl (z_ix rfl (by omega)) dX10_row_46 (fun H locs hw => ?_)
          obtain ⟨f12, e_f12⟩ : ∃ z, z = va_up f1 wd (.inl (cy 1, 4, .inl (upd gwd sn.toNatClampNeg ow))) := ⟨_, rfl⟩
          rw [← e_f12] at hw
          have hf_mm : f12 mm = .inr (10, [.int 0, .ref wd, .ref my, .ref ce, .ref mv, .ref ta, .int m6, .int m7, .int m8, .int m9, .int m10, .long m11, .int m12, .int m13, .int m14, .int m15, .ref li, .ref ha, .ref lw, .ref st, .ref fo, .ref dr, .int m22, .ref ik, .int m24, .int m25, .long m26, .int m27, .int m28, .ref ro, .int m30, .ref ct, .ref se, .ref th, .ref cn, .ref be, .int m36, .ref du, .int m38, .ref db, .int m40, .int m41, .int m42, .ref pn, .ref wg, .ref wh, .ref tn, .ref he, .int m48, .ref tr, .ref fd, .ref po, .int m52, .int m53]) := (congrFun e_f12 mm).trans (z_up_ne (z_tne hf_mm hf_wd (m := 10) (n := 132) rfl rfl (by decide)) hf_mm)
          have hf_my : f12 my = .inl (cy 1, 4, .inl gmy) := (congrFun e_f12 my).trans (z_up_ne (Ne.symm ne_wd_my) hf_my)
          have hf_ce : f12 ce = .inl (cy 2, 240, .inr (.inl gce)) := (congrFun e_f12 ce).trans (z_up_ne (z_tne hf_ce hf_wd (m := 2021) (n := 132) rfl rfl (by decide)) hf_ce)
          have hf_wd : f12 wd = .inl (cy 1, 4, .inl (upd gwd sn.toNatClampNeg ow)) := (congrFun e_f12 wd).trans z_up_self
          have hfr : ∀ b ∈ L, b ≠ mm → b ≠ wd → b ≠ my → b ≠ ce → f12 b = f b := fun b hb h0 h1 h2 h3 => (congrFun e_f12 b).trans (z_up_ne h1 (hfr b hb h0 h1 h2 h3))
          obtain ⟨g11, e_g11⟩ : ∃ z, z = (upd gwd sn.toNatClampNeg ow) := ⟨_, rfl⟩
          rw [← e_g11] at hf_wd
          refine lv_aload_n hx hb dX10_row_47 rfl (lv_at hl 0 rfl) ?_
          refine z_get (C := RX10) (T := TX10) (N := 54) (ci := 10) (v := .ref my) hx hb hT zin_X10 hown hK hw hm_mm hf_mm rfl 2 (by decide) (hT _ kw_1170) rfl dX10_row_48 ?_
          refine lv_iload_n hx hb dX10_row_51 rfl (lv_at hl 1 rfl) ?_
          refine lv_iload_n hx hb dX10_row_52 rfl (lv_at hl 3 rfl) ?_
          refine z_iast hx hb hK hw 1 hm_my hf_my rfl (z_ix rfl (by omega)) dX10_row_53 (fun H locs hw => ?_)
          obtain ⟨f14, e_f14⟩ : ∃ z, z = va_up f12 my (.inl (cy 1, 4, .inl (upd gmy sn.toNatClampNeg nn))) := ⟨_, rfl⟩
          rw [← e_f14] at hw
          have hf_mm : f14 mm = .inr (10, [.int 0, .ref wd, .ref my, .ref ce, .ref mv, .ref ta, .int m6, .int m7, .int m8, .int m9, .int m10, .long m11, .int m12, .int m13, .int m14, .int m15, .ref li, .ref ha, .ref lw, .ref st, .ref fo, .ref dr, .int m22, .ref ik, .int m24, .int m25, .long m26, .int m27, .int m28, .ref ro, .int m30, .ref ct, .ref se, .ref th, .ref cn, .ref be, .int m36, .ref du, .int m38, .ref db, .int m40, .int m41, .int m42, .ref pn, .ref wg, .ref wh, .ref tn, .ref he, .int m48, .ref tr, .ref fd, .ref po, .int m52, .int m53]) := (congrFun e_f14 mm).trans (z_up_ne (z_tne hf_mm hf_my (m := 10) (n := 132) rfl rfl (by decide)) hf_mm)
          have hf_wd : f14 wd = .inl (cy 1, 4, .inl g11) := (congrFun e_f14 wd).trans (z_up_ne ne_wd_my hf_wd)
          have hf_ce : f14 ce = .inl (cy 2, 240, .inr (.inl gce)) := (congrFun e_f14 ce).trans (z_up_ne (z_tne hf_ce hf_my (m := 2021) (n := 132) rfl rfl (by decide)) hf_ce)
          have hf_my : f14 my = .inl (cy 1, 4, .inl (upd gmy sn.toNatClampNeg nn)) := (congrFun e_f14 my).trans z_up_self
          have hfr : ∀ b ∈ L, b ≠ mm → b ≠ wd → b ≠ my → b ≠ ce → f14 b = f b := fun b hb h0 h1 h2 h3 => (congrFun e_f14 b).trans (z_up_ne h2 (hfr b hb h0 h1 h2 h3))
          obtain ⟨g13, e_g13⟩ : ∃ z, z = (upd gmy sn.toNatClampNeg nn) := ⟨_, rfl⟩
          rw [← e_g13] at hf_my
          have hq_my : ∀ j : Nat, q_60 j (g13 j) := z_updQ hq_my e_g13 (show 0 ≤ (nn : Int32).toInt ∧ (nn : Int32).toInt ≤ 60 by first | decide | omega)
          refine lv_iconst (v := 0) hx hb dX10_row_54 (by decide) ?_
          refine lv_istore (lv' := [(4, .int 0), (0, .ref mm), (1, .int sn), (2, .int ow), (3, .int nn)]) hx hb dX10_row_55 hl (by decide) rfl (fun ls hl => ?_)
          have hzk : (0 : Int32).toInt = 0 := by decide
          refine z_loop (fun n H locs ls => ∃ (K15 : Int32) (G17 : Nat → Int64) (f16 : Nat → va_E), (n = (nn.toInt - K15.toInt).toNat) ∧ (0 ≤ K15.toInt) ∧ (K15.toInt ≤ nn.toInt) ∧ (z_H D vwCl (z_A L sz) s.heap L f16 H locs) ∧ (f16 mm = .inr (10, [.int 0, .ref wd, .ref my, .ref ce, .ref mv, .ref ta, .int m6, .int m7, .int m8, .int m9, .int m10, .long m11, .int m12, .int m13, .int m14, .int m15, .ref li, .ref ha, .ref lw, .ref st, .ref fo, .ref dr, .int m22, .ref ik, .int m24, .int m25, .long m26, .int m27, .int m28, .ref ro, .int m30, .ref ct, .ref se, .ref th, .ref cn, .ref be, .int m36, .ref du, .int m38, .ref db, .int m40, .int m41, .int m42, .ref pn, .ref wg, .ref wh, .ref tn, .ref he, .int m48, .ref tr, .ref fd, .ref po, .int m52, .int m53])) ∧ (f16 wd = .inl (cy 1, 4, .inl g11)) ∧ (f16 my = .inl (cy 1, 4, .inl g13)) ∧ (f16 ce = .inl (cy 2, 240, .inr (.inl G17))) ∧ (∀ b ∈ L, b ≠ mm → b ≠ wd → b ≠ my → b ≠ ce → f16 b = f b) ∧ (lv_has ls 5 [(4, .int K15), (0, .ref mm), (1, .int sn), (2, .int ow), (3, .int nn)])) _ ⟨0, gce, f14, rfl, (by first | decide | omega), (by first | decide | omega), hw, hf_mm, hf_wd, hf_my, hf_ce, hfr, (lv_sub hl [0, 1, 2, 3, 4] rfl)⟩ (fun n H locs ls hI ih_57 => ?_)
          obtain ⟨K15, G17, f16, hn, hk0, hk1, hw, hf_mm, hf_wd, hf_my, hf_ce, hfr, hl⟩ := hI
          refine lv_iload hx hb dX10_row_57 (lv_at hl 0 rfl) ?_
          refine lv_iload_n hx hb dX10_row_59 rfl (lv_at hl 4 rfl) ?_
          refine z_icmp_ge (tgt := 82) hx hb rfl rfl dX10_row_60 (by decide) (fun c18 => ?_) (fun c18 => ?_)
          · skip
            refine lv_iconst (v := 0) hx hb dX10_row_82 (by decide) ?_
            exact z_iret hx hb hr hlk (by decide) (by decide) hw (⟨hsub, hfr, g11, g13, G17, hf_mm, hf_wd, hf_my, hf_ce, hq_my, Or.inl ⟨rfl, by omega, by omega, e_g11, e_g13⟩⟩) dX10_row_83
          · skip
            refine lv_aload_n hx hb dX10_row_63 rfl (lv_at hl 1 rfl) ?_
            refine z_get (C := RX10) (T := TX10) (N := 54) (ci := 10) (v := .ref ce) hx hb hT zin_X10 hown hK hw hm_mm hf_mm rfl 3 (by decide) (hT _ kw_1171) rfl dX10_row_64 ?_
            refine lv_bipush (v := 60) hx hb dX10_row_67 (by decide) ?_
            refine lv_iload_n hx hb dX10_row_69 rfl (lv_at hl 2 rfl) ?_
            refine lv_imul hx hb dX10_row_70 ?_
            refine lv_topi (fun w19 e_w19 => ?_)
            have i_w19 : w19.toInt = (60 * sn.toInt) := z_mul e_w19 (show (60 : Int32).toInt = 60 by decide) rfl (by omega)
            refine lv_iload hx hb dX10_row_71 (lv_at hl 0 rfl) ?_
            refine lv_iadd hx hb dX10_row_73 ?_
            refine lv_topi (fun w20 e_w20 => ?_)
            have i_w20 : w20.toInt = ((60 * sn.toInt) + K15.toInt) := z_add e_w20 i_w19 rfl (by omega)
            refine lv_lconst (v := 0) hx hb dX10_row_74 (by decide) ?_
            refine z_last hx hb hK hw 2 hm_ce hf_ce rfl (z_ix i_w20 (by omega)) dX10_row_75 (fun H locs hw => ?_)
            obtain ⟨f22, e_f22⟩ : ∃ z, z = va_up f16 ce (.inl (cy 2, 240, .inr (.inl (vp_updL G17 w20.toNatClampNeg 0)))) := ⟨_, rfl⟩
            rw [← e_f22] at hw
            have hf_mm : f22 mm = .inr (10, [.int 0, .ref wd, .ref my, .ref ce, .ref mv, .ref ta, .int m6, .int m7, .int m8, .int m9, .int m10, .long m11, .int m12, .int m13, .int m14, .int m15, .ref li, .ref ha, .ref lw, .ref st, .ref fo, .ref dr, .int m22, .ref ik, .int m24, .int m25, .long m26, .int m27, .int m28, .ref ro, .int m30, .ref ct, .ref se, .ref th, .ref cn, .ref be, .int m36, .ref du, .int m38, .ref db, .int m40, .int m41, .int m42, .ref pn, .ref wg, .ref wh, .ref tn, .ref he, .int m48, .ref tr, .ref fd, .ref po, .int m52, .int m53]) := (congrFun e_f22 mm).trans (z_up_ne (z_tne hf_mm hf_ce (m := 10) (n := 2021) rfl rfl (by decide)) hf_mm)
            have hf_wd : f22 wd = .inl (cy 1, 4, .inl g11) := (congrFun e_f22 wd).trans (z_up_ne (z_tne hf_wd hf_ce (m := 132) (n := 2021) rfl rfl (by decide)) hf_wd)
            have hf_my : f22 my = .inl (cy 1, 4, .inl g13) := (congrFun e_f22 my).trans (z_up_ne (z_tne hf_my hf_ce (m := 132) (n := 2021) rfl rfl (by decide)) hf_my)
            have hf_ce : f22 ce = .inl (cy 2, 240, .inr (.inl (vp_updL G17 w20.toNatClampNeg 0))) := (congrFun e_f22 ce).trans z_up_self
            have hfr : ∀ b ∈ L, b ≠ mm → b ≠ wd → b ≠ my → b ≠ ce → f22 b = f b := fun b hb h0 h1 h2 h3 => (congrFun e_f22 b).trans (z_up_ne h3 (hfr b hb h0 h1 h2 h3))
            obtain ⟨g21, e_g21⟩ : ∃ z, z = (vp_updL G17 w20.toNatClampNeg 0) := ⟨_, rfl⟩
            rw [← e_g21] at hf_ce
            obtain ⟨k23, e_k23⟩ : ∃ z : Int32, z = K15 + 1 := ⟨_, rfl⟩
            refine lv_iinc (v := k23) (lv' := [(4, .int k23), (0, .ref mm), (1, .int sn), (2, .int ow), (3, .int nn)]) hx hb dX10_row_76 hl (k := 0) rfl (by rw [e_k23]; rfl) (by decide) rfl (fun ls hl => ?_)
            have i_k23 : k23.toInt = (K15.toInt + 1) := z_add e_k23 rfl (by decide) (by omega)
            refine lv_goto (tgt := 57) hx hb dX10_row_79 (by decide) ?_
            exact ih_57 _ (by omega) _ _ _ ⟨k23, g21, f22, rfl, (by first | decide | omega), (by first | decide | omega), hw, hf_mm, hf_wd, hf_my, hf_ce, hfr, (lv_sub hl [0, 1, 2, 3, 4] rfl)⟩
        · skip
          refine lv_bipush (v := (-3)) hx hb dX10_row_37 (by decide) ?_
          exact z_iret hx hb hr hlk (by decide) (by decide) hw (⟨hsub, hfr, gwd, gmy, gce, hf_mm, hf_wd, hf_my, hf_ce, hq_my, Or.inr (Or.inr ⟨rfl, by omega, by omega, rfl, rfl⟩)⟩) dX10_row_39
      · skip
        refine lv_bipush (v := (-2)) hx hb dX10_row_30 (by decide) ?_
        exact z_iret hx hb hr hlk (by decide) (by decide) hw (⟨hsub, hfr, gwd, gmy, gce, hf_mm, hf_wd, hf_my, hf_ce, hq_my, Or.inr (Or.inl ⟨rfl, by omega, rfl, rfl⟩)⟩) dX10_row_32
    · skip
      refine z_if_eq (tgt := 30) hx hb (show (0 : Int32).toInt = 0 by decide) dX10_row_21 (by decide) (fun _ => ?_) (fun h => absurd h (by decide))
      refine lv_bipush (v := (-2)) hx hb dX10_row_30 (by decide) ?_
      exact z_iret hx hb hr hlk (by decide) (by decide) hw (⟨hsub, hfr, gwd, gmy, gce, hf_mm, hf_wd, hf_my, hf_ce, hq_my, Or.inr (Or.inl ⟨rfl, by omega, rfl, rfl⟩)⟩) dX10_row_32
  · skip
    refine z_if_eq (tgt := 30) hx hb (show (0 : Int32).toInt = 0 by decide) dX10_row_9 (by decide) (fun _ => ?_) (fun h => absurd h (by decide))
    refine lv_bipush (v := (-2)) hx hb dX10_row_30 (by decide) ?_
    exact z_iret hx hb hr hlk (by decide) (by decide) hw (⟨hsub, hfr, gwd, gmy, gce, hf_mm, hf_wd, hf_my, hf_ce, hq_my, Or.inr (Or.inl ⟨rfl, by omega, rfl, rfl⟩)⟩) dX10_row_32

set_option maxHeartbeats 2000000 in
set_option maxRecDepth 100000 in
theorem c_X10_write (l : Launch) {D : va_G} {cy : Nat → ClassId} {L : List Nat} {f : Nat → va_E} {sz : Nat} {adK adV : Nat → Nat} {mm wd my ce mv ta li ha lw st fo dr ik ro ct se th cn be du db pn wg wh tn he tr fd po : Nat} {m0 m6 m7 m8 m9 m10 m12 m13 m14 m15 m22 m24 m25 m27 m28 m30 m36 m38 m40 m41 m42 m48 m52 m53 : Int32} {m11 m26 : Int64} {gwd gmy : Nat → Int32} {gce : Nat → Int64} {sn ii : Int32} {va : Int64} (hm_mm : mm ∈ L) (hm_wd : wd ∈ L) (hm_my : my ∈ L) (hm_ce : ce ∈ L) (hf_mm : f mm = .inr (10, [.int m0, .ref wd, .ref my, .ref ce, .ref mv, .ref ta, .int m6, .int m7, .int m8, .int m9, .int m10, .long m11, .int m12, .int m13, .int m14, .int m15, .ref li, .ref ha, .ref lw, .ref st, .ref fo, .ref dr, .int m22, .ref ik, .int m24, .int m25, .long m26, .int m27, .int m28, .ref ro, .int m30, .ref ct, .ref se, .ref th, .ref cn, .ref be, .int m36, .ref du, .int m38, .ref db, .int m40, .int m41, .int m42, .ref pn, .ref wg, .ref wh, .ref tn, .ref he, .int m48, .ref tr, .ref fd, .ref po, .int m52, .int m53])) (hf_wd : f wd = .inl (cy 1, 4, .inl gwd)) (hf_my : f my = .inl (cy 1, 4, .inl gmy)) (hf_ce : f ce = .inl (cy 2, 240, .inr (.inl gce))) (ne_wd_my : wd ≠ my) (hq_my : ∀ j : Nat, q_60 j (gmy j)) : Met l yX10_write (z_ws yX10_write cX10_write 5 (some .int)) (z_R 3 0 0) (va_Pc [.ref mm, .int sn, .int ii, .long va] (z_Pre D vwCl (z_KK D cy adK adV) L f sz)) (z_Qi D vwCl (fun r u => L = u.1 ∧ (∀ b ∈ L, b ≠ mm → b ≠ ce → u.2 b = f b) ∧ (∃ (nce : Nat → Int64), (u.2 mm = .inr (10, [.int 0, .ref wd, .ref my, .ref ce, .ref mv, .ref ta, .int m6, .int m7, .int m8, .int m9, .int m10, .long m11, .int m12, .int m13, .int m14, .int m15, .ref li, .ref ha, .ref lw, .ref st, .ref fo, .ref dr, .int m22, .ref ik, .int m24, .int m25, .long m26, .int m27, .int m28, .ref ro, .int m30, .ref ct, .ref se, .ref th, .ref cn, .ref be, .int m36, .ref du, .int m38, .ref db, .int m40, .int m41, .int m42, .ref pn, .ref wg, .ref wh, .ref tn, .ref he, .int m48, .ref tr, .ref fd, .ref po, .int m52, .int m53])) ∧ (u.2 ce = .inl (cy 2, 240, .inr (.inl nce))) ∧ ((r = -2 ∧ ¬ (0 ≤ sn.toInt ∧ sn.toInt ≤ 3)) ∨ (r = -6 ∧ (0 ≤ sn.toInt ∧ sn.toInt ≤ 3) ∧ (gwd sn.toNatClampNeg).toInt = -1) ∨ (r = -7 ∧ (0 ≤ sn.toInt ∧ sn.toInt ≤ 3) ∧ (gwd sn.toNatClampNeg).toInt ≠ -1 ∧ ¬ (0 ≤ ii.toInt ∧ ii.toInt < (gmy sn.toNatClampNeg).toInt)) ∨ (r = 0 ∧ (0 ≤ sn.toInt ∧ sn.toInt ≤ 3) ∧ (gwd sn.toNatClampNeg).toInt ≠ -1 ∧ (0 ≤ ii.toInt ∧ ii.toInt < (gmy sn.toNatClampNeg).toInt))))) L sz) 0 0 (z_A L sz) := by
  refine z_met (cc := cX10_write) (maxL := 5) (ret := (some .int)) (lv := [(0, .ref mm), (1, .int sn), (2, .int ii), (3, .long va)]) (by decide) rfl (Nat.le_of_ble_eq_true rfl) rfl ?_
  intro p e s m below meth c ls hx hb hr hlk hml hown hnm hts hKK hA hw hl
  have hK := hKK.1.1
  have hown : s.vm.findClass RX10 = some m.cls := hown
  have hT : ∀ w ∈ lw_all, w.before ([.ref mm, .int sn, .int ii, .long va] : List Value).toArray s = true := fun w h => hts w (z_cons w h)
  have hsub : L = L := rfl
  have hfr : ∀ b ∈ L, b ≠ mm → b ≠ ce → f b = f b := fun _ _ _ _ => rfl
  have hz_m1 : (-1 : Int32).toInt = -1 := by decide
  refine lv_aload_n hx hb dX10_write_0 rfl (lv_at hl 0 rfl) ?_
  refine lv_iconst (v := 0) hx hb dX10_write_1 (by decide) ?_
  refine z_put (C := RX10) (T := TX10) (N := 54) (ci := 10) (v := .int 0) (fs' := [.int 0, .ref wd, .ref my, .ref ce, .ref mv, .ref ta, .int m6, .int m7, .int m8, .int m9, .int m10, .long m11, .int m12, .int m13, .int m14, .int m15, .ref li, .ref ha, .ref lw, .ref st, .ref fo, .ref dr, .int m22, .ref ik, .int m24, .int m25, .long m26, .int m27, .int m28, .ref ro, .int m30, .ref ct, .ref se, .ref th, .ref cn, .ref be, .int m36, .ref du, .int m38, .ref db, .int m40, .int m41, .int m42, .ref pn, .ref wg, .ref wh, .ref tn, .ref he, .int m48, .ref tr, .ref fd, .ref po, .int m52, .int m53]) hx hb hT zin_X10 tyX10_ok nmX10 hown hK hw hm_mm hf_mm rfl 0 (by decide) (hT _ kw_1168) rfl rfl rfl (Nat.le_of_ble_eq_true rfl) rfl dX10_write_2 (fun H locs hw => ?_)
  obtain ⟨f1, e_f1⟩ : ∃ z, z = va_up f mm (.inr (10, [.int 0, .ref wd, .ref my, .ref ce, .ref mv, .ref ta, .int m6, .int m7, .int m8, .int m9, .int m10, .long m11, .int m12, .int m13, .int m14, .int m15, .ref li, .ref ha, .ref lw, .ref st, .ref fo, .ref dr, .int m22, .ref ik, .int m24, .int m25, .long m26, .int m27, .int m28, .ref ro, .int m30, .ref ct, .ref se, .ref th, .ref cn, .ref be, .int m36, .ref du, .int m38, .ref db, .int m40, .int m41, .int m42, .ref pn, .ref wg, .ref wh, .ref tn, .ref he, .int m48, .ref tr, .ref fd, .ref po, .int m52, .int m53])) := ⟨_, rfl⟩
  rw [← e_f1] at hw
  have hf_wd : f1 wd = .inl (cy 1, 4, .inl gwd) := (congrFun e_f1 wd).trans (z_up_ne (z_tne hf_wd hf_mm (m := 132) (n := 10) rfl rfl (by decide)) hf_wd)
  have hf_my : f1 my = .inl (cy 1, 4, .inl gmy) := (congrFun e_f1 my).trans (z_up_ne (z_tne hf_my hf_mm (m := 132) (n := 10) rfl rfl (by decide)) hf_my)
  have hf_ce : f1 ce = .inl (cy 2, 240, .inr (.inl gce)) := (congrFun e_f1 ce).trans (z_up_ne (z_tne hf_ce hf_mm (m := 2021) (n := 10) rfl rfl (by decide)) hf_ce)
  have hf_mm : f1 mm = .inr (10, [.int 0, .ref wd, .ref my, .ref ce, .ref mv, .ref ta, .int m6, .int m7, .int m8, .int m9, .int m10, .long m11, .int m12, .int m13, .int m14, .int m15, .ref li, .ref ha, .ref lw, .ref st, .ref fo, .ref dr, .int m22, .ref ik, .int m24, .int m25, .long m26, .int m27, .int m28, .ref ro, .int m30, .ref ct, .ref se, .ref th, .ref cn, .ref be, .int m36, .ref du, .int m38, .ref db, .int m40, .int m41, .int m42, .ref pn, .ref wg, .ref wh, .ref tn, .ref he, .int m48, .ref tr, .ref fd, .ref po, .int m52, .int m53]) := (congrFun e_f1 mm).trans z_up_self
  have hfr : ∀ b ∈ L, b ≠ mm → b ≠ ce → f1 b = f b := fun b hb h0 h1 => (congrFun e_f1 b).trans (z_up_ne h0 (hfr b hb h0 h1))
  refine lv_iload_n hx hb dX10_write_5 rfl (lv_at hl 1 rfl) ?_
  refine z_calliS (cells := 0) (slots := 0) (As := [.int sn]) (rest := []) ⟨hx, hb, hml, hown, hT⟩ (c_X10_isSlot l ) (va_cwS 1 hT (z_goodS (fun _ h => h) kw_1335 kw_1336 kw_96 kw_1337) rfl rfl rfl (by decide +kernel) ⟨by decide, by decide⟩) z_mv hKK hw hA rfl hl.1 rfl (Nat.le_of_ble_eq_true rfl) dX10_write_6 ⟨by decide, by decide⟩ (fun r2 u H locs hp hw => ?_)
  obtain ⟨rfl, hp⟩ := hp
  have hw : z_H D vwCl (z_A L sz) s.heap L f1 H locs := hw
  rcases hp with ⟨rfl, h3⟩ | ⟨rfl, h3⟩
  · skip
    refine z_if_ne (tgt := 15) hx hb (show (1 : Int32).toInt = 1 by decide) dX10_write_9 (by decide) (fun _ => ?_) (fun h => absurd h (by decide))
    refine lv_aload_n hx hb dX10_write_15 rfl (lv_at hl 0 rfl) ?_
    refine z_get (C := RX10) (T := TX10) (N := 54) (ci := 10) (v := .ref wd) hx hb hT zin_X10 hown hK hw hm_mm hf_mm rfl 1 (by decide) (hT _ kw_1169) rfl dX10_write_16 ?_
    refine lv_iload_n hx hb dX10_write_19 rfl (lv_at hl 1 rfl) ?_
    refine z_iald hx hb hK hw 1 hm_wd hf_wd rfl (z_ix rfl (by omega)) dX10_write_20 ?_
    refine lv_topi (fun w4 e_w4 => ?_)
    have h_ws := congrArg Int32.toInt e_w4
    refine lv_iconst (v := (-1)) hx hb dX10_write_21 (by decide) ?_
    refine z_icmp_ne (tgt := 28) hx hb rfl (show ((-1) : Int32).toInt = (-1) by decide) dX10_write_22 (by decide) (fun c5 => ?_) (fun c5 => ?_)
    · skip
      refine lv_iload_n hx hb dX10_write_28 rfl (lv_at hl 2 rfl) ?_
      refine lv_i2l hx hb dX10_write_29 rfl ?_
      refine lv_topl (fun w6 e_w6 => ?_)
      have i_w6 : w6.toInt = ii.toInt := z_i2l e_w6 rfl
      refine lv_lconst (v := 0) hx hb dX10_write_30 (by decide) ?_
      refine lv_aload_n hx hb dX10_write_31 rfl (lv_at hl 0 rfl) ?_
      refine z_get (C := RX10) (T := TX10) (N := 54) (ci := 10) (v := .ref my) hx hb hT zin_X10 hown hK hw hm_mm hf_mm rfl 2 (by decide) (hT _ kw_1170) rfl dX10_write_32 ?_
      refine lv_iload_n hx hb dX10_write_35 rfl (lv_at hl 1 rfl) ?_
      refine z_iald hx hb hK hw 1 hm_my hf_my rfl (z_ix rfl (by omega)) dX10_write_36 ?_
      refine lv_topi (fun w7 e_w7 => ?_)
      have hv_w7 : 0 ≤ w7.toInt ∧ w7.toInt ≤ 60 := by rw [e_w7]; exact hq_my _
      have h_ms := congrArg Int32.toInt e_w7
      refine lv_iconst (v := 1) hx hb dX10_write_37 (by decide) ?_
      refine lv_isub hx hb dX10_write_38 ?_
      refine lv_topi (fun w8 e_w8 => ?_)
      have i_w8 : w8.toInt = (w7.toInt - 1) := z_subI e_w8 rfl (show (1 : Int32).toInt = 1 by decide) (by omega)
      refine lv_i2l hx hb dX10_write_39 rfl ?_
      refine lv_topl (fun w9 e_w9 => ?_)
      have i_w9 : w9.toInt = (w7.toInt - 1) := z_i2l e_w9 i_w8
      have hz10 := (show (0 : Int64).toInt = 0 by decide)
      refine z_calliS (cells := 0) (slots := 0) (As := [.long w6, .long 0, .long w9]) (rest := []) ⟨hx, hb, hml, hown, hT⟩ (c_X10_in l ) (va_cwS 3 hT (z_goodS (fun _ h => h) kw_1339 kw_1340 kw_96 kw_1341) rfl rfl rfl (by decide +kernel) ⟨by decide, by decide⟩) z_mv hKK hw hA rfl hl.1 rfl (Nat.le_of_ble_eq_true rfl) dX10_write_40 ⟨by decide, by decide⟩ (fun r11 u H locs hp hw => ?_)
      obtain ⟨rfl, hp⟩ := hp
      have hw : z_H D vwCl (z_A L sz) s.heap L f1 H locs := hw
      rcases hp with ⟨rfl, h12⟩ | ⟨rfl, h12⟩
      · skip
        refine z_if_ne (tgt := 49) hx hb (show (1 : Int32).toInt = 1 by decide) dX10_write_43 (by decide) (fun _ => ?_) (fun h => absurd h (by decide))
        refine lv_aload_n hx hb dX10_write_49 rfl (lv_at hl 0 rfl) ?_
        refine z_get (C := RX10) (T := TX10) (N := 54) (ci := 10) (v := .ref ce) hx hb hT zin_X10 hown hK hw hm_mm hf_mm rfl 3 (by decide) (hT _ kw_1171) rfl dX10_write_50 ?_
        refine lv_bipush (v := 60) hx hb dX10_write_53 (by decide) ?_
        refine lv_iload_n hx hb dX10_write_55 rfl (lv_at hl 1 rfl) ?_
        refine lv_imul hx hb dX10_write_56 ?_
        refine lv_topi (fun w13 e_w13 => ?_)
        have i_w13 : w13.toInt = (60 * sn.toInt) := z_mul e_w13 (show (60 : Int32).toInt = 60 by decide) rfl (by omega)
        refine lv_iload_n hx hb dX10_write_57 rfl (lv_at hl 2 rfl) ?_
        refine lv_iadd hx hb dX10_write_58 ?_
        refine lv_topi (fun w14 e_w14 => ?_)
        have i_w14 : w14.toInt = ((60 * sn.toInt) + ii.toInt) := z_add e_w14 i_w13 rfl (by omega)
        refine lv_lload_n hx hb dX10_write_59 rfl (lv_at hl 3 rfl) ?_
        refine lv_aload_n hx hb dX10_write_60 rfl (lv_at hl 0 rfl) ?_
        refine z_get (C := RX10) (T := TX10) (N := 54) (ci := 10) (v := .ref wd) hx hb hT zin_X10 hown hK hw hm_mm hf_mm rfl 1 (by decide) (hT _ kw_1169) rfl dX10_write_61 ?_
        refine lv_iload_n hx hb dX10_write_64 rfl (lv_at hl 1 rfl) ?_
        refine z_iald hx hb hK hw 1 hm_wd hf_wd rfl (z_ix rfl (by omega)) dX10_write_65 ?_
        refine lv_topi (fun w15 e_w15 => ?_)
        refine z_calllS (cells := 0) (slots := 0) (As := [.long va, .int w15]) (rest := [.int w14, .ref ce]) ⟨hx, hb, hml, hown, hT⟩ (c_X10_cut l ) (va_cwS 2 hT (z_goodS (fun _ h => h) kw_1346 kw_1347 kw_96 kw_1348) rfl rfl rfl (by decide +kernel) ⟨by decide, by decide⟩) z_mv hKK hw hA rfl hl.1 rfl (Nat.le_of_ble_eq_true rfl) dX10_write_66 ⟨by decide, by decide⟩ (fun r16 u H locs hp hw => ?_)
        obtain ⟨rfl, hp⟩ := hp
        have hw : z_H D vwCl (z_A L sz) s.heap L f1 H locs := hw
        refine z_last hx hb hK hw 2 hm_ce hf_ce rfl (z_ix i_w14 (by omega)) dX10_write_69 (fun H locs hw => ?_)
        obtain ⟨f18, e_f18⟩ : ∃ z, z = va_up f1 ce (.inl (cy 2, 240, .inr (.inl (vp_updL gce w14.toNatClampNeg r16)))) := ⟨_, rfl⟩
        rw [← e_f18] at hw
        have hf_mm : f18 mm = .inr (10, [.int 0, .ref wd, .ref my, .ref ce, .ref mv, .ref ta, .int m6, .int m7, .int m8, .int m9, .int m10, .long m11, .int m12, .int m13, .int m14, .int m15, .ref li, .ref ha, .ref lw, .ref st, .ref fo, .ref dr, .int m22, .ref ik, .int m24, .int m25, .long m26, .int m27, .int m28, .ref ro, .int m30, .ref ct, .ref se, .ref th, .ref cn, .ref be, .int m36, .ref du, .int m38, .ref db, .int m40, .int m41, .int m42, .ref pn, .ref wg, .ref wh, .ref tn, .ref he, .int m48, .ref tr, .ref fd, .ref po, .int m52, .int m53]) := (congrFun e_f18 mm).trans (z_up_ne (z_tne hf_mm hf_ce (m := 10) (n := 2021) rfl rfl (by decide)) hf_mm)
        have hf_wd : f18 wd = .inl (cy 1, 4, .inl gwd) := (congrFun e_f18 wd).trans (z_up_ne (z_tne hf_wd hf_ce (m := 132) (n := 2021) rfl rfl (by decide)) hf_wd)
        have hf_my : f18 my = .inl (cy 1, 4, .inl gmy) := (congrFun e_f18 my).trans (z_up_ne (z_tne hf_my hf_ce (m := 132) (n := 2021) rfl rfl (by decide)) hf_my)
        have hf_ce : f18 ce = .inl (cy 2, 240, .inr (.inl (vp_updL gce w14.toNatClampNeg r16))) := (congrFun e_f18 ce).trans z_up_self
        have hfr : ∀ b ∈ L, b ≠ mm → b ≠ ce → f18 b = f b := fun b hb h0 h1 => (congrFun e_f18 b).trans (z_up_ne h1 (hfr b hb h0 h1))
        obtain ⟨g17, e_g17⟩ : ∃ z, z = (vp_updL gce w14.toNatClampNeg r16) := ⟨_, rfl⟩
        rw [← e_g17] at hf_ce
        refine lv_iconst (v := 0) hx hb dX10_write_70 (by decide) ?_
        exact z_iret hx hb hr hlk (by decide) (by decide) hw (⟨hsub, hfr, g17, hf_mm, hf_ce, Or.inr (Or.inr (Or.inr ⟨rfl, by omega, by omega, by omega⟩))⟩) dX10_write_71
      · skip
        refine z_if_ne (tgt := 49) hx hb (show (0 : Int32).toInt = 0 by decide) dX10_write_43 (by decide) (fun h => absurd h (by decide)) (fun _ => ?_)
        refine lv_bipush (v := (-7)) hx hb dX10_write_46 (by decide) ?_
        exact z_iret hx hb hr hlk (by decide) (by decide) hw (⟨hsub, hfr, gce, hf_mm, hf_ce, Or.inr (Or.inr (Or.inl ⟨rfl, by omega, by omega, by omega⟩))⟩) dX10_write_48
    · skip
      refine lv_bipush (v := (-6)) hx hb dX10_write_25 (by decide) ?_
      exact z_iret hx hb hr hlk (by decide) (by decide) hw (⟨hsub, hfr, gce, hf_mm, hf_ce, Or.inr (Or.inl ⟨rfl, by omega, by omega⟩)⟩) dX10_write_27
  · skip
    refine z_if_ne (tgt := 15) hx hb (show (0 : Int32).toInt = 0 by decide) dX10_write_9 (by decide) (fun h => absurd h (by decide)) (fun _ => ?_)
    refine lv_bipush (v := (-2)) hx hb dX10_write_12 (by decide) ?_
    exact z_iret hx hb hr hlk (by decide) (by decide) hw (⟨hsub, hfr, gce, hf_mm, hf_ce, Or.inl ⟨rfl, by omega⟩⟩) dX10_write_14

set_option maxHeartbeats 2000000 in
set_option maxRecDepth 100000 in
theorem c_X10_paste (l : Launch) {D : va_G} {cy : Nat → ClassId} {L : List Nat} {f : Nat → va_E} {sz : Nat} {adK adV : Nat → Nat} {mm wd my ce mv ta li ha lw st fo dr ik ro ct se th cn be du db pn wg wh tn he tr fd po : Nat} {m0 m6 m7 m8 m9 m10 m12 m13 m14 m15 m22 m24 m25 m27 m28 m30 m36 m38 m40 m41 m42 m48 m52 m53 : Int32} {m11 m26 : Int64} {gwd gmy : Nat → Int32} {gce gmv : Nat → Int64} {sn ii to_ ki nn : Int32} (hm_mm : mm ∈ L) (hm_wd : wd ∈ L) (hm_my : my ∈ L) (hm_ce : ce ∈ L) (hm_mv : mv ∈ L) (hf_mm : f mm = .inr (10, [.int m0, .ref wd, .ref my, .ref ce, .ref mv, .ref ta, .int m6, .int m7, .int m8, .int m9, .int m10, .long m11, .int m12, .int m13, .int m14, .int m15, .ref li, .ref ha, .ref lw, .ref st, .ref fo, .ref dr, .int m22, .ref ik, .int m24, .int m25, .long m26, .int m27, .int m28, .ref ro, .int m30, .ref ct, .ref se, .ref th, .ref cn, .ref be, .int m36, .ref du, .int m38, .ref db, .int m40, .int m41, .int m42, .ref pn, .ref wg, .ref wh, .ref tn, .ref he, .int m48, .ref tr, .ref fd, .ref po, .int m52, .int m53])) (hf_wd : f wd = .inl (cy 1, 4, .inl gwd)) (hf_my : f my = .inl (cy 1, 4, .inl gmy)) (hf_ce : f ce = .inl (cy 2, 240, .inr (.inl gce))) (hf_mv : f mv = .inl (cy 2, 60, .inr (.inl gmv))) (ne_wd_my : wd ≠ my) (hq_my : ∀ j : Nat, q_60 j (gmy j)) : Met l yX10_paste (z_ws yX10_paste cX10_paste 7 (some .int)) (z_R 3 0 0) (va_Pc [.ref mm, .int sn, .int ii, .int to_, .int ki, .int nn] (z_Pre D vwCl (z_KK D cy adK adV) L f sz)) (z_Qi D vwCl (fun r u => L = u.1 ∧ (∀ b ∈ L, b ≠ mm → b ≠ ce → b ≠ mv → u.2 b = f b) ∧ (∃ (nce nmv : Nat → Int64), (u.2 mm = .inr (10, [.int 0, .ref wd, .ref my, .ref ce, .ref mv, .ref ta, .int m6, .int m7, .int m8, .int m9, .int m10, .long m11, .int m12, .int m13, .int m14, .int m15, .ref li, .ref ha, .ref lw, .ref st, .ref fo, .ref dr, .int m22, .ref ik, .int m24, .int m25, .long m26, .int m27, .int m28, .ref ro, .int m30, .ref ct, .ref se, .ref th, .ref cn, .ref be, .int m36, .ref du, .int m38, .ref db, .int m40, .int m41, .int m42, .ref pn, .ref wg, .ref wh, .ref tn, .ref he, .int m48, .ref tr, .ref fd, .ref po, .int m52, .int m53])) ∧ (u.2 ce = .inl (cy 2, 240, .inr (.inl nce))) ∧ (u.2 mv = .inl (cy 2, 60, .inr (.inl nmv))) ∧ ((r = -2 ∧ ¬ ((0 ≤ sn.toInt ∧ sn.toInt ≤ 3) ∧ (0 ≤ to_.toInt ∧ to_.toInt ≤ 3))) ∨ (r = -6 ∧ ((0 ≤ sn.toInt ∧ sn.toInt ≤ 3) ∧ (0 ≤ to_.toInt ∧ to_.toInt ≤ 3)) ∧ ((gwd sn.toNatClampNeg).toInt = -1 ∨ (gwd to_.toNatClampNeg).toInt = -1)) ∨ (r = -8 ∧ ((0 ≤ sn.toInt ∧ sn.toInt ≤ 3) ∧ (0 ≤ to_.toInt ∧ to_.toInt ≤ 3)) ∧ (gwd sn.toNatClampNeg).toInt ≠ -1 ∧ (gwd to_.toNatClampNeg).toInt ≠ -1 ∧ (gwd sn.toNatClampNeg).toInt ≠ (gwd to_.toNatClampNeg).toInt) ∨ (r = -7 ∧ ((0 ≤ sn.toInt ∧ sn.toInt ≤ 3) ∧ (0 ≤ to_.toInt ∧ to_.toInt ≤ 3)) ∧ (gwd sn.toNatClampNeg).toInt ≠ -1 ∧ (gwd to_.toNatClampNeg).toInt ≠ -1 ∧ (gwd sn.toNatClampNeg).toInt = (gwd to_.toNatClampNeg).toInt ∧ ¬ ((0 ≤ ii.toInt ∧ 0 ≤ nn.toInt ∧ ii.toInt + nn.toInt ≤ (gmy sn.toNatClampNeg).toInt) ∧ (0 ≤ ki.toInt ∧ 0 ≤ nn.toInt ∧ ki.toInt + nn.toInt ≤ (gmy to_.toNatClampNeg).toInt))) ∨ (r = 0 ∧ ((0 ≤ sn.toInt ∧ sn.toInt ≤ 3) ∧ (0 ≤ to_.toInt ∧ to_.toInt ≤ 3)) ∧ (gwd sn.toNatClampNeg).toInt ≠ -1 ∧ (gwd to_.toNatClampNeg).toInt ≠ -1 ∧ (gwd sn.toNatClampNeg).toInt = (gwd to_.toNatClampNeg).toInt ∧ ((0 ≤ ii.toInt ∧ 0 ≤ nn.toInt ∧ ii.toInt + nn.toInt ≤ (gmy sn.toNatClampNeg).toInt) ∧ (0 ≤ ki.toInt ∧ 0 ≤ nn.toInt ∧ ki.toInt + nn.toInt ≤ (gmy to_.toNatClampNeg).toInt)))))) L sz) 0 0 (z_A L sz) := by
  refine z_met (cc := cX10_paste) (maxL := 7) (ret := (some .int)) (lv := [(0, .ref mm), (1, .int sn), (2, .int ii), (3, .int to_), (4, .int ki), (5, .int nn)]) (by decide) rfl (Nat.le_of_ble_eq_true rfl) rfl ?_
  intro p e s m below meth c ls hx hb hr hlk hml hown hnm hts hKK hA hw hl
  have hK := hKK.1.1
  have hown : s.vm.findClass RX10 = some m.cls := hown
  have hT : ∀ w ∈ lw_all, w.before ([.ref mm, .int sn, .int ii, .int to_, .int ki, .int nn] : List Value).toArray s = true := fun w h => hts w (z_cons w h)
  have hsub : L = L := rfl
  have hfr : ∀ b ∈ L, b ≠ mm → b ≠ ce → b ≠ mv → f b = f b := fun _ _ _ _ _ => rfl
  have hz_m1 : (-1 : Int32).toInt = -1 := by decide
  have hb1 := ii.toInt_le
  have hb2 := ki.toInt_le
  have hb3 := nn.toInt_le
  have hbm : Int32.maxValue.toInt = 2147483647 := by decide
  refine lv_aload_n hx hb dX10_paste_0 rfl (lv_at hl 0 rfl) ?_
  refine lv_iconst (v := 0) hx hb dX10_paste_1 (by decide) ?_
  refine z_put (C := RX10) (T := TX10) (N := 54) (ci := 10) (v := .int 0) (fs' := [.int 0, .ref wd, .ref my, .ref ce, .ref mv, .ref ta, .int m6, .int m7, .int m8, .int m9, .int m10, .long m11, .int m12, .int m13, .int m14, .int m15, .ref li, .ref ha, .ref lw, .ref st, .ref fo, .ref dr, .int m22, .ref ik, .int m24, .int m25, .long m26, .int m27, .int m28, .ref ro, .int m30, .ref ct, .ref se, .ref th, .ref cn, .ref be, .int m36, .ref du, .int m38, .ref db, .int m40, .int m41, .int m42, .ref pn, .ref wg, .ref wh, .ref tn, .ref he, .int m48, .ref tr, .ref fd, .ref po, .int m52, .int m53]) hx hb hT zin_X10 tyX10_ok nmX10 hown hK hw hm_mm hf_mm rfl 0 (by decide) (hT _ kw_1168) rfl rfl rfl (Nat.le_of_ble_eq_true rfl) rfl dX10_paste_2 (fun H locs hw => ?_)
  obtain ⟨f1, e_f1⟩ : ∃ z, z = va_up f mm (.inr (10, [.int 0, .ref wd, .ref my, .ref ce, .ref mv, .ref ta, .int m6, .int m7, .int m8, .int m9, .int m10, .long m11, .int m12, .int m13, .int m14, .int m15, .ref li, .ref ha, .ref lw, .ref st, .ref fo, .ref dr, .int m22, .ref ik, .int m24, .int m25, .long m26, .int m27, .int m28, .ref ro, .int m30, .ref ct, .ref se, .ref th, .ref cn, .ref be, .int m36, .ref du, .int m38, .ref db, .int m40, .int m41, .int m42, .ref pn, .ref wg, .ref wh, .ref tn, .ref he, .int m48, .ref tr, .ref fd, .ref po, .int m52, .int m53])) := ⟨_, rfl⟩
  rw [← e_f1] at hw
  have hf_wd : f1 wd = .inl (cy 1, 4, .inl gwd) := (congrFun e_f1 wd).trans (z_up_ne (z_tne hf_wd hf_mm (m := 132) (n := 10) rfl rfl (by decide)) hf_wd)
  have hf_my : f1 my = .inl (cy 1, 4, .inl gmy) := (congrFun e_f1 my).trans (z_up_ne (z_tne hf_my hf_mm (m := 132) (n := 10) rfl rfl (by decide)) hf_my)
  have hf_ce : f1 ce = .inl (cy 2, 240, .inr (.inl gce)) := (congrFun e_f1 ce).trans (z_up_ne (z_tne hf_ce hf_mm (m := 2021) (n := 10) rfl rfl (by decide)) hf_ce)
  have hf_mv : f1 mv = .inl (cy 2, 60, .inr (.inl gmv)) := (congrFun e_f1 mv).trans (z_up_ne (z_tne hf_mv hf_mm (m := 581) (n := 10) rfl rfl (by decide)) hf_mv)
  have hf_mm : f1 mm = .inr (10, [.int 0, .ref wd, .ref my, .ref ce, .ref mv, .ref ta, .int m6, .int m7, .int m8, .int m9, .int m10, .long m11, .int m12, .int m13, .int m14, .int m15, .ref li, .ref ha, .ref lw, .ref st, .ref fo, .ref dr, .int m22, .ref ik, .int m24, .int m25, .long m26, .int m27, .int m28, .ref ro, .int m30, .ref ct, .ref se, .ref th, .ref cn, .ref be, .int m36, .ref du, .int m38, .ref db, .int m40, .int m41, .int m42, .ref pn, .ref wg, .ref wh, .ref tn, .ref he, .int m48, .ref tr, .ref fd, .ref po, .int m52, .int m53]) := (congrFun e_f1 mm).trans z_up_self
  have hfr : ∀ b ∈ L, b ≠ mm → b ≠ ce → b ≠ mv → f1 b = f b := fun b hb h0 h1 h2 => (congrFun e_f1 b).trans (z_up_ne h0 (hfr b hb h0 h1 h2))
  refine lv_iload_n hx hb dX10_paste_5 rfl (lv_at hl 1 rfl) ?_
  refine z_calliS (cells := 0) (slots := 0) (As := [.int sn]) (rest := []) ⟨hx, hb, hml, hown, hT⟩ (c_X10_isSlot l ) (va_cwS 1 hT (z_goodS (fun _ h => h) kw_1335 kw_1336 kw_96 kw_1337) rfl rfl rfl (by decide +kernel) ⟨by decide, by decide⟩) z_mv hKK hw hA rfl hl.1 rfl (Nat.le_of_ble_eq_true rfl) dX10_paste_6 ⟨by decide, by decide⟩ (fun r2 u H locs hp hw => ?_)
  obtain ⟨rfl, hp⟩ := hp
  have hw : z_H D vwCl (z_A L sz) s.heap L f1 H locs := hw
  rcases hp with ⟨rfl, h3⟩ | ⟨rfl, h3⟩
  · skip
    refine z_if_eq (tgt := 19) hx hb (show (1 : Int32).toInt = 1 by decide) dX10_paste_9 (by decide) (fun h => absurd h (by decide)) (fun _ => ?_)
    refine lv_iload_n hx hb dX10_paste_12 rfl (lv_at hl 3 rfl) ?_
    refine z_calliS (cells := 0) (slots := 0) (As := [.int to_]) (rest := []) ⟨hx, hb, hml, hown, hT⟩ (c_X10_isSlot l ) (va_cwS 1 hT (z_goodS (fun _ h => h) kw_1335 kw_1336 kw_96 kw_1337) rfl rfl rfl (by decide +kernel) ⟨by decide, by decide⟩) z_mv hKK hw hA rfl hl.1 rfl (Nat.le_of_ble_eq_true rfl) dX10_paste_13 ⟨by decide, by decide⟩ (fun r4 u H locs hp hw => ?_)
    obtain ⟨rfl, hp⟩ := hp
    have hw : z_H D vwCl (z_A L sz) s.heap L f1 H locs := hw
    rcases hp with ⟨rfl, h5⟩ | ⟨rfl, h5⟩
    · skip
      refine z_if_ne (tgt := 22) hx hb (show (1 : Int32).toInt = 1 by decide) dX10_paste_16 (by decide) (fun _ => ?_) (fun h => absurd h (by decide))
      refine lv_aload_n hx hb dX10_paste_22 rfl (lv_at hl 0 rfl) ?_
      refine z_get (C := RX10) (T := TX10) (N := 54) (ci := 10) (v := .ref wd) hx hb hT zin_X10 hown hK hw hm_mm hf_mm rfl 1 (by decide) (hT _ kw_1169) rfl dX10_paste_23 ?_
      refine lv_iload_n hx hb dX10_paste_26 rfl (lv_at hl 1 rfl) ?_
      refine z_iald hx hb hK hw 1 hm_wd hf_wd rfl (z_ix rfl (by omega)) dX10_paste_27 ?_
      refine lv_topi (fun w6 e_w6 => ?_)
      have h_w1 := congrArg Int32.toInt e_w6
      refine lv_iconst (v := (-1)) hx hb dX10_paste_28 (by decide) ?_
      refine z_icmp_eq (tgt := 42) hx hb rfl (show ((-1) : Int32).toInt = (-1) by decide) dX10_paste_29 (by decide) (fun c7 => ?_) (fun c7 => ?_)
      · skip
        refine lv_bipush (v := (-6)) hx hb dX10_paste_42 (by decide) ?_
        exact z_iret hx hb hr hlk (by decide) (by decide) hw (⟨hsub, hfr, gce, gmv, hf_mm, hf_ce, hf_mv, Or.inr (Or.inl ⟨rfl, by omega, by omega⟩)⟩) dX10_paste_44
      · skip
        refine lv_aload_n hx hb dX10_paste_32 rfl (lv_at hl 0 rfl) ?_
        refine z_get (C := RX10) (T := TX10) (N := 54) (ci := 10) (v := .ref wd) hx hb hT zin_X10 hown hK hw hm_mm hf_mm rfl 1 (by decide) (hT _ kw_1169) rfl dX10_paste_33 ?_
        refine lv_iload_n hx hb dX10_paste_36 rfl (lv_at hl 3 rfl) ?_
        refine z_iald hx hb hK hw 1 hm_wd hf_wd rfl (z_ix rfl (by omega)) dX10_paste_37 ?_
        refine lv_topi (fun w8 e_w8 => ?_)
        have h_w2 := congrArg Int32.toInt e_w8
        refine lv_iconst (v := (-1)) hx hb dX10_paste_38 (by decide) ?_
        refine z_icmp_ne (tgt := 45) hx hb rfl (show ((-1) : Int32).toInt = (-1) by decide) dX10_paste_39 (by decide) (fun c9 => ?_) (fun c9 => ?_)
        · skip
          refine lv_aload_n hx hb dX10_paste_45 rfl (lv_at hl 0 rfl) ?_
          refine z_get (C := RX10) (T := TX10) (N := 54) (ci := 10) (v := .ref wd) hx hb hT zin_X10 hown hK hw hm_mm hf_mm rfl 1 (by decide) (hT _ kw_1169) rfl dX10_paste_46 ?_
          refine lv_iload_n hx hb dX10_paste_49 rfl (lv_at hl 1 rfl) ?_
          refine z_iald hx hb hK hw 1 hm_wd hf_wd rfl (z_ix rfl (by omega)) dX10_paste_50 ?_
          refine lv_topi (fun w10 e_w10 => ?_)
          have h_w3 := congrArg Int32.toInt e_w10
          refine lv_aload_n hx hb dX10_paste_51 rfl (lv_at hl 0 rfl) ?_
          refine z_get (C := RX10) (T := TX10) (N := 54) (ci := 10) (v := .ref wd) hx hb hT zin_X10 hown hK hw hm_mm hf_mm rfl 1 (by decide) (hT _ kw_1169) rfl dX10_paste_52 ?_
          refine lv_iload_n hx hb dX10_paste_55 rfl (lv_at hl 3 rfl) ?_
          refine z_iald hx hb hK hw 1 hm_wd hf_wd rfl (z_ix rfl (by omega)) dX10_paste_56 ?_
          refine lv_topi (fun w11 e_w11 => ?_)
          have h_w4 := congrArg Int32.toInt e_w11
          refine z_icmp_eq (tgt := 63) hx hb rfl rfl dX10_paste_57 (by decide) (fun c12 => ?_) (fun c12 => ?_)
          · skip
            refine lv_iload_n hx hb dX10_paste_63 rfl (lv_at hl 2 rfl) ?_
            refine z_if_lt (tgt := 112) hx hb rfl dX10_paste_64 (by decide) (fun c13 => ?_) (fun c13 => ?_)
            · skip
              refine lv_bipush (v := (-7)) hx hb dX10_paste_112 (by decide) ?_
              exact z_iret hx hb hr hlk (by decide) (by decide) hw (⟨hsub, hfr, gce, gmv, hf_mm, hf_ce, hf_mv, Or.inr (Or.inr (Or.inr (Or.inl ⟨rfl, by omega, by omega, by omega, by omega, by omega⟩)))⟩) dX10_paste_114
            · skip
              refine lv_iload hx hb dX10_paste_67 (lv_at hl 4 rfl) ?_
              refine z_if_lt (tgt := 112) hx hb rfl dX10_paste_69 (by decide) (fun c14 => ?_) (fun c14 => ?_)
              · skip
                refine lv_bipush (v := (-7)) hx hb dX10_paste_112 (by decide) ?_
                exact z_iret hx hb hr hlk (by decide) (by decide) hw (⟨hsub, hfr, gce, gmv, hf_mm, hf_ce, hf_mv, Or.inr (Or.inr (Or.inr (Or.inl ⟨rfl, by omega, by omega, by omega, by omega, by omega⟩)))⟩) dX10_paste_114
              · skip
                refine lv_iload hx hb dX10_paste_72 (lv_at hl 5 rfl) ?_
                refine z_if_lt (tgt := 112) hx hb rfl dX10_paste_74 (by decide) (fun c15 => ?_) (fun c15 => ?_)
                · skip
                  refine lv_bipush (v := (-7)) hx hb dX10_paste_112 (by decide) ?_
                  exact z_iret hx hb hr hlk (by decide) (by decide) hw (⟨hsub, hfr, gce, gmv, hf_mm, hf_ce, hf_mv, Or.inr (Or.inr (Or.inr (Or.inl ⟨rfl, by omega, by omega, by omega, by omega, by omega⟩)))⟩) dX10_paste_114
                · skip
                  refine lv_iload_n hx hb dX10_paste_77 rfl (lv_at hl 2 rfl) ?_
                  refine lv_i2l hx hb dX10_paste_78 rfl ?_
                  refine lv_topl (fun w16 e_w16 => ?_)
                  have i_w16 : w16.toInt = ii.toInt := z_i2l e_w16 rfl
                  refine lv_iload hx hb dX10_paste_79 (lv_at hl 5 rfl) ?_
                  refine lv_i2l hx hb dX10_paste_81 rfl ?_
                  refine lv_topl (fun w17 e_w17 => ?_)
                  have i_w17 : w17.toInt = nn.toInt := z_i2l e_w17 rfl
                  refine lv_ladd hx hb dX10_paste_82 ?_
                  refine lv_topl (fun w18 e_w18 => ?_)
                  have i_w18 : w18.toInt = (ii.toInt + nn.toInt) := z_laddI e_w18 i_w16 i_w17 (by omega)
                  refine lv_aload_n hx hb dX10_paste_83 rfl (lv_at hl 0 rfl) ?_
                  refine z_get (C := RX10) (T := TX10) (N := 54) (ci := 10) (v := .ref my) hx hb hT zin_X10 hown hK hw hm_mm hf_mm rfl 2 (by decide) (hT _ kw_1170) rfl dX10_paste_84 ?_
                  refine lv_iload_n hx hb dX10_paste_87 rfl (lv_at hl 1 rfl) ?_
                  refine z_iald hx hb hK hw 1 hm_my hf_my rfl (z_ix rfl (by omega)) dX10_paste_88 ?_
                  refine lv_topi (fun w19 e_w19 => ?_)
                  have hv_w19 : 0 ≤ w19.toInt ∧ w19.toInt ≤ 60 := by rw [e_w19]; exact hq_my _
                  have h_m1 := congrArg Int32.toInt e_w19
                  refine lv_i2l hx hb dX10_paste_89 rfl ?_
                  refine lv_topl (fun w20 e_w20 => ?_)
                  have i_w20 : w20.toInt = w19.toInt := z_i2l e_w20 rfl
                  refine W.lcmp hx hb dX10_paste_90 ?_
                  refine lv_topi (fun w21 e_w21 => ?_)
                  have i_w21 := z_lc e_w21 i_w18 i_w20
                  refine z_if_gt (tgt := 112) hx hb rfl dX10_paste_91 (by decide) (fun c22 => ?_) (fun c22 => ?_)
                  · skip
                    refine lv_bipush (v := (-7)) hx hb dX10_paste_112 (by decide) ?_
                    exact z_iret hx hb hr hlk (by decide) (by decide) hw (⟨hsub, hfr, gce, gmv, hf_mm, hf_ce, hf_mv, Or.inr (Or.inr (Or.inr (Or.inl ⟨rfl, by omega, by omega, by omega, by omega, by omega⟩)))⟩) dX10_paste_114
                  · skip
                    refine lv_iload hx hb dX10_paste_94 (lv_at hl 4 rfl) ?_
                    refine lv_i2l hx hb dX10_paste_96 rfl ?_
                    refine lv_topl (fun w23 e_w23 => ?_)
                    have i_w23 : w23.toInt = ki.toInt := z_i2l e_w23 rfl
                    refine lv_iload hx hb dX10_paste_97 (lv_at hl 5 rfl) ?_
                    refine lv_i2l hx hb dX10_paste_99 rfl ?_
                    refine lv_topl (fun w24 e_w24 => ?_)
                    have i_w24 : w24.toInt = nn.toInt := z_i2l e_w24 rfl
                    refine lv_ladd hx hb dX10_paste_100 ?_
                    refine lv_topl (fun w25 e_w25 => ?_)
                    have i_w25 : w25.toInt = (ki.toInt + nn.toInt) := z_laddI e_w25 i_w23 i_w24 (by omega)
                    refine lv_aload_n hx hb dX10_paste_101 rfl (lv_at hl 0 rfl) ?_
                    refine z_get (C := RX10) (T := TX10) (N := 54) (ci := 10) (v := .ref my) hx hb hT zin_X10 hown hK hw hm_mm hf_mm rfl 2 (by decide) (hT _ kw_1170) rfl dX10_paste_102 ?_
                    refine lv_iload_n hx hb dX10_paste_105 rfl (lv_at hl 3 rfl) ?_
                    refine z_iald hx hb hK hw 1 hm_my hf_my rfl (z_ix rfl (by omega)) dX10_paste_106 ?_
                    refine lv_topi (fun w26 e_w26 => ?_)
                    have hv_w26 : 0 ≤ w26.toInt ∧ w26.toInt ≤ 60 := by rw [e_w26]; exact hq_my _
                    have h_m2 := congrArg Int32.toInt e_w26
                    refine lv_i2l hx hb dX10_paste_107 rfl ?_
                    refine lv_topl (fun w27 e_w27 => ?_)
                    have i_w27 : w27.toInt = w26.toInt := z_i2l e_w27 rfl
                    refine W.lcmp hx hb dX10_paste_108 ?_
                    refine lv_topi (fun w28 e_w28 => ?_)
                    have i_w28 := z_lc e_w28 i_w25 i_w27
                    refine z_if_le (tgt := 115) hx hb rfl dX10_paste_109 (by decide) (fun c29 => ?_) (fun c29 => ?_)
                    · skip
                      refine lv_iconst (v := 0) hx hb dX10_paste_115 (by decide) ?_
                      refine lv_istore (lv' := [(6, .int 0), (0, .ref mm), (1, .int sn), (2, .int ii), (3, .int to_), (4, .int ki), (5, .int nn)]) hx hb dX10_paste_116 hl (by decide) rfl (fun ls hl => ?_)
                      have hzk : (0 : Int32).toInt = 0 := by decide
                      refine z_loop (fun n H locs ls => ∃ (K30 : Int32) (G32 : Nat → Int64) (f31 : Nat → va_E), (n = (nn.toInt - K30.toInt).toNat) ∧ (0 ≤ K30.toInt) ∧ (K30.toInt ≤ nn.toInt) ∧ (z_H D vwCl (z_A L sz) s.heap L f31 H locs) ∧ (f31 mm = .inr (10, [.int 0, .ref wd, .ref my, .ref ce, .ref mv, .ref ta, .int m6, .int m7, .int m8, .int m9, .int m10, .long m11, .int m12, .int m13, .int m14, .int m15, .ref li, .ref ha, .ref lw, .ref st, .ref fo, .ref dr, .int m22, .ref ik, .int m24, .int m25, .long m26, .int m27, .int m28, .ref ro, .int m30, .ref ct, .ref se, .ref th, .ref cn, .ref be, .int m36, .ref du, .int m38, .ref db, .int m40, .int m41, .int m42, .ref pn, .ref wg, .ref wh, .ref tn, .ref he, .int m48, .ref tr, .ref fd, .ref po, .int m52, .int m53])) ∧ (f31 wd = .inl (cy 1, 4, .inl gwd)) ∧ (f31 my = .inl (cy 1, 4, .inl gmy)) ∧ (f31 ce = .inl (cy 2, 240, .inr (.inl gce))) ∧ (f31 mv = .inl (cy 2, 60, .inr (.inl G32))) ∧ (∀ b ∈ L, b ≠ mm → b ≠ ce → b ≠ mv → f31 b = f b) ∧ (lv_has ls 7 [(6, .int K30), (0, .ref mm), (1, .int sn), (2, .int ii), (3, .int to_), (4, .int ki), (5, .int nn)])) _ ⟨0, gmv, f1, rfl, (by first | decide | omega), (by first | decide | omega), hw, hf_mm, hf_wd, hf_my, hf_ce, hf_mv, hfr, (lv_sub hl [0, 1, 2, 3, 4, 5, 6] rfl)⟩ (fun n H locs ls hI ih_118 => ?_)
                      obtain ⟨K30, G32, f31, hn, hk0, hk1, hw, hf_mm, hf_wd, hf_my, hf_ce, hf_mv, hfr, hl⟩ := hI
                      refine lv_iload hx hb dX10_paste_118 (lv_at hl 0 rfl) ?_
                      refine lv_iload hx hb dX10_paste_120 (lv_at hl 6 rfl) ?_
                      refine z_icmp_ge (tgt := 152) hx hb rfl rfl dX10_paste_122 (by decide) (fun c33 => ?_) (fun c33 => ?_)
                      · skip
                        refine lv_iconst (v := 0) hx hb dX10_paste_152 (by decide) ?_
                        refine lv_istore (lv' := [(6, .int 0), (0, .ref mm), (1, .int sn), (2, .int ii), (3, .int to_), (4, .int ki), (5, .int nn)]) hx hb dX10_paste_153 hl (by decide) rfl (fun ls hl => ?_)
                        have hzk : (0 : Int32).toInt = 0 := by decide
                        refine z_loop (fun n H locs ls => ∃ (K34 : Int32) (G36 : Nat → Int64) (f35 : Nat → va_E), (n = (nn.toInt - K34.toInt).toNat) ∧ (0 ≤ K34.toInt) ∧ (K34.toInt ≤ nn.toInt) ∧ (z_H D vwCl (z_A L sz) s.heap L f35 H locs) ∧ (f35 mm = .inr (10, [.int 0, .ref wd, .ref my, .ref ce, .ref mv, .ref ta, .int m6, .int m7, .int m8, .int m9, .int m10, .long m11, .int m12, .int m13, .int m14, .int m15, .ref li, .ref ha, .ref lw, .ref st, .ref fo, .ref dr, .int m22, .ref ik, .int m24, .int m25, .long m26, .int m27, .int m28, .ref ro, .int m30, .ref ct, .ref se, .ref th, .ref cn, .ref be, .int m36, .ref du, .int m38, .ref db, .int m40, .int m41, .int m42, .ref pn, .ref wg, .ref wh, .ref tn, .ref he, .int m48, .ref tr, .ref fd, .ref po, .int m52, .int m53])) ∧ (f35 wd = .inl (cy 1, 4, .inl gwd)) ∧ (f35 my = .inl (cy 1, 4, .inl gmy)) ∧ (f35 ce = .inl (cy 2, 240, .inr (.inl G36))) ∧ (f35 mv = .inl (cy 2, 60, .inr (.inl G32))) ∧ (∀ b ∈ L, b ≠ mm → b ≠ ce → b ≠ mv → f35 b = f b) ∧ (lv_has ls 7 [(6, .int K34), (0, .ref mm), (1, .int sn), (2, .int ii), (3, .int to_), (4, .int ki), (5, .int nn)])) _ ⟨0, gce, f31, rfl, (by first | decide | omega), (by first | decide | omega), hw, hf_mm, hf_wd, hf_my, hf_ce, hf_mv, hfr, (lv_sub hl [0, 1, 2, 3, 4, 5, 6] rfl)⟩ (fun n H locs ls hI ih_155 => ?_)
                        obtain ⟨K34, G36, f35, hn, hk0, hk1, hw, hf_mm, hf_wd, hf_my, hf_ce, hf_mv, hfr, hl⟩ := hI
                        refine lv_iload hx hb dX10_paste_155 (lv_at hl 0 rfl) ?_
                        refine lv_iload hx hb dX10_paste_157 (lv_at hl 6 rfl) ?_
                        refine z_icmp_ge (tgt := 190) hx hb rfl rfl dX10_paste_159 (by decide) (fun c37 => ?_) (fun c37 => ?_)
                        · skip
                          refine lv_iconst (v := 0) hx hb dX10_paste_190 (by decide) ?_
                          exact z_iret hx hb hr hlk (by decide) (by decide) hw (⟨hsub, hfr, G36, G32, hf_mm, hf_ce, hf_mv, Or.inr (Or.inr (Or.inr (Or.inr ⟨rfl, by omega, by omega, by omega, by omega, by omega⟩)))⟩) dX10_paste_191
                        · skip
                          refine lv_aload_n hx hb dX10_paste_162 rfl (lv_at hl 1 rfl) ?_
                          refine z_get (C := RX10) (T := TX10) (N := 54) (ci := 10) (v := .ref ce) hx hb hT zin_X10 hown hK hw hm_mm hf_mm rfl 3 (by decide) (hT _ kw_1171) rfl dX10_paste_163 ?_
                          refine lv_bipush (v := 60) hx hb dX10_paste_166 (by decide) ?_
                          refine lv_iload_n hx hb dX10_paste_168 rfl (lv_at hl 4 rfl) ?_
                          refine lv_imul hx hb dX10_paste_169 ?_
                          refine lv_topi (fun w38 e_w38 => ?_)
                          have i_w38 : w38.toInt = (60 * to_.toInt) := z_mul e_w38 (show (60 : Int32).toInt = 60 by decide) rfl (by omega)
                          refine lv_iload hx hb dX10_paste_170 (lv_at hl 5 rfl) ?_
                          refine lv_iadd hx hb dX10_paste_172 ?_
                          refine lv_topi (fun w39 e_w39 => ?_)
                          have i_w39 : w39.toInt = ((60 * to_.toInt) + ki.toInt) := z_add e_w39 i_w38 rfl (by omega)
                          refine lv_iload hx hb dX10_paste_173 (lv_at hl 0 rfl) ?_
                          refine lv_iadd hx hb dX10_paste_175 ?_
                          refine lv_topi (fun w40 e_w40 => ?_)
                          have i_w40 : w40.toInt = (((60 * to_.toInt) + ki.toInt) + K34.toInt) := z_add e_w40 i_w39 rfl (by omega)
                          refine lv_aload_n hx hb dX10_paste_176 rfl (lv_at hl 1 rfl) ?_
                          refine z_get (C := RX10) (T := TX10) (N := 54) (ci := 10) (v := .ref mv) hx hb hT zin_X10 hown hK hw hm_mm hf_mm rfl 4 (by decide) (hT _ kw_1172) rfl dX10_paste_177 ?_
                          refine lv_iload hx hb dX10_paste_180 (lv_at hl 0 rfl) ?_
                          refine z_lald hx hb hK hw 2 hm_mv hf_mv rfl (z_ix rfl (by omega)) dX10_paste_182 ?_
                          refine lv_topl (fun w41 e_w41 => ?_)
                          refine z_last hx hb hK hw 2 hm_ce hf_ce rfl (z_ix i_w40 (by omega)) dX10_paste_183 (fun H locs hw => ?_)
                          obtain ⟨f43, e_f43⟩ : ∃ z, z = va_up f35 ce (.inl (cy 2, 240, .inr (.inl (vp_updL G36 w40.toNatClampNeg w41)))) := ⟨_, rfl⟩
                          rw [← e_f43] at hw
                          have hf_mm : f43 mm = .inr (10, [.int 0, .ref wd, .ref my, .ref ce, .ref mv, .ref ta, .int m6, .int m7, .int m8, .int m9, .int m10, .long m11, .int m12, .int m13, .int m14, .int m15, .ref li, .ref ha, .ref lw, .ref st, .ref fo, .ref dr, .int m22, .ref ik, .int m24, .int m25, .long m26, .int m27, .int m28, .ref ro, .int m30, .ref ct, .ref se, .ref th, .ref cn, .ref be, .int m36, .ref du, .int m38, .ref db, .int m40, .int m41, .int m42, .ref pn, .ref wg, .ref wh, .ref tn, .ref he, .int m48, .ref tr, .ref fd, .ref po, .int m52, .int m53]) := (congrFun e_f43 mm).trans (z_up_ne (z_tne hf_mm hf_ce (m := 10) (n := 2021) rfl rfl (by decide)) hf_mm)
                          have hf_wd : f43 wd = .inl (cy 1, 4, .inl gwd) := (congrFun e_f43 wd).trans (z_up_ne (z_tne hf_wd hf_ce (m := 132) (n := 2021) rfl rfl (by decide)) hf_wd)
                          have hf_my : f43 my = .inl (cy 1, 4, .inl gmy) := (congrFun e_f43 my).trans (z_up_ne (z_tne hf_my hf_ce (m := 132) (n := 2021) rfl rfl (by decide)) hf_my)
                          have hf_mv : f43 mv = .inl (cy 2, 60, .inr (.inl G32)) := (congrFun e_f43 mv).trans (z_up_ne (z_tne hf_mv hf_ce (m := 581) (n := 2021) rfl rfl (by decide)) hf_mv)
                          have hf_ce : f43 ce = .inl (cy 2, 240, .inr (.inl (vp_updL G36 w40.toNatClampNeg w41))) := (congrFun e_f43 ce).trans z_up_self
                          have hfr : ∀ b ∈ L, b ≠ mm → b ≠ ce → b ≠ mv → f43 b = f b := fun b hb h0 h1 h2 => (congrFun e_f43 b).trans (z_up_ne h1 (hfr b hb h0 h1 h2))
                          obtain ⟨g42, e_g42⟩ : ∃ z, z = (vp_updL G36 w40.toNatClampNeg w41) := ⟨_, rfl⟩
                          rw [← e_g42] at hf_ce
                          obtain ⟨k44, e_k44⟩ : ∃ z : Int32, z = K34 + 1 := ⟨_, rfl⟩
                          refine lv_iinc (v := k44) (lv' := [(6, .int k44), (0, .ref mm), (1, .int sn), (2, .int ii), (3, .int to_), (4, .int ki), (5, .int nn)]) hx hb dX10_paste_184 hl (k := 0) rfl (by rw [e_k44]; rfl) (by decide) rfl (fun ls hl => ?_)
                          have i_k44 : k44.toInt = (K34.toInt + 1) := z_add e_k44 rfl (by decide) (by omega)
                          refine lv_goto (tgt := 155) hx hb dX10_paste_187 (by decide) ?_
                          exact ih_155 _ (by omega) _ _ _ ⟨k44, g42, f43, rfl, (by first | decide | omega), (by first | decide | omega), hw, hf_mm, hf_wd, hf_my, hf_ce, hf_mv, hfr, (lv_sub hl [0, 1, 2, 3, 4, 5, 6] rfl)⟩
                      · skip
                        refine lv_aload_n hx hb dX10_paste_125 rfl (lv_at hl 1 rfl) ?_
                        refine z_get (C := RX10) (T := TX10) (N := 54) (ci := 10) (v := .ref mv) hx hb hT zin_X10 hown hK hw hm_mm hf_mm rfl 4 (by decide) (hT _ kw_1172) rfl dX10_paste_126 ?_
                        refine lv_iload hx hb dX10_paste_129 (lv_at hl 0 rfl) ?_
                        refine lv_aload_n hx hb dX10_paste_131 rfl (lv_at hl 1 rfl) ?_
                        refine z_get (C := RX10) (T := TX10) (N := 54) (ci := 10) (v := .ref ce) hx hb hT zin_X10 hown hK hw hm_mm hf_mm rfl 3 (by decide) (hT _ kw_1171) rfl dX10_paste_132 ?_
                        refine lv_bipush (v := 60) hx hb dX10_paste_135 (by decide) ?_
                        refine lv_iload_n hx hb dX10_paste_137 rfl (lv_at hl 2 rfl) ?_
                        refine lv_imul hx hb dX10_paste_138 ?_
                        refine lv_topi (fun w45 e_w45 => ?_)
                        have i_w45 : w45.toInt = (60 * sn.toInt) := z_mul e_w45 (show (60 : Int32).toInt = 60 by decide) rfl (by omega)
                        refine lv_iload_n hx hb dX10_paste_139 rfl (lv_at hl 3 rfl) ?_
                        refine lv_iadd hx hb dX10_paste_140 ?_
                        refine lv_topi (fun w46 e_w46 => ?_)
                        have i_w46 : w46.toInt = ((60 * sn.toInt) + ii.toInt) := z_add e_w46 i_w45 rfl (by omega)
                        refine lv_iload hx hb dX10_paste_141 (lv_at hl 0 rfl) ?_
                        refine lv_iadd hx hb dX10_paste_143 ?_
                        refine lv_topi (fun w47 e_w47 => ?_)
                        have i_w47 : w47.toInt = (((60 * sn.toInt) + ii.toInt) + K30.toInt) := z_add e_w47 i_w46 rfl (by omega)
                        refine z_lald hx hb hK hw 2 hm_ce hf_ce rfl (z_ix i_w47 (by omega)) dX10_paste_144 ?_
                        refine lv_topl (fun w48 e_w48 => ?_)
                        refine z_last hx hb hK hw 2 hm_mv hf_mv rfl (z_ix rfl (by omega)) dX10_paste_145 (fun H locs hw => ?_)
                        obtain ⟨f50, e_f50⟩ : ∃ z, z = va_up f31 mv (.inl (cy 2, 60, .inr (.inl (vp_updL G32 K30.toNatClampNeg w48)))) := ⟨_, rfl⟩
                        rw [← e_f50] at hw
                        have hf_mm : f50 mm = .inr (10, [.int 0, .ref wd, .ref my, .ref ce, .ref mv, .ref ta, .int m6, .int m7, .int m8, .int m9, .int m10, .long m11, .int m12, .int m13, .int m14, .int m15, .ref li, .ref ha, .ref lw, .ref st, .ref fo, .ref dr, .int m22, .ref ik, .int m24, .int m25, .long m26, .int m27, .int m28, .ref ro, .int m30, .ref ct, .ref se, .ref th, .ref cn, .ref be, .int m36, .ref du, .int m38, .ref db, .int m40, .int m41, .int m42, .ref pn, .ref wg, .ref wh, .ref tn, .ref he, .int m48, .ref tr, .ref fd, .ref po, .int m52, .int m53]) := (congrFun e_f50 mm).trans (z_up_ne (z_tne hf_mm hf_mv (m := 10) (n := 581) rfl rfl (by decide)) hf_mm)
                        have hf_wd : f50 wd = .inl (cy 1, 4, .inl gwd) := (congrFun e_f50 wd).trans (z_up_ne (z_tne hf_wd hf_mv (m := 132) (n := 581) rfl rfl (by decide)) hf_wd)
                        have hf_my : f50 my = .inl (cy 1, 4, .inl gmy) := (congrFun e_f50 my).trans (z_up_ne (z_tne hf_my hf_mv (m := 132) (n := 581) rfl rfl (by decide)) hf_my)
                        have hf_ce : f50 ce = .inl (cy 2, 240, .inr (.inl gce)) := (congrFun e_f50 ce).trans (z_up_ne (z_tne hf_ce hf_mv (m := 2021) (n := 581) rfl rfl (by decide)) hf_ce)
                        have hf_mv : f50 mv = .inl (cy 2, 60, .inr (.inl (vp_updL G32 K30.toNatClampNeg w48))) := (congrFun e_f50 mv).trans z_up_self
                        have hfr : ∀ b ∈ L, b ≠ mm → b ≠ ce → b ≠ mv → f50 b = f b := fun b hb h0 h1 h2 => (congrFun e_f50 b).trans (z_up_ne h2 (hfr b hb h0 h1 h2))
                        obtain ⟨g49, e_g49⟩ : ∃ z, z = (vp_updL G32 K30.toNatClampNeg w48) := ⟨_, rfl⟩
                        rw [← e_g49] at hf_mv
                        obtain ⟨k51, e_k51⟩ : ∃ z : Int32, z = K30 + 1 := ⟨_, rfl⟩
                        refine lv_iinc (v := k51) (lv' := [(6, .int k51), (0, .ref mm), (1, .int sn), (2, .int ii), (3, .int to_), (4, .int ki), (5, .int nn)]) hx hb dX10_paste_146 hl (k := 0) rfl (by rw [e_k51]; rfl) (by decide) rfl (fun ls hl => ?_)
                        have i_k51 : k51.toInt = (K30.toInt + 1) := z_add e_k51 rfl (by decide) (by omega)
                        refine lv_goto (tgt := 118) hx hb dX10_paste_149 (by decide) ?_
                        exact ih_118 _ (by omega) _ _ _ ⟨k51, g49, f50, rfl, (by first | decide | omega), (by first | decide | omega), hw, hf_mm, hf_wd, hf_my, hf_ce, hf_mv, hfr, (lv_sub hl [0, 1, 2, 3, 4, 5, 6] rfl)⟩
                    · skip
                      refine lv_bipush (v := (-7)) hx hb dX10_paste_112 (by decide) ?_
                      exact z_iret hx hb hr hlk (by decide) (by decide) hw (⟨hsub, hfr, gce, gmv, hf_mm, hf_ce, hf_mv, Or.inr (Or.inr (Or.inr (Or.inl ⟨rfl, by omega, by omega, by omega, by omega, by omega⟩)))⟩) dX10_paste_114
          · skip
            refine lv_bipush (v := (-8)) hx hb dX10_paste_60 (by decide) ?_
            exact z_iret hx hb hr hlk (by decide) (by decide) hw (⟨hsub, hfr, gce, gmv, hf_mm, hf_ce, hf_mv, Or.inr (Or.inr (Or.inl ⟨rfl, by omega, by omega, by omega, by omega⟩))⟩) dX10_paste_62
        · skip
          refine lv_bipush (v := (-6)) hx hb dX10_paste_42 (by decide) ?_
          exact z_iret hx hb hr hlk (by decide) (by decide) hw (⟨hsub, hfr, gce, gmv, hf_mm, hf_ce, hf_mv, Or.inr (Or.inl ⟨rfl, by omega, by omega⟩)⟩) dX10_paste_44
    · skip
      refine z_if_ne (tgt := 22) hx hb (show (0 : Int32).toInt = 0 by decide) dX10_paste_16 (by decide) (fun h => absurd h (by decide)) (fun _ => ?_)
      refine lv_bipush (v := (-2)) hx hb dX10_paste_19 (by decide) ?_
      exact z_iret hx hb hr hlk (by decide) (by decide) hw (⟨hsub, hfr, gce, gmv, hf_mm, hf_ce, hf_mv, Or.inl ⟨rfl, by omega⟩⟩) dX10_paste_21
  · skip
    refine z_if_eq (tgt := 19) hx hb (show (0 : Int32).toInt = 0 by decide) dX10_paste_9 (by decide) (fun _ => ?_) (fun h => absurd h (by decide))
    refine lv_bipush (v := (-2)) hx hb dX10_paste_19 (by decide) ?_
    exact z_iret hx hb hr hlk (by decide) (by decide) hw (⟨hsub, hfr, gce, gmv, hf_mm, hf_ce, hf_mv, Or.inl ⟨rfl, by omega⟩⟩) dX10_paste_21

set_option maxHeartbeats 2000000 in
set_option maxRecDepth 100000 in
theorem c_X10_four (l : Launch) {D : va_G} {cy : Nat → ClassId} {L : List Nat} {f : Nat → va_E} {sz : Nat} {adK adV : Nat → Nat} {mm wd my ce mv ta li ha lw st fo dr ik ro ct se th cn be du db pn wg wh tn he tr fd po : Nat} {m0 m6 m7 m8 m9 m10 m12 m13 m14 m15 m22 m24 m25 m27 m28 m30 m36 m38 m40 m41 m42 m48 m52 m53 : Int32} {m11 m26 : Int64} {gta : Nat → Int32}  {va : Int32} (hm_mm : mm ∈ L) (hm_ta : ta ∈ L) (hf_mm : f mm = .inr (10, [.int m0, .ref wd, .ref my, .ref ce, .ref mv, .ref ta, .int m6, .int m7, .int m8, .int m9, .int m10, .long m11, .int m12, .int m13, .int m14, .int m15, .ref li, .ref ha, .ref lw, .ref st, .ref fo, .ref dr, .int m22, .ref ik, .int m24, .int m25, .long m26, .int m27, .int m28, .ref ro, .int m30, .ref ct, .ref se, .ref th, .ref cn, .ref be, .int m36, .ref du, .int m38, .ref db, .int m40, .int m41, .int m42, .ref pn, .ref wg, .ref wh, .ref tn, .ref he, .int m48, .ref tr, .ref fd, .ref po, .int m52, .int m53])) (hf_ta : f ta = .inl (cy 0, 1600, .inl gta)) (h96 : 0 ≤ m6.toInt ∧ m6.toInt ≤ 1596) : Met l yX10_four (z_ws yX10_four cX10_four 3 none) (z_R 1 0 0) (va_Pc [.ref mm, .int va] (z_Pre D vwCl (z_KK D cy adK adV) L f sz)) (z_Qv D vwCl (fun u => L = u.1 ∧ (∀ b ∈ L, b ≠ mm → b ≠ ta → u.2 b = f b) ∧ (∃ (t2 : Int32) (nta : Nat → Int32), (u.2 mm = .inr (10, [.int m0, .ref wd, .ref my, .ref ce, .ref mv, .ref ta, .int t2, .int m7, .int m8, .int m9, .int m10, .long m11, .int m12, .int m13, .int m14, .int m15, .ref li, .ref ha, .ref lw, .ref st, .ref fo, .ref dr, .int m22, .ref ik, .int m24, .int m25, .long m26, .int m27, .int m28, .ref ro, .int m30, .ref ct, .ref se, .ref th, .ref cn, .ref be, .int m36, .ref du, .int m38, .ref db, .int m40, .int m41, .int m42, .ref pn, .ref wg, .ref wh, .ref tn, .ref he, .int m48, .ref tr, .ref fd, .ref po, .int m52, .int m53])) ∧ (u.2 ta = .inl (cy 0, 1600, .inl nta)) ∧ (t2.toInt = m6.toInt + 4))) L sz) 0 0 (z_A L sz) := by
  refine z_met (cc := cX10_four) (maxL := 3) (ret := none) (lv := [(0, .ref mm), (1, .int va)]) (by decide) rfl (Nat.le_of_ble_eq_true rfl) rfl ?_
  intro p e s m below meth c ls hx hb hr hlk hml hown hnm hts hKK hA hw hl
  have hK := hKK.1.1
  have hown : s.vm.findClass RX10 = some m.cls := hown
  have hT : ∀ w ∈ lw_all, w.before ([.ref mm, .int va] : List Value).toArray s = true := fun w h => hts w (z_cons w h)
  have hsub : L = L := rfl
  have hfr : ∀ b ∈ L, b ≠ mm → b ≠ ta → f b = f b := fun _ _ _ _ => rfl
  have hz_24 : (24 : Int32).toInt = 24 := by decide
  refine lv_bipush (v := 24) hx hb dX10_four_0 (by decide) ?_
  refine lv_istore_n (lv' := [(2, .int 24), (0, .ref mm), (1, .int va)]) hx hb dX10_four_2 rfl hl (by decide) rfl (fun ls hl => ?_)
  have hzk : (24 : Int32).toInt = 24 := by decide
  refine z_loop (fun n H locs ls => ∃ (K1 : Int32) (G4 : Nat → Int32) (TL3 : Int32) (f2 : Nat → va_E), (n = (K1.toInt - (-8)).toNat) ∧ (-8 ≤ K1.toInt) ∧ (K1.toInt ≤ 24) ∧ (8 * TL3.toInt = 8 * m6.toInt + 24 - K1.toInt) ∧ (K1.toInt % 8 = 0) ∧ (z_H D vwCl (z_A L sz) s.heap L f2 H locs) ∧ (f2 mm = .inr (10, [.int m0, .ref wd, .ref my, .ref ce, .ref mv, .ref ta, .int TL3, .int m7, .int m8, .int m9, .int m10, .long m11, .int m12, .int m13, .int m14, .int m15, .ref li, .ref ha, .ref lw, .ref st, .ref fo, .ref dr, .int m22, .ref ik, .int m24, .int m25, .long m26, .int m27, .int m28, .ref ro, .int m30, .ref ct, .ref se, .ref th, .ref cn, .ref be, .int m36, .ref du, .int m38, .ref db, .int m40, .int m41, .int m42, .ref pn, .ref wg, .ref wh, .ref tn, .ref he, .int m48, .ref tr, .ref fd, .ref po, .int m52, .int m53])) ∧ (f2 ta = .inl (cy 0, 1600, .inl G4)) ∧ (∀ b ∈ L, b ≠ mm → b ≠ ta → f2 b = f b) ∧ (lv_has ls 3 [(2, .int K1), (0, .ref mm), (1, .int va)])) _ ⟨24, gta, m6, f, rfl, (by first | decide | omega), (by first | decide | omega), (by omega), (by omega), hw, hf_mm, hf_ta, hfr, (lv_sub hl [0, 1, 2] rfl)⟩ (fun n H locs ls hI ih_3 => ?_)
  obtain ⟨K1, G4, TL3, f2, hn, hk0, hk1, hi0, hi1, hw, hf_mm, hf_ta, hfr, hl⟩ := hI
  refine lv_iload_n hx hb dX10_four_3 rfl (lv_at hl 0 rfl) ?_
  refine z_if_lt (tgt := 36) hx hb rfl dX10_four_4 (by decide) (fun c5 => ?_) (fun c5 => ?_)
  · skip
    exact z_vret hx hb hr hlk (by decide) (by decide) hw (⟨hsub, hfr, TL3, G4, hf_mm, hf_ta, by omega⟩) dX10_four_36
  · skip
    refine lv_aload_n hx hb dX10_four_7 rfl (lv_at hl 1 rfl) ?_
    refine z_get (C := RX10) (T := TX10) (N := 54) (ci := 10) (v := .ref ta) hx hb hT zin_X10 hown hK hw hm_mm hf_mm rfl 5 (by decide) (hT _ kw_1173) rfl dX10_four_8 ?_
    refine lv_aload_n hx hb dX10_four_11 rfl (lv_at hl 1 rfl) ?_
    refine z_get (C := RX10) (T := TX10) (N := 54) (ci := 10) (v := .int TL3) hx hb hT zin_X10 hown hK hw hm_mm hf_mm rfl 6 (by decide) (hT _ kw_1174) rfl dX10_four_12 ?_
    refine lv_iload_n hx hb dX10_four_15 rfl (lv_at hl 2 rfl) ?_
    refine lv_iload_n hx hb dX10_four_16 rfl (lv_at hl 0 rfl) ?_
    refine lv_ishr hx hb dX10_four_17 ?_
    refine lv_topi (fun w6 e_w6 => ?_)
    refine lv_i2b hx hb dX10_four_18 rfl ?_
    refine lv_topi (fun w7 e_w7 => ?_)
    refine z_bast hx hb hK hw 0 hm_ta hf_ta rfl (z_ix rfl (by omega)) dX10_four_19 (fun H locs hw => ?_)
    obtain ⟨f9, e_f9⟩ : ∃ z, z = va_up f2 ta (.inl (cy 0, 1600, .inl (upd G4 TL3.toNatClampNeg (vp_nar .byte w7)))) := ⟨_, rfl⟩
    rw [← e_f9] at hw
    have hf_mm : f9 mm = .inr (10, [.int m0, .ref wd, .ref my, .ref ce, .ref mv, .ref ta, .int TL3, .int m7, .int m8, .int m9, .int m10, .long m11, .int m12, .int m13, .int m14, .int m15, .ref li, .ref ha, .ref lw, .ref st, .ref fo, .ref dr, .int m22, .ref ik, .int m24, .int m25, .long m26, .int m27, .int m28, .ref ro, .int m30, .ref ct, .ref se, .ref th, .ref cn, .ref be, .int m36, .ref du, .int m38, .ref db, .int m40, .int m41, .int m42, .ref pn, .ref wg, .ref wh, .ref tn, .ref he, .int m48, .ref tr, .ref fd, .ref po, .int m52, .int m53]) := (congrFun e_f9 mm).trans (z_up_ne (z_tne hf_mm hf_ta (m := 10) (n := 12900) rfl rfl (by decide)) hf_mm)
    have hf_ta : f9 ta = .inl (cy 0, 1600, .inl (upd G4 TL3.toNatClampNeg (vp_nar .byte w7))) := (congrFun e_f9 ta).trans z_up_self
    have hfr : ∀ b ∈ L, b ≠ mm → b ≠ ta → f9 b = f b := fun b hb h0 h1 => (congrFun e_f9 b).trans (z_up_ne h1 (hfr b hb h0 h1))
    obtain ⟨g8, e_g8⟩ : ∃ z, z = (upd G4 TL3.toNatClampNeg (vp_nar .byte w7)) := ⟨_, rfl⟩
    rw [← e_g8] at hf_ta
    refine lv_aload_n hx hb dX10_four_20 rfl (lv_at hl 1 rfl) ?_
    refine lv_dup hx hb dX10_four_21 rfl ?_
    refine z_get (C := RX10) (T := TX10) (N := 54) (ci := 10) (v := .int TL3) hx hb hT zin_X10 hown hK hw hm_mm hf_mm rfl 6 (by decide) (hT _ kw_1174) rfl dX10_four_22 ?_
    refine lv_iconst (v := 1) hx hb dX10_four_25 (by decide) ?_
    refine lv_iadd hx hb dX10_four_26 ?_
    refine lv_topi (fun w10 e_w10 => ?_)
    have i_w10 : w10.toInt = (TL3.toInt + 1) := z_add e_w10 rfl (show (1 : Int32).toInt = 1 by decide) (by omega)
    refine z_put (C := RX10) (T := TX10) (N := 54) (ci := 10) (v := .int w10) (fs' := [.int m0, .ref wd, .ref my, .ref ce, .ref mv, .ref ta, .int w10, .int m7, .int m8, .int m9, .int m10, .long m11, .int m12, .int m13, .int m14, .int m15, .ref li, .ref ha, .ref lw, .ref st, .ref fo, .ref dr, .int m22, .ref ik, .int m24, .int m25, .long m26, .int m27, .int m28, .ref ro, .int m30, .ref ct, .ref se, .ref th, .ref cn, .ref be, .int m36, .ref du, .int m38, .ref db, .int m40, .int m41, .int m42, .ref pn, .ref wg, .ref wh, .ref tn, .ref he, .int m48, .ref tr, .ref fd, .ref po, .int m52, .int m53]) hx hb hT zin_X10 tyX10_ok nmX10 hown hK hw hm_mm hf_mm rfl 6 (by decide) (hT _ kw_1174) rfl rfl rfl (Nat.le_of_ble_eq_true rfl) rfl dX10_four_27 (fun H locs hw => ?_)
    obtain ⟨f11, e_f11⟩ : ∃ z, z = va_up f9 mm (.inr (10, [.int m0, .ref wd, .ref my, .ref ce, .ref mv, .ref ta, .int w10, .int m7, .int m8, .int m9, .int m10, .long m11, .int m12, .int m13, .int m14, .int m15, .ref li, .ref ha, .ref lw, .ref st, .ref fo, .ref dr, .int m22, .ref ik, .int m24, .int m25, .long m26, .int m27, .int m28, .ref ro, .int m30, .ref ct, .ref se, .ref th, .ref cn, .ref be, .int m36, .ref du, .int m38, .ref db, .int m40, .int m41, .int m42, .ref pn, .ref wg, .ref wh, .ref tn, .ref he, .int m48, .ref tr, .ref fd, .ref po, .int m52, .int m53])) := ⟨_, rfl⟩
    rw [← e_f11] at hw
    have hf_ta : f11 ta = .inl (cy 0, 1600, .inl g8) := (congrFun e_f11 ta).trans (z_up_ne (z_tne hf_ta hf_mm (m := 12900) (n := 10) rfl rfl (by decide)) hf_ta)
    have hf_mm : f11 mm = .inr (10, [.int m0, .ref wd, .ref my, .ref ce, .ref mv, .ref ta, .int w10, .int m7, .int m8, .int m9, .int m10, .long m11, .int m12, .int m13, .int m14, .int m15, .ref li, .ref ha, .ref lw, .ref st, .ref fo, .ref dr, .int m22, .ref ik, .int m24, .int m25, .long m26, .int m27, .int m28, .ref ro, .int m30, .ref ct, .ref se, .ref th, .ref cn, .ref be, .int m36, .ref du, .int m38, .ref db, .int m40, .int m41, .int m42, .ref pn, .ref wg, .ref wh, .ref tn, .ref he, .int m48, .ref tr, .ref fd, .ref po, .int m52, .int m53]) := (congrFun e_f11 mm).trans z_up_self
    have hfr : ∀ b ∈ L, b ≠ mm → b ≠ ta → f11 b = f b := fun b hb h0 h1 => (congrFun e_f11 b).trans (z_up_ne h0 (hfr b hb h0 h1))
    obtain ⟨k12, e_k12⟩ : ∃ z : Int32, z = K1 + (-8) := ⟨_, rfl⟩
    refine lv_iinc (v := k12) (lv' := [(2, .int k12), (0, .ref mm), (1, .int va)]) hx hb dX10_four_30 hl (k := 0) rfl (by rw [e_k12]; rfl) (by decide) rfl (fun ls hl => ?_)
    have i_k12 : k12.toInt = (K1.toInt + (-8)) := z_add e_k12 rfl (by decide) (by omega)
    refine lv_goto (tgt := 3) hx hb dX10_four_33 (by decide) ?_
    exact ih_3 _ (by omega) _ _ _ ⟨k12, g8, w10, f11, rfl, (by first | decide | omega), (by first | decide | omega), (by omega), (by omega), hw, hf_mm, hf_ta, hfr, (lv_sub hl [0, 1, 2] rfl)⟩

set_option maxHeartbeats 2000000 in
set_option maxRecDepth 100000 in
theorem c_X10_feed (l : Launch) {D : va_G} {cy : Nat → ClassId} {L : List Nat} {f : Nat → va_E} {sz : Nat} {adK adV : Nat → Nat} {mm wd my ce mv ta li ha lw st fo dr ik ro ct se th cn be du db pn wg wh tn he tr fd po : Nat} {m0 m6 m7 m8 m9 m10 m12 m13 m14 m15 m22 m24 m25 m27 m28 m30 m36 m38 m40 m41 m42 m48 m52 m53 : Int32} {m11 m26 : Int64} {gta : Nat → Int32}  {b0 b1 b2 b3 b4 : Int32} (hm_mm : mm ∈ L) (hm_ta : ta ∈ L) (hf_mm : f mm = .inr (10, [.int m0, .ref wd, .ref my, .ref ce, .ref mv, .ref ta, .int m6, .int m7, .int m8, .int m9, .int m10, .long m11, .int m12, .int m13, .int m14, .int m15, .ref li, .ref ha, .ref lw, .ref st, .ref fo, .ref dr, .int m22, .ref ik, .int m24, .int m25, .long m26, .int m27, .int m28, .ref ro, .int m30, .ref ct, .ref se, .ref th, .ref cn, .ref be, .int m36, .ref du, .int m38, .ref db, .int m40, .int m41, .int m42, .ref pn, .ref wg, .ref wh, .ref tn, .ref he, .int m48, .ref tr, .ref fd, .ref po, .int m52, .int m53])) (hf_ta : f ta = .inl (cy 0, 1600, .inl gta)) (htp : 0 ≤ m6.toInt ∧ m6.toInt ≤ 1600) : Met l yX10_feed (z_ws yX10_feed cX10_feed 6 (some .int)) (z_R 2 0 0) (va_Pc [.ref mm, .int b0, .int b1, .int b2, .int b3, .int b4] (z_Pre D vwCl (z_KK D cy adK adV) L f sz)) (z_Qi D vwCl (fun r u => L = u.1 ∧ (∀ b ∈ L, b ≠ mm → b ≠ ta → u.2 b = f b) ∧ (∃ (t2 : Int32) (nta : Nat → Int32), (u.2 mm = .inr (10, [.int 0, .ref wd, .ref my, .ref ce, .ref mv, .ref ta, .int t2, .int m7, .int m8, .int m9, .int m10, .long m11, .int m12, .int m13, .int m14, .int m15, .ref li, .ref ha, .ref lw, .ref st, .ref fo, .ref dr, .int m22, .ref ik, .int m24, .int m25, .long m26, .int m27, .int m28, .ref ro, .int m30, .ref ct, .ref se, .ref th, .ref cn, .ref be, .int m36, .ref du, .int m38, .ref db, .int m40, .int m41, .int m42, .ref pn, .ref wg, .ref wh, .ref tn, .ref he, .int m48, .ref tr, .ref fd, .ref po, .int m52, .int m53])) ∧ (u.2 ta = .inl (cy 0, 1600, .inl nta)) ∧ (0 ≤ t2.toInt ∧ t2.toInt ≤ 1600))) L sz) 0 0 (z_A L sz) := by
  refine z_met (cc := cX10_feed) (maxL := 6) (ret := (some .int)) (lv := [(0, .ref mm), (1, .int b0), (2, .int b1), (3, .int b2), (4, .int b3), (5, .int b4)]) (by decide) rfl (Nat.le_of_ble_eq_true rfl) rfl ?_
  intro p e s m below meth c ls hx hb hr hlk hml hown hnm hts hKK hA hw hl
  have hK := hKK.1.1
  have hown : s.vm.findClass RX10 = some m.cls := hown
  have hT : ∀ w ∈ lw_all, w.before ([.ref mm, .int b0, .int b1, .int b2, .int b3, .int b4] : List Value).toArray s = true := fun w h => hts w (z_cons w h)
  have hsub : L = L := rfl
  have hfr : ∀ b ∈ L, b ≠ mm → b ≠ ta → f b = f b := fun _ _ _ _ => rfl
  refine lv_aload_n hx hb dX10_feed_0 rfl (lv_at hl 0 rfl) ?_
  refine lv_iconst (v := 0) hx hb dX10_feed_1 (by decide) ?_
  refine z_put (C := RX10) (T := TX10) (N := 54) (ci := 10) (v := .int 0) (fs' := [.int 0, .ref wd, .ref my, .ref ce, .ref mv, .ref ta, .int m6, .int m7, .int m8, .int m9, .int m10, .long m11, .int m12, .int m13, .int m14, .int m15, .ref li, .ref ha, .ref lw, .ref st, .ref fo, .ref dr, .int m22, .ref ik, .int m24, .int m25, .long m26, .int m27, .int m28, .ref ro, .int m30, .ref ct, .ref se, .ref th, .ref cn, .ref be, .int m36, .ref du, .int m38, .ref db, .int m40, .int m41, .int m42, .ref pn, .ref wg, .ref wh, .ref tn, .ref he, .int m48, .ref tr, .ref fd, .ref po, .int m52, .int m53]) hx hb hT zin_X10 tyX10_ok nmX10 hown hK hw hm_mm hf_mm rfl 0 (by decide) (hT _ kw_1168) rfl rfl rfl (Nat.le_of_ble_eq_true rfl) rfl dX10_feed_2 (fun H locs hw => ?_)
  obtain ⟨f1, e_f1⟩ : ∃ z, z = va_up f mm (.inr (10, [.int 0, .ref wd, .ref my, .ref ce, .ref mv, .ref ta, .int m6, .int m7, .int m8, .int m9, .int m10, .long m11, .int m12, .int m13, .int m14, .int m15, .ref li, .ref ha, .ref lw, .ref st, .ref fo, .ref dr, .int m22, .ref ik, .int m24, .int m25, .long m26, .int m27, .int m28, .ref ro, .int m30, .ref ct, .ref se, .ref th, .ref cn, .ref be, .int m36, .ref du, .int m38, .ref db, .int m40, .int m41, .int m42, .ref pn, .ref wg, .ref wh, .ref tn, .ref he, .int m48, .ref tr, .ref fd, .ref po, .int m52, .int m53])) := ⟨_, rfl⟩
  rw [← e_f1] at hw
  have hf_ta : f1 ta = .inl (cy 0, 1600, .inl gta) := (congrFun e_f1 ta).trans (z_up_ne (z_tne hf_ta hf_mm (m := 12900) (n := 10) rfl rfl (by decide)) hf_ta)
  have hf_mm : f1 mm = .inr (10, [.int 0, .ref wd, .ref my, .ref ce, .ref mv, .ref ta, .int m6, .int m7, .int m8, .int m9, .int m10, .long m11, .int m12, .int m13, .int m14, .int m15, .ref li, .ref ha, .ref lw, .ref st, .ref fo, .ref dr, .int m22, .ref ik, .int m24, .int m25, .long m26, .int m27, .int m28, .ref ro, .int m30, .ref ct, .ref se, .ref th, .ref cn, .ref be, .int m36, .ref du, .int m38, .ref db, .int m40, .int m41, .int m42, .ref pn, .ref wg, .ref wh, .ref tn, .ref he, .int m48, .ref tr, .ref fd, .ref po, .int m52, .int m53]) := (congrFun e_f1 mm).trans z_up_self
  have hfr : ∀ b ∈ L, b ≠ mm → b ≠ ta → f1 b = f b := fun b hb h0 h1 => (congrFun e_f1 b).trans (z_up_ne h0 (hfr b hb h0 h1))
  refine lv_aload_n hx hb dX10_feed_5 rfl (lv_at hl 0 rfl) ?_
  refine z_get (C := RX10) (T := TX10) (N := 54) (ci := 10) (v := .int m6) hx hb hT zin_X10 hown hK hw hm_mm hf_mm rfl 6 (by decide) (hT _ kw_1174) rfl dX10_feed_6 ?_
  refine lv_bipush (v := 20) hx hb dX10_feed_9 (by decide) ?_
  refine lv_iadd hx hb dX10_feed_11 ?_
  refine lv_topi (fun w2 e_w2 => ?_)
  have i_w2 : w2.toInt = (m6.toInt + 20) := z_add e_w2 rfl (show (20 : Int32).toInt = 20 by decide) (by omega)
  refine lv_sipush (v := 1600) hx hb dX10_feed_12 (by decide) ?_
  refine z_icmp_le (tgt := 20) hx hb i_w2 (show (1600 : Int32).toInt = 1600 by decide) dX10_feed_15 (by decide) (fun c3 => ?_) (fun c3 => ?_)
  · skip
    refine lv_aload_n hx hb dX10_feed_20 rfl (lv_at hl 0 rfl) ?_
    refine lv_iload_n hx hb dX10_feed_21 rfl (lv_at hl 1 rfl) ?_
    refine z_callvV (cells := 0) (slots := 0) (b := mm) (As := [.int b0]) (rest := []) (ci := 10) (q0 := (RX10, TX10, 54)) ⟨hx, hb, hml, hown, hT⟩ (c_X10_four l hm_mm hm_ta hf_mm hf_ta (by first | omega | decide | assumption)) (cwV 1 hT (z_goodV (fun _ h => h) kw_1357 kw_1359 kw_31 kw_96 kw_1360) rfl rfl rfl (by decide +kernel) ⟨by decide, by decide⟩) z_mv hKK hK hw hA hm_mm hf_mm rfl rfl rfl hl.1 rfl (Nat.le_of_ble_eq_true rfl) dX10_feed_22 ⟨by decide, by decide⟩ (fun u H locs hp hw => ?_)
    obtain ⟨L4, f5⟩ := u
    obtain ⟨hsb, hfm, t2_6, nta_7, ha_0, ha_1, hp⟩ := hp
    have hsb : L = L4 := hsb
    subst hsb
    have hsb : ∀ b ∈ L, b ∈ L := fun _ h => h
    have hw : z_H D vwCl (z_A L sz) s.heap L f5 H locs := hw
    have hfr : ∀ b ∈ L, b ≠ mm → b ≠ ta → f5 b = f b := fun b hb h0 h1 => (hfm b hb h0 h1).trans (hfr b hb h0 h1)
    have hf_mm : f5 mm = .inr (10, [.int 0, .ref wd, .ref my, .ref ce, .ref mv, .ref ta, .int t2_6, .int m7, .int m8, .int m9, .int m10, .long m11, .int m12, .int m13, .int m14, .int m15, .ref li, .ref ha, .ref lw, .ref st, .ref fo, .ref dr, .int m22, .ref ik, .int m24, .int m25, .long m26, .int m27, .int m28, .ref ro, .int m30, .ref ct, .ref se, .ref th, .ref cn, .ref be, .int m36, .ref du, .int m38, .ref db, .int m40, .int m41, .int m42, .ref pn, .ref wg, .ref wh, .ref tn, .ref he, .int m48, .ref tr, .ref fd, .ref po, .int m52, .int m53]) := ha_0
    have hf_ta : f5 ta = .inl (cy 0, 1600, .inl nta_7) := ha_1
    have hq8 := hp
    refine lv_aload_n hx hb dX10_feed_25 rfl (lv_at hl 0 rfl) ?_
    refine lv_iload_n hx hb dX10_feed_26 rfl (lv_at hl 2 rfl) ?_
    refine z_callvV (cells := 0) (slots := 0) (b := mm) (As := [.int b1]) (rest := []) (ci := 10) (q0 := (RX10, TX10, 54)) ⟨hx, hb, hml, hown, hT⟩ (c_X10_four l hm_mm hm_ta hf_mm hf_ta (by first | omega | decide | assumption)) (cwV 1 hT (z_goodV (fun _ h => h) kw_1357 kw_1359 kw_31 kw_96 kw_1360) rfl rfl rfl (by decide +kernel) ⟨by decide, by decide⟩) z_mv hKK hK hw hA hm_mm hf_mm rfl rfl rfl hl.1 rfl (Nat.le_of_ble_eq_true rfl) dX10_feed_27 ⟨by decide, by decide⟩ (fun u H locs hp hw => ?_)
    obtain ⟨L9, f10⟩ := u
    obtain ⟨hsb, hfm, t2_11, nta_12, ha_0, ha_1, hp⟩ := hp
    have hsb : L = L9 := hsb
    subst hsb
    have hsb : ∀ b ∈ L, b ∈ L := fun _ h => h
    have hw : z_H D vwCl (z_A L sz) s.heap L f10 H locs := hw
    have hfr : ∀ b ∈ L, b ≠ mm → b ≠ ta → f10 b = f b := fun b hb h0 h1 => (hfm b hb h0 h1).trans (hfr b hb h0 h1)
    have hf_mm : f10 mm = .inr (10, [.int 0, .ref wd, .ref my, .ref ce, .ref mv, .ref ta, .int t2_11, .int m7, .int m8, .int m9, .int m10, .long m11, .int m12, .int m13, .int m14, .int m15, .ref li, .ref ha, .ref lw, .ref st, .ref fo, .ref dr, .int m22, .ref ik, .int m24, .int m25, .long m26, .int m27, .int m28, .ref ro, .int m30, .ref ct, .ref se, .ref th, .ref cn, .ref be, .int m36, .ref du, .int m38, .ref db, .int m40, .int m41, .int m42, .ref pn, .ref wg, .ref wh, .ref tn, .ref he, .int m48, .ref tr, .ref fd, .ref po, .int m52, .int m53]) := ha_0
    have hf_ta : f10 ta = .inl (cy 0, 1600, .inl nta_12) := ha_1
    have hq13 := hp
    refine lv_aload_n hx hb dX10_feed_30 rfl (lv_at hl 0 rfl) ?_
    refine lv_iload_n hx hb dX10_feed_31 rfl (lv_at hl 3 rfl) ?_
    refine z_callvV (cells := 0) (slots := 0) (b := mm) (As := [.int b2]) (rest := []) (ci := 10) (q0 := (RX10, TX10, 54)) ⟨hx, hb, hml, hown, hT⟩ (c_X10_four l hm_mm hm_ta hf_mm hf_ta (by first | omega | decide | assumption)) (cwV 1 hT (z_goodV (fun _ h => h) kw_1357 kw_1359 kw_31 kw_96 kw_1360) rfl rfl rfl (by decide +kernel) ⟨by decide, by decide⟩) z_mv hKK hK hw hA hm_mm hf_mm rfl rfl rfl hl.1 rfl (Nat.le_of_ble_eq_true rfl) dX10_feed_32 ⟨by decide, by decide⟩ (fun u H locs hp hw => ?_)
    obtain ⟨L14, f15⟩ := u
    obtain ⟨hsb, hfm, t2_16, nta_17, ha_0, ha_1, hp⟩ := hp
    have hsb : L = L14 := hsb
    subst hsb
    have hsb : ∀ b ∈ L, b ∈ L := fun _ h => h
    have hw : z_H D vwCl (z_A L sz) s.heap L f15 H locs := hw
    have hfr : ∀ b ∈ L, b ≠ mm → b ≠ ta → f15 b = f b := fun b hb h0 h1 => (hfm b hb h0 h1).trans (hfr b hb h0 h1)
    have hf_mm : f15 mm = .inr (10, [.int 0, .ref wd, .ref my, .ref ce, .ref mv, .ref ta, .int t2_16, .int m7, .int m8, .int m9, .int m10, .long m11, .int m12, .int m13, .int m14, .int m15, .ref li, .ref ha, .ref lw, .ref st, .ref fo, .ref dr, .int m22, .ref ik, .int m24, .int m25, .long m26, .int m27, .int m28, .ref ro, .int m30, .ref ct, .ref se, .ref th, .ref cn, .ref be, .int m36, .ref du, .int m38, .ref db, .int m40, .int m41, .int m42, .ref pn, .ref wg, .ref wh, .ref tn, .ref he, .int m48, .ref tr, .ref fd, .ref po, .int m52, .int m53]) := ha_0
    have hf_ta : f15 ta = .inl (cy 0, 1600, .inl nta_17) := ha_1
    have hq18 := hp
    refine lv_aload_n hx hb dX10_feed_35 rfl (lv_at hl 0 rfl) ?_
    refine lv_iload hx hb dX10_feed_36 (lv_at hl 4 rfl) ?_
    refine z_callvV (cells := 0) (slots := 0) (b := mm) (As := [.int b3]) (rest := []) (ci := 10) (q0 := (RX10, TX10, 54)) ⟨hx, hb, hml, hown, hT⟩ (c_X10_four l hm_mm hm_ta hf_mm hf_ta (by first | omega | decide | assumption)) (cwV 1 hT (z_goodV (fun _ h => h) kw_1357 kw_1359 kw_31 kw_96 kw_1360) rfl rfl rfl (by decide +kernel) ⟨by decide, by decide⟩) z_mv hKK hK hw hA hm_mm hf_mm rfl rfl rfl hl.1 rfl (Nat.le_of_ble_eq_true rfl) dX10_feed_38 ⟨by decide, by decide⟩ (fun u H locs hp hw => ?_)
    obtain ⟨L19, f20⟩ := u
    obtain ⟨hsb, hfm, t2_21, nta_22, ha_0, ha_1, hp⟩ := hp
    have hsb : L = L19 := hsb
    subst hsb
    have hsb : ∀ b ∈ L, b ∈ L := fun _ h => h
    have hw : z_H D vwCl (z_A L sz) s.heap L f20 H locs := hw
    have hfr : ∀ b ∈ L, b ≠ mm → b ≠ ta → f20 b = f b := fun b hb h0 h1 => (hfm b hb h0 h1).trans (hfr b hb h0 h1)
    have hf_mm : f20 mm = .inr (10, [.int 0, .ref wd, .ref my, .ref ce, .ref mv, .ref ta, .int t2_21, .int m7, .int m8, .int m9, .int m10, .long m11, .int m12, .int m13, .int m14, .int m15, .ref li, .ref ha, .ref lw, .ref st, .ref fo, .ref dr, .int m22, .ref ik, .int m24, .int m25, .long m26, .int m27, .int m28, .ref ro, .int m30, .ref ct, .ref se, .ref th, .ref cn, .ref be, .int m36, .ref du, .int m38, .ref db, .int m40, .int m41, .int m42, .ref pn, .ref wg, .ref wh, .ref tn, .ref he, .int m48, .ref tr, .ref fd, .ref po, .int m52, .int m53]) := ha_0
    have hf_ta : f20 ta = .inl (cy 0, 1600, .inl nta_22) := ha_1
    have hq23 := hp
    refine lv_aload_n hx hb dX10_feed_41 rfl (lv_at hl 0 rfl) ?_
    refine lv_iload hx hb dX10_feed_42 (lv_at hl 5 rfl) ?_
    refine z_callvV (cells := 0) (slots := 0) (b := mm) (As := [.int b4]) (rest := []) (ci := 10) (q0 := (RX10, TX10, 54)) ⟨hx, hb, hml, hown, hT⟩ (c_X10_four l hm_mm hm_ta hf_mm hf_ta (by first | omega | decide | assumption)) (cwV 1 hT (z_goodV (fun _ h => h) kw_1357 kw_1359 kw_31 kw_96 kw_1360) rfl rfl rfl (by decide +kernel) ⟨by decide, by decide⟩) z_mv hKK hK hw hA hm_mm hf_mm rfl rfl rfl hl.1 rfl (Nat.le_of_ble_eq_true rfl) dX10_feed_44 ⟨by decide, by decide⟩ (fun u H locs hp hw => ?_)
    obtain ⟨L24, f25⟩ := u
    obtain ⟨hsb, hfm, t2_26, nta_27, ha_0, ha_1, hp⟩ := hp
    have hsb : L = L24 := hsb
    subst hsb
    have hsb : ∀ b ∈ L, b ∈ L := fun _ h => h
    have hw : z_H D vwCl (z_A L sz) s.heap L f25 H locs := hw
    have hfr : ∀ b ∈ L, b ≠ mm → b ≠ ta → f25 b = f b := fun b hb h0 h1 => (hfm b hb h0 h1).trans (hfr b hb h0 h1)
    have hf_mm : f25 mm = .inr (10, [.int 0, .ref wd, .ref my, .ref ce, .ref mv, .ref ta, .int t2_26, .int m7, .int m8, .int m9, .int m10, .long m11, .int m12, .int m13, .int m14, .int m15, .ref li, .ref ha, .ref lw, .ref st, .ref fo, .ref dr, .int m22, .ref ik, .int m24, .int m25, .long m26, .int m27, .int m28, .ref ro, .int m30, .ref ct, .ref se, .ref th, .ref cn, .ref be, .int m36, .ref du, .int m38, .ref db, .int m40, .int m41, .int m42, .ref pn, .ref wg, .ref wh, .ref tn, .ref he, .int m48, .ref tr, .ref fd, .ref po, .int m52, .int m53]) := ha_0
    have hf_ta : f25 ta = .inl (cy 0, 1600, .inl nta_27) := ha_1
    have hq28 := hp
    refine lv_aload_n hx hb dX10_feed_47 rfl (lv_at hl 0 rfl) ?_
    refine z_get (C := RX10) (T := TX10) (N := 54) (ci := 10) (v := .int t2_26) hx hb hT zin_X10 hown hK hw hm_mm hf_mm rfl 6 (by decide) (hT _ kw_1174) rfl dX10_feed_48 ?_
    exact z_iret hx hb hr hlk (by decide) (by decide) hw (⟨hsub, hfr, t2_26, nta_27, hf_mm, hf_ta, by omega⟩) dX10_feed_51
  · skip
    refine lv_iconst (v := (-1)) hx hb dX10_feed_18 (by decide) ?_
    exact z_iret hx hb hr hlk (by decide) (by decide) hw (⟨hsub, hfr, m6, gta, hf_mm, hf_ta, by omega⟩) dX10_feed_19

set_option maxHeartbeats 2000000 in
set_option maxRecDepth 100000 in
theorem c_X10_end (l : Launch) {D : va_G} {cy : Nat → ClassId} {L : List Nat} {f : Nat → va_E} {sz : Nat} {adK adV : Nat → Nat} {mm wd my ce mv ta li ha lw st fo dr ik ro ct se th cn be du db pn wg wh tn he tr fd po : Nat} {m0 m6 m7 m8 m9 m10 m12 m13 m14 m15 m22 m24 m25 m27 m28 m30 m36 m38 m40 m41 m42 m48 m52 m53 : Int32} {m11 m26 : Int64}   {nn : Int32} (hm_mm : mm ∈ L) (hf_mm : f mm = .inr (10, [.int m0, .ref wd, .ref my, .ref ce, .ref mv, .ref ta, .int m6, .int m7, .int m8, .int m9, .int m10, .long m11, .int m12, .int m13, .int m14, .int m15, .ref li, .ref ha, .ref lw, .ref st, .ref fo, .ref dr, .int m22, .ref ik, .int m24, .int m25, .long m26, .int m27, .int m28, .ref ro, .int m30, .ref ct, .ref se, .ref th, .ref cn, .ref be, .int m36, .ref du, .int m38, .ref db, .int m40, .int m41, .int m42, .ref pn, .ref wg, .ref wh, .ref tn, .ref he, .int m48, .ref tr, .ref fd, .ref po, .int m52, .int m53])) (htp : 0 ≤ m6.toInt ∧ m6.toInt ≤ 1600) : Met l yX10_end (z_ws yX10_end cX10_end 2 (some .int)) (z_R 2 0 0) (va_Pc [.ref mm, .int nn] (z_Pre D vwCl (z_KK D cy adK adV) L f sz)) (z_Qi D vwCl (fun r u => L = u.1 ∧ (∀ b ∈ L, b ≠ mm → u.2 b = f b) ∧ (∃ (t2 : Int32), (u.2 mm = .inr (10, [.int 0, .ref wd, .ref my, .ref ce, .ref mv, .ref ta, .int t2, .int m7, .int m8, .int m9, .int m10, .long m11, .int m12, .int m13, .int m14, .int m15, .ref li, .ref ha, .ref lw, .ref st, .ref fo, .ref dr, .int m22, .ref ik, .int m24, .int m25, .long m26, .int m27, .int m28, .ref ro, .int m30, .ref ct, .ref se, .ref th, .ref cn, .ref be, .int m36, .ref du, .int m38, .ref db, .int m40, .int m41, .int m42, .ref pn, .ref wg, .ref wh, .ref tn, .ref he, .int m48, .ref tr, .ref fd, .ref po, .int m52, .int m53])) ∧ (0 ≤ t2.toInt ∧ t2.toInt ≤ 1600))) L sz) 0 0 (z_A L sz) := by
  refine z_met (cc := cX10_end) (maxL := 2) (ret := (some .int)) (lv := [(0, .ref mm), (1, .int nn)]) (by decide) rfl (Nat.le_of_ble_eq_true rfl) rfl ?_
  intro p e s m below meth c ls hx hb hr hlk hml hown hnm hts hKK hA hw hl
  have hK := hKK.1.1
  have hown : s.vm.findClass RX10 = some m.cls := hown
  have hT : ∀ w ∈ lw_all, w.before ([.ref mm, .int nn] : List Value).toArray s = true := fun w h => hts w (z_cons w h)
  have hsub : L = L := rfl
  have hfr : ∀ b ∈ L, b ≠ mm → f b = f b := fun _ _ _ => rfl
  refine lv_aload_n hx hb dX10_end_0 rfl (lv_at hl 0 rfl) ?_
  refine lv_iconst (v := 0) hx hb dX10_end_1 (by decide) ?_
  refine z_put (C := RX10) (T := TX10) (N := 54) (ci := 10) (v := .int 0) (fs' := [.int 0, .ref wd, .ref my, .ref ce, .ref mv, .ref ta, .int m6, .int m7, .int m8, .int m9, .int m10, .long m11, .int m12, .int m13, .int m14, .int m15, .ref li, .ref ha, .ref lw, .ref st, .ref fo, .ref dr, .int m22, .ref ik, .int m24, .int m25, .long m26, .int m27, .int m28, .ref ro, .int m30, .ref ct, .ref se, .ref th, .ref cn, .ref be, .int m36, .ref du, .int m38, .ref db, .int m40, .int m41, .int m42, .ref pn, .ref wg, .ref wh, .ref tn, .ref he, .int m48, .ref tr, .ref fd, .ref po, .int m52, .int m53]) hx hb hT zin_X10 tyX10_ok nmX10 hown hK hw hm_mm hf_mm rfl 0 (by decide) (hT _ kw_1168) rfl rfl rfl (Nat.le_of_ble_eq_true rfl) rfl dX10_end_2 (fun H locs hw => ?_)
  obtain ⟨f1, e_f1⟩ : ∃ z, z = va_up f mm (.inr (10, [.int 0, .ref wd, .ref my, .ref ce, .ref mv, .ref ta, .int m6, .int m7, .int m8, .int m9, .int m10, .long m11, .int m12, .int m13, .int m14, .int m15, .ref li, .ref ha, .ref lw, .ref st, .ref fo, .ref dr, .int m22, .ref ik, .int m24, .int m25, .long m26, .int m27, .int m28, .ref ro, .int m30, .ref ct, .ref se, .ref th, .ref cn, .ref be, .int m36, .ref du, .int m38, .ref db, .int m40, .int m41, .int m42, .ref pn, .ref wg, .ref wh, .ref tn, .ref he, .int m48, .ref tr, .ref fd, .ref po, .int m52, .int m53])) := ⟨_, rfl⟩
  rw [← e_f1] at hw
  have hf_mm : f1 mm = .inr (10, [.int 0, .ref wd, .ref my, .ref ce, .ref mv, .ref ta, .int m6, .int m7, .int m8, .int m9, .int m10, .long m11, .int m12, .int m13, .int m14, .int m15, .ref li, .ref ha, .ref lw, .ref st, .ref fo, .ref dr, .int m22, .ref ik, .int m24, .int m25, .long m26, .int m27, .int m28, .ref ro, .int m30, .ref ct, .ref se, .ref th, .ref cn, .ref be, .int m36, .ref du, .int m38, .ref db, .int m40, .int m41, .int m42, .ref pn, .ref wg, .ref wh, .ref tn, .ref he, .int m48, .ref tr, .ref fd, .ref po, .int m52, .int m53]) := (congrFun e_f1 mm).trans z_up_self
  have hfr : ∀ b ∈ L, b ≠ mm → f1 b = f b := fun b hb h0 => (congrFun e_f1 b).trans (z_up_ne h0 (hfr b hb h0))
  refine lv_iload_n hx hb dX10_end_5 rfl (lv_at hl 1 rfl) ?_
  refine lv_i2l hx hb dX10_end_6 rfl ?_
  refine lv_topl (fun w2 e_w2 => ?_)
  have i_w2 : w2.toInt = nn.toInt := z_i2l e_w2 rfl
  refine lv_lconst (v := 0) hx hb dX10_end_7 (by decide) ?_
  refine lv_aload_n hx hb dX10_end_8 rfl (lv_at hl 0 rfl) ?_
  refine z_get (C := RX10) (T := TX10) (N := 54) (ci := 10) (v := .int m6) hx hb hT zin_X10 hown hK hw hm_mm hf_mm rfl 6 (by decide) (hT _ kw_1174) rfl dX10_end_9 ?_
  refine lv_i2l hx hb dX10_end_12 rfl ?_
  refine lv_topl (fun w3 e_w3 => ?_)
  have i_w3 : w3.toInt = m6.toInt := z_i2l e_w3 rfl
  have hz4 := (show (0 : Int64).toInt = 0 by decide)
  refine z_calliS (cells := 0) (slots := 0) (As := [.long w2, .long 0, .long w3]) (rest := []) ⟨hx, hb, hml, hown, hT⟩ (c_X10_in l ) (va_cwS 3 hT (z_goodS (fun _ h => h) kw_1339 kw_1340 kw_96 kw_1341) rfl rfl rfl (by decide +kernel) ⟨by decide, by decide⟩) z_mv hKK hw hA rfl hl.1 rfl (Nat.le_of_ble_eq_true rfl) dX10_end_13 ⟨by decide, by decide⟩ (fun r5 u H locs hp hw => ?_)
  obtain ⟨rfl, hp⟩ := hp
  have hw : z_H D vwCl (z_A L sz) s.heap L f1 H locs := hw
  rcases hp with ⟨rfl, h6⟩ | ⟨rfl, h6⟩
  · skip
    refine z_if_ne (tgt := 21) hx hb (show (1 : Int32).toInt = 1 by decide) dX10_end_16 (by decide) (fun _ => ?_) (fun h => absurd h (by decide))
    refine lv_aload_n hx hb dX10_end_21 rfl (lv_at hl 0 rfl) ?_
    refine lv_iload_n hx hb dX10_end_22 rfl (lv_at hl 1 rfl) ?_
    refine z_put (C := RX10) (T := TX10) (N := 54) (ci := 10) (v := .int nn) (fs' := [.int 0, .ref wd, .ref my, .ref ce, .ref mv, .ref ta, .int nn, .int m7, .int m8, .int m9, .int m10, .long m11, .int m12, .int m13, .int m14, .int m15, .ref li, .ref ha, .ref lw, .ref st, .ref fo, .ref dr, .int m22, .ref ik, .int m24, .int m25, .long m26, .int m27, .int m28, .ref ro, .int m30, .ref ct, .ref se, .ref th, .ref cn, .ref be, .int m36, .ref du, .int m38, .ref db, .int m40, .int m41, .int m42, .ref pn, .ref wg, .ref wh, .ref tn, .ref he, .int m48, .ref tr, .ref fd, .ref po, .int m52, .int m53]) hx hb hT zin_X10 tyX10_ok nmX10 hown hK hw hm_mm hf_mm rfl 6 (by decide) (hT _ kw_1174) rfl rfl rfl (Nat.le_of_ble_eq_true rfl) rfl dX10_end_23 (fun H locs hw => ?_)
    obtain ⟨f7, e_f7⟩ : ∃ z, z = va_up f1 mm (.inr (10, [.int 0, .ref wd, .ref my, .ref ce, .ref mv, .ref ta, .int nn, .int m7, .int m8, .int m9, .int m10, .long m11, .int m12, .int m13, .int m14, .int m15, .ref li, .ref ha, .ref lw, .ref st, .ref fo, .ref dr, .int m22, .ref ik, .int m24, .int m25, .long m26, .int m27, .int m28, .ref ro, .int m30, .ref ct, .ref se, .ref th, .ref cn, .ref be, .int m36, .ref du, .int m38, .ref db, .int m40, .int m41, .int m42, .ref pn, .ref wg, .ref wh, .ref tn, .ref he, .int m48, .ref tr, .ref fd, .ref po, .int m52, .int m53])) := ⟨_, rfl⟩
    rw [← e_f7] at hw
    have hf_mm : f7 mm = .inr (10, [.int 0, .ref wd, .ref my, .ref ce, .ref mv, .ref ta, .int nn, .int m7, .int m8, .int m9, .int m10, .long m11, .int m12, .int m13, .int m14, .int m15, .ref li, .ref ha, .ref lw, .ref st, .ref fo, .ref dr, .int m22, .ref ik, .int m24, .int m25, .long m26, .int m27, .int m28, .ref ro, .int m30, .ref ct, .ref se, .ref th, .ref cn, .ref be, .int m36, .ref du, .int m38, .ref db, .int m40, .int m41, .int m42, .ref pn, .ref wg, .ref wh, .ref tn, .ref he, .int m48, .ref tr, .ref fd, .ref po, .int m52, .int m53]) := (congrFun e_f7 mm).trans z_up_self
    have hfr : ∀ b ∈ L, b ≠ mm → f7 b = f b := fun b hb h0 => (congrFun e_f7 b).trans (z_up_ne h0 (hfr b hb h0))
    refine lv_iload_n hx hb dX10_end_26 rfl (lv_at hl 1 rfl) ?_
    exact z_iret hx hb hr hlk (by decide) (by decide) hw (⟨hsub, hfr, nn, hf_mm, by omega⟩) dX10_end_27
  · skip
    refine z_if_ne (tgt := 21) hx hb (show (0 : Int32).toInt = 0 by decide) dX10_end_16 (by decide) (fun h => absurd h (by decide)) (fun _ => ?_)
    refine lv_iconst (v := (-1)) hx hb dX10_end_19 (by decide) ?_
    exact z_iret hx hb hr hlk (by decide) (by decide) hw (⟨hsub, hfr, m6, hf_mm, by omega⟩) dX10_end_20

set_option maxHeartbeats 2000000 in
set_option maxRecDepth 100000 in
theorem c_X10_fault (l : Launch) {D : va_G} {cy : Nat → ClassId} {L : List Nat} {f : Nat → va_E} {sz : Nat} {adK adV : Nat → Nat} {mm wd my ce mv ta li ha lw st fo dr ik ro ct se th cn be du db pn wg wh tn he tr fd po : Nat} {m0 m6 m7 m8 m9 m10 m12 m13 m14 m15 m22 m24 m25 m27 m28 m30 m36 m38 m40 m41 m42 m48 m52 m53 : Int32} {m11 m26 : Int64}   {wt : Int32} (hm_mm : mm ∈ L) (hf_mm : f mm = .inr (10, [.int m0, .ref wd, .ref my, .ref ce, .ref mv, .ref ta, .int m6, .int m7, .int m8, .int m9, .int m10, .long m11, .int m12, .int m13, .int m14, .int m15, .ref li, .ref ha, .ref lw, .ref st, .ref fo, .ref dr, .int m22, .ref ik, .int m24, .int m25, .long m26, .int m27, .int m28, .ref ro, .int m30, .ref ct, .ref se, .ref th, .ref cn, .ref be, .int m36, .ref du, .int m38, .ref db, .int m40, .int m41, .int m42, .ref pn, .ref wg, .ref wh, .ref tn, .ref he, .int m48, .ref tr, .ref fd, .ref po, .int m52, .int m53])) : Met l yX10_fault (z_ws yX10_fault cX10_fault 2 (some .int)) (z_R 1 0 0) (va_Pc [.ref mm, .int wt] (z_Pre D vwCl (z_KK D cy adK adV) L f sz)) (z_Qi D vwCl (fun r u => L = u.1 ∧ (∀ b ∈ L, b ≠ mm → u.2 b = f b) ∧ ((u.2 mm = .inr (10, [.int 0, .ref wd, .ref my, .ref ce, .ref mv, .ref ta, .int m6, .int m7, .int m8, .int m9, .int m10, .long m11, .int m12, .int m13, .int m14, .int m15, .ref li, .ref ha, .ref lw, .ref st, .ref fo, .ref dr, .int m22, .ref ik, .int m24, .int m25, .long m26, .int m27, .int m28, .ref ro, .int m30, .ref ct, .ref se, .ref th, .ref cn, .ref be, .int m36, .ref du, .int m38, .ref db, .int m40, .int m41, .int m42, .ref pn, .ref wg, .ref wh, .ref tn, .ref he, .int m48, .ref tr, .ref fd, .ref po, .int m52, .int m53])) ∧ (True))) L sz) 0 0 (z_A L sz) := by
  refine z_met (cc := cX10_fault) (maxL := 2) (ret := (some .int)) (lv := [(0, .ref mm), (1, .int wt)]) (by decide) rfl (Nat.le_of_ble_eq_true rfl) rfl ?_
  intro p e s m below meth c ls hx hb hr hlk hml hown hnm hts hKK hA hw hl
  have hK := hKK.1.1
  have hown : s.vm.findClass RX10 = some m.cls := hown
  have hT : ∀ w ∈ lw_all, w.before ([.ref mm, .int wt] : List Value).toArray s = true := fun w h => hts w (z_cons w h)
  have hsub : L = L := rfl
  have hfr : ∀ b ∈ L, b ≠ mm → f b = f b := fun _ _ _ => rfl
  refine lv_aload_n hx hb dX10_fault_0 rfl (lv_at hl 0 rfl) ?_
  refine lv_iconst (v := 0) hx hb dX10_fault_1 (by decide) ?_
  refine z_put (C := RX10) (T := TX10) (N := 54) (ci := 10) (v := .int 0) (fs' := [.int 0, .ref wd, .ref my, .ref ce, .ref mv, .ref ta, .int m6, .int m7, .int m8, .int m9, .int m10, .long m11, .int m12, .int m13, .int m14, .int m15, .ref li, .ref ha, .ref lw, .ref st, .ref fo, .ref dr, .int m22, .ref ik, .int m24, .int m25, .long m26, .int m27, .int m28, .ref ro, .int m30, .ref ct, .ref se, .ref th, .ref cn, .ref be, .int m36, .ref du, .int m38, .ref db, .int m40, .int m41, .int m42, .ref pn, .ref wg, .ref wh, .ref tn, .ref he, .int m48, .ref tr, .ref fd, .ref po, .int m52, .int m53]) hx hb hT zin_X10 tyX10_ok nmX10 hown hK hw hm_mm hf_mm rfl 0 (by decide) (hT _ kw_1168) rfl rfl rfl (Nat.le_of_ble_eq_true rfl) rfl dX10_fault_2 (fun H locs hw => ?_)
  obtain ⟨f1, e_f1⟩ : ∃ z, z = va_up f mm (.inr (10, [.int 0, .ref wd, .ref my, .ref ce, .ref mv, .ref ta, .int m6, .int m7, .int m8, .int m9, .int m10, .long m11, .int m12, .int m13, .int m14, .int m15, .ref li, .ref ha, .ref lw, .ref st, .ref fo, .ref dr, .int m22, .ref ik, .int m24, .int m25, .long m26, .int m27, .int m28, .ref ro, .int m30, .ref ct, .ref se, .ref th, .ref cn, .ref be, .int m36, .ref du, .int m38, .ref db, .int m40, .int m41, .int m42, .ref pn, .ref wg, .ref wh, .ref tn, .ref he, .int m48, .ref tr, .ref fd, .ref po, .int m52, .int m53])) := ⟨_, rfl⟩
  rw [← e_f1] at hw
  have hf_mm : f1 mm = .inr (10, [.int 0, .ref wd, .ref my, .ref ce, .ref mv, .ref ta, .int m6, .int m7, .int m8, .int m9, .int m10, .long m11, .int m12, .int m13, .int m14, .int m15, .ref li, .ref ha, .ref lw, .ref st, .ref fo, .ref dr, .int m22, .ref ik, .int m24, .int m25, .long m26, .int m27, .int m28, .ref ro, .int m30, .ref ct, .ref se, .ref th, .ref cn, .ref be, .int m36, .ref du, .int m38, .ref db, .int m40, .int m41, .int m42, .ref pn, .ref wg, .ref wh, .ref tn, .ref he, .int m48, .ref tr, .ref fd, .ref po, .int m52, .int m53]) := (congrFun e_f1 mm).trans z_up_self
  have hfr : ∀ b ∈ L, b ≠ mm → f1 b = f b := fun b hb h0 => (congrFun e_f1 b).trans (z_up_ne h0 (hfr b hb h0))
  refine lv_iload_n hx hb dX10_fault_5 rfl (lv_at hl 1 rfl) ?_
  refine z_if_ne (tgt := 16) hx hb rfl dX10_fault_6 (by decide) (fun c2 => ?_) (fun c2 => ?_)
  · skip
    refine lv_iload_n hx hb dX10_fault_16 rfl (lv_at hl 1 rfl) ?_
    refine lv_iconst (v := 1) hx hb dX10_fault_17 (by decide) ?_
    refine z_icmp_ne (tgt := 28) hx hb rfl (show (1 : Int32).toInt = 1 by decide) dX10_fault_18 (by decide) (fun c3 => ?_) (fun c3 => ?_)
    · skip
      refine lv_iconst (v := (-1)) hx hb dX10_fault_28 (by decide) ?_
      exact z_iret hx hb hr hlk (by decide) (by decide) hw (⟨hsub, hfr, hf_mm, trivial⟩) dX10_fault_29
    · skip
      refine lv_aload_n hx hb dX10_fault_21 rfl (lv_at hl 0 rfl) ?_
      refine z_get (C := RX10) (T := TX10) (N := 54) (ci := 10) (v := .int m15) hx hb hT zin_X10 hown hK hw hm_mm hf_mm rfl 15 (by decide) (hT _ kw_1183) rfl dX10_fault_22 ?_
      refine lv_goto (tgt := 29) hx hb dX10_fault_25 (by decide) ?_
      exact z_iret hx hb hr hlk (by decide) (by decide) hw (⟨hsub, hfr, hf_mm, trivial⟩) dX10_fault_29
  · skip
    refine lv_aload_n hx hb dX10_fault_9 rfl (lv_at hl 0 rfl) ?_
    refine z_get (C := RX10) (T := TX10) (N := 54) (ci := 10) (v := .int m14) hx hb hT zin_X10 hown hK hw hm_mm hf_mm rfl 14 (by decide) (hT _ kw_1182) rfl dX10_fault_10 ?_
    refine lv_goto (tgt := 29) hx hb dX10_fault_13 (by decide) ?_
    exact z_iret hx hb hr hlk (by decide) (by decide) hw (⟨hsub, hfr, hf_mm, trivial⟩) dX10_fault_29

set_option maxHeartbeats 2000000 in
set_option maxRecDepth 100000 in
theorem c_X10_drive (l : Launch) {D : va_G} {cy : Nat → ClassId} {L : List Nat} {f : Nat → va_E} {sz : Nat} {adK adV : Nat → Nat} {mm wd my ce mv ta li ha lw st fo dr ik ro ct se th cn be du db pn wg wh tn he tr fd po : Nat} {m0 m6 m7 m8 m9 m10 m12 m13 m14 m15 m22 m24 m25 m27 m28 m30 m36 m38 m40 m41 m42 m48 m52 m53 : Int32} {m11 m26 : Int64} {gha gdr : Nat → Int32}  {kk wt : Int32} (hm_mm : mm ∈ L) (hm_ha : ha ∈ L) (hm_dr : dr ∈ L) (hf_mm : f mm = .inr (10, [.int m0, .ref wd, .ref my, .ref ce, .ref mv, .ref ta, .int m6, .int m7, .int m8, .int m9, .int m10, .long m11, .int m12, .int m13, .int m14, .int m15, .ref li, .ref ha, .ref lw, .ref st, .ref fo, .ref dr, .int m22, .ref ik, .int m24, .int m25, .long m26, .int m27, .int m28, .ref ro, .int m30, .ref ct, .ref se, .ref th, .ref cn, .ref be, .int m36, .ref du, .int m38, .ref db, .int m40, .int m41, .int m42, .ref pn, .ref wg, .ref wh, .ref tn, .ref he, .int m48, .ref tr, .ref fd, .ref po, .int m52, .int m53])) (hf_ha : f ha = .inl (cy 1, 30, .inl gha)) (hf_dr : f dr = .inl (cy 1, 520, .inl gdr)) (hq_ha : ∀ j : Nat, q_has j (gha j)) (hq_dr : ∀ j : Nat, q_drv j (gdr j)) : Met l yX10_drive (z_ws yX10_drive cX10_drive 3 (some .int)) (z_R 3 0 0) (va_Pc [.ref mm, .int kk, .int wt] (z_Pre D vwCl (z_KK D cy adK adV) L f sz)) (z_Qi D vwCl (fun r u => L = u.1 ∧ (∀ b ∈ L, b ≠ mm → u.2 b = f b) ∧ ((u.2 mm = .inr (10, [.int 0, .ref wd, .ref my, .ref ce, .ref mv, .ref ta, .int m6, .int m7, .int m8, .int m9, .int m10, .long m11, .int m12, .int m13, .int m14, .int m15, .ref li, .ref ha, .ref lw, .ref st, .ref fo, .ref dr, .int m22, .ref ik, .int m24, .int m25, .long m26, .int m27, .int m28, .ref ro, .int m30, .ref ct, .ref se, .ref th, .ref cn, .ref be, .int m36, .ref du, .int m38, .ref db, .int m40, .int m41, .int m42, .ref pn, .ref wg, .ref wh, .ref tn, .ref he, .int m48, .ref tr, .ref fd, .ref po, .int m52, .int m53])) ∧ (True))) L sz) 0 0 (z_A L sz) := by
  refine z_met (cc := cX10_drive) (maxL := 3) (ret := (some .int)) (lv := [(0, .ref mm), (1, .int kk), (2, .int wt)]) (by decide) rfl (Nat.le_of_ble_eq_true rfl) rfl ?_
  intro p e s m below meth c ls hx hb hr hlk hml hown hnm hts hKK hA hw hl
  have hK := hKK.1.1
  have hown : s.vm.findClass RX10 = some m.cls := hown
  have hT : ∀ w ∈ lw_all, w.before ([.ref mm, .int kk, .int wt] : List Value).toArray s = true := fun w h => hts w (z_cons w h)
  have hsub : L = L := rfl
  have hfr : ∀ b ∈ L, b ≠ mm → f b = f b := fun _ _ _ => rfl
  have hh0 := (hq_ha 0).1 rfl
  have hh3 := (hq_ha 3).2.2.2 rfl
  refine lv_aload_n hx hb dX10_drive_0 rfl (lv_at hl 0 rfl) ?_
  refine lv_iconst (v := 0) hx hb dX10_drive_1 (by decide) ?_
  refine z_put (C := RX10) (T := TX10) (N := 54) (ci := 10) (v := .int 0) (fs' := [.int 0, .ref wd, .ref my, .ref ce, .ref mv, .ref ta, .int m6, .int m7, .int m8, .int m9, .int m10, .long m11, .int m12, .int m13, .int m14, .int m15, .ref li, .ref ha, .ref lw, .ref st, .ref fo, .ref dr, .int m22, .ref ik, .int m24, .int m25, .long m26, .int m27, .int m28, .ref ro, .int m30, .ref ct, .ref se, .ref th, .ref cn, .ref be, .int m36, .ref du, .int m38, .ref db, .int m40, .int m41, .int m42, .ref pn, .ref wg, .ref wh, .ref tn, .ref he, .int m48, .ref tr, .ref fd, .ref po, .int m52, .int m53]) hx hb hT zin_X10 tyX10_ok nmX10 hown hK hw hm_mm hf_mm rfl 0 (by decide) (hT _ kw_1168) rfl rfl rfl (Nat.le_of_ble_eq_true rfl) rfl dX10_drive_2 (fun H locs hw => ?_)
  obtain ⟨f1, e_f1⟩ : ∃ z, z = va_up f mm (.inr (10, [.int 0, .ref wd, .ref my, .ref ce, .ref mv, .ref ta, .int m6, .int m7, .int m8, .int m9, .int m10, .long m11, .int m12, .int m13, .int m14, .int m15, .ref li, .ref ha, .ref lw, .ref st, .ref fo, .ref dr, .int m22, .ref ik, .int m24, .int m25, .long m26, .int m27, .int m28, .ref ro, .int m30, .ref ct, .ref se, .ref th, .ref cn, .ref be, .int m36, .ref du, .int m38, .ref db, .int m40, .int m41, .int m42, .ref pn, .ref wg, .ref wh, .ref tn, .ref he, .int m48, .ref tr, .ref fd, .ref po, .int m52, .int m53])) := ⟨_, rfl⟩
  rw [← e_f1] at hw
  have hf_ha : f1 ha = .inl (cy 1, 30, .inl gha) := (congrFun e_f1 ha).trans (z_up_ne (z_tne hf_ha hf_mm (m := 340) (n := 10) rfl rfl (by decide)) hf_ha)
  have hf_dr : f1 dr = .inl (cy 1, 520, .inl gdr) := (congrFun e_f1 dr).trans (z_up_ne (z_tne hf_dr hf_mm (m := 4260) (n := 10) rfl rfl (by decide)) hf_dr)
  have hf_mm : f1 mm = .inr (10, [.int 0, .ref wd, .ref my, .ref ce, .ref mv, .ref ta, .int m6, .int m7, .int m8, .int m9, .int m10, .long m11, .int m12, .int m13, .int m14, .int m15, .ref li, .ref ha, .ref lw, .ref st, .ref fo, .ref dr, .int m22, .ref ik, .int m24, .int m25, .long m26, .int m27, .int m28, .ref ro, .int m30, .ref ct, .ref se, .ref th, .ref cn, .ref be, .int m36, .ref du, .int m38, .ref db, .int m40, .int m41, .int m42, .ref pn, .ref wg, .ref wh, .ref tn, .ref he, .int m48, .ref tr, .ref fd, .ref po, .int m52, .int m53]) := (congrFun e_f1 mm).trans z_up_self
  have hfr : ∀ b ∈ L, b ≠ mm → f1 b = f b := fun b hb h0 => (congrFun e_f1 b).trans (z_up_ne h0 (hfr b hb h0))
  refine lv_aload_n hx hb dX10_drive_5 rfl (lv_at hl 0 rfl) ?_
  refine lv_iload_n hx hb dX10_drive_6 rfl (lv_at hl 1 rfl) ?_
  refine z_calliV (cells := 0) (slots := 0) (b := mm) (As := [.int kk]) (rest := []) (ci := 10) (q0 := (RX10, TX10, 54)) ⟨hx, hb, hml, hown, hT⟩ (c_X10_isDrive l hm_mm hm_ha hf_mm hf_ha hq_ha) (cwV 1 hT (z_goodV (fun _ h => h) kw_1482 kw_1484 kw_50 kw_96 kw_1485) rfl rfl rfl (by decide +kernel) ⟨by decide, by decide⟩) z_mv hKK hK hw hA hm_mm hf_mm rfl rfl rfl hl.1 rfl (Nat.le_of_ble_eq_true rfl) dX10_drive_7 ⟨by decide, by decide⟩ (fun r2 u H locs hp hw => ?_)
  obtain ⟨rfl, hp⟩ := hp
  have hw : z_H D vwCl (z_A L sz) s.heap L f1 H locs := hw
  rcases hp with ⟨rfl, h3⟩ | ⟨rfl, h3⟩
  · skip
    refine z_if_eq (tgt := 34) hx hb (show (1 : Int32).toInt = 1 by decide) dX10_drive_10 (by decide) (fun h => absurd h (by decide)) (fun _ => ?_)
    refine lv_iload_n hx hb dX10_drive_13 rfl (lv_at hl 2 rfl) ?_
    refine lv_i2l hx hb dX10_drive_14 rfl ?_
    refine lv_topl (fun w4 e_w4 => ?_)
    have i_w4 : w4.toInt = wt.toInt := z_i2l e_w4 rfl
    refine lv_lconst (v := 0) hx hb dX10_drive_15 (by decide) ?_
    refine lv_ldc2 (v := 7) hx hb hown (hT _ kw_1486) dX10_drive_16 ?_
    have hz5 := (show (0 : Int64).toInt = 0 by decide)
    have hz6 := (show (7 : Int64).toInt = 7 by decide)
    refine z_calliS (cells := 0) (slots := 0) (As := [.long w4, .long 0, .long 7]) (rest := []) ⟨hx, hb, hml, hown, hT⟩ (c_X10_in l ) (va_cwS 3 hT (z_goodS (fun _ h => h) kw_1339 kw_1340 kw_96 kw_1341) rfl rfl rfl (by decide +kernel) ⟨by decide, by decide⟩) z_mv hKK hw hA rfl hl.1 rfl (Nat.le_of_ble_eq_true rfl) dX10_drive_19 ⟨by decide, by decide⟩ (fun r7 u H locs hp hw => ?_)
    obtain ⟨rfl, hp⟩ := hp
    have hw : z_H D vwCl (z_A L sz) s.heap L f1 H locs := hw
    rcases hp with ⟨rfl, h8⟩ | ⟨rfl, h8⟩
    · skip
      refine z_if_eq (tgt := 34) hx hb (show (1 : Int32).toInt = 1 by decide) dX10_drive_22 (by decide) (fun h => absurd h (by decide)) (fun _ => ?_)
      refine lv_aload_n hx hb dX10_drive_25 rfl (lv_at hl 0 rfl) ?_
      refine lv_iload_n hx hb dX10_drive_26 rfl (lv_at hl 1 rfl) ?_
      refine lv_iload_n hx hb dX10_drive_27 rfl (lv_at hl 2 rfl) ?_
      refine z_calliV (cells := 0) (slots := 0) (b := mm) (As := [.int kk, .int wt]) (rest := []) (ci := 10) (q0 := (RX10, TX10, 54)) ⟨hx, hb, hml, hown, hT⟩ (c_X10_of l hm_mm hm_dr hf_mm hf_dr hq_dr (by first | omega | decide | assumption) (by first | omega | decide | assumption)) (cwV 2 hT (z_goodV (fun _ h => h) kw_1487 kw_1489 kw_51 kw_96 kw_1490) rfl rfl rfl (by decide +kernel) ⟨by decide, by decide⟩) z_mv hKK hK hw hA hm_mm hf_mm rfl rfl rfl hl.1 rfl (Nat.le_of_ble_eq_true rfl) dX10_drive_28 ⟨by decide, by decide⟩ (fun r9 u H locs hp hw => ?_)
      obtain ⟨rfl, hp⟩ := hp
      have hw : z_H D vwCl (z_A L sz) s.heap L f1 H locs := hw
      refine lv_goto (tgt := 36) hx hb dX10_drive_31 (by decide) ?_
      exact z_iret hx hb hr hlk (by decide) (by decide) hw (⟨hsub, hfr, hf_mm, trivial⟩) dX10_drive_36
    · skip
      refine z_if_eq (tgt := 34) hx hb (show (0 : Int32).toInt = 0 by decide) dX10_drive_22 (by decide) (fun _ => ?_) (fun h => absurd h (by decide))
      refine lv_bipush (v := (-2)) hx hb dX10_drive_34 (by decide) ?_
      exact z_iret hx hb hr hlk (by decide) (by decide) hw (⟨hsub, hfr, hf_mm, trivial⟩) dX10_drive_36
  · skip
    refine z_if_eq (tgt := 34) hx hb (show (0 : Int32).toInt = 0 by decide) dX10_drive_10 (by decide) (fun _ => ?_) (fun h => absurd h (by decide))
    refine lv_bipush (v := (-2)) hx hb dX10_drive_34 (by decide) ?_
    exact z_iret hx hb hr hlk (by decide) (by decide) hw (⟨hsub, hfr, hf_mm, trivial⟩) dX10_drive_36

set_option maxHeartbeats 2000000 in
set_option maxRecDepth 100000 in
theorem c_X10_goes (l : Launch) {D : va_G} {cy : Nat → ClassId} {L : List Nat} {f : Nat → va_E} {sz : Nat} {adK adV : Nat → Nat} {mm wd my ce mv ta li ha lw st fo dr ik ro ct se th cn be du db pn wg wh tn he tr fd po : Nat} {m0 m6 m7 m8 m9 m10 m12 m13 m14 m15 m22 m24 m25 m27 m28 m30 m36 m38 m40 m41 m42 m48 m52 m53 : Int32} {m11 m26 : Int64} {gha gdr : Nat → Int32}  {kk : Int32} (hm_mm : mm ∈ L) (hm_ha : ha ∈ L) (hm_dr : dr ∈ L) (hf_mm : f mm = .inr (10, [.int m0, .ref wd, .ref my, .ref ce, .ref mv, .ref ta, .int m6, .int m7, .int m8, .int m9, .int m10, .long m11, .int m12, .int m13, .int m14, .int m15, .ref li, .ref ha, .ref lw, .ref st, .ref fo, .ref dr, .int m22, .ref ik, .int m24, .int m25, .long m26, .int m27, .int m28, .ref ro, .int m30, .ref ct, .ref se, .ref th, .ref cn, .ref be, .int m36, .ref du, .int m38, .ref db, .int m40, .int m41, .int m42, .ref pn, .ref wg, .ref wh, .ref tn, .ref he, .int m48, .ref tr, .ref fd, .ref po, .int m52, .int m53])) (hf_ha : f ha = .inl (cy 1, 30, .inl gha)) (hf_dr : f dr = .inl (cy 1, 520, .inl gdr)) (hq_ha : ∀ j : Nat, q_has j (gha j)) (hq_dr : ∀ j : Nat, q_drv j (gdr j)) : Met l yX10_goes (z_ws yX10_goes cX10_goes 2 (some .int)) (z_R 3 0 0) (va_Pc [.ref mm, .int kk] (z_Pre D vwCl (z_KK D cy adK adV) L f sz)) (z_Qi D vwCl (fun r u => L = u.1 ∧ (∀ b ∈ L, b ≠ mm → u.2 b = f b) ∧ ((u.2 mm = .inr (10, [.int 0, .ref wd, .ref my, .ref ce, .ref mv, .ref ta, .int m6, .int m7, .int m8, .int m9, .int m10, .long m11, .int m12, .int m13, .int m14, .int m15, .ref li, .ref ha, .ref lw, .ref st, .ref fo, .ref dr, .int m22, .ref ik, .int m24, .int m25, .long m26, .int m27, .int m28, .ref ro, .int m30, .ref ct, .ref se, .ref th, .ref cn, .ref be, .int m36, .ref du, .int m38, .ref db, .int m40, .int m41, .int m42, .ref pn, .ref wg, .ref wh, .ref tn, .ref he, .int m48, .ref tr, .ref fd, .ref po, .int m52, .int m53])) ∧ (True))) L sz) 0 0 (z_A L sz) := by
  refine z_met (cc := cX10_goes) (maxL := 2) (ret := (some .int)) (lv := [(0, .ref mm), (1, .int kk)]) (by decide) rfl (Nat.le_of_ble_eq_true rfl) rfl ?_
  intro p e s m below meth c ls hx hb hr hlk hml hown hnm hts hKK hA hw hl
  have hK := hKK.1.1
  have hown : s.vm.findClass RX10 = some m.cls := hown
  have hT : ∀ w ∈ lw_all, w.before ([.ref mm, .int kk] : List Value).toArray s = true := fun w h => hts w (z_cons w h)
  have hsub : L = L := rfl
  have hfr : ∀ b ∈ L, b ≠ mm → f b = f b := fun _ _ _ => rfl
  have hh0 := (hq_ha 0).1 rfl
  have hh3 := (hq_ha 3).2.2.2 rfl
  refine lv_aload_n hx hb dX10_goes_0 rfl (lv_at hl 0 rfl) ?_
  refine lv_iconst (v := 0) hx hb dX10_goes_1 (by decide) ?_
  refine z_put (C := RX10) (T := TX10) (N := 54) (ci := 10) (v := .int 0) (fs' := [.int 0, .ref wd, .ref my, .ref ce, .ref mv, .ref ta, .int m6, .int m7, .int m8, .int m9, .int m10, .long m11, .int m12, .int m13, .int m14, .int m15, .ref li, .ref ha, .ref lw, .ref st, .ref fo, .ref dr, .int m22, .ref ik, .int m24, .int m25, .long m26, .int m27, .int m28, .ref ro, .int m30, .ref ct, .ref se, .ref th, .ref cn, .ref be, .int m36, .ref du, .int m38, .ref db, .int m40, .int m41, .int m42, .ref pn, .ref wg, .ref wh, .ref tn, .ref he, .int m48, .ref tr, .ref fd, .ref po, .int m52, .int m53]) hx hb hT zin_X10 tyX10_ok nmX10 hown hK hw hm_mm hf_mm rfl 0 (by decide) (hT _ kw_1168) rfl rfl rfl (Nat.le_of_ble_eq_true rfl) rfl dX10_goes_2 (fun H locs hw => ?_)
  obtain ⟨f1, e_f1⟩ : ∃ z, z = va_up f mm (.inr (10, [.int 0, .ref wd, .ref my, .ref ce, .ref mv, .ref ta, .int m6, .int m7, .int m8, .int m9, .int m10, .long m11, .int m12, .int m13, .int m14, .int m15, .ref li, .ref ha, .ref lw, .ref st, .ref fo, .ref dr, .int m22, .ref ik, .int m24, .int m25, .long m26, .int m27, .int m28, .ref ro, .int m30, .ref ct, .ref se, .ref th, .ref cn, .ref be, .int m36, .ref du, .int m38, .ref db, .int m40, .int m41, .int m42, .ref pn, .ref wg, .ref wh, .ref tn, .ref he, .int m48, .ref tr, .ref fd, .ref po, .int m52, .int m53])) := ⟨_, rfl⟩
  rw [← e_f1] at hw
  have hf_ha : f1 ha = .inl (cy 1, 30, .inl gha) := (congrFun e_f1 ha).trans (z_up_ne (z_tne hf_ha hf_mm (m := 340) (n := 10) rfl rfl (by decide)) hf_ha)
  have hf_dr : f1 dr = .inl (cy 1, 520, .inl gdr) := (congrFun e_f1 dr).trans (z_up_ne (z_tne hf_dr hf_mm (m := 4260) (n := 10) rfl rfl (by decide)) hf_dr)
  have hf_mm : f1 mm = .inr (10, [.int 0, .ref wd, .ref my, .ref ce, .ref mv, .ref ta, .int m6, .int m7, .int m8, .int m9, .int m10, .long m11, .int m12, .int m13, .int m14, .int m15, .ref li, .ref ha, .ref lw, .ref st, .ref fo, .ref dr, .int m22, .ref ik, .int m24, .int m25, .long m26, .int m27, .int m28, .ref ro, .int m30, .ref ct, .ref se, .ref th, .ref cn, .ref be, .int m36, .ref du, .int m38, .ref db, .int m40, .int m41, .int m42, .ref pn, .ref wg, .ref wh, .ref tn, .ref he, .int m48, .ref tr, .ref fd, .ref po, .int m52, .int m53]) := (congrFun e_f1 mm).trans z_up_self
  have hfr : ∀ b ∈ L, b ≠ mm → f1 b = f b := fun b hb h0 => (congrFun e_f1 b).trans (z_up_ne h0 (hfr b hb h0))
  refine lv_aload_n hx hb dX10_goes_5 rfl (lv_at hl 0 rfl) ?_
  refine lv_iload_n hx hb dX10_goes_6 rfl (lv_at hl 1 rfl) ?_
  refine z_calliV (cells := 0) (slots := 0) (b := mm) (As := [.int kk]) (rest := []) (ci := 10) (q0 := (RX10, TX10, 54)) ⟨hx, hb, hml, hown, hT⟩ (c_X10_isDrive l hm_mm hm_ha hf_mm hf_ha hq_ha) (cwV 1 hT (z_goodV (fun _ h => h) kw_1482 kw_1484 kw_50 kw_96 kw_1485) rfl rfl rfl (by decide +kernel) ⟨by decide, by decide⟩) z_mv hKK hK hw hA hm_mm hf_mm rfl rfl rfl hl.1 rfl (Nat.le_of_ble_eq_true rfl) dX10_goes_7 ⟨by decide, by decide⟩ (fun r2 u H locs hp hw => ?_)
  obtain ⟨rfl, hp⟩ := hp
  have hw : z_H D vwCl (z_A L sz) s.heap L f1 H locs := hw
  rcases hp with ⟨rfl, h3⟩ | ⟨rfl, h3⟩
  · skip
    refine z_if_ne (tgt := 18) hx hb (show (1 : Int32).toInt = 1 by decide) dX10_goes_10 (by decide) (fun _ => ?_) (fun h => absurd h (by decide))
    refine lv_aload_n hx hb dX10_goes_18 rfl (lv_at hl 0 rfl) ?_
    refine lv_iload_n hx hb dX10_goes_19 rfl (lv_at hl 1 rfl) ?_
    refine z_calliV (cells := 0) (slots := 0) (b := mm) (As := [.int kk]) (rest := []) (ci := 10) (q0 := (RX10, TX10, 54)) ⟨hx, hb, hml, hown, hT⟩ (c_X10_timeOf l hm_mm hm_dr hf_mm hf_dr hq_dr (by first | omega | decide | assumption)) (cwV 1 hT (z_goodV (fun _ h => h) kw_1495 kw_1497 kw_52 kw_96 kw_1498) rfl rfl rfl (by decide +kernel) ⟨by decide, by decide⟩) z_mv hKK hK hw hA hm_mm hf_mm rfl rfl rfl hl.1 rfl (Nat.le_of_ble_eq_true rfl) dX10_goes_20 ⟨by decide, by decide⟩ (fun r4 u H locs hp hw => ?_)
    obtain ⟨rfl, hp⟩ := hp
    have hw : z_H D vwCl (z_A L sz) s.heap L f1 H locs := hw
    have ht_r4 := hp
    refine lv_aload_n hx hb dX10_goes_23 rfl (lv_at hl 0 rfl) ?_
    refine z_calliV (cells := 0) (slots := 0) (b := mm) (As := []) (rest := [.int r4]) (ci := 10) (q0 := (RX10, TX10, 54)) ⟨hx, hb, hml, hown, hT⟩ (c_X10_end_ l hm_mm hm_ha hf_mm hf_ha hq_ha) (cwV 0 hT (z_goodV (fun _ h => h) kw_1499 kw_1501 kw_53 kw_96 kw_1502) rfl rfl rfl (by decide +kernel) ⟨by decide, by decide⟩) z_mv hKK hK hw hA hm_mm hf_mm rfl rfl rfl hl.1 rfl (Nat.le_of_ble_eq_true rfl) dX10_goes_24 ⟨by decide, by decide⟩ (fun r5 u H locs hp hw => ?_)
    obtain ⟨rfl, hp⟩ := hp
    have hw : z_H D vwCl (z_A L sz) s.heap L f1 H locs := hw
    have hq6 := hp
    refine z_icmp_ge (tgt := 38) hx hb rfl rfl dX10_goes_27 (by decide) (fun c7 => ?_) (fun c7 => ?_)
    · skip
      refine lv_iconst (v := (-1)) hx hb dX10_goes_38 (by decide) ?_
      exact z_iret hx hb hr hlk (by decide) (by decide) hw (⟨hsub, hfr, hf_mm, trivial⟩) dX10_goes_39
    · skip
      refine lv_aload_n hx hb dX10_goes_30 rfl (lv_at hl 0 rfl) ?_
      refine lv_iload_n hx hb dX10_goes_31 rfl (lv_at hl 1 rfl) ?_
      refine z_calliV (cells := 0) (slots := 0) (b := mm) (As := [.int kk]) (rest := []) (ci := 10) (q0 := (RX10, TX10, 54)) ⟨hx, hb, hml, hown, hT⟩ (c_X10_timeOf l hm_mm hm_dr hf_mm hf_dr hq_dr (by first | omega | decide | assumption)) (cwV 1 hT (z_goodV (fun _ h => h) kw_1495 kw_1497 kw_52 kw_96 kw_1498) rfl rfl rfl (by decide +kernel) ⟨by decide, by decide⟩) z_mv hKK hK hw hA hm_mm hf_mm rfl rfl rfl hl.1 rfl (Nat.le_of_ble_eq_true rfl) dX10_goes_32 ⟨by decide, by decide⟩ (fun r8 u H locs hp hw => ?_)
      obtain ⟨rfl, hp⟩ := hp
      have hw : z_H D vwCl (z_A L sz) s.heap L f1 H locs := hw
      have ht_r8 := hp
      refine lv_goto (tgt := 39) hx hb dX10_goes_35 (by decide) ?_
      exact z_iret hx hb hr hlk (by decide) (by decide) hw (⟨hsub, hfr, hf_mm, trivial⟩) dX10_goes_39
  · skip
    refine z_if_ne (tgt := 18) hx hb (show (0 : Int32).toInt = 0 by decide) dX10_goes_10 (by decide) (fun h => absurd h (by decide)) (fun _ => ?_)
    refine lv_bipush (v := (-2)) hx hb dX10_goes_13 (by decide) ?_
    refine lv_goto (tgt := 39) hx hb dX10_goes_15 (by decide) ?_
    exact z_iret hx hb hr hlk (by decide) (by decide) hw (⟨hsub, hfr, hf_mm, trivial⟩) dX10_goes_39

set_option maxHeartbeats 2000000 in
set_option maxRecDepth 100000 in
theorem c_X10_law (l : Launch) {D : va_G} {cy : Nat → ClassId} {L : List Nat} {f : Nat → va_E} {sz : Nat} {adK adV : Nat → Nat} {mm wd my ce mv ta li ha lw st fo dr ik ro ct se th cn be du db pn wg wh tn he tr fd po : Nat} {m0 m6 m7 m8 m9 m10 m12 m13 m14 m15 m22 m24 m25 m27 m28 m30 m36 m38 m40 m41 m42 m48 m52 m53 : Int32} {m11 m26 : Int64} {gli gha glw : Nat → Int32}  {wt nn : Int32} (hm_mm : mm ∈ L) (hm_li : li ∈ L) (hm_lw : lw ∈ L) (hm_ha : ha ∈ L) (hf_mm : f mm = .inr (10, [.int m0, .ref wd, .ref my, .ref ce, .ref mv, .ref ta, .int m6, .int m7, .int m8, .int m9, .int m10, .long m11, .int m12, .int m13, .int m14, .int m15, .ref li, .ref ha, .ref lw, .ref st, .ref fo, .ref dr, .int m22, .ref ik, .int m24, .int m25, .long m26, .int m27, .int m28, .ref ro, .int m30, .ref ct, .ref se, .ref th, .ref cn, .ref be, .int m36, .ref du, .int m38, .ref db, .int m40, .int m41, .int m42, .ref pn, .ref wg, .ref wh, .ref tn, .ref he, .int m48, .ref tr, .ref fd, .ref po, .int m52, .int m53])) (hf_li : f li = .inl (cy 1, 5, .inl gli)) (hf_lw : f lw = .inl (cy 1, 25, .inl glw)) (hf_ha : f ha = .inl (cy 1, 30, .inl gha)) (hq_lw : ∀ j : Nat, q_law j (glw j)) (hq_ha : ∀ j : Nat, q_has j (gha j)) (hea : ∀ m : Nat, m < 5 → z_ea gha glw m) : Met l yX10_law (z_ws yX10_law cX10_law 4 (some .int)) (z_R 2 0 0) (va_Pc [.ref mm, .int wt, .int nn] (z_Pre D vwCl (z_KK D cy adK adV) L f sz)) (z_Qi D vwCl (fun r u => L = u.1 ∧ (∀ b ∈ L, b ≠ mm → b ≠ lw → u.2 b = f b) ∧ (∃ (nlw : Nat → Int32), (u.2 mm = .inr (10, [.int 0, .ref wd, .ref my, .ref ce, .ref mv, .ref ta, .int m6, .int m7, .int m8, .int m9, .int m10, .long m11, .int m12, .int m13, .int m14, .int m15, .ref li, .ref ha, .ref lw, .ref st, .ref fo, .ref dr, .int m22, .ref ik, .int m24, .int m25, .long m26, .int m27, .int m28, .ref ro, .int m30, .ref ct, .ref se, .ref th, .ref cn, .ref be, .int m36, .ref du, .int m38, .ref db, .int m40, .int m41, .int m42, .ref pn, .ref wg, .ref wh, .ref tn, .ref he, .int m48, .ref tr, .ref fd, .ref po, .int m52, .int m53])) ∧ (u.2 lw = .inl (cy 1, 25, .inl nlw)) ∧ (∀ j : Nat, q_law j (nlw j)) ∧ (∀ m : Nat, m < 5 → z_ea gha nlw m))) L sz) 0 0 (z_A L sz) := by
  refine z_met (cc := cX10_law) (maxL := 4) (ret := (some .int)) (lv := [(0, .ref mm), (1, .int wt), (2, .int nn)]) (by decide) rfl (Nat.le_of_ble_eq_true rfl) rfl ?_
  intro p e s m below meth c ls hx hb hr hlk hml hown hnm hts hKK hA hw hl
  have hK := hKK.1.1
  have hown : s.vm.findClass RX10 = some m.cls := hown
  have hT : ∀ w ∈ lw_all, w.before ([.ref mm, .int wt, .int nn] : List Value).toArray s = true := fun w h => hts w (z_cons w h)
  have hsub : L = L := rfl
  have hfr : ∀ b ∈ L, b ≠ mm → b ≠ lw → f b = f b := fun _ _ _ _ => rfl
  have hz_0 : (0 : Int32).toInt = 0 := by decide
  have hz_1 : (1 : Int32).toInt = 1 := by decide
  have hz_2 : (2 : Int32).toInt = 2 := by decide
  refine lv_aload_n hx hb dX10_law_0 rfl (lv_at hl 0 rfl) ?_
  refine lv_iconst (v := 0) hx hb dX10_law_1 (by decide) ?_
  refine z_put (C := RX10) (T := TX10) (N := 54) (ci := 10) (v := .int 0) (fs' := [.int 0, .ref wd, .ref my, .ref ce, .ref mv, .ref ta, .int m6, .int m7, .int m8, .int m9, .int m10, .long m11, .int m12, .int m13, .int m14, .int m15, .ref li, .ref ha, .ref lw, .ref st, .ref fo, .ref dr, .int m22, .ref ik, .int m24, .int m25, .long m26, .int m27, .int m28, .ref ro, .int m30, .ref ct, .ref se, .ref th, .ref cn, .ref be, .int m36, .ref du, .int m38, .ref db, .int m40, .int m41, .int m42, .ref pn, .ref wg, .ref wh, .ref tn, .ref he, .int m48, .ref tr, .ref fd, .ref po, .int m52, .int m53]) hx hb hT zin_X10 tyX10_ok nmX10 hown hK hw hm_mm hf_mm rfl 0 (by decide) (hT _ kw_1168) rfl rfl rfl (Nat.le_of_ble_eq_true rfl) rfl dX10_law_2 (fun H locs hw => ?_)
  obtain ⟨f1, e_f1⟩ : ∃ z, z = va_up f mm (.inr (10, [.int 0, .ref wd, .ref my, .ref ce, .ref mv, .ref ta, .int m6, .int m7, .int m8, .int m9, .int m10, .long m11, .int m12, .int m13, .int m14, .int m15, .ref li, .ref ha, .ref lw, .ref st, .ref fo, .ref dr, .int m22, .ref ik, .int m24, .int m25, .long m26, .int m27, .int m28, .ref ro, .int m30, .ref ct, .ref se, .ref th, .ref cn, .ref be, .int m36, .ref du, .int m38, .ref db, .int m40, .int m41, .int m42, .ref pn, .ref wg, .ref wh, .ref tn, .ref he, .int m48, .ref tr, .ref fd, .ref po, .int m52, .int m53])) := ⟨_, rfl⟩
  rw [← e_f1] at hw
  have hf_li : f1 li = .inl (cy 1, 5, .inl gli) := (congrFun e_f1 li).trans (z_up_ne (z_tne hf_li hf_mm (m := 140) (n := 10) rfl rfl (by decide)) hf_li)
  have hf_lw : f1 lw = .inl (cy 1, 25, .inl glw) := (congrFun e_f1 lw).trans (z_up_ne (z_tne hf_lw hf_mm (m := 300) (n := 10) rfl rfl (by decide)) hf_lw)
  have hf_ha : f1 ha = .inl (cy 1, 30, .inl gha) := (congrFun e_f1 ha).trans (z_up_ne (z_tne hf_ha hf_mm (m := 340) (n := 10) rfl rfl (by decide)) hf_ha)
  have hf_mm : f1 mm = .inr (10, [.int 0, .ref wd, .ref my, .ref ce, .ref mv, .ref ta, .int m6, .int m7, .int m8, .int m9, .int m10, .long m11, .int m12, .int m13, .int m14, .int m15, .ref li, .ref ha, .ref lw, .ref st, .ref fo, .ref dr, .int m22, .ref ik, .int m24, .int m25, .long m26, .int m27, .int m28, .ref ro, .int m30, .ref ct, .ref se, .ref th, .ref cn, .ref be, .int m36, .ref du, .int m38, .ref db, .int m40, .int m41, .int m42, .ref pn, .ref wg, .ref wh, .ref tn, .ref he, .int m48, .ref tr, .ref fd, .ref po, .int m52, .int m53]) := (congrFun e_f1 mm).trans z_up_self
  have hfr : ∀ b ∈ L, b ≠ mm → b ≠ lw → f1 b = f b := fun b hb h0 h1 => (congrFun e_f1 b).trans (z_up_ne h0 (hfr b hb h0 h1))
  refine lv_aload_n hx hb dX10_law_5 rfl (lv_at hl 0 rfl) ?_
  refine z_calliV (cells := 0) (slots := 0) (b := mm) (As := []) (rest := []) (ci := 10) (q0 := (RX10, TX10, 54)) ⟨hx, hb, hml, hown, hT⟩ (c_X10_isMoor l hm_mm hm_li hf_mm hf_li) (cwV 0 hT (z_goodV (fun _ h => h) kw_1507 kw_1509 kw_54 kw_96 kw_1510) rfl rfl rfl (by decide +kernel) ⟨by decide, by decide⟩) z_mv hKK hK hw hA hm_mm hf_mm rfl rfl rfl hl.1 rfl (Nat.le_of_ble_eq_true rfl) dX10_law_6 ⟨by decide, by decide⟩ (fun r2 u H locs hp hw => ?_)
  obtain ⟨rfl, hp⟩ := hp
  have hw : z_H D vwCl (z_A L sz) s.heap L f1 H locs := hw
  rcases hp with ⟨rfl, h3⟩ | ⟨rfl, h3⟩
  · skip
    refine z_if_eq (tgt := 67) hx hb (show (1 : Int32).toInt = 1 by decide) dX10_law_9 (by decide) (fun h => absurd h (by decide)) (fun _ => ?_)
    refine lv_iload_n hx hb dX10_law_12 rfl (lv_at hl 1 rfl) ?_
    refine lv_i2l hx hb dX10_law_13 rfl ?_
    refine lv_topl (fun w4 e_w4 => ?_)
    have i_w4 : w4.toInt = wt.toInt := z_i2l e_w4 rfl
    refine lv_lconst (v := 0) hx hb dX10_law_14 (by decide) ?_
    refine lv_ldc2 (v := 4) hx hb hown (hT _ kw_1511) dX10_law_15 ?_
    have hz5 := (show (0 : Int64).toInt = 0 by decide)
    have hz6 := (show (4 : Int64).toInt = 4 by decide)
    refine z_calliS (cells := 0) (slots := 0) (As := [.long w4, .long 0, .long 4]) (rest := []) ⟨hx, hb, hml, hown, hT⟩ (c_X10_in l ) (va_cwS 3 hT (z_goodS (fun _ h => h) kw_1339 kw_1340 kw_96 kw_1341) rfl rfl rfl (by decide +kernel) ⟨by decide, by decide⟩) z_mv hKK hw hA rfl hl.1 rfl (Nat.le_of_ble_eq_true rfl) dX10_law_18 ⟨by decide, by decide⟩ (fun r7 u H locs hp hw => ?_)
    obtain ⟨rfl, hp⟩ := hp
    have hw : z_H D vwCl (z_A L sz) s.heap L f1 H locs := hw
    rcases hp with ⟨rfl, h8⟩ | ⟨rfl, h8⟩
    · skip
      refine z_if_eq (tgt := 67) hx hb (show (1 : Int32).toInt = 1 by decide) dX10_law_21 (by decide) (fun h => absurd h (by decide)) (fun _ => ?_)
      refine lv_iload_n hx hb dX10_law_24 rfl (lv_at hl 2 rfl) ?_
      refine lv_i2l hx hb dX10_law_25 rfl ?_
      refine lv_topl (fun w9 e_w9 => ?_)
      have i_w9 : w9.toInt = nn.toInt := z_i2l e_w9 rfl
      refine lv_iload_n hx hb dX10_law_26 rfl (lv_at hl 1 rfl) ?_
      refine lv_iconst (v := 3) hx hb dX10_law_27 (by decide) ?_
      refine z_icmp_ne (tgt := 37) hx hb rfl (show (3 : Int32).toInt = 3 by decide) dX10_law_28 (by decide) (fun c10 => ?_) (fun c10 => ?_)
      · skip
        refine lv_lconst (v := 0) hx hb dX10_law_37 (by decide) ?_
        refine lv_iload_n hx hb dX10_law_38 rfl (lv_at hl 1 rfl) ?_
        refine lv_iconst (v := 3) hx hb dX10_law_39 (by decide) ?_
        refine z_icmp_ne (tgt := 49) hx hb rfl (show (3 : Int32).toInt = 3 by decide) dX10_law_40 (by decide) (fun c11 => ?_) (fun c11 => ?_)
        · skip
          refine lv_iload_n hx hb dX10_law_49 rfl (lv_at hl 1 rfl) ?_
          refine lv_iconst (v := 4) hx hb dX10_law_50 (by decide) ?_
          refine z_icmp_ne (tgt := 60) hx hb rfl (show (4 : Int32).toInt = 4 by decide) dX10_law_51 (by decide) (fun c12 => ?_) (fun c12 => ?_)
          · skip
            refine lv_lconst (v := 1) hx hb dX10_law_60 (by decide) ?_
            have hz13 := (show (0 : Int64).toInt = 0 by decide)
            have hz14 := (show (1 : Int64).toInt = 1 by decide)
            refine z_calliS (cells := 0) (slots := 0) (As := [.long w9, .long 0, .long 1]) (rest := []) ⟨hx, hb, hml, hown, hT⟩ (c_X10_in l ) (va_cwS 3 hT (z_goodS (fun _ h => h) kw_1339 kw_1340 kw_96 kw_1341) rfl rfl rfl (by decide +kernel) ⟨by decide, by decide⟩) z_mv hKK hw hA rfl hl.1 rfl (Nat.le_of_ble_eq_true rfl) dX10_law_61 ⟨by decide, by decide⟩ (fun r15 u H locs hp hw => ?_)
            obtain ⟨rfl, hp⟩ := hp
            have hw : z_H D vwCl (z_A L sz) s.heap L f1 H locs := hw
            rcases hp with ⟨rfl, h16⟩ | ⟨rfl, h16⟩
            · skip
              refine z_if_ne (tgt := 70) hx hb (show (1 : Int32).toInt = 1 by decide) dX10_law_64 (by decide) (fun _ => ?_) (fun h => absurd h (by decide))
              refine lv_aload_n hx hb dX10_law_70 rfl (lv_at hl 0 rfl) ?_
              refine z_get (C := RX10) (T := TX10) (N := 54) (ci := 10) (v := .ref lw) hx hb hT zin_X10 hown hK hw hm_mm hf_mm rfl 18 (by decide) (hT _ kw_1186) rfl dX10_law_71 ?_
              refine lv_iload_n hx hb dX10_law_74 rfl (lv_at hl 1 rfl) ?_
              refine z_iald hx hb hK hw 1 hm_lw hf_lw rfl (z_ix rfl (by omega)) dX10_law_75 ?_
              refine lv_topi (fun w17 e_w17 => ?_)
              have hv_w17 : 0 ≤ w17.toInt ∧ w17.toInt ≤ 999 := by rw [e_w17]; exact hq_lw _
              refine lv_istore_n (lv' := [(3, .int w17), (0, .ref mm), (1, .int wt), (2, .int nn)]) hx hb dX10_law_76 rfl hl (by decide) rfl (fun ls hl => ?_)
              refine lv_aload_n hx hb dX10_law_77 rfl (lv_at hl 1 rfl) ?_
              refine z_get (C := RX10) (T := TX10) (N := 54) (ci := 10) (v := .ref lw) hx hb hT zin_X10 hown hK hw hm_mm hf_mm rfl 18 (by decide) (hT _ kw_1186) rfl dX10_law_78 ?_
              refine lv_iload_n hx hb dX10_law_81 rfl (lv_at hl 2 rfl) ?_
              refine lv_iload_n hx hb dX10_law_82 rfl (lv_at hl 3 rfl) ?_
              refine z_iast hx hb hK hw 1 hm_lw hf_lw rfl (z_ix rfl (by omega)) dX10_law_83 (fun H locs hw => ?_)
              obtain ⟨f19, e_f19⟩ : ∃ z, z = va_up f1 lw (.inl (cy 1, 25, .inl (upd glw wt.toNatClampNeg nn))) := ⟨_, rfl⟩
              rw [← e_f19] at hw
              have hf_mm : f19 mm = .inr (10, [.int 0, .ref wd, .ref my, .ref ce, .ref mv, .ref ta, .int m6, .int m7, .int m8, .int m9, .int m10, .long m11, .int m12, .int m13, .int m14, .int m15, .ref li, .ref ha, .ref lw, .ref st, .ref fo, .ref dr, .int m22, .ref ik, .int m24, .int m25, .long m26, .int m27, .int m28, .ref ro, .int m30, .ref ct, .ref se, .ref th, .ref cn, .ref be, .int m36, .ref du, .int m38, .ref db, .int m40, .int m41, .int m42, .ref pn, .ref wg, .ref wh, .ref tn, .ref he, .int m48, .ref tr, .ref fd, .ref po, .int m52, .int m53]) := (congrFun e_f19 mm).trans (z_up_ne (z_tne hf_mm hf_lw (m := 10) (n := 300) rfl rfl (by decide)) hf_mm)
              have hf_li : f19 li = .inl (cy 1, 5, .inl gli) := (congrFun e_f19 li).trans (z_up_ne (z_tne hf_li hf_lw (m := 140) (n := 300) rfl rfl (by decide)) hf_li)
              have hf_ha : f19 ha = .inl (cy 1, 30, .inl gha) := (congrFun e_f19 ha).trans (z_up_ne (z_tne hf_ha hf_lw (m := 340) (n := 300) rfl rfl (by decide)) hf_ha)
              have hf_lw : f19 lw = .inl (cy 1, 25, .inl (upd glw wt.toNatClampNeg nn)) := (congrFun e_f19 lw).trans z_up_self
              have hfr : ∀ b ∈ L, b ≠ mm → b ≠ lw → f19 b = f b := fun b hb h0 h1 => (congrFun e_f19 b).trans (z_up_ne h1 (hfr b hb h0 h1))
              obtain ⟨g18, e_g18⟩ : ∃ z, z = (upd glw wt.toNatClampNeg nn) := ⟨_, rfl⟩
              rw [← e_g18] at hf_lw
              have hq_lw : ∀ j : Nat, q_law j (g18 j) := z_updQ hq_lw e_g18 (show 0 ≤ (nn : Int32).toInt ∧ (nn : Int32).toInt ≤ 999 by first | decide | omega)
              have hea := z_ea_law hea e_g18 (if h : wt.toInt = 3 then Or.inr (Or.inl (by omega)) else Or.inl (z_nm5 (by omega) h))
              refine lv_iload_n hx hb dX10_law_84 rfl (lv_at hl 0 rfl) ?_
              exact z_iret hx hb hr hlk (by decide) (by decide) hw (⟨hsub, hfr, g18, hf_mm, hf_lw, hq_lw, hea⟩) dX10_law_85
            · skip
              refine z_if_ne (tgt := 70) hx hb (show (0 : Int32).toInt = 0 by decide) dX10_law_64 (by decide) (fun h => absurd h (by decide)) (fun _ => ?_)
              refine lv_bipush (v := (-2)) hx hb dX10_law_67 (by decide) ?_
              exact z_iret hx hb hr hlk (by decide) (by decide) hw (⟨hsub, hfr, glw, hf_mm, hf_lw, hq_lw, hea⟩) dX10_law_69
          · skip
            refine lv_ldc2 (v := 999) hx hb hown (hT _ kw_1514) dX10_law_54 ?_
            refine lv_goto (tgt := 61) hx hb dX10_law_57 (by decide) ?_
            have hz20 := (show (0 : Int64).toInt = 0 by decide)
            have hz21 := (show (999 : Int64).toInt = 999 by decide)
            refine z_calliS (cells := 0) (slots := 0) (As := [.long w9, .long 0, .long 999]) (rest := []) ⟨hx, hb, hml, hown, hT⟩ (c_X10_in l ) (va_cwS 3 hT (z_goodS (fun _ h => h) kw_1339 kw_1340 kw_96 kw_1341) rfl rfl rfl (by decide +kernel) ⟨by decide, by decide⟩) z_mv hKK hw hA rfl hl.1 rfl (Nat.le_of_ble_eq_true rfl) dX10_law_61 ⟨by decide, by decide⟩ (fun r22 u H locs hp hw => ?_)
            obtain ⟨rfl, hp⟩ := hp
            have hw : z_H D vwCl (z_A L sz) s.heap L f1 H locs := hw
            rcases hp with ⟨rfl, h23⟩ | ⟨rfl, h23⟩
            · skip
              refine z_if_ne (tgt := 70) hx hb (show (1 : Int32).toInt = 1 by decide) dX10_law_64 (by decide) (fun _ => ?_) (fun h => absurd h (by decide))
              refine lv_aload_n hx hb dX10_law_70 rfl (lv_at hl 0 rfl) ?_
              refine z_get (C := RX10) (T := TX10) (N := 54) (ci := 10) (v := .ref lw) hx hb hT zin_X10 hown hK hw hm_mm hf_mm rfl 18 (by decide) (hT _ kw_1186) rfl dX10_law_71 ?_
              refine lv_iload_n hx hb dX10_law_74 rfl (lv_at hl 1 rfl) ?_
              refine z_iald hx hb hK hw 1 hm_lw hf_lw rfl (z_ix rfl (by omega)) dX10_law_75 ?_
              refine lv_topi (fun w24 e_w24 => ?_)
              have hv_w24 : 0 ≤ w24.toInt ∧ w24.toInt ≤ 999 := by rw [e_w24]; exact hq_lw _
              refine lv_istore_n (lv' := [(3, .int w24), (0, .ref mm), (1, .int wt), (2, .int nn)]) hx hb dX10_law_76 rfl hl (by decide) rfl (fun ls hl => ?_)
              refine lv_aload_n hx hb dX10_law_77 rfl (lv_at hl 1 rfl) ?_
              refine z_get (C := RX10) (T := TX10) (N := 54) (ci := 10) (v := .ref lw) hx hb hT zin_X10 hown hK hw hm_mm hf_mm rfl 18 (by decide) (hT _ kw_1186) rfl dX10_law_78 ?_
              refine lv_iload_n hx hb dX10_law_81 rfl (lv_at hl 2 rfl) ?_
              refine lv_iload_n hx hb dX10_law_82 rfl (lv_at hl 3 rfl) ?_
              refine z_iast hx hb hK hw 1 hm_lw hf_lw rfl (z_ix rfl (by omega)) dX10_law_83 (fun H locs hw => ?_)
              obtain ⟨f26, e_f26⟩ : ∃ z, z = va_up f1 lw (.inl (cy 1, 25, .inl (upd glw wt.toNatClampNeg nn))) := ⟨_, rfl⟩
              rw [← e_f26] at hw
              have hf_mm : f26 mm = .inr (10, [.int 0, .ref wd, .ref my, .ref ce, .ref mv, .ref ta, .int m6, .int m7, .int m8, .int m9, .int m10, .long m11, .int m12, .int m13, .int m14, .int m15, .ref li, .ref ha, .ref lw, .ref st, .ref fo, .ref dr, .int m22, .ref ik, .int m24, .int m25, .long m26, .int m27, .int m28, .ref ro, .int m30, .ref ct, .ref se, .ref th, .ref cn, .ref be, .int m36, .ref du, .int m38, .ref db, .int m40, .int m41, .int m42, .ref pn, .ref wg, .ref wh, .ref tn, .ref he, .int m48, .ref tr, .ref fd, .ref po, .int m52, .int m53]) := (congrFun e_f26 mm).trans (z_up_ne (z_tne hf_mm hf_lw (m := 10) (n := 300) rfl rfl (by decide)) hf_mm)
              have hf_li : f26 li = .inl (cy 1, 5, .inl gli) := (congrFun e_f26 li).trans (z_up_ne (z_tne hf_li hf_lw (m := 140) (n := 300) rfl rfl (by decide)) hf_li)
              have hf_ha : f26 ha = .inl (cy 1, 30, .inl gha) := (congrFun e_f26 ha).trans (z_up_ne (z_tne hf_ha hf_lw (m := 340) (n := 300) rfl rfl (by decide)) hf_ha)
              have hf_lw : f26 lw = .inl (cy 1, 25, .inl (upd glw wt.toNatClampNeg nn)) := (congrFun e_f26 lw).trans z_up_self
              have hfr : ∀ b ∈ L, b ≠ mm → b ≠ lw → f26 b = f b := fun b hb h0 h1 => (congrFun e_f26 b).trans (z_up_ne h1 (hfr b hb h0 h1))
              obtain ⟨g25, e_g25⟩ : ∃ z, z = (upd glw wt.toNatClampNeg nn) := ⟨_, rfl⟩
              rw [← e_g25] at hf_lw
              have hq_lw : ∀ j : Nat, q_law j (g25 j) := z_updQ hq_lw e_g25 (show 0 ≤ (nn : Int32).toInt ∧ (nn : Int32).toInt ≤ 999 by first | decide | omega)
              have hea := z_ea_law hea e_g25 (if h : wt.toInt = 3 then Or.inr (Or.inl (by omega)) else Or.inl (z_nm5 (by omega) h))
              refine lv_iload_n hx hb dX10_law_84 rfl (lv_at hl 0 rfl) ?_
              exact z_iret hx hb hr hlk (by decide) (by decide) hw (⟨hsub, hfr, g25, hf_mm, hf_lw, hq_lw, hea⟩) dX10_law_85
            · skip
              refine z_if_ne (tgt := 70) hx hb (show (0 : Int32).toInt = 0 by decide) dX10_law_64 (by decide) (fun h => absurd h (by decide)) (fun _ => ?_)
              refine lv_bipush (v := (-2)) hx hb dX10_law_67 (by decide) ?_
              exact z_iret hx hb hr hlk (by decide) (by decide) hw (⟨hsub, hfr, glw, hf_mm, hf_lw, hq_lw, hea⟩) dX10_law_69
        · skip
          refine lv_ldc2 (v := 100) hx hb hown (hT _ kw_1513) dX10_law_43 ?_
          refine lv_goto (tgt := 61) hx hb dX10_law_46 (by decide) ?_
          have hz27 := (show (0 : Int64).toInt = 0 by decide)
          have hz28 := (show (100 : Int64).toInt = 100 by decide)
          refine z_calliS (cells := 0) (slots := 0) (As := [.long w9, .long 0, .long 100]) (rest := []) ⟨hx, hb, hml, hown, hT⟩ (c_X10_in l ) (va_cwS 3 hT (z_goodS (fun _ h => h) kw_1339 kw_1340 kw_96 kw_1341) rfl rfl rfl (by decide +kernel) ⟨by decide, by decide⟩) z_mv hKK hw hA rfl hl.1 rfl (Nat.le_of_ble_eq_true rfl) dX10_law_61 ⟨by decide, by decide⟩ (fun r29 u H locs hp hw => ?_)
          obtain ⟨rfl, hp⟩ := hp
          have hw : z_H D vwCl (z_A L sz) s.heap L f1 H locs := hw
          rcases hp with ⟨rfl, h30⟩ | ⟨rfl, h30⟩
          · skip
            refine z_if_ne (tgt := 70) hx hb (show (1 : Int32).toInt = 1 by decide) dX10_law_64 (by decide) (fun _ => ?_) (fun h => absurd h (by decide))
            refine lv_aload_n hx hb dX10_law_70 rfl (lv_at hl 0 rfl) ?_
            refine z_get (C := RX10) (T := TX10) (N := 54) (ci := 10) (v := .ref lw) hx hb hT zin_X10 hown hK hw hm_mm hf_mm rfl 18 (by decide) (hT _ kw_1186) rfl dX10_law_71 ?_
            refine lv_iload_n hx hb dX10_law_74 rfl (lv_at hl 1 rfl) ?_
            refine z_iald hx hb hK hw 1 hm_lw hf_lw rfl (z_ix rfl (by omega)) dX10_law_75 ?_
            refine lv_topi (fun w31 e_w31 => ?_)
            have hv_w31 : 0 ≤ w31.toInt ∧ w31.toInt ≤ 999 := by rw [e_w31]; exact hq_lw _
            refine lv_istore_n (lv' := [(3, .int w31), (0, .ref mm), (1, .int wt), (2, .int nn)]) hx hb dX10_law_76 rfl hl (by decide) rfl (fun ls hl => ?_)
            refine lv_aload_n hx hb dX10_law_77 rfl (lv_at hl 1 rfl) ?_
            refine z_get (C := RX10) (T := TX10) (N := 54) (ci := 10) (v := .ref lw) hx hb hT zin_X10 hown hK hw hm_mm hf_mm rfl 18 (by decide) (hT _ kw_1186) rfl dX10_law_78 ?_
            refine lv_iload_n hx hb dX10_law_81 rfl (lv_at hl 2 rfl) ?_
            refine lv_iload_n hx hb dX10_law_82 rfl (lv_at hl 3 rfl) ?_
            refine z_iast hx hb hK hw 1 hm_lw hf_lw rfl (z_ix rfl (by omega)) dX10_law_83 (fun H locs hw => ?_)
            obtain ⟨f33, e_f33⟩ : ∃ z, z = va_up f1 lw (.inl (cy 1, 25, .inl (upd glw wt.toNatClampNeg nn))) := ⟨_, rfl⟩
            rw [← e_f33] at hw
            have hf_mm : f33 mm = .inr (10, [.int 0, .ref wd, .ref my, .ref ce, .ref mv, .ref ta, .int m6, .int m7, .int m8, .int m9, .int m10, .long m11, .int m12, .int m13, .int m14, .int m15, .ref li, .ref ha, .ref lw, .ref st, .ref fo, .ref dr, .int m22, .ref ik, .int m24, .int m25, .long m26, .int m27, .int m28, .ref ro, .int m30, .ref ct, .ref se, .ref th, .ref cn, .ref be, .int m36, .ref du, .int m38, .ref db, .int m40, .int m41, .int m42, .ref pn, .ref wg, .ref wh, .ref tn, .ref he, .int m48, .ref tr, .ref fd, .ref po, .int m52, .int m53]) := (congrFun e_f33 mm).trans (z_up_ne (z_tne hf_mm hf_lw (m := 10) (n := 300) rfl rfl (by decide)) hf_mm)
            have hf_li : f33 li = .inl (cy 1, 5, .inl gli) := (congrFun e_f33 li).trans (z_up_ne (z_tne hf_li hf_lw (m := 140) (n := 300) rfl rfl (by decide)) hf_li)
            have hf_ha : f33 ha = .inl (cy 1, 30, .inl gha) := (congrFun e_f33 ha).trans (z_up_ne (z_tne hf_ha hf_lw (m := 340) (n := 300) rfl rfl (by decide)) hf_ha)
            have hf_lw : f33 lw = .inl (cy 1, 25, .inl (upd glw wt.toNatClampNeg nn)) := (congrFun e_f33 lw).trans z_up_self
            have hfr : ∀ b ∈ L, b ≠ mm → b ≠ lw → f33 b = f b := fun b hb h0 h1 => (congrFun e_f33 b).trans (z_up_ne h1 (hfr b hb h0 h1))
            obtain ⟨g32, e_g32⟩ : ∃ z, z = (upd glw wt.toNatClampNeg nn) := ⟨_, rfl⟩
            rw [← e_g32] at hf_lw
            have hq_lw : ∀ j : Nat, q_law j (g32 j) := z_updQ hq_lw e_g32 (show 0 ≤ (nn : Int32).toInt ∧ (nn : Int32).toInt ≤ 999 by first | decide | omega)
            have hea := z_ea_law hea e_g32 (if h : wt.toInt = 3 then Or.inr (Or.inl (by omega)) else Or.inl (z_nm5 (by omega) h))
            refine lv_iload_n hx hb dX10_law_84 rfl (lv_at hl 0 rfl) ?_
            exact z_iret hx hb hr hlk (by decide) (by decide) hw (⟨hsub, hfr, g32, hf_mm, hf_lw, hq_lw, hea⟩) dX10_law_85
          · skip
            refine z_if_ne (tgt := 70) hx hb (show (0 : Int32).toInt = 0 by decide) dX10_law_64 (by decide) (fun h => absurd h (by decide)) (fun _ => ?_)
            refine lv_bipush (v := (-2)) hx hb dX10_law_67 (by decide) ?_
            exact z_iret hx hb hr hlk (by decide) (by decide) hw (⟨hsub, hfr, glw, hf_mm, hf_lw, hq_lw, hea⟩) dX10_law_69
      · skip
        refine lv_ldc2 (v := 2) hx hb hown (hT _ kw_1512) dX10_law_31 ?_
        refine lv_goto (tgt := 38) hx hb dX10_law_34 (by decide) ?_
        refine lv_iload_n hx hb dX10_law_38 rfl (lv_at hl 1 rfl) ?_
        refine lv_iconst (v := 3) hx hb dX10_law_39 (by decide) ?_
        refine z_icmp_ne (tgt := 49) hx hb rfl (show (3 : Int32).toInt = 3 by decide) dX10_law_40 (by decide) (fun c34 => ?_) (fun c34 => ?_)
        · skip
          refine lv_iload_n hx hb dX10_law_49 rfl (lv_at hl 1 rfl) ?_
          refine lv_iconst (v := 4) hx hb dX10_law_50 (by decide) ?_
          refine z_icmp_ne (tgt := 60) hx hb rfl (show (4 : Int32).toInt = 4 by decide) dX10_law_51 (by decide) (fun c35 => ?_) (fun c35 => ?_)
          · skip
            refine lv_lconst (v := 1) hx hb dX10_law_60 (by decide) ?_
            have hz36 := (show (2 : Int64).toInt = 2 by decide)
            have hz37 := (show (1 : Int64).toInt = 1 by decide)
            refine z_calliS (cells := 0) (slots := 0) (As := [.long w9, .long 2, .long 1]) (rest := []) ⟨hx, hb, hml, hown, hT⟩ (c_X10_in l ) (va_cwS 3 hT (z_goodS (fun _ h => h) kw_1339 kw_1340 kw_96 kw_1341) rfl rfl rfl (by decide +kernel) ⟨by decide, by decide⟩) z_mv hKK hw hA rfl hl.1 rfl (Nat.le_of_ble_eq_true rfl) dX10_law_61 ⟨by decide, by decide⟩ (fun r38 u H locs hp hw => ?_)
            obtain ⟨rfl, hp⟩ := hp
            have hw : z_H D vwCl (z_A L sz) s.heap L f1 H locs := hw
            rcases hp with ⟨rfl, h39⟩ | ⟨rfl, h39⟩
            · skip
              refine z_if_ne (tgt := 70) hx hb (show (1 : Int32).toInt = 1 by decide) dX10_law_64 (by decide) (fun _ => ?_) (fun h => absurd h (by decide))
              refine lv_aload_n hx hb dX10_law_70 rfl (lv_at hl 0 rfl) ?_
              refine z_get (C := RX10) (T := TX10) (N := 54) (ci := 10) (v := .ref lw) hx hb hT zin_X10 hown hK hw hm_mm hf_mm rfl 18 (by decide) (hT _ kw_1186) rfl dX10_law_71 ?_
              refine lv_iload_n hx hb dX10_law_74 rfl (lv_at hl 1 rfl) ?_
              refine z_iald hx hb hK hw 1 hm_lw hf_lw rfl (z_ix rfl (by omega)) dX10_law_75 ?_
              refine lv_topi (fun w40 e_w40 => ?_)
              have hv_w40 : 0 ≤ w40.toInt ∧ w40.toInt ≤ 999 := by rw [e_w40]; exact hq_lw _
              refine lv_istore_n (lv' := [(3, .int w40), (0, .ref mm), (1, .int wt), (2, .int nn)]) hx hb dX10_law_76 rfl hl (by decide) rfl (fun ls hl => ?_)
              refine lv_aload_n hx hb dX10_law_77 rfl (lv_at hl 1 rfl) ?_
              refine z_get (C := RX10) (T := TX10) (N := 54) (ci := 10) (v := .ref lw) hx hb hT zin_X10 hown hK hw hm_mm hf_mm rfl 18 (by decide) (hT _ kw_1186) rfl dX10_law_78 ?_
              refine lv_iload_n hx hb dX10_law_81 rfl (lv_at hl 2 rfl) ?_
              refine lv_iload_n hx hb dX10_law_82 rfl (lv_at hl 3 rfl) ?_
              refine z_iast hx hb hK hw 1 hm_lw hf_lw rfl (z_ix rfl (by omega)) dX10_law_83 (fun H locs hw => ?_)
              obtain ⟨f42, e_f42⟩ : ∃ z, z = va_up f1 lw (.inl (cy 1, 25, .inl (upd glw wt.toNatClampNeg nn))) := ⟨_, rfl⟩
              rw [← e_f42] at hw
              have hf_mm : f42 mm = .inr (10, [.int 0, .ref wd, .ref my, .ref ce, .ref mv, .ref ta, .int m6, .int m7, .int m8, .int m9, .int m10, .long m11, .int m12, .int m13, .int m14, .int m15, .ref li, .ref ha, .ref lw, .ref st, .ref fo, .ref dr, .int m22, .ref ik, .int m24, .int m25, .long m26, .int m27, .int m28, .ref ro, .int m30, .ref ct, .ref se, .ref th, .ref cn, .ref be, .int m36, .ref du, .int m38, .ref db, .int m40, .int m41, .int m42, .ref pn, .ref wg, .ref wh, .ref tn, .ref he, .int m48, .ref tr, .ref fd, .ref po, .int m52, .int m53]) := (congrFun e_f42 mm).trans (z_up_ne (z_tne hf_mm hf_lw (m := 10) (n := 300) rfl rfl (by decide)) hf_mm)
              have hf_li : f42 li = .inl (cy 1, 5, .inl gli) := (congrFun e_f42 li).trans (z_up_ne (z_tne hf_li hf_lw (m := 140) (n := 300) rfl rfl (by decide)) hf_li)
              have hf_ha : f42 ha = .inl (cy 1, 30, .inl gha) := (congrFun e_f42 ha).trans (z_up_ne (z_tne hf_ha hf_lw (m := 340) (n := 300) rfl rfl (by decide)) hf_ha)
              have hf_lw : f42 lw = .inl (cy 1, 25, .inl (upd glw wt.toNatClampNeg nn)) := (congrFun e_f42 lw).trans z_up_self
              have hfr : ∀ b ∈ L, b ≠ mm → b ≠ lw → f42 b = f b := fun b hb h0 h1 => (congrFun e_f42 b).trans (z_up_ne h1 (hfr b hb h0 h1))
              obtain ⟨g41, e_g41⟩ : ∃ z, z = (upd glw wt.toNatClampNeg nn) := ⟨_, rfl⟩
              rw [← e_g41] at hf_lw
              have hq_lw : ∀ j : Nat, q_law j (g41 j) := z_updQ hq_lw e_g41 (show 0 ≤ (nn : Int32).toInt ∧ (nn : Int32).toInt ≤ 999 by first | decide | omega)
              have hea := z_ea_law hea e_g41 (if h : wt.toInt = 3 then Or.inr (Or.inl (by omega)) else Or.inl (z_nm5 (by omega) h))
              refine lv_iload_n hx hb dX10_law_84 rfl (lv_at hl 0 rfl) ?_
              exact z_iret hx hb hr hlk (by decide) (by decide) hw (⟨hsub, hfr, g41, hf_mm, hf_lw, hq_lw, hea⟩) dX10_law_85
            · skip
              refine z_if_ne (tgt := 70) hx hb (show (0 : Int32).toInt = 0 by decide) dX10_law_64 (by decide) (fun h => absurd h (by decide)) (fun _ => ?_)
              refine lv_bipush (v := (-2)) hx hb dX10_law_67 (by decide) ?_
              exact z_iret hx hb hr hlk (by decide) (by decide) hw (⟨hsub, hfr, glw, hf_mm, hf_lw, hq_lw, hea⟩) dX10_law_69
          · skip
            refine lv_ldc2 (v := 999) hx hb hown (hT _ kw_1514) dX10_law_54 ?_
            refine lv_goto (tgt := 61) hx hb dX10_law_57 (by decide) ?_
            have hz43 := (show (2 : Int64).toInt = 2 by decide)
            have hz44 := (show (999 : Int64).toInt = 999 by decide)
            refine z_calliS (cells := 0) (slots := 0) (As := [.long w9, .long 2, .long 999]) (rest := []) ⟨hx, hb, hml, hown, hT⟩ (c_X10_in l ) (va_cwS 3 hT (z_goodS (fun _ h => h) kw_1339 kw_1340 kw_96 kw_1341) rfl rfl rfl (by decide +kernel) ⟨by decide, by decide⟩) z_mv hKK hw hA rfl hl.1 rfl (Nat.le_of_ble_eq_true rfl) dX10_law_61 ⟨by decide, by decide⟩ (fun r45 u H locs hp hw => ?_)
            obtain ⟨rfl, hp⟩ := hp
            have hw : z_H D vwCl (z_A L sz) s.heap L f1 H locs := hw
            rcases hp with ⟨rfl, h46⟩ | ⟨rfl, h46⟩
            · skip
              refine z_if_ne (tgt := 70) hx hb (show (1 : Int32).toInt = 1 by decide) dX10_law_64 (by decide) (fun _ => ?_) (fun h => absurd h (by decide))
              refine lv_aload_n hx hb dX10_law_70 rfl (lv_at hl 0 rfl) ?_
              refine z_get (C := RX10) (T := TX10) (N := 54) (ci := 10) (v := .ref lw) hx hb hT zin_X10 hown hK hw hm_mm hf_mm rfl 18 (by decide) (hT _ kw_1186) rfl dX10_law_71 ?_
              refine lv_iload_n hx hb dX10_law_74 rfl (lv_at hl 1 rfl) ?_
              refine z_iald hx hb hK hw 1 hm_lw hf_lw rfl (z_ix rfl (by omega)) dX10_law_75 ?_
              refine lv_topi (fun w47 e_w47 => ?_)
              have hv_w47 : 0 ≤ w47.toInt ∧ w47.toInt ≤ 999 := by rw [e_w47]; exact hq_lw _
              refine lv_istore_n (lv' := [(3, .int w47), (0, .ref mm), (1, .int wt), (2, .int nn)]) hx hb dX10_law_76 rfl hl (by decide) rfl (fun ls hl => ?_)
              refine lv_aload_n hx hb dX10_law_77 rfl (lv_at hl 1 rfl) ?_
              refine z_get (C := RX10) (T := TX10) (N := 54) (ci := 10) (v := .ref lw) hx hb hT zin_X10 hown hK hw hm_mm hf_mm rfl 18 (by decide) (hT _ kw_1186) rfl dX10_law_78 ?_
              refine lv_iload_n hx hb dX10_law_81 rfl (lv_at hl 2 rfl) ?_
              refine lv_iload_n hx hb dX10_law_82 rfl (lv_at hl 3 rfl) ?_
              refine z_iast hx hb hK hw 1 hm_lw hf_lw rfl (z_ix rfl (by omega)) dX10_law_83 (fun H locs hw => ?_)
              obtain ⟨f49, e_f49⟩ : ∃ z, z = va_up f1 lw (.inl (cy 1, 25, .inl (upd glw wt.toNatClampNeg nn))) := ⟨_, rfl⟩
              rw [← e_f49] at hw
              have hf_mm : f49 mm = .inr (10, [.int 0, .ref wd, .ref my, .ref ce, .ref mv, .ref ta, .int m6, .int m7, .int m8, .int m9, .int m10, .long m11, .int m12, .int m13, .int m14, .int m15, .ref li, .ref ha, .ref lw, .ref st, .ref fo, .ref dr, .int m22, .ref ik, .int m24, .int m25, .long m26, .int m27, .int m28, .ref ro, .int m30, .ref ct, .ref se, .ref th, .ref cn, .ref be, .int m36, .ref du, .int m38, .ref db, .int m40, .int m41, .int m42, .ref pn, .ref wg, .ref wh, .ref tn, .ref he, .int m48, .ref tr, .ref fd, .ref po, .int m52, .int m53]) := (congrFun e_f49 mm).trans (z_up_ne (z_tne hf_mm hf_lw (m := 10) (n := 300) rfl rfl (by decide)) hf_mm)
              have hf_li : f49 li = .inl (cy 1, 5, .inl gli) := (congrFun e_f49 li).trans (z_up_ne (z_tne hf_li hf_lw (m := 140) (n := 300) rfl rfl (by decide)) hf_li)
              have hf_ha : f49 ha = .inl (cy 1, 30, .inl gha) := (congrFun e_f49 ha).trans (z_up_ne (z_tne hf_ha hf_lw (m := 340) (n := 300) rfl rfl (by decide)) hf_ha)
              have hf_lw : f49 lw = .inl (cy 1, 25, .inl (upd glw wt.toNatClampNeg nn)) := (congrFun e_f49 lw).trans z_up_self
              have hfr : ∀ b ∈ L, b ≠ mm → b ≠ lw → f49 b = f b := fun b hb h0 h1 => (congrFun e_f49 b).trans (z_up_ne h1 (hfr b hb h0 h1))
              obtain ⟨g48, e_g48⟩ : ∃ z, z = (upd glw wt.toNatClampNeg nn) := ⟨_, rfl⟩
              rw [← e_g48] at hf_lw
              have hq_lw : ∀ j : Nat, q_law j (g48 j) := z_updQ hq_lw e_g48 (show 0 ≤ (nn : Int32).toInt ∧ (nn : Int32).toInt ≤ 999 by first | decide | omega)
              have hea := z_ea_law hea e_g48 (if h : wt.toInt = 3 then Or.inr (Or.inl (by omega)) else Or.inl (z_nm5 (by omega) h))
              refine lv_iload_n hx hb dX10_law_84 rfl (lv_at hl 0 rfl) ?_
              exact z_iret hx hb hr hlk (by decide) (by decide) hw (⟨hsub, hfr, g48, hf_mm, hf_lw, hq_lw, hea⟩) dX10_law_85
            · skip
              refine z_if_ne (tgt := 70) hx hb (show (0 : Int32).toInt = 0 by decide) dX10_law_64 (by decide) (fun h => absurd h (by decide)) (fun _ => ?_)
              refine lv_bipush (v := (-2)) hx hb dX10_law_67 (by decide) ?_
              exact z_iret hx hb hr hlk (by decide) (by decide) hw (⟨hsub, hfr, glw, hf_mm, hf_lw, hq_lw, hea⟩) dX10_law_69
        · skip
          refine lv_ldc2 (v := 100) hx hb hown (hT _ kw_1513) dX10_law_43 ?_
          refine lv_goto (tgt := 61) hx hb dX10_law_46 (by decide) ?_
          have hz50 := (show (2 : Int64).toInt = 2 by decide)
          have hz51 := (show (100 : Int64).toInt = 100 by decide)
          refine z_calliS (cells := 0) (slots := 0) (As := [.long w9, .long 2, .long 100]) (rest := []) ⟨hx, hb, hml, hown, hT⟩ (c_X10_in l ) (va_cwS 3 hT (z_goodS (fun _ h => h) kw_1339 kw_1340 kw_96 kw_1341) rfl rfl rfl (by decide +kernel) ⟨by decide, by decide⟩) z_mv hKK hw hA rfl hl.1 rfl (Nat.le_of_ble_eq_true rfl) dX10_law_61 ⟨by decide, by decide⟩ (fun r52 u H locs hp hw => ?_)
          obtain ⟨rfl, hp⟩ := hp
          have hw : z_H D vwCl (z_A L sz) s.heap L f1 H locs := hw
          rcases hp with ⟨rfl, h53⟩ | ⟨rfl, h53⟩
          · skip
            refine z_if_ne (tgt := 70) hx hb (show (1 : Int32).toInt = 1 by decide) dX10_law_64 (by decide) (fun _ => ?_) (fun h => absurd h (by decide))
            refine lv_aload_n hx hb dX10_law_70 rfl (lv_at hl 0 rfl) ?_
            refine z_get (C := RX10) (T := TX10) (N := 54) (ci := 10) (v := .ref lw) hx hb hT zin_X10 hown hK hw hm_mm hf_mm rfl 18 (by decide) (hT _ kw_1186) rfl dX10_law_71 ?_
            refine lv_iload_n hx hb dX10_law_74 rfl (lv_at hl 1 rfl) ?_
            refine z_iald hx hb hK hw 1 hm_lw hf_lw rfl (z_ix rfl (by omega)) dX10_law_75 ?_
            refine lv_topi (fun w54 e_w54 => ?_)
            have hv_w54 : 0 ≤ w54.toInt ∧ w54.toInt ≤ 999 := by rw [e_w54]; exact hq_lw _
            refine lv_istore_n (lv' := [(3, .int w54), (0, .ref mm), (1, .int wt), (2, .int nn)]) hx hb dX10_law_76 rfl hl (by decide) rfl (fun ls hl => ?_)
            refine lv_aload_n hx hb dX10_law_77 rfl (lv_at hl 1 rfl) ?_
            refine z_get (C := RX10) (T := TX10) (N := 54) (ci := 10) (v := .ref lw) hx hb hT zin_X10 hown hK hw hm_mm hf_mm rfl 18 (by decide) (hT _ kw_1186) rfl dX10_law_78 ?_
            refine lv_iload_n hx hb dX10_law_81 rfl (lv_at hl 2 rfl) ?_
            refine lv_iload_n hx hb dX10_law_82 rfl (lv_at hl 3 rfl) ?_
            refine z_iast hx hb hK hw 1 hm_lw hf_lw rfl (z_ix rfl (by omega)) dX10_law_83 (fun H locs hw => ?_)
            obtain ⟨f56, e_f56⟩ : ∃ z, z = va_up f1 lw (.inl (cy 1, 25, .inl (upd glw wt.toNatClampNeg nn))) := ⟨_, rfl⟩
            rw [← e_f56] at hw
            have hf_mm : f56 mm = .inr (10, [.int 0, .ref wd, .ref my, .ref ce, .ref mv, .ref ta, .int m6, .int m7, .int m8, .int m9, .int m10, .long m11, .int m12, .int m13, .int m14, .int m15, .ref li, .ref ha, .ref lw, .ref st, .ref fo, .ref dr, .int m22, .ref ik, .int m24, .int m25, .long m26, .int m27, .int m28, .ref ro, .int m30, .ref ct, .ref se, .ref th, .ref cn, .ref be, .int m36, .ref du, .int m38, .ref db, .int m40, .int m41, .int m42, .ref pn, .ref wg, .ref wh, .ref tn, .ref he, .int m48, .ref tr, .ref fd, .ref po, .int m52, .int m53]) := (congrFun e_f56 mm).trans (z_up_ne (z_tne hf_mm hf_lw (m := 10) (n := 300) rfl rfl (by decide)) hf_mm)
            have hf_li : f56 li = .inl (cy 1, 5, .inl gli) := (congrFun e_f56 li).trans (z_up_ne (z_tne hf_li hf_lw (m := 140) (n := 300) rfl rfl (by decide)) hf_li)
            have hf_ha : f56 ha = .inl (cy 1, 30, .inl gha) := (congrFun e_f56 ha).trans (z_up_ne (z_tne hf_ha hf_lw (m := 340) (n := 300) rfl rfl (by decide)) hf_ha)
            have hf_lw : f56 lw = .inl (cy 1, 25, .inl (upd glw wt.toNatClampNeg nn)) := (congrFun e_f56 lw).trans z_up_self
            have hfr : ∀ b ∈ L, b ≠ mm → b ≠ lw → f56 b = f b := fun b hb h0 h1 => (congrFun e_f56 b).trans (z_up_ne h1 (hfr b hb h0 h1))
            obtain ⟨g55, e_g55⟩ : ∃ z, z = (upd glw wt.toNatClampNeg nn) := ⟨_, rfl⟩
            rw [← e_g55] at hf_lw
            have hq_lw : ∀ j : Nat, q_law j (g55 j) := z_updQ hq_lw e_g55 (show 0 ≤ (nn : Int32).toInt ∧ (nn : Int32).toInt ≤ 999 by first | decide | omega)
            have hea := z_ea_law hea e_g55 (if h : wt.toInt = 3 then Or.inr (Or.inl (by omega)) else Or.inl (z_nm5 (by omega) h))
            refine lv_iload_n hx hb dX10_law_84 rfl (lv_at hl 0 rfl) ?_
            exact z_iret hx hb hr hlk (by decide) (by decide) hw (⟨hsub, hfr, g55, hf_mm, hf_lw, hq_lw, hea⟩) dX10_law_85
          · skip
            refine z_if_ne (tgt := 70) hx hb (show (0 : Int32).toInt = 0 by decide) dX10_law_64 (by decide) (fun h => absurd h (by decide)) (fun _ => ?_)
            refine lv_bipush (v := (-2)) hx hb dX10_law_67 (by decide) ?_
            exact z_iret hx hb hr hlk (by decide) (by decide) hw (⟨hsub, hfr, glw, hf_mm, hf_lw, hq_lw, hea⟩) dX10_law_69
    · skip
      refine z_if_eq (tgt := 67) hx hb (show (0 : Int32).toInt = 0 by decide) dX10_law_21 (by decide) (fun _ => ?_) (fun h => absurd h (by decide))
      refine lv_bipush (v := (-2)) hx hb dX10_law_67 (by decide) ?_
      exact z_iret hx hb hr hlk (by decide) (by decide) hw (⟨hsub, hfr, glw, hf_mm, hf_lw, hq_lw, hea⟩) dX10_law_69
  · skip
    refine z_if_eq (tgt := 67) hx hb (show (0 : Int32).toInt = 0 by decide) dX10_law_9 (by decide) (fun _ => ?_) (fun h => absurd h (by decide))
    refine lv_bipush (v := (-2)) hx hb dX10_law_67 (by decide) ?_
    exact z_iret hx hb hr hlk (by decide) (by decide) hw (⟨hsub, hfr, glw, hf_mm, hf_lw, hq_lw, hea⟩) dX10_law_69

set_option maxHeartbeats 2000000 in
set_option maxRecDepth 100000 in
theorem c_X10_sets (l : Launch) {D : va_G} {cy : Nat → ClassId} {L : List Nat} {f : Nat → va_E} {sz : Nat} {adK adV : Nat → Nat} {mm wd my ce mv ta li ha lw st fo dr ik ro ct se th cn be du db pn wg wh tn he tr fd po : Nat} {m0 m6 m7 m8 m9 m10 m12 m13 m14 m15 m22 m24 m25 m27 m28 m30 m36 m38 m40 m41 m42 m48 m52 m53 : Int32} {m11 m26 : Int64} {gha gdr : Nat → Int32}  {kk ga ho : Int32} (hm_mm : mm ∈ L) (hm_ha : ha ∈ L) (hm_dr : dr ∈ L) (hf_mm : f mm = .inr (10, [.int m0, .ref wd, .ref my, .ref ce, .ref mv, .ref ta, .int m6, .int m7, .int m8, .int m9, .int m10, .long m11, .int m12, .int m13, .int m14, .int m15, .ref li, .ref ha, .ref lw, .ref st, .ref fo, .ref dr, .int m22, .ref ik, .int m24, .int m25, .long m26, .int m27, .int m28, .ref ro, .int m30, .ref ct, .ref se, .ref th, .ref cn, .ref be, .int m36, .ref du, .int m38, .ref db, .int m40, .int m41, .int m42, .ref pn, .ref wg, .ref wh, .ref tn, .ref he, .int m48, .ref tr, .ref fd, .ref po, .int m52, .int m53])) (hf_ha : f ha = .inl (cy 1, 30, .inl gha)) (hf_dr : f dr = .inl (cy 1, 520, .inl gdr)) (hq_ha : ∀ j : Nat, q_has j (gha j)) (hq_dr : ∀ j : Nat, q_drv j (gdr j)) : Met l yX10_sets (z_ws yX10_sets cX10_sets 5 (some .int)) (z_R 3 0 0) (va_Pc [.ref mm, .int kk, .int ga, .int ho] (z_Pre D vwCl (z_KK D cy adK adV) L f sz)) (z_Qi D vwCl (fun r u => L = u.1 ∧ (∀ b ∈ L, b ≠ mm → b ≠ dr → u.2 b = f b) ∧ (∃ (ndr : Nat → Int32), (u.2 mm = .inr (10, [.int 0, .ref wd, .ref my, .ref ce, .ref mv, .ref ta, .int m6, .int m7, .int m8, .int m9, .int m10, .long m11, .int m12, .int m13, .int m14, .int m15, .ref li, .ref ha, .ref lw, .ref st, .ref fo, .ref dr, .int m22, .ref ik, .int m24, .int m25, .long m26, .int m27, .int m28, .ref ro, .int m30, .ref ct, .ref se, .ref th, .ref cn, .ref be, .int m36, .ref du, .int m38, .ref db, .int m40, .int m41, .int m42, .ref pn, .ref wg, .ref wh, .ref tn, .ref he, .int m48, .ref tr, .ref fd, .ref po, .int m52, .int m53])) ∧ (u.2 dr = .inl (cy 1, 520, .inl ndr)) ∧ (∀ j : Nat, q_drv j (ndr j)) ∧ (True))) L sz) 0 0 (z_A L sz) := by
  refine z_met (cc := cX10_sets) (maxL := 5) (ret := (some .int)) (lv := [(0, .ref mm), (1, .int kk), (2, .int ga), (3, .int ho)]) (by decide) rfl (Nat.le_of_ble_eq_true rfl) rfl ?_
  intro p e s m below meth c ls hx hb hr hlk hml hown hnm hts hKK hA hw hl
  have hK := hKK.1.1
  have hown : s.vm.findClass RX10 = some m.cls := hown
  have hT : ∀ w ∈ lw_all, w.before ([.ref mm, .int kk, .int ga, .int ho] : List Value).toArray s = true := fun w h => hts w (z_cons w h)
  have hsub : L = L := rfl
  have hfr : ∀ b ∈ L, b ≠ mm → b ≠ dr → f b = f b := fun _ _ _ _ => rfl
  have hh0 := (hq_ha 0).1 rfl
  have hh3 := (hq_ha 3).2.2.2 rfl
  refine lv_aload_n hx hb dX10_sets_0 rfl (lv_at hl 0 rfl) ?_
  refine lv_iconst (v := 0) hx hb dX10_sets_1 (by decide) ?_
  refine z_put (C := RX10) (T := TX10) (N := 54) (ci := 10) (v := .int 0) (fs' := [.int 0, .ref wd, .ref my, .ref ce, .ref mv, .ref ta, .int m6, .int m7, .int m8, .int m9, .int m10, .long m11, .int m12, .int m13, .int m14, .int m15, .ref li, .ref ha, .ref lw, .ref st, .ref fo, .ref dr, .int m22, .ref ik, .int m24, .int m25, .long m26, .int m27, .int m28, .ref ro, .int m30, .ref ct, .ref se, .ref th, .ref cn, .ref be, .int m36, .ref du, .int m38, .ref db, .int m40, .int m41, .int m42, .ref pn, .ref wg, .ref wh, .ref tn, .ref he, .int m48, .ref tr, .ref fd, .ref po, .int m52, .int m53]) hx hb hT zin_X10 tyX10_ok nmX10 hown hK hw hm_mm hf_mm rfl 0 (by decide) (hT _ kw_1168) rfl rfl rfl (Nat.le_of_ble_eq_true rfl) rfl dX10_sets_2 (fun H locs hw => ?_)
  obtain ⟨f1, e_f1⟩ : ∃ z, z = va_up f mm (.inr (10, [.int 0, .ref wd, .ref my, .ref ce, .ref mv, .ref ta, .int m6, .int m7, .int m8, .int m9, .int m10, .long m11, .int m12, .int m13, .int m14, .int m15, .ref li, .ref ha, .ref lw, .ref st, .ref fo, .ref dr, .int m22, .ref ik, .int m24, .int m25, .long m26, .int m27, .int m28, .ref ro, .int m30, .ref ct, .ref se, .ref th, .ref cn, .ref be, .int m36, .ref du, .int m38, .ref db, .int m40, .int m41, .int m42, .ref pn, .ref wg, .ref wh, .ref tn, .ref he, .int m48, .ref tr, .ref fd, .ref po, .int m52, .int m53])) := ⟨_, rfl⟩
  rw [← e_f1] at hw
  have hf_ha : f1 ha = .inl (cy 1, 30, .inl gha) := (congrFun e_f1 ha).trans (z_up_ne (z_tne hf_ha hf_mm (m := 340) (n := 10) rfl rfl (by decide)) hf_ha)
  have hf_dr : f1 dr = .inl (cy 1, 520, .inl gdr) := (congrFun e_f1 dr).trans (z_up_ne (z_tne hf_dr hf_mm (m := 4260) (n := 10) rfl rfl (by decide)) hf_dr)
  have hf_mm : f1 mm = .inr (10, [.int 0, .ref wd, .ref my, .ref ce, .ref mv, .ref ta, .int m6, .int m7, .int m8, .int m9, .int m10, .long m11, .int m12, .int m13, .int m14, .int m15, .ref li, .ref ha, .ref lw, .ref st, .ref fo, .ref dr, .int m22, .ref ik, .int m24, .int m25, .long m26, .int m27, .int m28, .ref ro, .int m30, .ref ct, .ref se, .ref th, .ref cn, .ref be, .int m36, .ref du, .int m38, .ref db, .int m40, .int m41, .int m42, .ref pn, .ref wg, .ref wh, .ref tn, .ref he, .int m48, .ref tr, .ref fd, .ref po, .int m52, .int m53]) := (congrFun e_f1 mm).trans z_up_self
  have hfr : ∀ b ∈ L, b ≠ mm → b ≠ dr → f1 b = f b := fun b hb h0 h1 => (congrFun e_f1 b).trans (z_up_ne h0 (hfr b hb h0 h1))
  refine lv_aload_n hx hb dX10_sets_5 rfl (lv_at hl 0 rfl) ?_
  refine lv_iload_n hx hb dX10_sets_6 rfl (lv_at hl 1 rfl) ?_
  refine z_calliV (cells := 0) (slots := 0) (b := mm) (As := [.int kk]) (rest := []) (ci := 10) (q0 := (RX10, TX10, 54)) ⟨hx, hb, hml, hown, hT⟩ (c_X10_isDrive l hm_mm hm_ha hf_mm hf_ha hq_ha) (cwV 1 hT (z_goodV (fun _ h => h) kw_1482 kw_1484 kw_50 kw_96 kw_1485) rfl rfl rfl (by decide +kernel) ⟨by decide, by decide⟩) z_mv hKK hK hw hA hm_mm hf_mm rfl rfl rfl hl.1 rfl (Nat.le_of_ble_eq_true rfl) dX10_sets_7 ⟨by decide, by decide⟩ (fun r2 u H locs hp hw => ?_)
  obtain ⟨rfl, hp⟩ := hp
  have hw : z_H D vwCl (z_A L sz) s.heap L f1 H locs := hw
  rcases hp with ⟨rfl, h3⟩ | ⟨rfl, h3⟩
  · skip
    refine z_if_eq (tgt := 28) hx hb (show (1 : Int32).toInt = 1 by decide) dX10_sets_10 (by decide) (fun h => absurd h (by decide)) (fun _ => ?_)
    refine lv_aload_n hx hb dX10_sets_13 rfl (lv_at hl 0 rfl) ?_
    refine lv_iload_n hx hb dX10_sets_14 rfl (lv_at hl 2 rfl) ?_
    refine z_calliV (cells := 0) (slots := 0) (b := mm) (As := [.int ga]) (rest := []) (ci := 10) (q0 := (RX10, TX10, 54)) ⟨hx, hb, hml, hown, hT⟩ (c_X10_isGap l hm_mm hm_ha hf_mm hf_ha hq_ha) (cwV 1 hT (z_goodV (fun _ h => h) kw_1519 kw_1521 kw_55 kw_96 kw_1522) rfl rfl rfl (by decide +kernel) ⟨by decide, by decide⟩) z_mv hKK hK hw hA hm_mm hf_mm rfl rfl rfl hl.1 rfl (Nat.le_of_ble_eq_true rfl) dX10_sets_15 ⟨by decide, by decide⟩ (fun r4 u H locs hp hw => ?_)
    obtain ⟨rfl, hp⟩ := hp
    have hw : z_H D vwCl (z_A L sz) s.heap L f1 H locs := hw
    rcases hp with ⟨rfl, h5⟩ | ⟨rfl, h5⟩
    · skip
      refine z_if_eq (tgt := 28) hx hb (show (1 : Int32).toInt = 1 by decide) dX10_sets_18 (by decide) (fun h => absurd h (by decide)) (fun _ => ?_)
      refine lv_iload_n hx hb dX10_sets_21 rfl (lv_at hl 3 rfl) ?_
      refine z_calliS (cells := 0) (slots := 0) (As := [.int ho]) (rest := []) ⟨hx, hb, hml, hown, hT⟩ (c_X10_isHour l ) (va_cwS 1 hT (z_goodS (fun _ h => h) kw_1523 kw_1524 kw_96 kw_1525) rfl rfl rfl (by decide +kernel) ⟨by decide, by decide⟩) z_mv hKK hw hA rfl hl.1 rfl (Nat.le_of_ble_eq_true rfl) dX10_sets_22 ⟨by decide, by decide⟩ (fun r6 u H locs hp hw => ?_)
      obtain ⟨rfl, hp⟩ := hp
      have hw : z_H D vwCl (z_A L sz) s.heap L f1 H locs := hw
      rcases hp with ⟨rfl, h7⟩ | ⟨rfl, h7⟩
      · skip
        refine z_if_ne (tgt := 31) hx hb (show (1 : Int32).toInt = 1 by decide) dX10_sets_25 (by decide) (fun _ => ?_) (fun h => absurd h (by decide))
        refine lv_bipush (v := 100) hx hb dX10_sets_31 (by decide) ?_
        refine lv_aload_n hx hb dX10_sets_33 rfl (lv_at hl 0 rfl) ?_
        refine lv_iload_n hx hb dX10_sets_34 rfl (lv_at hl 1 rfl) ?_
        refine lv_iconst (v := 1) hx hb dX10_sets_35 (by decide) ?_
        have hz8 := (show (1 : Int32).toInt = 1 by decide)
        refine z_calliV (cells := 0) (slots := 0) (b := mm) (As := [.int kk, .int 1]) (rest := [.int 100]) (ci := 10) (q0 := (RX10, TX10, 54)) ⟨hx, hb, hml, hown, hT⟩ (c_X10_of l hm_mm hm_dr hf_mm hf_dr hq_dr (by first | omega | decide | assumption) (by decide)) (cwV 2 hT (z_goodV (fun _ h => h) kw_1487 kw_1489 kw_51 kw_96 kw_1490) rfl rfl rfl (by decide +kernel) ⟨by decide, by decide⟩) z_mv hKK hK hw hA hm_mm hf_mm rfl rfl rfl hl.1 rfl (Nat.le_of_ble_eq_true rfl) dX10_sets_36 ⟨by decide, by decide⟩ (fun r9 u H locs hp hw => ?_)
        obtain ⟨rfl, hp⟩ := hp
        have hw : z_H D vwCl (z_A L sz) s.heap L f1 H locs := hw
        have hof_r9 : r9 = gdr (8 * kk.toNatClampNeg + 1) := hp
        have hh_r9 : 0 ≤ r9.toInt ∧ r9.toInt ≤ 3 := by rw [hof_r9]; exact (hq_dr _).2.1 (by omega)
        refine lv_imul hx hb dX10_sets_39 ?_
        refine lv_topi (fun w10 e_w10 => ?_)
        have i_w10 : w10.toInt = (100 * r9.toInt) := z_mul e_w10 (show (100 : Int32).toInt = 100 by decide) rfl (by omega)
        refine lv_aload_n hx hb dX10_sets_40 rfl (lv_at hl 0 rfl) ?_
        refine lv_iload_n hx hb dX10_sets_41 rfl (lv_at hl 1 rfl) ?_
        refine lv_iconst (v := 3) hx hb dX10_sets_42 (by decide) ?_
        have hz11 := (show (3 : Int32).toInt = 3 by decide)
        refine z_calliV (cells := 0) (slots := 0) (b := mm) (As := [.int kk, .int 3]) (rest := [.int w10]) (ci := 10) (q0 := (RX10, TX10, 54)) ⟨hx, hb, hml, hown, hT⟩ (c_X10_of l hm_mm hm_dr hf_mm hf_dr hq_dr (by first | omega | decide | assumption) (by decide)) (cwV 2 hT (z_goodV (fun _ h => h) kw_1487 kw_1489 kw_51 kw_96 kw_1490) rfl rfl rfl (by decide +kernel) ⟨by decide, by decide⟩) z_mv hKK hK hw hA hm_mm hf_mm rfl rfl rfl hl.1 rfl (Nat.le_of_ble_eq_true rfl) dX10_sets_43 ⟨by decide, by decide⟩ (fun r12 u H locs hp hw => ?_)
        obtain ⟨rfl, hp⟩ := hp
        have hw : z_H D vwCl (z_A L sz) s.heap L f1 H locs := hw
        have hof_r12 : r12 = gdr (8 * kk.toNatClampNeg + 3) := hp
        have hh_r12 : 0 ≤ r12.toInt ∧ r12.toInt ≤ 23 := by rw [hof_r12]; exact (hq_dr _).2.2.2.1 (by omega)
        refine lv_iadd hx hb dX10_sets_46 ?_
        refine lv_topi (fun w13 e_w13 => ?_)
        have i_w13 : w13.toInt = ((100 * r9.toInt) + r12.toInt) := z_add e_w13 i_w10 rfl (by omega)
        refine lv_istore (lv' := [(4, .int w13), (0, .ref mm), (1, .int kk), (2, .int ga), (3, .int ho)]) hx hb dX10_sets_47 hl (by decide) rfl (fun ls hl => ?_)
        refine lv_aload_n hx hb dX10_sets_49 rfl (lv_at hl 1 rfl) ?_
        refine lv_iload_n hx hb dX10_sets_50 rfl (lv_at hl 2 rfl) ?_
        refine lv_iload_n hx hb dX10_sets_51 rfl (lv_at hl 3 rfl) ?_
        refine lv_iload_n hx hb dX10_sets_52 rfl (lv_at hl 4 rfl) ?_
        refine z_callvV (cells := 0) (slots := 0) (b := mm) (As := [.int kk, .int ga, .int ho]) (rest := []) (ci := 10) (q0 := (RX10, TX10, 54)) ⟨hx, hb, hml, hown, hT⟩ (c_X10_goesTo l hm_mm hm_dr hf_mm hf_dr hq_dr (by first | omega | decide | assumption) (by first | omega | decide | assumption) (by first | omega | decide | assumption)) (cwV 3 hT (z_goodV (fun _ h => h) kw_1527 kw_1529 kw_56 kw_96 kw_1530) rfl rfl rfl (by decide +kernel) ⟨by decide, by decide⟩) z_mv hKK hK hw hA hm_mm hf_mm rfl rfl rfl hl.1 rfl (Nat.le_of_ble_eq_true rfl) dX10_sets_53 ⟨by decide, by decide⟩ (fun u H locs hp hw => ?_)
        obtain ⟨L14, f15⟩ := u
        obtain ⟨hsb, hfm, ndr_16, ha_0, hq_dr, hp⟩ := hp
        have hsb : L = L14 := hsb
        subst hsb
        have hsb : ∀ b ∈ L, b ∈ L := fun _ h => h
        have hw : z_H D vwCl (z_A L sz) s.heap L f15 H locs := hw
        have hfr : ∀ b ∈ L, b ≠ mm → b ≠ dr → f15 b = f b := fun b hb h0 h1 => (hfm b hb h1).trans (hfr b hb h0 h1)
        have hf_mm : f15 mm = .inr (10, [.int 0, .ref wd, .ref my, .ref ce, .ref mv, .ref ta, .int m6, .int m7, .int m8, .int m9, .int m10, .long m11, .int m12, .int m13, .int m14, .int m15, .ref li, .ref ha, .ref lw, .ref st, .ref fo, .ref dr, .int m22, .ref ik, .int m24, .int m25, .long m26, .int m27, .int m28, .ref ro, .int m30, .ref ct, .ref se, .ref th, .ref cn, .ref be, .int m36, .ref du, .int m38, .ref db, .int m40, .int m41, .int m42, .ref pn, .ref wg, .ref wh, .ref tn, .ref he, .int m48, .ref tr, .ref fd, .ref po, .int m52, .int m53]) := (hfm mm hm_mm (z_tne hf_mm hf_dr (m := 10) (n := 4260) rfl rfl (by decide))).trans hf_mm
        have hf_ha : f15 ha = .inl (cy 1, 30, .inl gha) := (hfm ha hm_ha (z_tne hf_ha hf_dr (m := 340) (n := 4260) rfl rfl (by decide))).trans hf_ha
        have hf_dr : f15 dr = .inl (cy 1, 520, .inl ndr_16) := ha_0
        refine lv_iload hx hb dX10_sets_56 (lv_at hl 0 rfl) ?_
        exact z_iret hx hb hr hlk (by decide) (by decide) hw (⟨hsub, hfr, ndr_16, hf_mm, hf_dr, hq_dr, trivial⟩) dX10_sets_58
      · skip
        refine z_if_ne (tgt := 31) hx hb (show (0 : Int32).toInt = 0 by decide) dX10_sets_25 (by decide) (fun h => absurd h (by decide)) (fun _ => ?_)
        refine lv_bipush (v := (-2)) hx hb dX10_sets_28 (by decide) ?_
        exact z_iret hx hb hr hlk (by decide) (by decide) hw (⟨hsub, hfr, gdr, hf_mm, hf_dr, hq_dr, trivial⟩) dX10_sets_30
    · skip
      refine z_if_eq (tgt := 28) hx hb (show (0 : Int32).toInt = 0 by decide) dX10_sets_18 (by decide) (fun _ => ?_) (fun h => absurd h (by decide))
      refine lv_bipush (v := (-2)) hx hb dX10_sets_28 (by decide) ?_
      exact z_iret hx hb hr hlk (by decide) (by decide) hw (⟨hsub, hfr, gdr, hf_mm, hf_dr, hq_dr, trivial⟩) dX10_sets_30
  · skip
    refine z_if_eq (tgt := 28) hx hb (show (0 : Int32).toInt = 0 by decide) dX10_sets_10 (by decide) (fun _ => ?_) (fun h => absurd h (by decide))
    refine lv_bipush (v := (-2)) hx hb dX10_sets_28 (by decide) ?_
    exact z_iret hx hb hr hlk (by decide) (by decide) hw (⟨hsub, hfr, gdr, hf_mm, hf_dr, hq_dr, trivial⟩) dX10_sets_30
