set_option maxHeartbeats 40000000 in
set_option maxRecDepth 100000 in
theorem whole_start {p : Program} {e : Env} {s : State} {m : MethodId} {below : List Frame} {meth : Method} {c : Code} (l : Launch) {b L : Nat} {xs : Nat → Int32} (hL : L ≤ 3072) (C0 : lw_At p s m meth c b L xs) : W p l e room_1 s m #[Value.ref b] below meth c s.heap [] 0 0 (lw_Z below #[Value.ref b] s) (entryFrame m ([Value.ref b] : List Value).toArray 4) := by
  have C1 := C0
  obtain ⟨hx, hb, hr, hml, hown, hts, hX, hbl, hlocks, hgv⟩ := C0
  have hA : ∀ q : Nat, s.heap.size ≤ q → (fun q : Nat => s.heap.size ≤ q) q := fun _ h => h
  have hbA : ¬ (fun q : Nat => s.heap.size ≤ q) b := Nat.not_le.mpr hbl
  have hT : ∀ w ∈ lw_all, w.before #[Value.ref b] s = true := fun w h => hts w (z_all_in w h)
  have hown : s.vm.findClass RL = some m.cls := hown
  obtain ⟨D, cy, adK, adV, hKK⟩ := z_start2 hts hgv (A := (fun q : Nat => s.heap.size ≤ q)) (fun a h => Nat.not_le.mpr h)
  have hK := hKK.1.1
  obtain ⟨L0, eL0⟩ : ∃ z : List Nat, z = [] := ⟨_, rfl⟩
  obtain ⟨f0, ef0⟩ : ∃ z : Nat → va_E, z = fun _ => .inr (0, []) := ⟨_, rfl⟩
  have hw : z_H D vwCl (fun q : Nat => s.heap.size ≤ q) s.heap L0 f0 s.heap [] := ⟨by rw [eL0]; exact z_P_iff.mpr (fun a h => by cases h), by rw [eL0]; exact z_D_iff.mpr ⟨List.Pairwise.nil, fun a h => by cases h⟩, va_S.rf⟩
  have hl := lv_entry ([.ref b]) (n := 4) (Nat.le_of_ble_eq_true rfl)
  rw [lg_entry_eq]
  generalize (lg_sl ([.ref b]) ++ List.replicate (4 - (lg_sl ([.ref b])).length) Slot.unset).toArray = ls at hl ⊢
  have hl : lv_has ls 4 [(0, .ref b)] := hl
  refine z_new (C := RX9) (T := TX9) (N := 11) (ci := 9) (fs := [.null, .null, .null, .null, .null, .null, .null, .null, .null, .null, .null]) (cells := 0) (slots := 0) hx hb hT zin_X9 tyX9_ok hown (hT _ kw_103) (hT _ kw_104) (hT _ kw_85) hK hw hA rfl (fun j hj => by rcases (show j = 0 ∨ j = 1 ∨ j = 2 ∨ j = 3 ∨ j = 4 ∨ j = 5 ∨ j = 6 ∨ j = 7 ∨ j = 8 ∨ j = 9 ∨ j = 10 by omega) with rfl | rfl | rfl | rfl | rfl | rfl | rfl | rfl | rfl | rfl | rfl <;> rfl) (by decide) (by decide) dL_law_0 (fun hs H hq_hs hw => ?_)
  refine W.widen (k := 1) (n := 11) (by decide) (by decide) ?_
  obtain ⟨f2, e_f2⟩ : ∃ z, z = va_up f0 hs (.inr (9, [.null, .null, .null, .null, .null, .null, .null, .null, .null, .null, .null])) := ⟨_, rfl⟩
  obtain ⟨L1, e_L1⟩ : ∃ z, z = L0 ++ [hs] := ⟨_, rfl⟩
  rw [← e_f2, ← e_L1] at hw
  have hm_hs : hs ∈ L1 := by rw [e_L1]; exact List.mem_append_right _ (List.mem_singleton.mpr rfl)
  have hf_hs : f2 hs = .inr (9, [.null, .null, .null, .null, .null, .null, .null, .null, .null, .null, .null]) := (congrFun e_f2 hs).trans z_up_self
  refine lv_dup hx hb dL_law_3 rfl ?_
  refine z_callvI (cells := 1) (slots := 11) (b := hs) (As := []) (rest := [.ref hs]) ⟨hx, hb, hml, hown, hT⟩ (c_X9_init l hm_hs hf_hs) (cwI 0 hT (z_goodI (fun _ h => h) kw_107) rfl rfl rfl (hT _ kw_85) (hT _ kw_105) (hT _ kw_106) rfl (by decide +kernel) ⟨by decide, by decide⟩) z_mv hKK hw hA rfl hl.1 rfl (Nat.le_of_ble_eq_true rfl) dL_law_4 ⟨by decide, by decide⟩ (fun u H locs hp hw => ?_)
  refine W.widen (k := 135) (n := 5593) (by decide) (by decide) ?_
  obtain ⟨L3, f4⟩ := u
  obtain ⟨hsb, hfm, ad, gkp, gw, gz, hp⟩ := hp
  have hw : z_H D vwCl ((fun q : Nat => s.heap.size ≤ q)) s.heap L3 f4 H locs := hw
  have hm_hs : hs ∈ L3 := hsb _ hm_hs
  have hxo := hp.1
  have hadn := hp.2.1
  have hSX : z_SX L3 f4 cy ad gkp gw gz := hp.2.2.1
  have hkp0 := hp.2.2.2.1
  have hgz0 := hp.2.2.2.2
  refine lv_astore_n (lv' := [(1, .ref hs), (0, .ref b)]) hx hb dL_law_7 rfl hl (by decide) rfl (fun ls hl => ?_)
  refine z_new (C := RX10) (T := TX10) (N := 54) (ci := 10) (fs := [.int 0, .null, .null, .null, .null, .null, .int 0, .int 0, .int 0, .int 0, .int 0, .long 0, .int 0, .int 0, .int 0, .int 0, .null, .null, .null, .null, .null, .null, .int 0, .null, .int 0, .int 0, .long 0, .int 0, .int 0, .null, .int 0, .null, .null, .null, .null, .null, .int 0, .null, .int 0, .null, .int 0, .int 0, .int 0, .null, .null, .null, .null, .null, .int 0, .null, .null, .null, .int 0, .int 0]) (cells := 135) (slots := 5593) hx hb hT zin_X10 tyX10_ok hown (hT _ kw_1162) (hT _ kw_1163) (hT _ kw_96) hK hw hA rfl (fun j hj => by rcases (show j = 0 ∨ j = 1 ∨ j = 2 ∨ j = 3 ∨ j = 4 ∨ j = 5 ∨ j = 6 ∨ j = 7 ∨ j = 8 ∨ j = 9 ∨ j = 10 ∨ j = 11 ∨ j = 12 ∨ j = 13 ∨ j = 14 ∨ j = 15 ∨ j = 16 ∨ j = 17 ∨ j = 18 ∨ j = 19 ∨ j = 20 ∨ j = 21 ∨ j = 22 ∨ j = 23 ∨ j = 24 ∨ j = 25 ∨ j = 26 ∨ j = 27 ∨ j = 28 ∨ j = 29 ∨ j = 30 ∨ j = 31 ∨ j = 32 ∨ j = 33 ∨ j = 34 ∨ j = 35 ∨ j = 36 ∨ j = 37 ∨ j = 38 ∨ j = 39 ∨ j = 40 ∨ j = 41 ∨ j = 42 ∨ j = 43 ∨ j = 44 ∨ j = 45 ∨ j = 46 ∨ j = 47 ∨ j = 48 ∨ j = 49 ∨ j = 50 ∨ j = 51 ∨ j = 52 ∨ j = 53 by omega) with rfl | rfl | rfl | rfl | rfl | rfl | rfl | rfl | rfl | rfl | rfl | rfl | rfl | rfl | rfl | rfl | rfl | rfl | rfl | rfl | rfl | rfl | rfl | rfl | rfl | rfl | rfl | rfl | rfl | rfl | rfl | rfl | rfl | rfl | rfl | rfl | rfl | rfl | rfl | rfl | rfl | rfl | rfl | rfl | rfl | rfl | rfl | rfl | rfl | rfl | rfl | rfl | rfl | rfl <;> rfl) (by decide) (by decide) dL_law_8 (fun me H hq_me hw => ?_)
  refine W.widen (k := 136) (n := 5647) (by decide) (by decide) ?_
  obtain ⟨f6, e_f6⟩ : ∃ z, z = va_up f4 me (.inr (10, [.int 0, .null, .null, .null, .null, .null, .int 0, .int 0, .int 0, .int 0, .int 0, .long 0, .int 0, .int 0, .int 0, .int 0, .null, .null, .null, .null, .null, .null, .int 0, .null, .int 0, .int 0, .long 0, .int 0, .int 0, .null, .int 0, .null, .null, .null, .null, .null, .int 0, .null, .int 0, .null, .int 0, .int 0, .int 0, .null, .null, .null, .null, .null, .int 0, .null, .null, .null, .int 0, .int 0])) := ⟨_, rfl⟩
  obtain ⟨L5, e_L5⟩ : ∃ z, z = L3 ++ [me] := ⟨_, rfl⟩
  rw [← e_f6, ← e_L5] at hw
  have hm_me : me ∈ L5 := by rw [e_L5]; exact List.mem_append_right _ (List.mem_singleton.mpr rfl)
  have hf_me : f6 me = .inr (10, [.int 0, .null, .null, .null, .null, .null, .int 0, .int 0, .int 0, .int 0, .int 0, .long 0, .int 0, .int 0, .int 0, .int 0, .null, .null, .null, .null, .null, .null, .int 0, .null, .int 0, .int 0, .long 0, .int 0, .int 0, .null, .int 0, .null, .null, .null, .null, .null, .int 0, .null, .int 0, .null, .int 0, .int 0, .int 0, .null, .null, .null, .null, .null, .int 0, .null, .null, .null, .int 0, .int 0]) := (congrFun e_f6 me).trans z_up_self
  have hne_me : ∀ i : Nat, i < 135 → ad i ≠ me := fun i hi => z_ne (z_SX_mem hSX hi) hq_me
  have hold : ∀ i : Nat, i < 135 → ad i ∈ L5 := fun i hi => by rw [e_L5]; exact List.mem_append_left _ (z_SX_mem hSX hi)
  have hSX : z_SX L5 f6 cy ad gkp gw gz := z_SX_frL hSX (fun b h => by rw [e_L5]; exact List.mem_append_left _ h) (fun i hi => (congrFun e_f6 _).trans (va_up_ne _ _ (hne_me i hi)))
  refine lv_dup hx hb dL_law_11 rfl ?_
  refine z_callvI (cells := 136) (slots := 5647) (b := me) (As := []) (rest := [.ref me]) ⟨hx, hb, hml, hown, hT⟩ (c_X10_init l hm_me hf_me) (cwI 0 hT (z_goodI (fun _ h => h) kw_1166) rfl rfl rfl (hT _ kw_96) (hT _ kw_1164) (hT _ kw_1165) rfl (by decide +kernel) ⟨by decide, by decide⟩) z_mv hKK hw hA rfl hl.1 rfl (Nat.le_of_ble_eq_true rfl) dL_law_12 ⟨by decide, by decide⟩ (fun u H locs hp hw => ?_)
  refine W.widen (k := 164) (n := 16321) (by decide) (by decide) ?_
  obtain ⟨L7, f8⟩ := u
  obtain ⟨hsb, hfm, bd, gik, gwd, gmy, hp⟩ := hp
  have hw : z_H D vwCl ((fun q : Nat => s.heap.size ≤ q)) s.heap L7 f8 H locs := hw
  have hm_me : me ∈ L7 := hsb _ hm_me
  have hme := hp.1
  have hbdn := hp.2.1
  have hSM : z_SM L7 f8 cy bd gik gwd gmy := hp.2.2.1
  have hik0 := hp.2.2.2.1
  have hwd0 := hp.2.2.2.2
  have hSX : z_SX L7 f8 cy ad gkp gw gz := z_SX_frL hSX hsb (fun i hi => hfm _ (z_SX_mem hSX hi) (hne_me i hi))
  have hdis : ∀ i j : Nat, i < 135 → j < 29 → ad i ≠ bd j := fun i j hi hj => if h : j = 0 then by rw [h, hme]; exact hne_me i hi else z_ne (hold i hi) (hbdn j hj h)
  have hrel : z_rel gkp gw gz gik gwd gmy := ⟨fun k hk => by rw [hkp0 k hk, hik0 k hk], fun k hk => Or.inl ⟨hgz0 k hk, hwd0 k hk⟩⟩
  refine lv_astore_n (lv' := [(2, .ref me), (1, .ref hs), (0, .ref b)]) hx hb dL_law_15 rfl hl (by decide) rfl (fun ls hl => ?_)
  refine lv_iconst (v := 0) hx hb dL_law_16 (by decide) ?_
  refine lv_istore_n (lv' := [(3, .int 0), (2, .ref me), (1, .ref hs), (0, .ref b)]) hx hb dL_law_17 rfl hl (by decide) rfl (fun ls hl => ?_)
  have hzk : (0 : Int32).toInt = 0 := by decide
  refine z_loop (fun n H locs ls => ∃ (K : Int32) (F : Nat → va_E) (gkp gw gz gik gwd gmy : Nat → Int32), n = ((L : Int) - K.toInt).toNat ∧ 0 ≤ K.toInt ∧ K.toInt ≤ L ∧ z_SX L7 F cy ad gkp gw gz ∧ z_SM L7 F cy bd gik gwd gmy ∧ z_rel gkp gw gz gik gwd gmy ∧ z_H D vwCl (fun q : Nat => s.heap.size ≤ q) s.heap L7 F H locs ∧ lv_has ls 4 [(3, .int K), (2, .ref me), (1, .ref hs), (0, .ref b)]) _ ⟨0, f8, _, _, _, _, _, _, rfl, by decide, by omega, hSX, hSM, hrel, hw, hl⟩ (fun n H locs ls hI ih => ?_)
  clear hSX hSM hrel hw hl
  obtain ⟨K, F, gkp, gw, gz, gik, gwd, gmy, hn, hk0, hk1, hSX, hSM, hrel, hw, hl⟩ := hI
  refine lv_iload_n hx hb dL_law_18 rfl (lv_at hl 0 rfl) ?_
  refine lv_aload_n hx hb dL_law_19 rfl (lv_at hl 3 rfl) ?_
  refine va_slen hx hb hX hbl hbA hw.2.2 dL_law_20 ?_
  refine lv_topi (fun ln e_ln => ?_)
  have i_ln : ln.toInt = (L : Int) := by rw [e_ln]; exact nI_toInt (by omega)
  refine lv_bipush (v := 6) hx hb dL_law_21 (by decide) ?_
  refine lv_isub hx hb dL_law_23 ?_
  refine lv_topi (fun w9 e_w9 => ?_)
  have i_w9 : w9.toInt = ((L : Int) - 6) := z_subI e_w9 i_ln (show (6 : Int32).toInt = 6 by decide) (by omega)
  refine z_icmp_gt (tgt := 1621) hx hb rfl i_w9 dL_law_24 (by decide) (fun c10 => ?_) (fun c10 => ?_)
  · skip
    refine lv_iconst (v := 1) hx hb dL_law_1621 (by decide) ?_
    refine va_forget (fun q hq => hw.2.2.2.2 q hq) ?_
    refine W.widen (k := 600000) (n := 7302250) (by decide) (by decide) ?_
    exact lw_ret hx hb hr hlocks dL_law_1622
  · skip
    have kkl : ∀ (F2 : Nat → va_E) (H2 : Heap) (locs2 : List Loc) (a1 a2 a3 a4 a5 a6 : Nat → Int32), z_SX L7 F2 cy ad a1 a2 a3 → z_SM L7 F2 cy bd a4 a5 a6 → z_rel a1 a2 a3 a4 a5 a6 → z_H D vwCl (fun q : Nat => s.heap.size ≤ q) s.heap L7 F2 H2 locs2 → W p l e room_1 s m #[Value.ref b] below meth c H2 locs2 164 16321 (lw_Z below #[Value.ref b] s) (F0 m 1615 ls []) := by
      intro F2 H2 locs2 a1 a2 a3 a4 a5 a6 h1 h2 h3 hw
      obtain ⟨k11, e_k11⟩ : ∃ z : Int32, z = K + 6 := ⟨_, rfl⟩
      refine lv_iinc (v := k11) (lv' := [(3, .int k11), (2, .ref me), (1, .ref hs), (0, .ref b)]) hx hb dL_law_1615 hl (k := 0) rfl (by rw [e_k11]; rfl) (by decide) rfl (fun ls hl => ?_)
      have i_k11 : k11.toInt = (K.toInt + 6) := z_add e_k11 rfl (by decide) (by omega)
      refine lv_goto (tgt := 18) hx hb dL_law_1618 (by decide) ?_
      exact ih _ (by omega) _ _ _ ⟨k11, F2, a1, a2, a3, a4, a5, a6, rfl, by omega, by omega, h1, h2, h3, hw, hl⟩
    refine lv_aload_n hx hb dL_law_27 rfl (lv_at hl 3 rfl) ?_
    refine lv_iload_n hx hb dL_law_28 rfl (lv_at hl 0 rfl) ?_
    refine va_sld hx hb hX hbl hbA hw.2.2 (z_ix rfl (by omega)) dL_law_29 ?_
    refine lv_topi (fun w12 e_w12 => ?_)
    refine lv_bipush (v := 63) hx hb dL_law_30 (by decide) ?_
    refine lv_iand hx hb dL_law_32 ?_
    refine lv_topi (fun w13 e_w13 => ?_)
    by_cases ct : w13.toInt < 0 ∨ 40 < w13.toInt
    · refine lv_tableOut (tgt := 1615) hx hb dL_law_33 ct (by decide) ?_
      exact kkl _ _ _ _ _ _ _ _ _ hSX hSM hrel hw
    have cs : w13.toInt = 0 ∨ w13.toInt = 1 ∨ w13.toInt = 2 ∨ w13.toInt = 3 ∨ w13.toInt = 4 ∨ w13.toInt = 5 ∨ w13.toInt = 6 ∨ w13.toInt = 7 ∨ w13.toInt = 8 ∨ w13.toInt = 9 ∨ w13.toInt = 10 ∨ w13.toInt = 11 ∨ w13.toInt = 12 ∨ w13.toInt = 13 ∨ w13.toInt = 14 ∨ w13.toInt = 15 ∨ w13.toInt = 16 ∨ w13.toInt = 17 ∨ w13.toInt = 18 ∨ w13.toInt = 19 ∨ w13.toInt = 20 ∨ w13.toInt = 21 ∨ w13.toInt = 22 ∨ w13.toInt = 23 ∨ w13.toInt = 24 ∨ w13.toInt = 25 ∨ w13.toInt = 26 ∨ w13.toInt = 27 ∨ w13.toInt = 28 ∨ w13.toInt = 29 ∨ w13.toInt = 30 ∨ w13.toInt = 31 ∨ w13.toInt = 32 ∨ w13.toInt = 33 ∨ w13.toInt = 34 ∨ w13.toInt = 35 ∨ w13.toInt = 36 ∨ w13.toInt = 37 ∨ w13.toInt = 38 ∨ w13.toInt = 39 ∨ w13.toInt = 40 := by omega
    rcases cs with cj | cj | cj | cj | cj | cj | cj | cj | cj | cj | cj | cj | cj | cj | cj | cj | cj | cj | cj | cj | cj | cj | cj | cj | cj | cj | cj | cj | cj | cj | cj | cj | cj | cj | cj | cj | cj | cj | cj | cj | cj
    · refine lv_tableIn (off := 179) (tgt := 212) hx hb dL_law_33 (by omega) (by omega) (by rw [show w13.toInt = 0 from cj]; rfl) (by decide) ?_
      exact lc_feed l C1 hKK hxo hme hSX hSM hdis hrel hw hl (by omega) hL kkl
    · refine lv_tableIn (off := 242) (tgt := 275) hx hb dL_law_33 (by omega) (by omega) (by rw [show w13.toInt = 1 from cj]; rfl) (by decide) ?_
      exact lc_end l C1 hKK hxo hme hSX hSM hdis hrel hw hl (by omega) hL kkl
    · refine lv_tableIn (off := 265) (tgt := 298) hx hb dL_law_33 (by omega) (by omega) (by rw [show w13.toInt = 2 from cj]; rfl) (by decide) ?_
      exact lc_moor l C1 hKK hxo hme hSX hSM hdis hrel hw hl (by omega) hL kkl
    · refine lv_tableIn (off := 278) (tgt := 311) hx hb dL_law_33 (by omega) (by omega) (by rw [show w13.toInt = 3 from cj]; rfl) (by decide) ?_
      exact lc_fault l C1 hKK hxo hme hSX hSM hdis hrel hw hl (by omega) hL kkl
    · refine lv_tableIn (off := 301) (tgt := 334) hx hb dL_law_33 (by omega) (by omega) (by rw [show w13.toInt = 4 from cj]; rfl) (by decide) ?_
      exact lc_drive l C1 hKK hxo hme hSX hSM hdis hrel hw hl (by omega) hL kkl
    · refine lv_tableIn (off := 334) (tgt := 367) hx hb dL_law_33 (by omega) (by omega) (by rw [show w13.toInt = 5 from cj]; rfl) (by decide) ?_
      exact lc_goes l C1 hKK hxo hme hSX hSM hdis hrel hw hl (by omega) hL kkl
    · refine lv_tableIn (off := 357) (tgt := 390) hx hb dL_law_33 (by omega) (by omega) (by rw [show w13.toInt = 6 from cj]; rfl) (by decide) ?_
      exact lc_law l C1 hKK hxo hme hSX hSM hdis hrel hw hl (by omega) hL kkl
    · refine lv_tableIn (off := 390) (tgt := 423) hx hb dL_law_33 (by omega) (by omega) (by rw [show w13.toInt = 7 from cj]; rfl) (by decide) ?_
      exact lc_sets l C1 hKK hxo hme hSX hSM hdis hrel hw hl (by omega) hL kkl
    · refine lv_tableIn (off := 433) (tgt := 466) hx hb dL_law_33 (by omega) (by omega) (by rw [show w13.toInt = 8 from cj]; rfl) (by decide) ?_
      exact lc_counter l C1 hKK hxo hme hSX hSM hdis hrel hw hl (by omega) hL kkl
    · refine lv_tableIn (off := 476) (tgt := 509) hx hb dL_law_33 (by omega) (by omega) (by rw [show w13.toInt = 9 from cj]; rfl) (by decide) ?_
      exact lc_through l C1 hKK hxo hme hSX hSM hdis hrel hw hl (by omega) hL kkl
    · refine lv_tableIn (off := 519) (tgt := 552) hx hb dL_law_33 (by omega) (by omega) (by rw [show w13.toInt = 10 from cj]; rfl) (by decide) ?_
      exact lc_dues l C1 hKK hxo hme hSX hSM hdis hrel hw hl (by omega) hL kkl
    · refine lv_tableIn (off := 532) (tgt := 565) hx hb dL_law_33 (by omega) (by omega) (by rw [show w13.toInt = 11 from cj]; rfl) (by decide) ?_
      exact lc_due l C1 hKK hxo hme hSX hSM hdis hrel hw hl (by omega) hL kkl
    · refine lv_tableIn (off := 565) (tgt := 598) hx hb dL_law_33 (by omega) (by omega) (by rw [show w13.toInt = 12 from cj]; rfl) (by decide) ?_
      exact lc_paid l C1 hKK hxo hme hSX hSM hdis hrel hw hl (by omega) hL kkl
    · refine lv_tableIn (off := 588) (tgt := 621) hx hb dL_law_33 (by omega) (by omega) (by rw [show w13.toInt = 13 from cj]; rfl) (by decide) ?_
      exact lc_pays l C1 hKK hxo hme hSX hSM hdis hrel hw hl (by omega) hL kkl
    · refine lv_tableIn (off := 621) (tgt := 654) hx hb dL_law_33 (by omega) (by omega) (by rw [show w13.toInt = 14 from cj]; rfl) (by decide) ?_
      exact lc_worst l C1 hKK hxo hme hSX hSM hdis hrel hw hl (by omega) hL kkl
    · refine lv_tableIn (off := 634) (tgt := 667) hx hb dL_law_33 (by omega) (by omega) (by rw [show w13.toInt = 15 from cj]; rfl) (by decide) ?_
      exact lc_left l C1 hKK hxo hme hSX hSM hdis hrel hw hl (by omega) hL kkl
    · refine lv_tableIn (off := 657) (tgt := 690) hx hb dL_law_33 (by omega) (by omega) (by rw [show w13.toInt = 16 from cj]; rfl) (by decide) ?_
      exact lc_best l C1 hKK hxo hme hSX hSM hdis hrel hw hl (by omega) hL kkl
    · refine lv_tableIn (off := 690) (tgt := 723) hx hb dL_law_33 (by omega) (by omega) (by rw [show w13.toInt = 17 from cj]; rfl) (by decide) ?_
      exact lc_split l C1 hKK hxo hme hSX hSM hdis hrel hw hl (by omega) hL kkl
    · refine lv_tableIn (off := 723) (tgt := 756) hx hb dL_law_33 (by omega) (by omega) (by rw [show w13.toInt = 18 from cj]; rfl) (by decide) ?_
      exact lc_rest l C1 hKK hxo hme hSX hSM hdis hrel hw hl (by omega) hL kkl
    · refine lv_tableIn (off := 736) (tgt := 769) hx hb dL_law_33 (by omega) (by omega) (by rw [show w13.toInt = 19 from cj]; rfl) (by decide) ?_
      exact lc_rests l C1 hKK hxo hme hSX hSM hdis hrel hw hl (by omega) hL kkl
    · refine lv_tableIn (off := 759) (tgt := 792) hx hb dL_law_33 (by omega) (by omega) (by rw [show w13.toInt = 20 from cj]; rfl) (by decide) ?_
      exact lc_sent l C1 hKK hxo hme hSX hSM hdis hrel hw hl (by omega) hL kkl
    · refine lv_tableIn (off := 792) (tgt := 825) hx hb dL_law_33 (by omega) (by omega) (by rw [show w13.toInt = 21 from cj]; rfl) (by decide) ?_
      exact lc_harm l C1 hKK hxo hme hSX hSM hdis hrel hw hl (by omega) hL kkl
    · refine lv_tableIn (off := 815) (tgt := 848) hx hb dL_law_33 (by omega) (by omega) (by rw [show w13.toInt = 22 from cj]; rfl) (by decide) ?_
      exact lc_ewe l C1 hKK hxo hme hSX hSM hdis hrel hw hl (by omega) hL kkl
    · refine lv_tableIn (off := 868) (tgt := 901) hx hb dL_law_33 (by omega) (by omega) (by rw [show w13.toInt = 23 from cj]; rfl) (by decide) ?_
      exact lc_waits l C1 hKK hxo hme hSX hSM hdis hrel hw hl (by omega) hL kkl
    · refine lv_tableIn (off := 921) (tgt := 954) hx hb dL_law_33 (by omega) (by omega) (by rw [show w13.toInt = 24 from cj]; rfl) (by decide) ?_
      exact lc_ring l C1 hKK hxo hme hSX hSM hdis hrel hw hl (by omega) hL kkl
    · refine lv_tableIn (off := 964) (tgt := 997) hx hb dL_law_33 (by omega) (by omega) (by rw [show w13.toInt = 25 from cj]; rfl) (by decide) ?_
      exact lc_rounds l C1 hKK hxo hme hSX hSM hdis hrel hw hl (by omega) hL kkl
    · refine lv_tableIn (off := 997) (tgt := 1030) hx hb dL_law_33 (by omega) (by omega) (by rw [show w13.toInt = 26 from cj]; rfl) (by decide) ?_
      exact lc_orders l C1 hKK hxo hme hSX hSM hdis hrel hw hl (by omega) hL kkl
    · refine lv_tableIn (off := 1040) (tgt := 1073) hx hb dL_law_33 (by omega) (by omega) (by rw [show w13.toInt = 27 from cj]; rfl) (by decide) ?_
      exact lc_order l C1 hKK hxo hme hSX hSM hdis hrel hw hl (by omega) hL kkl
    · refine lv_tableIn (off := 1093) (tgt := 1126) hx hb dL_law_33 (by omega) (by omega) (by rw [show w13.toInt = 28 from cj]; rfl) (by decide) ?_
      exact lc_sure l C1 hKK hxo hme hSX hSM hdis hrel hw hl (by omega) hL kkl
    · refine lv_tableIn (off := 1146) (tgt := 1179) hx hb dL_law_33 (by omega) (by omega) (by rw [show w13.toInt = 29 from cj]; rfl) (by decide) ?_
      exact lc_wrong l C1 hKK hxo hme hSX hSM hdis hrel hw hl (by omega) hL kkl
    · refine lv_tableIn (off := 1179) (tgt := 1212) hx hb dL_law_33 (by omega) (by omega) (by rw [show w13.toInt = 30 from cj]; rfl) (by decide) ?_
      exact lc_anew l C1 hKK hxo hme hSX hSM hdis hrel hw hl (by omega) hL kkl
    · refine lv_tableIn (off := 1212) (tgt := 1245) hx hb dL_law_33 (by omega) (by omega) (by rw [show w13.toInt = 31 from cj]; rfl) (by decide) ?_
      exact lc_mixed l C1 hKK hxo hme hSX hSM hdis hrel hw hl (by omega) hL kkl
    · refine lv_tableIn (off := 1245) (tgt := 1278) hx hb dL_law_33 (by omega) (by omega) (by rw [show w13.toInt = 32 from cj]; rfl) (by decide) ?_
      exact lc_luck l C1 hKK hxo hme hSX hSM hdis hrel hw hl (by omega) hL kkl
    · refine lv_tableIn (off := 1288) (tgt := 1321) hx hb dL_law_33 (by omega) (by omega) (by rw [show w13.toInt = 33 from cj]; rfl) (by decide) ?_
      exact lc_free l C1 hKK hxo hme hSX hSM hdis hrel hw hl (by omega) hL kkl
    · refine lv_tableIn (off := 1311) (tgt := 1344) hx hb dL_law_33 (by omega) (by omega) (by rw [show w13.toInt = 34 from cj]; rfl) (by decide) ?_
      exact lc_all l C1 hKK hxo hme hSX hSM hdis hrel hw hl (by omega) hL kkl
    · refine lv_tableIn (off := 1334) (tgt := 1367) hx hb dL_law_33 (by omega) (by omega) (by rw [show w13.toInt = 35 from cj]; rfl) (by decide) ?_
      exact lc_count l C1 hKK hxo hme hSX hSM hdis hrel hw hl (by omega) hL kkl
    · refine lv_tableIn (off := 1357) (tgt := 1390) hx hb dL_law_33 (by omega) (by omega) (by rw [show w13.toInt = 36 from cj]; rfl) (by decide) ?_
      exact lc_keep l C1 hKK hxo hme hSX hSM hdis hrel hw hl (by omega) hL kkl
    · refine lv_tableIn (off := 1380) (tgt := 1413) hx hb dL_law_33 (by omega) (by omega) (by rw [show w13.toInt = 37 from cj]; rfl) (by decide) ?_
      exact lc_back l C1 hKK hxo hme hSX hSM hdis hrel hw hl (by omega) hL kkl
    · refine lv_tableIn (off := 1403) (tgt := 1436) hx hb dL_law_33 (by omega) (by omega) (by rw [show w13.toInt = 38 from cj]; rfl) (by decide) ?_
      exact lc_row l C1 hKK hxo hme hSX hSM hdis hrel hw hl (by omega) hL kkl
    · refine lv_tableIn (off := 1446) (tgt := 1479) hx hb dL_law_33 (by omega) (by omega) (by rw [show w13.toInt = 39 from cj]; rfl) (by decide) ?_
      exact lc_write l C1 hKK hxo hme hSX hSM hdis hrel hw hl (by omega) hL kkl
    · refine lv_tableIn (off := 1519) (tgt := 1552) hx hb dL_law_33 (by omega) (by omega) (by rw [show w13.toInt = 40 from cj]; rfl) (by decide) ?_
      exact lc_paste l C1 hKK hxo hme hSX hSM hdis hrel hw hl (by omega) hL kkl
