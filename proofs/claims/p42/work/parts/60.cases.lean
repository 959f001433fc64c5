set_option maxHeartbeats 4000000 in
set_option maxRecDepth 100000 in
theorem lc_feed {p : Program} {e : Env} {s : State} {m : MethodId} {below : List Frame} {meth : Method} {c : Code} (l : Launch) {b Ln : Nat} {xs : Nat → Int32} {D : va_G} {cy : Nat → ClassId} {adK adV : Nat → Nat} {L : List Nat} {F : Nat → va_E} {H : Heap} {locs : List Loc} {ls : Array Slot} {ad bd : Nat → Nat} {gkp gw gz gik gwd gmy : Nat → Int32} {K : Int32} {xo me : Nat} (C0 : lw_At p s m meth c b Ln xs) (hKK : z_KK D cy adK adV (fun q : Nat => s.heap.size ≤ q) s) (hxo : ad 0 = xo) (hme : bd 0 = me) (hSX : z_SX L F cy ad gkp gw gz) (hSM : z_SM L F cy bd gik gwd gmy) (hdis : ∀ i j : Nat, i < 135 → j < 29 → ad i ≠ bd j) (hrel : z_rel gkp gw gz gik gwd gmy) (hw : z_H D vwCl (fun q : Nat => s.heap.size ≤ q) s.heap L F H locs) (hl : lv_has ls 4 [(3, .int K), (2, .ref me), (1, .ref xo), (0, .ref b)]) (hKr : 0 ≤ K.toInt ∧ K.toInt + 6 ≤ Ln) (hLn : Ln ≤ 3072) (kk : ∀ (F2 : Nat → va_E) (H2 : Heap) (locs2 : List Loc) (a1 a2 a3 a4 a5 a6 : Nat → Int32), z_SX L F2 cy ad a1 a2 a3 → z_SM L F2 cy bd a4 a5 a6 → z_rel a1 a2 a3 a4 a5 a6 → z_H D vwCl (fun q : Nat => s.heap.size ≤ q) s.heap L F2 H2 locs2 → W p l e room_1 s m #[Value.ref b] below meth c H2 locs2 164 16321 (lw_Z below #[Value.ref b] s) (F0 m 1615 ls [])) : W p l e room_1 s m #[Value.ref b] below meth c H locs 164 16321 (lw_Z below #[Value.ref b] s) (F0 m 212 ls []) := by
  subst hxo
  subst hme
  obtain ⟨hx, hb, hr, hml, hown, hts, hX, hbl, hlocks, hgv⟩ := C0
  have hA : ∀ q : Nat, s.heap.size ≤ q → (fun q : Nat => s.heap.size ≤ q) q := fun _ h => h
  have hbA : ¬ (fun q : Nat => s.heap.size ≤ q) b := Nat.not_le.mpr hbl
  have hT : ∀ w ∈ lw_all, w.before #[Value.ref b] s = true := fun w h => hts w (z_all_in w h)
  have hown : s.vm.findClass RL = some m.cls := hown
  have hK := hKK.1.1
  obtain ⟨x1, ex1⟩ : ∃ z, z = xs (K.toNatClampNeg + 1) := ⟨_, rfl⟩
  obtain ⟨x2, ex2⟩ : ∃ z, z = xs (K.toNatClampNeg + 2) := ⟨_, rfl⟩
  obtain ⟨x3, ex3⟩ : ∃ z, z = xs (K.toNatClampNeg + 3) := ⟨_, rfl⟩
  obtain ⟨x4, ex4⟩ : ∃ z, z = xs (K.toNatClampNeg + 4) := ⟨_, rfl⟩
  obtain ⟨x5, ex5⟩ : ∃ z, z = xs (K.toNatClampNeg + 5) := ⟨_, rfl⟩
  refine lv_aload_n hx hb dL_law_212 rfl (lv_at hl 2 rfl) ?_
  refine lv_aload_n hx hb dL_law_213 rfl (lv_at hl 3 rfl) ?_
  refine lv_iload_n hx hb dL_law_214 rfl (lv_at hl 0 rfl) ?_
  refine lv_iconst (v := 1) hx hb dL_law_215 (by decide) ?_
  refine lv_iadd hx hb dL_law_216 ?_
  refine lv_topi (fun w1 e_w1 => ?_)
  have i_w1 : w1.toInt = (K.toInt + 1) := z_add e_w1 rfl (show (1 : Int32).toInt = 1 by decide) (by omega)
  refine va_sld hx hb hX hbl hbA hw.2.2 (z_ix i_w1 (by omega)) dL_law_217 ?_
  refine z_lit (y := x1) (by rw [ex1, z_ixK (K := K) (k := 1) i_w1 (by omega)]) ?_
  refine lv_aload_n hx hb dL_law_218 rfl (lv_at hl 3 rfl) ?_
  refine lv_iload_n hx hb dL_law_219 rfl (lv_at hl 0 rfl) ?_
  refine lv_iconst (v := 2) hx hb dL_law_220 (by decide) ?_
  refine lv_iadd hx hb dL_law_221 ?_
  refine lv_topi (fun w2 e_w2 => ?_)
  have i_w2 : w2.toInt = (K.toInt + 2) := z_add e_w2 rfl (show (2 : Int32).toInt = 2 by decide) (by omega)
  refine va_sld hx hb hX hbl hbA hw.2.2 (z_ix i_w2 (by omega)) dL_law_222 ?_
  refine z_lit (y := x2) (by rw [ex2, z_ixK (K := K) (k := 2) i_w2 (by omega)]) ?_
  refine lv_aload_n hx hb dL_law_223 rfl (lv_at hl 3 rfl) ?_
  refine lv_iload_n hx hb dL_law_224 rfl (lv_at hl 0 rfl) ?_
  refine lv_iconst (v := 3) hx hb dL_law_225 (by decide) ?_
  refine lv_iadd hx hb dL_law_226 ?_
  refine lv_topi (fun w3 e_w3 => ?_)
  have i_w3 : w3.toInt = (K.toInt + 3) := z_add e_w3 rfl (show (3 : Int32).toInt = 3 by decide) (by omega)
  refine va_sld hx hb hX hbl hbA hw.2.2 (z_ix i_w3 (by omega)) dL_law_227 ?_
  refine z_lit (y := x3) (by rw [ex3, z_ixK (K := K) (k := 3) i_w3 (by omega)]) ?_
  refine lv_aload_n hx hb dL_law_228 rfl (lv_at hl 3 rfl) ?_
  refine lv_iload_n hx hb dL_law_229 rfl (lv_at hl 0 rfl) ?_
  refine lv_iconst (v := 4) hx hb dL_law_230 (by decide) ?_
  refine lv_iadd hx hb dL_law_231 ?_
  refine lv_topi (fun w4 e_w4 => ?_)
  have i_w4 : w4.toInt = (K.toInt + 4) := z_add e_w4 rfl (show (4 : Int32).toInt = 4 by decide) (by omega)
  refine va_sld hx hb hX hbl hbA hw.2.2 (z_ix i_w4 (by omega)) dL_law_232 ?_
  refine z_lit (y := x4) (by rw [ex4, z_ixK (K := K) (k := 4) i_w4 (by omega)]) ?_
  refine lv_aload_n hx hb dL_law_233 rfl (lv_at hl 3 rfl) ?_
  refine lv_iload_n hx hb dL_law_234 rfl (lv_at hl 0 rfl) ?_
  refine lv_iconst (v := 5) hx hb dL_law_235 (by decide) ?_
  refine lv_iadd hx hb dL_law_236 ?_
  refine lv_topi (fun w5 e_w5 => ?_)
  have i_w5 : w5.toInt = (K.toInt + 5) := z_add e_w5 rfl (show (5 : Int32).toInt = 5 by decide) (by omega)
  refine va_sld hx hb hX hbl hbA hw.2.2 (z_ix i_w5 (by omega)) dL_law_237 ?_
  refine z_lit (y := x5) (by rw [ex5, z_ixK (K := K) (k := 5) i_w5 (by omega)]) ?_
  obtain ⟨fs_, hfo⟩ := z_SX_xo hSX
  refine z_calliV (cells := 164) (slots := 16321) (b := ad 0) (As := [.int x1, .int x2, .int x3, .int x4, .int x5]) (rest := []) (ci := 9) (q0 := (RX9, TX9, 11)) ⟨hx, hb, hml, hown, hT⟩ (s_X9_feed l hSX) (cwV 5 hT (z_goodV (fun _ h => h) kw_511 kw_512 kw_513 kw_85 kw_514) rfl rfl rfl (by decide +kernel) ⟨by decide, by decide⟩) z_mv hKK hK hw hA (z_SX_mem hSX (by decide)) hfo rfl rfl rfl hl.1 rfl (Nat.le_of_ble_eq_true rfl) dL_law_238 ⟨by decide, by decide⟩ (fun r7 u H locs hp hw => ?_)
  obtain ⟨L2, F6⟩ := u
  obtain ⟨hL2, hfr, hS2⟩ := hp
  have hL2 : L = L2 := hL2
  subst hL2
  have hw : z_H D vwCl (fun q : Nat => s.heap.size ≤ q) s.heap L F6 H locs := hw
  have hSM := z_SM_fr (f2 := F6) hSM (fun i hi => hfr _ (z_SM_mem hSM hi) (fun j hj => (hdis j i hj hi).symm))
  have hSX := hS2
  have hSX : z_SX L F6 cy ad gkp gw gz := hSX
  refine lv_pop hx hb dL_law_241 rfl ?_
  refine lv_aload_n hx hb dL_law_242 rfl (lv_at hl 1 rfl) ?_
  refine lv_aload_n hx hb dL_law_243 rfl (lv_at hl 3 rfl) ?_
  refine lv_iload_n hx hb dL_law_244 rfl (lv_at hl 0 rfl) ?_
  refine lv_iconst (v := 1) hx hb dL_law_245 (by decide) ?_
  refine lv_iadd hx hb dL_law_246 ?_
  refine lv_topi (fun w8 e_w8 => ?_)
  have i_w8 : w8.toInt = (K.toInt + 1) := z_add e_w8 rfl (show (1 : Int32).toInt = 1 by decide) (by omega)
  refine va_sld hx hb hX hbl hbA hw.2.2 (z_ix i_w8 (by omega)) dL_law_247 ?_
  refine z_lit (y := x1) (by rw [ex1, z_ixK (K := K) (k := 1) i_w8 (by omega)]) ?_
  refine lv_aload_n hx hb dL_law_248 rfl (lv_at hl 3 rfl) ?_
  refine lv_iload_n hx hb dL_law_249 rfl (lv_at hl 0 rfl) ?_
  refine lv_iconst (v := 2) hx hb dL_law_250 (by decide) ?_
  refine lv_iadd hx hb dL_law_251 ?_
  refine lv_topi (fun w9 e_w9 => ?_)
  have i_w9 : w9.toInt = (K.toInt + 2) := z_add e_w9 rfl (show (2 : Int32).toInt = 2 by decide) (by omega)
  refine va_sld hx hb hX hbl hbA hw.2.2 (z_ix i_w9 (by omega)) dL_law_252 ?_
  refine z_lit (y := x2) (by rw [ex2, z_ixK (K := K) (k := 2) i_w9 (by omega)]) ?_
  refine lv_aload_n hx hb dL_law_253 rfl (lv_at hl 3 rfl) ?_
  refine lv_iload_n hx hb dL_law_254 rfl (lv_at hl 0 rfl) ?_
  refine lv_iconst (v := 3) hx hb dL_law_255 (by decide) ?_
  refine lv_iadd hx hb dL_law_256 ?_
  refine lv_topi (fun w10 e_w10 => ?_)
  have i_w10 : w10.toInt = (K.toInt + 3) := z_add e_w10 rfl (show (3 : Int32).toInt = 3 by decide) (by omega)
  refine va_sld hx hb hX hbl hbA hw.2.2 (z_ix i_w10 (by omega)) dL_law_257 ?_
  refine z_lit (y := x3) (by rw [ex3, z_ixK (K := K) (k := 3) i_w10 (by omega)]) ?_
  refine lv_aload_n hx hb dL_law_258 rfl (lv_at hl 3 rfl) ?_
  refine lv_iload_n hx hb dL_law_259 rfl (lv_at hl 0 rfl) ?_
  refine lv_iconst (v := 4) hx hb dL_law_260 (by decide) ?_
  refine lv_iadd hx hb dL_law_261 ?_
  refine lv_topi (fun w11 e_w11 => ?_)
  have i_w11 : w11.toInt = (K.toInt + 4) := z_add e_w11 rfl (show (4 : Int32).toInt = 4 by decide) (by omega)
  refine va_sld hx hb hX hbl hbA hw.2.2 (z_ix i_w11 (by omega)) dL_law_262 ?_
  refine z_lit (y := x4) (by rw [ex4, z_ixK (K := K) (k := 4) i_w11 (by omega)]) ?_
  refine lv_aload_n hx hb dL_law_263 rfl (lv_at hl 3 rfl) ?_
  refine lv_iload_n hx hb dL_law_264 rfl (lv_at hl 0 rfl) ?_
  refine lv_iconst (v := 5) hx hb dL_law_265 (by decide) ?_
  refine lv_iadd hx hb dL_law_266 ?_
  refine lv_topi (fun w12 e_w12 => ?_)
  have i_w12 : w12.toInt = (K.toInt + 5) := z_add e_w12 rfl (show (5 : Int32).toInt = 5 by decide) (by omega)
  refine va_sld hx hb hX hbl hbA hw.2.2 (z_ix i_w12 (by omega)) dL_law_267 ?_
  refine z_lit (y := x5) (by rw [ex5, z_ixK (K := K) (k := 5) i_w12 (by omega)]) ?_
  obtain ⟨fs_, hfo⟩ := z_SM_xo hSM
  refine z_calliV (cells := 164) (slots := 16321) (b := bd 0) (As := [.int x1, .int x2, .int x3, .int x4, .int x5]) (rest := []) (ci := 10) (q0 := (RX10, TX10, 54)) ⟨hx, hb, hml, hown, hT⟩ (s_X10_feed l hSM) (cwV 5 hT (z_goodV (fun _ h => h) kw_1353 kw_1354 kw_1355 kw_96 kw_1356) rfl rfl rfl (by decide +kernel) ⟨by decide, by decide⟩) z_mv hKK hK hw hA (z_SM_mem hSM (by decide)) hfo rfl rfl rfl hl.1 rfl (Nat.le_of_ble_eq_true rfl) dL_law_268 ⟨by decide, by decide⟩ (fun r14 u H locs hp hw => ?_)
  obtain ⟨L2, F13⟩ := u
  obtain ⟨hL2, hfr, hS2⟩ := hp
  have hL2 : L = L2 := hL2
  subst hL2
  have hw : z_H D vwCl (fun q : Nat => s.heap.size ≤ q) s.heap L F13 H locs := hw
  have hSX := z_SX_frL (f2 := F13) hSX (fun _ h => h) (fun i hi => hfr _ (z_SX_mem hSX hi) (fun j hj => hdis i j hi hj))
  have hSM := hS2
  have hSM : z_SM L F13 cy bd gik gwd gmy := hSM
  have hrel0 := hrel
  refine lv_pop hx hb dL_law_271 rfl ?_
  refine lv_goto (tgt := 1615) hx hb dL_law_272 (by decide) ?_
  exact kk _ _ _ _ _ _ _ _ _ hSX hSM hrel hw

set_option maxHeartbeats 4000000 in
set_option maxRecDepth 100000 in
theorem lc_end {p : Program} {e : Env} {s : State} {m : MethodId} {below : List Frame} {meth : Method} {c : Code} (l : Launch) {b Ln : Nat} {xs : Nat → Int32} {D : va_G} {cy : Nat → ClassId} {adK adV : Nat → Nat} {L : List Nat} {F : Nat → va_E} {H : Heap} {locs : List Loc} {ls : Array Slot} {ad bd : Nat → Nat} {gkp gw gz gik gwd gmy : Nat → Int32} {K : Int32} {xo me : Nat} (C0 : lw_At p s m meth c b Ln xs) (hKK : z_KK D cy adK adV (fun q : Nat => s.heap.size ≤ q) s) (hxo : ad 0 = xo) (hme : bd 0 = me) (hSX : z_SX L F cy ad gkp gw gz) (hSM : z_SM L F cy bd gik gwd gmy) (hdis : ∀ i j : Nat, i < 135 → j < 29 → ad i ≠ bd j) (hrel : z_rel gkp gw gz gik gwd gmy) (hw : z_H D vwCl (fun q : Nat => s.heap.size ≤ q) s.heap L F H locs) (hl : lv_has ls 4 [(3, .int K), (2, .ref me), (1, .ref xo), (0, .ref b)]) (hKr : 0 ≤ K.toInt ∧ K.toInt + 6 ≤ Ln) (hLn : Ln ≤ 3072) (kk : ∀ (F2 : Nat → va_E) (H2 : Heap) (locs2 : List Loc) (a1 a2 a3 a4 a5 a6 : Nat → Int32), z_SX L F2 cy ad a1 a2 a3 → z_SM L F2 cy bd a4 a5 a6 → z_rel a1 a2 a3 a4 a5 a6 → z_H D vwCl (fun q : Nat => s.heap.size ≤ q) s.heap L F2 H2 locs2 → W p l e room_1 s m #[Value.ref b] below meth c H2 locs2 164 16321 (lw_Z below #[Value.ref b] s) (F0 m 1615 ls [])) : W p l e room_1 s m #[Value.ref b] below meth c H locs 164 16321 (lw_Z below #[Value.ref b] s) (F0 m 275 ls []) := by
  subst hxo
  subst hme
  obtain ⟨hx, hb, hr, hml, hown, hts, hX, hbl, hlocks, hgv⟩ := C0
  have hA : ∀ q : Nat, s.heap.size ≤ q → (fun q : Nat => s.heap.size ≤ q) q := fun _ h => h
  have hbA : ¬ (fun q : Nat => s.heap.size ≤ q) b := Nat.not_le.mpr hbl
  have hT : ∀ w ∈ lw_all, w.before #[Value.ref b] s = true := fun w h => hts w (z_all_in w h)
  have hown : s.vm.findClass RL = some m.cls := hown
  have hK := hKK.1.1
  obtain ⟨x1, ex1⟩ : ∃ z, z = xs (K.toNatClampNeg + 1) := ⟨_, rfl⟩
  obtain ⟨x2, ex2⟩ : ∃ z, z = xs (K.toNatClampNeg + 2) := ⟨_, rfl⟩
  obtain ⟨x3, ex3⟩ : ∃ z, z = xs (K.toNatClampNeg + 3) := ⟨_, rfl⟩
  obtain ⟨x4, ex4⟩ : ∃ z, z = xs (K.toNatClampNeg + 4) := ⟨_, rfl⟩
  obtain ⟨x5, ex5⟩ : ∃ z, z = xs (K.toNatClampNeg + 5) := ⟨_, rfl⟩
  refine lv_aload_n hx hb dL_law_275 rfl (lv_at hl 2 rfl) ?_
  refine lv_aload_n hx hb dL_law_276 rfl (lv_at hl 3 rfl) ?_
  refine lv_iload_n hx hb dL_law_277 rfl (lv_at hl 0 rfl) ?_
  refine lv_iconst (v := 1) hx hb dL_law_278 (by decide) ?_
  refine lv_iadd hx hb dL_law_279 ?_
  refine lv_topi (fun w1 e_w1 => ?_)
  have i_w1 : w1.toInt = (K.toInt + 1) := z_add e_w1 rfl (show (1 : Int32).toInt = 1 by decide) (by omega)
  refine va_sld hx hb hX hbl hbA hw.2.2 (z_ix i_w1 (by omega)) dL_law_280 ?_
  refine z_lit (y := x1) (by rw [ex1, z_ixK (K := K) (k := 1) i_w1 (by omega)]) ?_
  obtain ⟨fs_, hfo⟩ := z_SX_xo hSX
  refine z_calliV (cells := 164) (slots := 16321) (b := ad 0) (As := [.int x1]) (rest := []) (ci := 9) (q0 := (RX9, TX9, 11)) ⟨hx, hb, hml, hown, hT⟩ (s_X9_end l hSX) (cwV 1 hT (z_goodV (fun _ h => h) kw_519 kw_520 kw_521 kw_85 kw_522) rfl rfl rfl (by decide +kernel) ⟨by decide, by decide⟩) z_mv hKK hK hw hA (z_SX_mem hSX (by decide)) hfo rfl rfl rfl hl.1 rfl (Nat.le_of_ble_eq_true rfl) dL_law_281 ⟨by decide, by decide⟩ (fun r3 u H locs hp hw => ?_)
  obtain ⟨L2, F2⟩ := u
  obtain ⟨hL2, hfr, hS2⟩ := hp
  have hL2 : L = L2 := hL2
  subst hL2
  have hw : z_H D vwCl (fun q : Nat => s.heap.size ≤ q) s.heap L F2 H locs := hw
  have hSM := z_SM_fr (f2 := F2) hSM (fun i hi => hfr _ (z_SM_mem hSM hi) (fun j hj => (hdis j i hj hi).symm))
  have hSX := hS2
  have hSX : z_SX L F2 cy ad gkp gw gz := hSX
  refine lv_pop hx hb dL_law_284 rfl ?_
  refine lv_aload_n hx hb dL_law_285 rfl (lv_at hl 1 rfl) ?_
  refine lv_aload_n hx hb dL_law_286 rfl (lv_at hl 3 rfl) ?_
  refine lv_iload_n hx hb dL_law_287 rfl (lv_at hl 0 rfl) ?_
  refine lv_iconst (v := 1) hx hb dL_law_288 (by decide) ?_
  refine lv_iadd hx hb dL_law_289 ?_
  refine lv_topi (fun w4 e_w4 => ?_)
  have i_w4 : w4.toInt = (K.toInt + 1) := z_add e_w4 rfl (show (1 : Int32).toInt = 1 by decide) (by omega)
  refine va_sld hx hb hX hbl hbA hw.2.2 (z_ix i_w4 (by omega)) dL_law_290 ?_
  refine z_lit (y := x1) (by rw [ex1, z_ixK (K := K) (k := 1) i_w4 (by omega)]) ?_
  obtain ⟨fs_, hfo⟩ := z_SM_xo hSM
  refine z_calliV (cells := 164) (slots := 16321) (b := bd 0) (As := [.int x1]) (rest := []) (ci := 10) (q0 := (RX10, TX10, 54)) ⟨hx, hb, hml, hown, hT⟩ (s_X10_end l hSM) (cwV 1 hT (z_goodV (fun _ h => h) kw_1361 kw_1362 kw_1363 kw_96 kw_1364) rfl rfl rfl (by decide +kernel) ⟨by decide, by decide⟩) z_mv hKK hK hw hA (z_SM_mem hSM (by decide)) hfo rfl rfl rfl hl.1 rfl (Nat.le_of_ble_eq_true rfl) dL_law_291 ⟨by decide, by decide⟩ (fun r6 u H locs hp hw => ?_)
  obtain ⟨L2, F5⟩ := u
  obtain ⟨hL2, hfr, hS2⟩ := hp
  have hL2 : L = L2 := hL2
  subst hL2
  have hw : z_H D vwCl (fun q : Nat => s.heap.size ≤ q) s.heap L F5 H locs := hw
  have hSX := z_SX_frL (f2 := F5) hSX (fun _ h => h) (fun i hi => hfr _ (z_SX_mem hSX hi) (fun j hj => hdis i j hi hj))
  have hSM := hS2
  have hSM : z_SM L F5 cy bd gik gwd gmy := hSM
  have hrel0 := hrel
  refine lv_pop hx hb dL_law_294 rfl ?_
  refine lv_goto (tgt := 1615) hx hb dL_law_295 (by decide) ?_
  exact kk _ _ _ _ _ _ _ _ _ hSX hSM hrel hw

set_option maxHeartbeats 4000000 in
set_option maxRecDepth 100000 in
theorem lc_moor {p : Program} {e : Env} {s : State} {m : MethodId} {below : List Frame} {meth : Method} {c : Code} (l : Launch) {b Ln : Nat} {xs : Nat → Int32} {D : va_G} {cy : Nat → ClassId} {adK adV : Nat → Nat} {L : List Nat} {F : Nat → va_E} {H : Heap} {locs : List Loc} {ls : Array Slot} {ad bd : Nat → Nat} {gkp gw gz gik gwd gmy : Nat → Int32} {K : Int32} {xo me : Nat} (C0 : lw_At p s m meth c b Ln xs) (hKK : z_KK D cy adK adV (fun q : Nat => s.heap.size ≤ q) s) (hxo : ad 0 = xo) (hme : bd 0 = me) (hSX : z_SX L F cy ad gkp gw gz) (hSM : z_SM L F cy bd gik gwd gmy) (hdis : ∀ i j : Nat, i < 135 → j < 29 → ad i ≠ bd j) (hrel : z_rel gkp gw gz gik gwd gmy) (hw : z_H D vwCl (fun q : Nat => s.heap.size ≤ q) s.heap L F H locs) (hl : lv_has ls 4 [(3, .int K), (2, .ref me), (1, .ref xo), (0, .ref b)]) (hKr : 0 ≤ K.toInt ∧ K.toInt + 6 ≤ Ln) (hLn : Ln ≤ 3072) (kk : ∀ (F2 : Nat → va_E) (H2 : Heap) (locs2 : List Loc) (a1 a2 a3 a4 a5 a6 : Nat → Int32), z_SX L F2 cy ad a1 a2 a3 → z_SM L F2 cy bd a4 a5 a6 → z_rel a1 a2 a3 a4 a5 a6 → z_H D vwCl (fun q : Nat => s.heap.size ≤ q) s.heap L F2 H2 locs2 → W p l e room_1 s m #[Value.ref b] below meth c H2 locs2 164 16321 (lw_Z below #[Value.ref b] s) (F0 m 1615 ls [])) : W p l e room_1 s m #[Value.ref b] below meth c H locs 164 16321 (lw_Z below #[Value.ref b] s) (F0 m 298 ls []) := by
  subst hxo
  subst hme
  obtain ⟨hx, hb, hr, hml, hown, hts, hX, hbl, hlocks, hgv⟩ := C0
  have hA : ∀ q : Nat, s.heap.size ≤ q → (fun q : Nat => s.heap.size ≤ q) q := fun _ h => h
  have hbA : ¬ (fun q : Nat => s.heap.size ≤ q) b := Nat.not_le.mpr hbl
  have hT : ∀ w ∈ lw_all, w.before #[Value.ref b] s = true := fun w h => hts w (z_all_in w h)
  have hown : s.vm.findClass RL = some m.cls := hown
  have hK := hKK.1.1
  obtain ⟨x1, ex1⟩ : ∃ z, z = xs (K.toNatClampNeg + 1) := ⟨_, rfl⟩
  obtain ⟨x2, ex2⟩ : ∃ z, z = xs (K.toNatClampNeg + 2) := ⟨_, rfl⟩
  obtain ⟨x3, ex3⟩ : ∃ z, z = xs (K.toNatClampNeg + 3) := ⟨_, rfl⟩
  obtain ⟨x4, ex4⟩ : ∃ z, z = xs (K.toNatClampNeg + 4) := ⟨_, rfl⟩
  obtain ⟨x5, ex5⟩ : ∃ z, z = xs (K.toNatClampNeg + 5) := ⟨_, rfl⟩
  refine lv_aload_n hx hb dL_law_298 rfl (lv_at hl 2 rfl) ?_
  obtain ⟨fs_, hfo⟩ := z_SX_xo hSX
  refine z_calliV (cells := 164) (slots := 16321) (b := ad 0) (As := []) (rest := []) (ci := 9) (q0 := (RX9, TX9, 11)) ⟨hx, hb, hml, hown, hT⟩ (s_X9_moor l hSX) (cwV 0 hT (z_goodV (fun _ h => h) kw_523 kw_524 kw_525 kw_85 kw_526) rfl rfl rfl (by decide +kernel) ⟨by decide, by decide⟩) z_mv hKK hK hw hA (z_SX_mem hSX (by decide)) hfo rfl rfl rfl hl.1 rfl (Nat.le_of_ble_eq_true rfl) dL_law_299 ⟨by decide, by decide⟩ (fun r2 u H locs hp hw => ?_)
  obtain ⟨L2, F1⟩ := u
  obtain ⟨hL2, hfr, hS2⟩ := hp
  have hL2 : L = L2 := hL2
  subst hL2
  have hw : z_H D vwCl (fun q : Nat => s.heap.size ≤ q) s.heap L F1 H locs := hw
  have hSM := z_SM_fr (f2 := F1) hSM (fun i hi => hfr _ (z_SM_mem hSM hi) (fun j hj => (hdis j i hj hi).symm))
  have hSX := hS2
  have hSX : z_SX L F1 cy ad gkp gw gz := hSX
  refine lv_pop hx hb dL_law_302 rfl ?_
  refine lv_aload_n hx hb dL_law_303 rfl (lv_at hl 1 rfl) ?_
  obtain ⟨fs_, hfo⟩ := z_SM_xo hSM
  refine z_calliV (cells := 164) (slots := 16321) (b := bd 0) (As := []) (rest := []) (ci := 10) (q0 := (RX10, TX10, 54)) ⟨hx, hb, hml, hown, hT⟩ (s_X10_moor l hSM) (cwV 0 hT (z_goodV (fun _ h => h) kw_1369 kw_1370 kw_1371 kw_96 kw_1372) rfl rfl rfl (by decide +kernel) ⟨by decide, by decide⟩) z_mv hKK hK hw hA (z_SM_mem hSM (by decide)) hfo rfl rfl rfl hl.1 rfl (Nat.le_of_ble_eq_true rfl) dL_law_304 ⟨by decide, by decide⟩ (fun r4 u H locs hp hw => ?_)
  obtain ⟨L2, F3⟩ := u
  obtain ⟨hL2, hfr, hS2⟩ := hp
  have hL2 : L = L2 := hL2
  subst hL2
  have hw : z_H D vwCl (fun q : Nat => s.heap.size ≤ q) s.heap L F3 H locs := hw
  have hSX := z_SX_frL (f2 := F3) hSX (fun _ h => h) (fun i hi => hfr _ (z_SX_mem hSX hi) (fun j hj => hdis i j hi hj))
  have hSM := hS2
  have hSM : z_SM L F3 cy bd gik gwd gmy := hSM
  have hrel0 := hrel
  refine lv_pop hx hb dL_law_307 rfl ?_
  refine lv_goto (tgt := 1615) hx hb dL_law_308 (by decide) ?_
  exact kk _ _ _ _ _ _ _ _ _ hSX hSM hrel hw

set_option maxHeartbeats 4000000 in
set_option maxRecDepth 100000 in
theorem lc_fault {p : Program} {e : Env} {s : State} {m : MethodId} {below : List Frame} {meth : Method} {c : Code} (l : Launch) {b Ln : Nat} {xs : Nat → Int32} {D : va_G} {cy : Nat → ClassId} {adK adV : Nat → Nat} {L : List Nat} {F : Nat → va_E} {H : Heap} {locs : List Loc} {ls : Array Slot} {ad bd : Nat → Nat} {gkp gw gz gik gwd gmy : Nat → Int32} {K : Int32} {xo me : Nat} (C0 : lw_At p s m meth c b Ln xs) (hKK : z_KK D cy adK adV (fun q : Nat => s.heap.size ≤ q) s) (hxo : ad 0 = xo) (hme : bd 0 = me) (hSX : z_SX L F cy ad gkp gw gz) (hSM : z_SM L F cy bd gik gwd gmy) (hdis : ∀ i j : Nat, i < 135 → j < 29 → ad i ≠ bd j) (hrel : z_rel gkp gw gz gik gwd gmy) (hw : z_H D vwCl (fun q : Nat => s.heap.size ≤ q) s.heap L F H locs) (hl : lv_has ls 4 [(3, .int K), (2, .ref me), (1, .ref xo), (0, .ref b)]) (hKr : 0 ≤ K.toInt ∧ K.toInt + 6 ≤ Ln) (hLn : Ln ≤ 3072) (kk : ∀ (F2 : Nat → va_E) (H2 : Heap) (locs2 : List Loc) (a1 a2 a3 a4 a5 a6 : Nat → Int32), z_SX L F2 cy ad a1 a2 a3 → z_SM L F2 cy bd a4 a5 a6 → z_rel a1 a2 a3 a4 a5 a6 → z_H D vwCl (fun q : Nat => s.heap.size ≤ q) s.heap L F2 H2 locs2 → W p l e room_1 s m #[Value.ref b] below meth c H2 locs2 164 16321 (lw_Z below #[Value.ref b] s) (F0 m 1615 ls [])) : W p l e room_1 s m #[Value.ref b] below meth c H locs 164 16321 (lw_Z below #[Value.ref b] s) (F0 m 311 ls []) := by
  subst hxo
  subst hme
  obtain ⟨hx, hb, hr, hml, hown, hts, hX, hbl, hlocks, hgv⟩ := C0
  have hA : ∀ q : Nat, s.heap.size ≤ q → (fun q : Nat => s.heap.size ≤ q) q := fun _ h => h
  have hbA : ¬ (fun q : Nat => s.heap.size ≤ q) b := Nat.not_le.mpr hbl
  have hT : ∀ w ∈ lw_all, w.before #[Value.ref b] s = true := fun w h => hts w (z_all_in w h)
  have hown : s.vm.findClass RL = some m.cls := hown
  have hK := hKK.1.1
  obtain ⟨x1, ex1⟩ : ∃ z, z = xs (K.toNatClampNeg + 1) := ⟨_, rfl⟩
  obtain ⟨x2, ex2⟩ : ∃ z, z = xs (K.toNatClampNeg + 2) := ⟨_, rfl⟩
  obtain ⟨x3, ex3⟩ : ∃ z, z = xs (K.toNatClampNeg + 3) := ⟨_, rfl⟩
  obtain ⟨x4, ex4⟩ : ∃ z, z = xs (K.toNatClampNeg + 4) := ⟨_, rfl⟩
  obtain ⟨x5, ex5⟩ : ∃ z, z = xs (K.toNatClampNeg + 5) := ⟨_, rfl⟩
  refine lv_aload_n hx hb dL_law_311 rfl (lv_at hl 2 rfl) ?_
  refine lv_aload_n hx hb dL_law_312 rfl (lv_at hl 3 rfl) ?_
  refine lv_iload_n hx hb dL_law_313 rfl (lv_at hl 0 rfl) ?_
  refine lv_iconst (v := 1) hx hb dL_law_314 (by decide) ?_
  refine lv_iadd hx hb dL_law_315 ?_
  refine lv_topi (fun w1 e_w1 => ?_)
  have i_w1 : w1.toInt = (K.toInt + 1) := z_add e_w1 rfl (show (1 : Int32).toInt = 1 by decide) (by omega)
  refine va_sld hx hb hX hbl hbA hw.2.2 (z_ix i_w1 (by omega)) dL_law_316 ?_
  refine z_lit (y := x1) (by rw [ex1, z_ixK (K := K) (k := 1) i_w1 (by omega)]) ?_
  obtain ⟨fs_, hfo⟩ := z_SX_xo hSX
  refine z_calliV (cells := 164) (slots := 16321) (b := ad 0) (As := [.int x1]) (rest := []) (ci := 9) (q0 := (RX9, TX9, 11)) ⟨hx, hb, hml, hown, hT⟩ (s_X9_fault l hSX) (cwV 1 hT (z_goodV (fun _ h => h) kw_701 kw_702 kw_703 kw_85 kw_704) rfl rfl rfl (by decide +kernel) ⟨by decide, by decide⟩) z_mv hKK hK hw hA (z_SX_mem hSX (by decide)) hfo rfl rfl rfl hl.1 rfl (Nat.le_of_ble_eq_true rfl) dL_law_317 ⟨by decide, by decide⟩ (fun r3 u H locs hp hw => ?_)
  obtain ⟨L2, F2⟩ := u
  obtain ⟨hL2, hfr, hS2⟩ := hp
  have hL2 : L = L2 := hL2
  subst hL2
  have hw : z_H D vwCl (fun q : Nat => s.heap.size ≤ q) s.heap L F2 H locs := hw
  have hSM := z_SM_fr (f2 := F2) hSM (fun i hi => hfr _ (z_SM_mem hSM hi) (fun j hj => (hdis j i hj hi).symm))
  have hSX := hS2
  have hSX : z_SX L F2 cy ad gkp gw gz := hSX
  refine lv_pop hx hb dL_law_320 rfl ?_
  refine lv_aload_n hx hb dL_law_321 rfl (lv_at hl 1 rfl) ?_
  refine lv_aload_n hx hb dL_law_322 rfl (lv_at hl 3 rfl) ?_
  refine lv_iload_n hx hb dL_law_323 rfl (lv_at hl 0 rfl) ?_
  refine lv_iconst (v := 1) hx hb dL_law_324 (by decide) ?_
  refine lv_iadd hx hb dL_law_325 ?_
  refine lv_topi (fun w4 e_w4 => ?_)
  have i_w4 : w4.toInt = (K.toInt + 1) := z_add e_w4 rfl (show (1 : Int32).toInt = 1 by decide) (by omega)
  refine va_sld hx hb hX hbl hbA hw.2.2 (z_ix i_w4 (by omega)) dL_law_326 ?_
  refine z_lit (y := x1) (by rw [ex1, z_ixK (K := K) (k := 1) i_w4 (by omega)]) ?_
  obtain ⟨fs_, hfo⟩ := z_SM_xo hSM
  refine z_calliV (cells := 164) (slots := 16321) (b := bd 0) (As := [.int x1]) (rest := []) (ci := 10) (q0 := (RX10, TX10, 54)) ⟨hx, hb, hml, hown, hT⟩ (s_X10_fault l hSM) (cwV 1 hT (z_goodV (fun _ h => h) kw_1365 kw_1366 kw_1367 kw_96 kw_1368) rfl rfl rfl (by decide +kernel) ⟨by decide, by decide⟩) z_mv hKK hK hw hA (z_SM_mem hSM (by decide)) hfo rfl rfl rfl hl.1 rfl (Nat.le_of_ble_eq_true rfl) dL_law_327 ⟨by decide, by decide⟩ (fun r6 u H locs hp hw => ?_)
  obtain ⟨L2, F5⟩ := u
  obtain ⟨hL2, hfr, hS2⟩ := hp
  have hL2 : L = L2 := hL2
  subst hL2
  have hw : z_H D vwCl (fun q : Nat => s.heap.size ≤ q) s.heap L F5 H locs := hw
  have hSX := z_SX_frL (f2 := F5) hSX (fun _ h => h) (fun i hi => hfr _ (z_SX_mem hSX hi) (fun j hj => hdis i j hi hj))
  have hSM := hS2
  have hSM : z_SM L F5 cy bd gik gwd gmy := hSM
  have hrel0 := hrel
  refine lv_pop hx hb dL_law_330 rfl ?_
  refine lv_goto (tgt := 1615) hx hb dL_law_331 (by decide) ?_
  exact kk _ _ _ _ _ _ _ _ _ hSX hSM hrel hw

set_option maxHeartbeats 4000000 in
set_option maxRecDepth 100000 in
theorem lc_drive {p : Program} {e : Env} {s : State} {m : MethodId} {below : List Frame} {meth : Method} {c : Code} (l : Launch) {b Ln : Nat} {xs : Nat → Int32} {D : va_G} {cy : Nat → ClassId} {adK adV : Nat → Nat} {L : List Nat} {F : Nat → va_E} {H : Heap} {locs : List Loc} {ls : Array Slot} {ad bd : Nat → Nat} {gkp gw gz gik gwd gmy : Nat → Int32} {K : Int32} {xo me : Nat} (C0 : lw_At p s m meth c b Ln xs) (hKK : z_KK D cy adK adV (fun q : Nat => s.heap.size ≤ q) s) (hxo : ad 0 = xo) (hme : bd 0 = me) (hSX : z_SX L F cy ad gkp gw gz) (hSM : z_SM L F cy bd gik gwd gmy) (hdis : ∀ i j : Nat, i < 135 → j < 29 → ad i ≠ bd j) (hrel : z_rel gkp gw gz gik gwd gmy) (hw : z_H D vwCl (fun q : Nat => s.heap.size ≤ q) s.heap L F H locs) (hl : lv_has ls 4 [(3, .int K), (2, .ref me), (1, .ref xo), (0, .ref b)]) (hKr : 0 ≤ K.toInt ∧ K.toInt + 6 ≤ Ln) (hLn : Ln ≤ 3072) (kk : ∀ (F2 : Nat → va_E) (H2 : Heap) (locs2 : List Loc) (a1 a2 a3 a4 a5 a6 : Nat → Int32), z_SX L F2 cy ad a1 a2 a3 → z_SM L F2 cy bd a4 a5 a6 → z_rel a1 a2 a3 a4 a5 a6 → z_H D vwCl (fun q : Nat => s.heap.size ≤ q) s.heap L F2 H2 locs2 → W p l e room_1 s m #[Value.ref b] below meth c H2 locs2 164 16321 (lw_Z below #[Value.ref b] s) (F0 m 1615 ls [])) : W p l e room_1 s m #[Value.ref b] below meth c H locs 164 16321 (lw_Z below #[Value.ref b] s) (F0 m 334 ls []) := by
  subst hxo
  subst hme
  obtain ⟨hx, hb, hr, hml, hown, hts, hX, hbl, hlocks, hgv⟩ := C0
  have hA : ∀ q : Nat, s.heap.size ≤ q → (fun q : Nat => s.heap.size ≤ q) q := fun _ h => h
  have hbA : ¬ (fun q : Nat => s.heap.size ≤ q) b := Nat.not_le.mpr hbl
  have hT : ∀ w ∈ lw_all, w.before #[Value.ref b] s = true := fun w h => hts w (z_all_in w h)
  have hown : s.vm.findClass RL = some m.cls := hown
  have hK := hKK.1.1
  obtain ⟨x1, ex1⟩ : ∃ z, z = xs (K.toNatClampNeg + 1) := ⟨_, rfl⟩
  obtain ⟨x2, ex2⟩ : ∃ z, z = xs (K.toNatClampNeg + 2) := ⟨_, rfl⟩
  obtain ⟨x3, ex3⟩ : ∃ z, z = xs (K.toNatClampNeg + 3) := ⟨_, rfl⟩
  obtain ⟨x4, ex4⟩ : ∃ z, z = xs (K.toNatClampNeg + 4) := ⟨_, rfl⟩
  obtain ⟨x5, ex5⟩ : ∃ z, z = xs (K.toNatClampNeg + 5) := ⟨_, rfl⟩
  refine lv_aload_n hx hb dL_law_334 rfl (lv_at hl 2 rfl) ?_
  refine lv_aload_n hx hb dL_law_335 rfl (lv_at hl 3 rfl) ?_
  refine lv_iload_n hx hb dL_law_336 rfl (lv_at hl 0 rfl) ?_
  refine lv_iconst (v := 1) hx hb dL_law_337 (by decide) ?_
  refine lv_iadd hx hb dL_law_338 ?_
  refine lv_topi (fun w1 e_w1 => ?_)
  have i_w1 : w1.toInt = (K.toInt + 1) := z_add e_w1 rfl (show (1 : Int32).toInt = 1 by decide) (by omega)
  refine va_sld hx hb hX hbl hbA hw.2.2 (z_ix i_w1 (by omega)) dL_law_339 ?_
  refine z_lit (y := x1) (by rw [ex1, z_ixK (K := K) (k := 1) i_w1 (by omega)]) ?_
  refine lv_aload_n hx hb dL_law_340 rfl (lv_at hl 3 rfl) ?_
  refine lv_iload_n hx hb dL_law_341 rfl (lv_at hl 0 rfl) ?_
  refine lv_iconst (v := 2) hx hb dL_law_342 (by decide) ?_
  refine lv_iadd hx hb dL_law_343 ?_
  refine lv_topi (fun w2 e_w2 => ?_)
  have i_w2 : w2.toInt = (K.toInt + 2) := z_add e_w2 rfl (show (2 : Int32).toInt = 2 by decide) (by omega)
  refine va_sld hx hb hX hbl hbA hw.2.2 (z_ix i_w2 (by omega)) dL_law_344 ?_
  refine z_lit (y := x2) (by rw [ex2, z_ixK (K := K) (k := 2) i_w2 (by omega)]) ?_
  obtain ⟨fs_, hfo⟩ := z_SX_xo hSX
  refine z_calliV (cells := 164) (slots := 16321) (b := ad 0) (As := [.int x1, .int x2]) (rest := []) (ci := 9) (q0 := (RX9, TX9, 11)) ⟨hx, hb, hml, hown, hT⟩ (s_X9_drive l hSX) (cwV 2 hT (z_goodV (fun _ h => h) kw_705 kw_706 kw_707 kw_85 kw_708) rfl rfl rfl (by decide +kernel) ⟨by decide, by decide⟩) z_mv hKK hK hw hA (z_SX_mem hSX (by decide)) hfo rfl rfl rfl hl.1 rfl (Nat.le_of_ble_eq_true rfl) dL_law_345 ⟨by decide, by decide⟩ (fun r4 u H locs hp hw => ?_)
  obtain ⟨L2, F3⟩ := u
  obtain ⟨hL2, hfr, hS2⟩ := hp
  have hL2 : L = L2 := hL2
  subst hL2
  have hw : z_H D vwCl (fun q : Nat => s.heap.size ≤ q) s.heap L F3 H locs := hw
  have hSM := z_SM_fr (f2 := F3) hSM (fun i hi => hfr _ (z_SM_mem hSM hi) (fun j hj => (hdis j i hj hi).symm))
  have hSX := hS2
  have hSX : z_SX L F3 cy ad gkp gw gz := hSX
  refine lv_pop hx hb dL_law_348 rfl ?_
  refine lv_aload_n hx hb dL_law_349 rfl (lv_at hl 1 rfl) ?_
  refine lv_aload_n hx hb dL_law_350 rfl (lv_at hl 3 rfl) ?_
  refine lv_iload_n hx hb dL_law_351 rfl (lv_at hl 0 rfl) ?_
  refine lv_iconst (v := 1) hx hb dL_law_352 (by decide) ?_
  refine lv_iadd hx hb dL_law_353 ?_
  refine lv_topi (fun w5 e_w5 => ?_)
  have i_w5 : w5.toInt = (K.toInt + 1) := z_add e_w5 rfl (show (1 : Int32).toInt = 1 by decide) (by omega)
  refine va_sld hx hb hX hbl hbA hw.2.2 (z_ix i_w5 (by omega)) dL_law_354 ?_
  refine z_lit (y := x1) (by rw [ex1, z_ixK (K := K) (k := 1) i_w5 (by omega)]) ?_
  refine lv_aload_n hx hb dL_law_355 rfl (lv_at hl 3 rfl) ?_
  refine lv_iload_n hx hb dL_law_356 rfl (lv_at hl 0 rfl) ?_
  refine lv_iconst (v := 2) hx hb dL_law_357 (by decide) ?_
  refine lv_iadd hx hb dL_law_358 ?_
  refine lv_topi (fun w6 e_w6 => ?_)
  have i_w6 : w6.toInt = (K.toInt + 2) := z_add e_w6 rfl (show (2 : Int32).toInt = 2 by decide) (by omega)
  refine va_sld hx hb hX hbl hbA hw.2.2 (z_ix i_w6 (by omega)) dL_law_359 ?_
  refine z_lit (y := x2) (by rw [ex2, z_ixK (K := K) (k := 2) i_w6 (by omega)]) ?_
  obtain ⟨fs_, hfo⟩ := z_SM_xo hSM
  refine z_calliV (cells := 164) (slots := 16321) (b := bd 0) (As := [.int x1, .int x2]) (rest := []) (ci := 10) (q0 := (RX10, TX10, 54)) ⟨hx, hb, hml, hown, hT⟩ (s_X10_drive l hSM) (cwV 2 hT (z_goodV (fun _ h => h) kw_1478 kw_1479 kw_1480 kw_96 kw_1481) rfl rfl rfl (by decide +kernel) ⟨by decide, by decide⟩) z_mv hKK hK hw hA (z_SM_mem hSM (by decide)) hfo rfl rfl rfl hl.1 rfl (Nat.le_of_ble_eq_true rfl) dL_law_360 ⟨by decide, by decide⟩ (fun r8 u H locs hp hw => ?_)
  obtain ⟨L2, F7⟩ := u
  obtain ⟨hL2, hfr, hS2⟩ := hp
  have hL2 : L = L2 := hL2
  subst hL2
  have hw : z_H D vwCl (fun q : Nat => s.heap.size ≤ q) s.heap L F7 H locs := hw
  have hSX := z_SX_frL (f2 := F7) hSX (fun _ h => h) (fun i hi => hfr _ (z_SX_mem hSX hi) (fun j hj => hdis i j hi hj))
  have hSM := hS2
  have hSM : z_SM L F7 cy bd gik gwd gmy := hSM
  have hrel0 := hrel
  refine lv_pop hx hb dL_law_363 rfl ?_
  refine lv_goto (tgt := 1615) hx hb dL_law_364 (by decide) ?_
  exact kk _ _ _ _ _ _ _ _ _ hSX hSM hrel hw

set_option maxHeartbeats 4000000 in
set_option maxRecDepth 100000 in
theorem lc_goes {p : Program} {e : Env} {s : State} {m : MethodId} {below : List Frame} {meth : Method} {c : Code} (l : Launch) {b Ln : Nat} {xs : Nat → Int32} {D : va_G} {cy : Nat → ClassId} {adK adV : Nat → Nat} {L : List Nat} {F : Nat → va_E} {H : Heap} {locs : List Loc} {ls : Array Slot} {ad bd : Nat → Nat} {gkp gw gz gik gwd gmy : Nat → Int32} {K : Int32} {xo me : Nat} (C0 : lw_At p s m meth c b Ln xs) (hKK : z_KK D cy adK adV (fun q : Nat => s.heap.size ≤ q) s) (hxo : ad 0 = xo) (hme : bd 0 = me) (hSX : z_SX L F cy ad gkp gw gz) (hSM : z_SM L F cy bd gik gwd gmy) (hdis : ∀ i j : Nat, i < 135 → j < 29 → ad i ≠ bd j) (hrel : z_rel gkp gw gz gik gwd gmy) (hw : z_H D vwCl (fun q : Nat => s.heap.size ≤ q) s.heap L F H locs) (hl : lv_has ls 4 [(3, .int K), (2, .ref me), (1, .ref xo), (0, .ref b)]) (hKr : 0 ≤ K.toInt ∧ K.toInt + 6 ≤ Ln) (hLn : Ln ≤ 3072) (kk : ∀ (F2 : Nat → va_E) (H2 : Heap) (locs2 : List Loc) (a1 a2 a3 a4 a5 a6 : Nat → Int32), z_SX L F2 cy ad a1 a2 a3 → z_SM L F2 cy bd a4 a5 a6 → z_rel a1 a2 a3 a4 a5 a6 → z_H D vwCl (fun q : Nat => s.heap.size ≤ q) s.heap L F2 H2 locs2 → W p l e room_1 s m #[Value.ref b] below meth c H2 locs2 164 16321 (lw_Z below #[Value.ref b] s) (F0 m 1615 ls [])) : W p l e room_1 s m #[Value.ref b] below meth c H locs 164 16321 (lw_Z below #[Value.ref b] s) (F0 m 367 ls []) := by
  subst hxo
  subst hme
  obtain ⟨hx, hb, hr, hml, hown, hts, hX, hbl, hlocks, hgv⟩ := C0
  have hA : ∀ q : Nat, s.heap.size ≤ q → (fun q : Nat => s.heap.size ≤ q) q := fun _ h => h
  have hbA : ¬ (fun q : Nat => s.heap.size ≤ q) b := Nat.not_le.mpr hbl
  have hT : ∀ w ∈ lw_all, w.before #[Value.ref b] s = true := fun w h => hts w (z_all_in w h)
  have hown : s.vm.findClass RL = some m.cls := hown
  have hK := hKK.1.1
  obtain ⟨x1, ex1⟩ : ∃ z, z = xs (K.toNatClampNeg + 1) := ⟨_, rfl⟩
  obtain ⟨x2, ex2⟩ : ∃ z, z = xs (K.toNatClampNeg + 2) := ⟨_, rfl⟩
  obtain ⟨x3, ex3⟩ : ∃ z, z = xs (K.toNatClampNeg + 3) := ⟨_, rfl⟩
  obtain ⟨x4, ex4⟩ : ∃ z, z = xs (K.toNatClampNeg + 4) := ⟨_, rfl⟩
  obtain ⟨x5, ex5⟩ : ∃ z, z = xs (K.toNatClampNeg + 5) := ⟨_, rfl⟩
  refine lv_aload_n hx hb dL_law_367 rfl (lv_at hl 2 rfl) ?_
  refine lv_aload_n hx hb dL_law_368 rfl (lv_at hl 3 rfl) ?_
  refine lv_iload_n hx hb dL_law_369 rfl (lv_at hl 0 rfl) ?_
  refine lv_iconst (v := 1) hx hb dL_law_370 (by decide) ?_
  refine lv_iadd hx hb dL_law_371 ?_
  refine lv_topi (fun w1 e_w1 => ?_)
  have i_w1 : w1.toInt = (K.toInt + 1) := z_add e_w1 rfl (show (1 : Int32).toInt = 1 by decide) (by omega)
  refine va_sld hx hb hX hbl hbA hw.2.2 (z_ix i_w1 (by omega)) dL_law_372 ?_
  refine z_lit (y := x1) (by rw [ex1, z_ixK (K := K) (k := 1) i_w1 (by omega)]) ?_
  obtain ⟨fs_, hfo⟩ := z_SX_xo hSX
  refine z_calliV (cells := 164) (slots := 16321) (b := ad 0) (As := [.int x1]) (rest := []) (ci := 9) (q0 := (RX9, TX9, 11)) ⟨hx, hb, hml, hown, hT⟩ (s_X9_goes l hSX) (cwV 1 hT (z_goodV (fun _ h => h) kw_713 kw_714 kw_715 kw_85 kw_716) rfl rfl rfl (by decide +kernel) ⟨by decide, by decide⟩) z_mv hKK hK hw hA (z_SX_mem hSX (by decide)) hfo rfl rfl rfl hl.1 rfl (Nat.le_of_ble_eq_true rfl) dL_law_373 ⟨by decide, by decide⟩ (fun r3 u H locs hp hw => ?_)
  obtain ⟨L2, F2⟩ := u
  obtain ⟨hL2, hfr, hS2⟩ := hp
  have hL2 : L = L2 := hL2
  subst hL2
  have hw : z_H D vwCl (fun q : Nat => s.heap.size ≤ q) s.heap L F2 H locs := hw
  have hSM := z_SM_fr (f2 := F2) hSM (fun i hi => hfr _ (z_SM_mem hSM hi) (fun j hj => (hdis j i hj hi).symm))
  have hSX := hS2
  have hSX : z_SX L F2 cy ad gkp gw gz := hSX
  refine lv_pop hx hb dL_law_376 rfl ?_
  refine lv_aload_n hx hb dL_law_377 rfl (lv_at hl 1 rfl) ?_
  refine lv_aload_n hx hb dL_law_378 rfl (lv_at hl 3 rfl) ?_
  refine lv_iload_n hx hb dL_law_379 rfl (lv_at hl 0 rfl) ?_
  refine lv_iconst (v := 1) hx hb dL_law_380 (by decide) ?_
  refine lv_iadd hx hb dL_law_381 ?_
  refine lv_topi (fun w4 e_w4 => ?_)
  have i_w4 : w4.toInt = (K.toInt + 1) := z_add e_w4 rfl (show (1 : Int32).toInt = 1 by decide) (by omega)
  refine va_sld hx hb hX hbl hbA hw.2.2 (z_ix i_w4 (by omega)) dL_law_382 ?_
  refine z_lit (y := x1) (by rw [ex1, z_ixK (K := K) (k := 1) i_w4 (by omega)]) ?_
  obtain ⟨fs_, hfo⟩ := z_SM_xo hSM
  refine z_calliV (cells := 164) (slots := 16321) (b := bd 0) (As := [.int x1]) (rest := []) (ci := 10) (q0 := (RX10, TX10, 54)) ⟨hx, hb, hml, hown, hT⟩ (s_X10_goes l hSM) (cwV 1 hT (z_goodV (fun _ h => h) kw_1491 kw_1492 kw_1493 kw_96 kw_1494) rfl rfl rfl (by decide +kernel) ⟨by decide, by decide⟩) z_mv hKK hK hw hA (z_SM_mem hSM (by decide)) hfo rfl rfl rfl hl.1 rfl (Nat.le_of_ble_eq_true rfl) dL_law_383 ⟨by decide, by decide⟩ (fun r6 u H locs hp hw => ?_)
  obtain ⟨L2, F5⟩ := u
  obtain ⟨hL2, hfr, hS2⟩ := hp
  have hL2 : L = L2 := hL2
  subst hL2
  have hw : z_H D vwCl (fun q : Nat => s.heap.size ≤ q) s.heap L F5 H locs := hw
  have hSX := z_SX_frL (f2 := F5) hSX (fun _ h => h) (fun i hi => hfr _ (z_SX_mem hSX hi) (fun j hj => hdis i j hi hj))
  have hSM := hS2
  have hSM : z_SM L F5 cy bd gik gwd gmy := hSM
  have hrel0 := hrel
  refine lv_pop hx hb dL_law_386 rfl ?_
  refine lv_goto (tgt := 1615) hx hb dL_law_387 (by decide) ?_
  exact kk _ _ _ _ _ _ _ _ _ hSX hSM hrel hw

set_option maxHeartbeats 4000000 in
set_option maxRecDepth 100000 in
theorem lc_law {p : Program} {e : Env} {s : State} {m : MethodId} {below : List Frame} {meth : Method} {c : Code} (l : Launch) {b Ln : Nat} {xs : Nat → Int32} {D : va_G} {cy : Nat → ClassId} {adK adV : Nat → Nat} {L : List Nat} {F : Nat → va_E} {H : Heap} {locs : List Loc} {ls : Array Slot} {ad bd : Nat → Nat} {gkp gw gz gik gwd gmy : Nat → Int32} {K : Int32} {xo me : Nat} (C0 : lw_At p s m meth c b Ln xs) (hKK : z_KK D cy adK adV (fun q : Nat => s.heap.size ≤ q) s) (hxo : ad 0 = xo) (hme : bd 0 = me) (hSX : z_SX L F cy ad gkp gw gz) (hSM : z_SM L F cy bd gik gwd gmy) (hdis : ∀ i j : Nat, i < 135 → j < 29 → ad i ≠ bd j) (hrel : z_rel gkp gw gz gik gwd gmy) (hw : z_H D vwCl (fun q : Nat => s.heap.size ≤ q) s.heap L F H locs) (hl : lv_has ls 4 [(3, .int K), (2, .ref me), (1, .ref xo), (0, .ref b)]) (hKr : 0 ≤ K.toInt ∧ K.toInt + 6 ≤ Ln) (hLn : Ln ≤ 3072) (kk : ∀ (F2 : Nat → va_E) (H2 : Heap) (locs2 : List Loc) (a1 a2 a3 a4 a5 a6 : Nat → Int32), z_SX L F2 cy ad a1 a2 a3 → z_SM L F2 cy bd a4 a5 a6 → z_rel a1 a2 a3 a4 a5 a6 → z_H D vwCl (fun q : Nat => s.heap.size ≤ q) s.heap L F2 H2 locs2 → W p l e room_1 s m #[Value.ref b] below meth c H2 locs2 164 16321 (lw_Z below #[Value.ref b] s) (F0 m 1615 ls [])) : W p l e room_1 s m #[Value.ref b] below meth c H locs 164 16321 (lw_Z below #[Value.ref b] s) (F0 m 390 ls []) := by
  subst hxo
  subst hme
  obtain ⟨hx, hb, hr, hml, hown, hts, hX, hbl, hlocks, hgv⟩ := C0
  have hA : ∀ q : Nat, s.heap.size ≤ q → (fun q : Nat => s.heap.size ≤ q) q := fun _ h => h
  have hbA : ¬ (fun q : Nat => s.heap.size ≤ q) b := Nat.not_le.mpr hbl
  have hT : ∀ w ∈ lw_all, w.before #[Value.ref b] s = true := fun w h => hts w (z_all_in w h)
  have hown : s.vm.findClass RL = some m.cls := hown
  have hK := hKK.1.1
  obtain ⟨x1, ex1⟩ : ∃ z, z = xs (K.toNatClampNeg + 1) := ⟨_, rfl⟩
  obtain ⟨x2, ex2⟩ : ∃ z, z = xs (K.toNatClampNeg + 2) := ⟨_, rfl⟩
  obtain ⟨x3, ex3⟩ : ∃ z, z = xs (K.toNatClampNeg + 3) := ⟨_, rfl⟩
  obtain ⟨x4, ex4⟩ : ∃ z, z = xs (K.toNatClampNeg + 4) := ⟨_, rfl⟩
  obtain ⟨x5, ex5⟩ : ∃ z, z = xs (K.toNatClampNeg + 5) := ⟨_, rfl⟩
  refine lv_aload_n hx hb dL_law_390 rfl (lv_at hl 2 rfl) ?_
  refine lv_aload_n hx hb dL_law_391 rfl (lv_at hl 3 rfl) ?_
  refine lv_iload_n hx hb dL_law_392 rfl (lv_at hl 0 rfl) ?_
  refine lv_iconst (v := 1) hx hb dL_law_393 (by decide) ?_
  refine lv_iadd hx hb dL_law_394 ?_
  refine lv_topi (fun w1 e_w1 => ?_)
  have i_w1 : w1.toInt = (K.toInt + 1) := z_add e_w1 rfl (show (1 : Int32).toInt = 1 by decide) (by omega)
  refine va_sld hx hb hX hbl hbA hw.2.2 (z_ix i_w1 (by omega)) dL_law_395 ?_
  refine z_lit (y := x1) (by rw [ex1, z_ixK (K := K) (k := 1) i_w1 (by omega)]) ?_
  refine lv_aload_n hx hb dL_law_396 rfl (lv_at hl 3 rfl) ?_
  refine lv_iload_n hx hb dL_law_397 rfl (lv_at hl 0 rfl) ?_
  refine lv_iconst (v := 2) hx hb dL_law_398 (by decide) ?_
  refine lv_iadd hx hb dL_law_399 ?_
  refine lv_topi (fun w2 e_w2 => ?_)
  have i_w2 : w2.toInt = (K.toInt + 2) := z_add e_w2 rfl (show (2 : Int32).toInt = 2 by decide) (by omega)
  refine va_sld hx hb hX hbl hbA hw.2.2 (z_ix i_w2 (by omega)) dL_law_400 ?_
  refine z_lit (y := x2) (by rw [ex2, z_ixK (K := K) (k := 2) i_w2 (by omega)]) ?_
  obtain ⟨fs_, hfo⟩ := z_SX_xo hSX
  refine z_calliV (cells := 164) (slots := 16321) (b := ad 0) (As := [.int x1, .int x2]) (rest := []) (ci := 9) (q0 := (RX9, TX9, 11)) ⟨hx, hb, hml, hown, hT⟩ (s_X9_law l hSX) (cwV 2 hT (z_goodV (fun _ h => h) kw_721 kw_722 kw_723 kw_85 kw_724) rfl rfl rfl (by decide +kernel) ⟨by decide, by decide⟩) z_mv hKK hK hw hA (z_SX_mem hSX (by decide)) hfo rfl rfl rfl hl.1 rfl (Nat.le_of_ble_eq_true rfl) dL_law_401 ⟨by decide, by decide⟩ (fun r4 u H locs hp hw => ?_)
  obtain ⟨L2, F3⟩ := u
  obtain ⟨hL2, hfr, hS2⟩ := hp
  have hL2 : L = L2 := hL2
  subst hL2
  have hw : z_H D vwCl (fun q : Nat => s.heap.size ≤ q) s.heap L F3 H locs := hw
  have hSM := z_SM_fr (f2 := F3) hSM (fun i hi => hfr _ (z_SM_mem hSM hi) (fun j hj => (hdis j i hj hi).symm))
  have hSX := hS2
  have hSX : z_SX L F3 cy ad gkp gw gz := hSX
  refine lv_pop hx hb dL_law_404 rfl ?_
  refine lv_aload_n hx hb dL_law_405 rfl (lv_at hl 1 rfl) ?_
  refine lv_aload_n hx hb dL_law_406 rfl (lv_at hl 3 rfl) ?_
  refine lv_iload_n hx hb dL_law_407 rfl (lv_at hl 0 rfl) ?_
  refine lv_iconst (v := 1) hx hb dL_law_408 (by decide) ?_
  refine lv_iadd hx hb dL_law_409 ?_
  refine lv_topi (fun w5 e_w5 => ?_)
  have i_w5 : w5.toInt = (K.toInt + 1) := z_add e_w5 rfl (show (1 : Int32).toInt = 1 by decide) (by omega)
  refine va_sld hx hb hX hbl hbA hw.2.2 (z_ix i_w5 (by omega)) dL_law_410 ?_
  refine z_lit (y := x1) (by rw [ex1, z_ixK (K := K) (k := 1) i_w5 (by omega)]) ?_
  refine lv_aload_n hx hb dL_law_411 rfl (lv_at hl 3 rfl) ?_
  refine lv_iload_n hx hb dL_law_412 rfl (lv_at hl 0 rfl) ?_
  refine lv_iconst (v := 2) hx hb dL_law_413 (by decide) ?_
  refine lv_iadd hx hb dL_law_414 ?_
  refine lv_topi (fun w6 e_w6 => ?_)
  have i_w6 : w6.toInt = (K.toInt + 2) := z_add e_w6 rfl (show (2 : Int32).toInt = 2 by decide) (by omega)
  refine va_sld hx hb hX hbl hbA hw.2.2 (z_ix i_w6 (by omega)) dL_law_415 ?_
  refine z_lit (y := x2) (by rw [ex2, z_ixK (K := K) (k := 2) i_w6 (by omega)]) ?_
  obtain ⟨fs_, hfo⟩ := z_SM_xo hSM
  refine z_calliV (cells := 164) (slots := 16321) (b := bd 0) (As := [.int x1, .int x2]) (rest := []) (ci := 10) (q0 := (RX10, TX10, 54)) ⟨hx, hb, hml, hown, hT⟩ (s_X10_law l hSM) (cwV 2 hT (z_goodV (fun _ h => h) kw_1503 kw_1504 kw_1505 kw_96 kw_1506) rfl rfl rfl (by decide +kernel) ⟨by decide, by decide⟩) z_mv hKK hK hw hA (z_SM_mem hSM (by decide)) hfo rfl rfl rfl hl.1 rfl (Nat.le_of_ble_eq_true rfl) dL_law_416 ⟨by decide, by decide⟩ (fun r8 u H locs hp hw => ?_)
  obtain ⟨L2, F7⟩ := u
  obtain ⟨hL2, hfr, hS2⟩ := hp
  have hL2 : L = L2 := hL2
  subst hL2
  have hw : z_H D vwCl (fun q : Nat => s.heap.size ≤ q) s.heap L F7 H locs := hw
  have hSX := z_SX_frL (f2 := F7) hSX (fun _ h => h) (fun i hi => hfr _ (z_SX_mem hSX hi) (fun j hj => hdis i j hi hj))
  have hSM := hS2
  have hSM : z_SM L F7 cy bd gik gwd gmy := hSM
  have hrel0 := hrel
  refine lv_pop hx hb dL_law_419 rfl ?_
  refine lv_goto (tgt := 1615) hx hb dL_law_420 (by decide) ?_
  exact kk _ _ _ _ _ _ _ _ _ hSX hSM hrel hw

set_option maxHeartbeats 4000000 in
set_option maxRecDepth 100000 in
theorem lc_sets {p : Program} {e : Env} {s : State} {m : MethodId} {below : List Frame} {meth : Method} {c : Code} (l : Launch) {b Ln : Nat} {xs : Nat → Int32} {D : va_G} {cy : Nat → ClassId} {adK adV : Nat → Nat} {L : List Nat} {F : Nat → va_E} {H : Heap} {locs : List Loc} {ls : Array Slot} {ad bd : Nat → Nat} {gkp gw gz gik gwd gmy : Nat → Int32} {K : Int32} {xo me : Nat} (C0 : lw_At p s m meth c b Ln xs) (hKK : z_KK D cy adK adV (fun q : Nat => s.heap.size ≤ q) s) (hxo : ad 0 = xo) (hme : bd 0 = me) (hSX : z_SX L F cy ad gkp gw gz) (hSM : z_SM L F cy bd gik gwd gmy) (hdis : ∀ i j : Nat, i < 135 → j < 29 → ad i ≠ bd j) (hrel : z_rel gkp gw gz gik gwd gmy) (hw : z_H D vwCl (fun q : Nat => s.heap.size ≤ q) s.heap L F H locs) (hl : lv_has ls 4 [(3, .int K), (2, .ref me), (1, .ref xo), (0, .ref b)]) (hKr : 0 ≤ K.toInt ∧ K.toInt + 6 ≤ Ln) (hLn : Ln ≤ 3072) (kk : ∀ (F2 : Nat → va_E) (H2 : Heap) (locs2 : List Loc) (a1 a2 a3 a4 a5 a6 : Nat → Int32), z_SX L F2 cy ad a1 a2 a3 → z_SM L F2 cy bd a4 a5 a6 → z_rel a1 a2 a3 a4 a5 a6 → z_H D vwCl (fun q : Nat => s.heap.size ≤ q) s.heap L F2 H2 locs2 → W p l e room_1 s m #[Value.ref b] below meth c H2 locs2 164 16321 (lw_Z below #[Value.ref b] s) (F0 m 1615 ls [])) : W p l e room_1 s m #[Value.ref b] below meth c H locs 164 16321 (lw_Z below #[Value.ref b] s) (F0 m 423 ls []) := by
  subst hxo
  subst hme
  obtain ⟨hx, hb, hr, hml, hown, hts, hX, hbl, hlocks, hgv⟩ := C0
  have hA : ∀ q : Nat, s.heap.size ≤ q → (fun q : Nat => s.heap.size ≤ q) q := fun _ h => h
  have hbA : ¬ (fun q : Nat => s.heap.size ≤ q) b := Nat.not_le.mpr hbl
  have hT : ∀ w ∈ lw_all, w.before #[Value.ref b] s = true := fun w h => hts w (z_all_in w h)
  have hown : s.vm.findClass RL = some m.cls := hown
  have hK := hKK.1.1
  obtain ⟨x1, ex1⟩ : ∃ z, z = xs (K.toNatClampNeg + 1) := ⟨_, rfl⟩
  obtain ⟨x2, ex2⟩ : ∃ z, z = xs (K.toNatClampNeg + 2) := ⟨_, rfl⟩
  obtain ⟨x3, ex3⟩ : ∃ z, z = xs (K.toNatClampNeg + 3) := ⟨_, rfl⟩
  obtain ⟨x4, ex4⟩ : ∃ z, z = xs (K.toNatClampNeg + 4) := ⟨_, rfl⟩
  obtain ⟨x5, ex5⟩ : ∃ z, z = xs (K.toNatClampNeg + 5) := ⟨_, rfl⟩
  refine lv_aload_n hx hb dL_law_423 rfl (lv_at hl 2 rfl) ?_
  refine lv_aload_n hx hb dL_law_424 rfl (lv_at hl 3 rfl) ?_
  refine lv_iload_n hx hb dL_law_425 rfl (lv_at hl 0 rfl) ?_
  refine lv_iconst (v := 1) hx hb dL_law_426 (by decide) ?_
  refine lv_iadd hx hb dL_law_427 ?_
  refine lv_topi (fun w1 e_w1 => ?_)
  have i_w1 : w1.toInt = (K.toInt + 1) := z_add e_w1 rfl (show (1 : Int32).toInt = 1 by decide) (by omega)
  refine va_sld hx hb hX hbl hbA hw.2.2 (z_ix i_w1 (by omega)) dL_law_428 ?_
  refine z_lit (y := x1) (by rw [ex1, z_ixK (K := K) (k := 1) i_w1 (by omega)]) ?_
  refine lv_aload_n hx hb dL_law_429 rfl (lv_at hl 3 rfl) ?_
  refine lv_iload_n hx hb dL_law_430 rfl (lv_at hl 0 rfl) ?_
  refine lv_iconst (v := 2) hx hb dL_law_431 (by decide) ?_
  refine lv_iadd hx hb dL_law_432 ?_
  refine lv_topi (fun w2 e_w2 => ?_)
  have i_w2 : w2.toInt = (K.toInt + 2) := z_add e_w2 rfl (show (2 : Int32).toInt = 2 by decide) (by omega)
  refine va_sld hx hb hX hbl hbA hw.2.2 (z_ix i_w2 (by omega)) dL_law_433 ?_
  refine z_lit (y := x2) (by rw [ex2, z_ixK (K := K) (k := 2) i_w2 (by omega)]) ?_
  refine lv_aload_n hx hb dL_law_434 rfl (lv_at hl 3 rfl) ?_
  refine lv_iload_n hx hb dL_law_435 rfl (lv_at hl 0 rfl) ?_
  refine lv_iconst (v := 3) hx hb dL_law_436 (by decide) ?_
  refine lv_iadd hx hb dL_law_437 ?_
  refine lv_topi (fun w3 e_w3 => ?_)
  have i_w3 : w3.toInt = (K.toInt + 3) := z_add e_w3 rfl (show (3 : Int32).toInt = 3 by decide) (by omega)
  refine va_sld hx hb hX hbl hbA hw.2.2 (z_ix i_w3 (by omega)) dL_law_438 ?_
  refine z_lit (y := x3) (by rw [ex3, z_ixK (K := K) (k := 3) i_w3 (by omega)]) ?_
  obtain ⟨fs_, hfo⟩ := z_SX_xo hSX
  refine z_calliV (cells := 164) (slots := 16321) (b := ad 0) (As := [.int x1, .int x2, .int x3]) (rest := []) (ci := 9) (q0 := (RX9, TX9, 11)) ⟨hx, hb, hml, hown, hT⟩ (s_X9_sets l hSX) (cwV 3 hT (z_goodV (fun _ h => h) kw_732 kw_733 kw_734 kw_85 kw_735) rfl rfl rfl (by decide +kernel) ⟨by decide, by decide⟩) z_mv hKK hK hw hA (z_SX_mem hSX (by decide)) hfo rfl rfl rfl hl.1 rfl (Nat.le_of_ble_eq_true rfl) dL_law_439 ⟨by decide, by decide⟩ (fun r5 u H locs hp hw => ?_)
  obtain ⟨L2, F4⟩ := u
  obtain ⟨hL2, hfr, hS2⟩ := hp
  have hL2 : L = L2 := hL2
  subst hL2
  have hw : z_H D vwCl (fun q : Nat => s.heap.size ≤ q) s.heap L F4 H locs := hw
  have hSM := z_SM_fr (f2 := F4) hSM (fun i hi => hfr _ (z_SM_mem hSM hi) (fun j hj => (hdis j i hj hi).symm))
  have hSX := hS2
  have hSX : z_SX L F4 cy ad gkp gw gz := hSX
  refine lv_pop hx hb dL_law_442 rfl ?_
  refine lv_aload_n hx hb dL_law_443 rfl (lv_at hl 1 rfl) ?_
  refine lv_aload_n hx hb dL_law_444 rfl (lv_at hl 3 rfl) ?_
  refine lv_iload_n hx hb dL_law_445 rfl (lv_at hl 0 rfl) ?_
  refine lv_iconst (v := 1) hx hb dL_law_446 (by decide) ?_
  refine lv_iadd hx hb dL_law_447 ?_
  refine lv_topi (fun w6 e_w6 => ?_)
  have i_w6 : w6.toInt = (K.toInt + 1) := z_add e_w6 rfl (show (1 : Int32).toInt = 1 by decide) (by omega)
  refine va_sld hx hb hX hbl hbA hw.2.2 (z_ix i_w6 (by omega)) dL_law_448 ?_
  refine z_lit (y := x1) (by rw [ex1, z_ixK (K := K) (k := 1) i_w6 (by omega)]) ?_
  refine lv_aload_n hx hb dL_law_449 rfl (lv_at hl 3 rfl) ?_
  refine lv_iload_n hx hb dL_law_450 rfl (lv_at hl 0 rfl) ?_
  refine lv_iconst (v := 2) hx hb dL_law_451 (by decide) ?_
  refine lv_iadd hx hb dL_law_452 ?_
  refine lv_topi (fun w7 e_w7 => ?_)
  have i_w7 : w7.toInt = (K.toInt + 2) := z_add e_w7 rfl (show (2 : Int32).toInt = 2 by decide) (by omega)
  refine va_sld hx hb hX hbl hbA hw.2.2 (z_ix i_w7 (by omega)) dL_law_453 ?_
  refine z_lit (y := x2) (by rw [ex2, z_ixK (K := K) (k := 2) i_w7 (by omega)]) ?_
  refine lv_aload_n hx hb dL_law_454 rfl (lv_at hl 3 rfl) ?_
  refine lv_iload_n hx hb dL_law_455 rfl (lv_at hl 0 rfl) ?_
  refine lv_iconst (v := 3) hx hb dL_law_456 (by decide) ?_
  refine lv_iadd hx hb dL_law_457 ?_
  refine lv_topi (fun w8 e_w8 => ?_)
  have i_w8 : w8.toInt = (K.toInt + 3) := z_add e_w8 rfl (show (3 : Int32).toInt = 3 by decide) (by omega)
  refine va_sld hx hb hX hbl hbA hw.2.2 (z_ix i_w8 (by omega)) dL_law_458 ?_
  refine z_lit (y := x3) (by rw [ex3, z_ixK (K := K) (k := 3) i_w8 (by omega)]) ?_
  obtain ⟨fs_, hfo⟩ := z_SM_xo hSM
  refine z_calliV (cells := 164) (slots := 16321) (b := bd 0) (As := [.int x1, .int x2, .int x3]) (rest := []) (ci := 10) (q0 := (RX10, TX10, 54)) ⟨hx, hb, hml, hown, hT⟩ (s_X10_sets l hSM) (cwV 3 hT (z_goodV (fun _ h => h) kw_1515 kw_1516 kw_1517 kw_96 kw_1518) rfl rfl rfl (by decide +kernel) ⟨by decide, by decide⟩) z_mv hKK hK hw hA (z_SM_mem hSM (by decide)) hfo rfl rfl rfl hl.1 rfl (Nat.le_of_ble_eq_true rfl) dL_law_459 ⟨by decide, by decide⟩ (fun r10 u H locs hp hw => ?_)
  obtain ⟨L2, F9⟩ := u
  obtain ⟨hL2, hfr, hS2⟩ := hp
  have hL2 : L = L2 := hL2
  subst hL2
  have hw : z_H D vwCl (fun q : Nat => s.heap.size ≤ q) s.heap L F9 H locs := hw
  have hSX := z_SX_frL (f2 := F9) hSX (fun _ h => h) (fun i hi => hfr _ (z_SX_mem hSX hi) (fun j hj => hdis i j hi hj))
  have hSM := hS2
  have hSM : z_SM L F9 cy bd gik gwd gmy := hSM
  have hrel0 := hrel
  refine lv_pop hx hb dL_law_462 rfl ?_
  refine lv_goto (tgt := 1615) hx hb dL_law_463 (by decide) ?_
  exact kk _ _ _ _ _ _ _ _ _ hSX hSM hrel hw

set_option maxHeartbeats 4000000 in
set_option maxRecDepth 100000 in
theorem lc_counter {p : Program} {e : Env} {s : State} {m : MethodId} {below : List Frame} {meth : Method} {c : Code} (l : Launch) {b Ln : Nat} {xs : Nat → Int32} {D : va_G} {cy : Nat → ClassId} {adK adV : Nat → Nat} {L : List Nat} {F : Nat → va_E} {H : Heap} {locs : List Loc} {ls : Array Slot} {ad bd : Nat → Nat} {gkp gw gz gik gwd gmy : Nat → Int32} {K : Int32} {xo me : Nat} (C0 : lw_At p s m meth c b Ln xs) (hKK : z_KK D cy adK adV (fun q : Nat => s.heap.size ≤ q) s) (hxo : ad 0 = xo) (hme : bd 0 = me) (hSX : z_SX L F cy ad gkp gw gz) (hSM : z_SM L F cy bd gik gwd gmy) (hdis : ∀ i j : Nat, i < 135 → j < 29 → ad i ≠ bd j) (hrel : z_rel gkp gw gz gik gwd gmy) (hw : z_H D vwCl (fun q : Nat => s.heap.size ≤ q) s.heap L F H locs) (hl : lv_has ls 4 [(3, .int K), (2, .ref me), (1, .ref xo), (0, .ref b)]) (hKr : 0 ≤ K.toInt ∧ K.toInt + 6 ≤ Ln) (hLn : Ln ≤ 3072) (kk : ∀ (F2 : Nat → va_E) (H2 : Heap) (locs2 : List Loc) (a1 a2 a3 a4 a5 a6 : Nat → Int32), z_SX L F2 cy ad a1 a2 a3 → z_SM L F2 cy bd a4 a5 a6 → z_rel a1 a2 a3 a4 a5 a6 → z_H D vwCl (fun q : Nat => s.heap.size ≤ q) s.heap L F2 H2 locs2 → W p l e room_1 s m #[Value.ref b] below meth c H2 locs2 164 16321 (lw_Z below #[Value.ref b] s) (F0 m 1615 ls [])) : W p l e room_1 s m #[Value.ref b] below meth c H locs 164 16321 (lw_Z below #[Value.ref b] s) (F0 m 466 ls []) := by
  subst hxo
  subst hme
  obtain ⟨hx, hb, hr, hml, hown, hts, hX, hbl, hlocks, hgv⟩ := C0
  have hA : ∀ q : Nat, s.heap.size ≤ q → (fun q : Nat => s.heap.size ≤ q) q := fun _ h => h
  have hbA : ¬ (fun q : Nat => s.heap.size ≤ q) b := Nat.not_le.mpr hbl
  have hT : ∀ w ∈ lw_all, w.before #[Value.ref b] s = true := fun w h => hts w (z_all_in w h)
  have hown : s.vm.findClass RL = some m.cls := hown
  have hK := hKK.1.1
  obtain ⟨x1, ex1⟩ : ∃ z, z = xs (K.toNatClampNeg + 1) := ⟨_, rfl⟩
  obtain ⟨x2, ex2⟩ : ∃ z, z = xs (K.toNatClampNeg + 2) := ⟨_, rfl⟩
  obtain ⟨x3, ex3⟩ : ∃ z, z = xs (K.toNatClampNeg + 3) := ⟨_, rfl⟩
  obtain ⟨x4, ex4⟩ : ∃ z, z = xs (K.toNatClampNeg + 4) := ⟨_, rfl⟩
  obtain ⟨x5, ex5⟩ : ∃ z, z = xs (K.toNatClampNeg + 5) := ⟨_, rfl⟩
  refine lv_aload_n hx hb dL_law_466 rfl (lv_at hl 2 rfl) ?_
  refine lv_aload_n hx hb dL_law_467 rfl (lv_at hl 3 rfl) ?_
  refine lv_iload_n hx hb dL_law_468 rfl (lv_at hl 0 rfl) ?_
  refine lv_iconst (v := 1) hx hb dL_law_469 (by decide) ?_
  refine lv_iadd hx hb dL_law_470 ?_
  refine lv_topi (fun w1 e_w1 => ?_)
  have i_w1 : w1.toInt = (K.toInt + 1) := z_add e_w1 rfl (show (1 : Int32).toInt = 1 by decide) (by omega)
  refine va_sld hx hb hX hbl hbA hw.2.2 (z_ix i_w1 (by omega)) dL_law_471 ?_
  refine z_lit (y := x1) (by rw [ex1, z_ixK (K := K) (k := 1) i_w1 (by omega)]) ?_
  refine lv_aload_n hx hb dL_law_472 rfl (lv_at hl 3 rfl) ?_
  refine lv_iload_n hx hb dL_law_473 rfl (lv_at hl 0 rfl) ?_
  refine lv_iconst (v := 2) hx hb dL_law_474 (by decide) ?_
  refine lv_iadd hx hb dL_law_475 ?_
  refine lv_topi (fun w2 e_w2 => ?_)
  have i_w2 : w2.toInt = (K.toInt + 2) := z_add e_w2 rfl (show (2 : Int32).toInt = 2 by decide) (by omega)
  refine va_sld hx hb hX hbl hbA hw.2.2 (z_ix i_w2 (by omega)) dL_law_476 ?_
  refine z_lit (y := x2) (by rw [ex2, z_ixK (K := K) (k := 2) i_w2 (by omega)]) ?_
  refine lv_aload_n hx hb dL_law_477 rfl (lv_at hl 3 rfl) ?_
  refine lv_iload_n hx hb dL_law_478 rfl (lv_at hl 0 rfl) ?_
  refine lv_iconst (v := 3) hx hb dL_law_479 (by decide) ?_
  refine lv_iadd hx hb dL_law_480 ?_
  refine lv_topi (fun w3 e_w3 => ?_)
  have i_w3 : w3.toInt = (K.toInt + 3) := z_add e_w3 rfl (show (3 : Int32).toInt = 3 by decide) (by omega)
  refine va_sld hx hb hX hbl hbA hw.2.2 (z_ix i_w3 (by omega)) dL_law_481 ?_
  refine z_lit (y := x3) (by rw [ex3, z_ixK (K := K) (k := 3) i_w3 (by omega)]) ?_
  obtain ⟨fs_, hfo⟩ := z_SX_xo hSX
  refine z_calliV (cells := 164) (slots := 16321) (b := ad 0) (As := [.int x1, .int x2, .int x3]) (rest := []) (ci := 9) (q0 := (RX9, TX9, 11)) ⟨hx, hb, hml, hown, hT⟩ (s_X9_counter l hSX) (cwV 3 hT (z_goodV (fun _ h => h) kw_747 kw_748 kw_749 kw_85 kw_750) rfl rfl rfl (by decide +kernel) ⟨by decide, by decide⟩) z_mv hKK hK hw hA (z_SX_mem hSX (by decide)) hfo rfl rfl rfl hl.1 rfl (Nat.le_of_ble_eq_true rfl) dL_law_482 ⟨by decide, by decide⟩ (fun r5 u H locs hp hw => ?_)
  obtain ⟨L2, F4⟩ := u
  obtain ⟨hL2, hfr, hS2⟩ := hp
  have hL2 : L = L2 := hL2
  subst hL2
  have hw : z_H D vwCl (fun q : Nat => s.heap.size ≤ q) s.heap L F4 H locs := hw
  have hSM := z_SM_fr (f2 := F4) hSM (fun i hi => hfr _ (z_SM_mem hSM hi) (fun j hj => (hdis j i hj hi).symm))
  have hSX := hS2
  have hSX : z_SX L F4 cy ad gkp gw gz := hSX
  refine lv_pop hx hb dL_law_485 rfl ?_
  refine lv_aload_n hx hb dL_law_486 rfl (lv_at hl 1 rfl) ?_
  refine lv_aload_n hx hb dL_law_487 rfl (lv_at hl 3 rfl) ?_
  refine lv_iload_n hx hb dL_law_488 rfl (lv_at hl 0 rfl) ?_
  refine lv_iconst (v := 1) hx hb dL_law_489 (by decide) ?_
  refine lv_iadd hx hb dL_law_490 ?_
  refine lv_topi (fun w6 e_w6 => ?_)
  have i_w6 : w6.toInt = (K.toInt + 1) := z_add e_w6 rfl (show (1 : Int32).toInt = 1 by decide) (by omega)
  refine va_sld hx hb hX hbl hbA hw.2.2 (z_ix i_w6 (by omega)) dL_law_491 ?_
  refine z_lit (y := x1) (by rw [ex1, z_ixK (K := K) (k := 1) i_w6 (by omega)]) ?_
  refine lv_aload_n hx hb dL_law_492 rfl (lv_at hl 3 rfl) ?_
  refine lv_iload_n hx hb dL_law_493 rfl (lv_at hl 0 rfl) ?_
  refine lv_iconst (v := 2) hx hb dL_law_494 (by decide) ?_
  refine lv_iadd hx hb dL_law_495 ?_
  refine lv_topi (fun w7 e_w7 => ?_)
  have i_w7 : w7.toInt = (K.toInt + 2) := z_add e_w7 rfl (show (2 : Int32).toInt = 2 by decide) (by omega)
  refine va_sld hx hb hX hbl hbA hw.2.2 (z_ix i_w7 (by omega)) dL_law_496 ?_
  refine z_lit (y := x2) (by rw [ex2, z_ixK (K := K) (k := 2) i_w7 (by omega)]) ?_
  refine lv_aload_n hx hb dL_law_497 rfl (lv_at hl 3 rfl) ?_
  refine lv_iload_n hx hb dL_law_498 rfl (lv_at hl 0 rfl) ?_
  refine lv_iconst (v := 3) hx hb dL_law_499 (by decide) ?_
  refine lv_iadd hx hb dL_law_500 ?_
  refine lv_topi (fun w8 e_w8 => ?_)
  have i_w8 : w8.toInt = (K.toInt + 3) := z_add e_w8 rfl (show (3 : Int32).toInt = 3 by decide) (by omega)
  refine va_sld hx hb hX hbl hbA hw.2.2 (z_ix i_w8 (by omega)) dL_law_501 ?_
  refine z_lit (y := x3) (by rw [ex3, z_ixK (K := K) (k := 3) i_w8 (by omega)]) ?_
  obtain ⟨fs_, hfo⟩ := z_SM_xo hSM
  refine z_calliV (cells := 164) (slots := 16321) (b := bd 0) (As := [.int x1, .int x2, .int x3]) (rest := []) (ci := 10) (q0 := (RX10, TX10, 54)) ⟨hx, hb, hml, hown, hT⟩ (s_X10_counter l hSM) (cwV 3 hT (z_goodV (fun _ h => h) kw_1531 kw_1532 kw_1533 kw_96 kw_1534) rfl rfl rfl (by decide +kernel) ⟨by decide, by decide⟩) z_mv hKK hK hw hA (z_SM_mem hSM (by decide)) hfo rfl rfl rfl hl.1 rfl (Nat.le_of_ble_eq_true rfl) dL_law_502 ⟨by decide, by decide⟩ (fun r10 u H locs hp hw => ?_)
  obtain ⟨L2, F9⟩ := u
  obtain ⟨hL2, hfr, hS2⟩ := hp
  have hL2 : L = L2 := hL2
  subst hL2
  have hw : z_H D vwCl (fun q : Nat => s.heap.size ≤ q) s.heap L F9 H locs := hw
  have hSX := z_SX_frL (f2 := F9) hSX (fun _ h => h) (fun i hi => hfr _ (z_SX_mem hSX hi) (fun j hj => hdis i j hi hj))
  have hSM := hS2
  have hSM : z_SM L F9 cy bd gik gwd gmy := hSM
  have hrel0 := hrel
  refine lv_pop hx hb dL_law_505 rfl ?_
  refine lv_goto (tgt := 1615) hx hb dL_law_506 (by decide) ?_
  exact kk _ _ _ _ _ _ _ _ _ hSX hSM hrel hw

set_option maxHeartbeats 4000000 in
set_option maxRecDepth 100000 in
theorem lc_through {p : Program} {e : Env} {s : State} {m : MethodId} {below : List Frame} {meth : Method} {c : Code} (l : Launch) {b Ln : Nat} {xs : Nat → Int32} {D : va_G} {cy : Nat → ClassId} {adK adV : Nat → Nat} {L : List Nat} {F : Nat → va_E} {H : Heap} {locs : List Loc} {ls : Array Slot} {ad bd : Nat → Nat} {gkp gw gz gik gwd gmy : Nat → Int32} {K : Int32} {xo me : Nat} (C0 : lw_At p s m meth c b Ln xs) (hKK : z_KK D cy adK adV (fun q : Nat => s.heap.size ≤ q) s) (hxo : ad 0 = xo) (hme : bd 0 = me) (hSX : z_SX L F cy ad gkp gw gz) (hSM : z_SM L F cy bd gik gwd gmy) (hdis : ∀ i j : Nat, i < 135 → j < 29 → ad i ≠ bd j) (hrel : z_rel gkp gw gz gik gwd gmy) (hw : z_H D vwCl (fun q : Nat => s.heap.size ≤ q) s.heap L F H locs) (hl : lv_has ls 4 [(3, .int K), (2, .ref me), (1, .ref xo), (0, .ref b)]) (hKr : 0 ≤ K.toInt ∧ K.toInt + 6 ≤ Ln) (hLn : Ln ≤ 3072) (kk : ∀ (F2 : Nat → va_E) (H2 : Heap) (locs2 : List Loc) (a1 a2 a3 a4 a5 a6 : Nat → Int32), z_SX L F2 cy ad a1 a2 a3 → z_SM L F2 cy bd a4 a5 a6 → z_rel a1 a2 a3 a4 a5 a6 → z_H D vwCl (fun q : Nat => s.heap.size ≤ q) s.heap L F2 H2 locs2 → W p l e room_1 s m #[Value.ref b] below meth c H2 locs2 164 16321 (lw_Z below #[Value.ref b] s) (F0 m 1615 ls [])) : W p l e room_1 s m #[Value.ref b] below meth c H locs 164 16321 (lw_Z below #[Value.ref b] s) (F0 m 509 ls []) := by
  subst hxo
  subst hme
  obtain ⟨hx, hb, hr, hml, hown, hts, hX, hbl, hlocks, hgv⟩ := C0
  have hA : ∀ q : Nat, s.heap.size ≤ q → (fun q : Nat => s.heap.size ≤ q) q := fun _ h => h
  have hbA : ¬ (fun q : Nat => s.heap.size ≤ q) b := Nat.not_le.mpr hbl
  have hT : ∀ w ∈ lw_all, w.before #[Value.ref b] s = true := fun w h => hts w (z_all_in w h)
  have hown : s.vm.findClass RL = some m.cls := hown
  have hK := hKK.1.1
  obtain ⟨x1, ex1⟩ : ∃ z, z = xs (K.toNatClampNeg + 1) := ⟨_, rfl⟩
  obtain ⟨x2, ex2⟩ : ∃ z, z = xs (K.toNatClampNeg + 2) := ⟨_, rfl⟩
  obtain ⟨x3, ex3⟩ : ∃ z, z = xs (K.toNatClampNeg + 3) := ⟨_, rfl⟩
  obtain ⟨x4, ex4⟩ : ∃ z, z = xs (K.toNatClampNeg + 4) := ⟨_, rfl⟩
  obtain ⟨x5, ex5⟩ : ∃ z, z = xs (K.toNatClampNeg + 5) := ⟨_, rfl⟩
  refine lv_aload_n hx hb dL_law_509 rfl (lv_at hl 2 rfl) ?_
  refine lv_aload_n hx hb dL_law_510 rfl (lv_at hl 3 rfl) ?_
  refine lv_iload_n hx hb dL_law_511 rfl (lv_at hl 0 rfl) ?_
  refine lv_iconst (v := 1) hx hb dL_law_512 (by decide) ?_
  refine lv_iadd hx hb dL_law_513 ?_
  refine lv_topi (fun w1 e_w1 => ?_)
  have i_w1 : w1.toInt = (K.toInt + 1) := z_add e_w1 rfl (show (1 : Int32).toInt = 1 by decide) (by omega)
  refine va_sld hx hb hX hbl hbA hw.2.2 (z_ix i_w1 (by omega)) dL_law_514 ?_
  refine z_lit (y := x1) (by rw [ex1, z_ixK (K := K) (k := 1) i_w1 (by omega)]) ?_
  refine lv_aload_n hx hb dL_law_515 rfl (lv_at hl 3 rfl) ?_
  refine lv_iload_n hx hb dL_law_516 rfl (lv_at hl 0 rfl) ?_
  refine lv_iconst (v := 2) hx hb dL_law_517 (by decide) ?_
  refine lv_iadd hx hb dL_law_518 ?_
  refine lv_topi (fun w2 e_w2 => ?_)
  have i_w2 : w2.toInt = (K.toInt + 2) := z_add e_w2 rfl (show (2 : Int32).toInt = 2 by decide) (by omega)
  refine va_sld hx hb hX hbl hbA hw.2.2 (z_ix i_w2 (by omega)) dL_law_519 ?_
  refine z_lit (y := x2) (by rw [ex2, z_ixK (K := K) (k := 2) i_w2 (by omega)]) ?_
  refine lv_aload_n hx hb dL_law_520 rfl (lv_at hl 3 rfl) ?_
  refine lv_iload_n hx hb dL_law_521 rfl (lv_at hl 0 rfl) ?_
  refine lv_iconst (v := 3) hx hb dL_law_522 (by decide) ?_
  refine lv_iadd hx hb dL_law_523 ?_
  refine lv_topi (fun w3 e_w3 => ?_)
  have i_w3 : w3.toInt = (K.toInt + 3) := z_add e_w3 rfl (show (3 : Int32).toInt = 3 by decide) (by omega)
  refine va_sld hx hb hX hbl hbA hw.2.2 (z_ix i_w3 (by omega)) dL_law_524 ?_
  refine z_lit (y := x3) (by rw [ex3, z_ixK (K := K) (k := 3) i_w3 (by omega)]) ?_
  obtain ⟨fs_, hfo⟩ := z_SX_xo hSX
  refine z_calliV (cells := 164) (slots := 16321) (b := ad 0) (As := [.int x1, .int x2, .int x3]) (rest := []) (ci := 9) (q0 := (RX9, TX9, 11)) ⟨hx, hb, hml, hown, hT⟩ (s_X9_through l hSX) (cwV 3 hT (z_goodV (fun _ h => h) kw_810 kw_811 kw_812 kw_85 kw_813) rfl rfl rfl (by decide +kernel) ⟨by decide, by decide⟩) z_mv hKK hK hw hA (z_SX_mem hSX (by decide)) hfo rfl rfl rfl hl.1 rfl (Nat.le_of_ble_eq_true rfl) dL_law_525 ⟨by decide, by decide⟩ (fun r5 u H locs hp hw => ?_)
  obtain ⟨L2, F4⟩ := u
  obtain ⟨hL2, hfr, hS2⟩ := hp
  have hL2 : L = L2 := hL2
  subst hL2
  have hw : z_H D vwCl (fun q : Nat => s.heap.size ≤ q) s.heap L F4 H locs := hw
  have hSM := z_SM_fr (f2 := F4) hSM (fun i hi => hfr _ (z_SM_mem hSM hi) (fun j hj => (hdis j i hj hi).symm))
  have hSX := hS2
  have hSX : z_SX L F4 cy ad gkp gw gz := hSX
  refine lv_pop hx hb dL_law_528 rfl ?_
  refine lv_aload_n hx hb dL_law_529 rfl (lv_at hl 1 rfl) ?_
  refine lv_aload_n hx hb dL_law_530 rfl (lv_at hl 3 rfl) ?_
  refine lv_iload_n hx hb dL_law_531 rfl (lv_at hl 0 rfl) ?_
  refine lv_iconst (v := 1) hx hb dL_law_532 (by decide) ?_
  refine lv_iadd hx hb dL_law_533 ?_
  refine lv_topi (fun w6 e_w6 => ?_)
  have i_w6 : w6.toInt = (K.toInt + 1) := z_add e_w6 rfl (show (1 : Int32).toInt = 1 by decide) (by omega)
  refine va_sld hx hb hX hbl hbA hw.2.2 (z_ix i_w6 (by omega)) dL_law_534 ?_
  refine z_lit (y := x1) (by rw [ex1, z_ixK (K := K) (k := 1) i_w6 (by omega)]) ?_
  refine lv_aload_n hx hb dL_law_535 rfl (lv_at hl 3 rfl) ?_
  refine lv_iload_n hx hb dL_law_536 rfl (lv_at hl 0 rfl) ?_
  refine lv_iconst (v := 2) hx hb dL_law_537 (by decide) ?_
  refine lv_iadd hx hb dL_law_538 ?_
  refine lv_topi (fun w7 e_w7 => ?_)
  have i_w7 : w7.toInt = (K.toInt + 2) := z_add e_w7 rfl (show (2 : Int32).toInt = 2 by decide) (by omega)
  refine va_sld hx hb hX hbl hbA hw.2.2 (z_ix i_w7 (by omega)) dL_law_539 ?_
  refine z_lit (y := x2) (by rw [ex2, z_ixK (K := K) (k := 2) i_w7 (by omega)]) ?_
  refine lv_aload_n hx hb dL_law_540 rfl (lv_at hl 3 rfl) ?_
  refine lv_iload_n hx hb dL_law_541 rfl (lv_at hl 0 rfl) ?_
  refine lv_iconst (v := 3) hx hb dL_law_542 (by decide) ?_
  refine lv_iadd hx hb dL_law_543 ?_
  refine lv_topi (fun w8 e_w8 => ?_)
  have i_w8 : w8.toInt = (K.toInt + 3) := z_add e_w8 rfl (show (3 : Int32).toInt = 3 by decide) (by omega)
  refine va_sld hx hb hX hbl hbA hw.2.2 (z_ix i_w8 (by omega)) dL_law_544 ?_
  refine z_lit (y := x3) (by rw [ex3, z_ixK (K := K) (k := 3) i_w8 (by omega)]) ?_
  obtain ⟨fs_, hfo⟩ := z_SM_xo hSM
  refine z_calliV (cells := 164) (slots := 16321) (b := bd 0) (As := [.int x1, .int x2, .int x3]) (rest := []) (ci := 10) (q0 := (RX10, TX10, 54)) ⟨hx, hb, hml, hown, hT⟩ (s_X10_through l hSM) (cwV 3 hT (z_goodV (fun _ h => h) kw_1583 kw_1584 kw_1585 kw_96 kw_1586) rfl rfl rfl (by decide +kernel) ⟨by decide, by decide⟩) z_mv hKK hK hw hA (z_SM_mem hSM (by decide)) hfo rfl rfl rfl hl.1 rfl (Nat.le_of_ble_eq_true rfl) dL_law_545 ⟨by decide, by decide⟩ (fun r10 u H locs hp hw => ?_)
  obtain ⟨L2, F9⟩ := u
  obtain ⟨hL2, hfr, hS2⟩ := hp
  have hL2 : L = L2 := hL2
  subst hL2
  have hw : z_H D vwCl (fun q : Nat => s.heap.size ≤ q) s.heap L F9 H locs := hw
  have hSX := z_SX_frL (f2 := F9) hSX (fun _ h => h) (fun i hi => hfr _ (z_SX_mem hSX hi) (fun j hj => hdis i j hi hj))
  have hSM := hS2
  have hSM : z_SM L F9 cy bd gik gwd gmy := hSM
  have hrel0 := hrel
  refine lv_pop hx hb dL_law_548 rfl ?_
  refine lv_goto (tgt := 1615) hx hb dL_law_549 (by decide) ?_
  exact kk _ _ _ _ _ _ _ _ _ hSX hSM hrel hw

set_option maxHeartbeats 4000000 in
set_option maxRecDepth 100000 in
theorem lc_dues {p : Program} {e : Env} {s : State} {m : MethodId} {below : List Frame} {meth : Method} {c : Code} (l : Launch) {b Ln : Nat} {xs : Nat → Int32} {D : va_G} {cy : Nat → ClassId} {adK adV : Nat → Nat} {L : List Nat} {F : Nat → va_E} {H : Heap} {locs : List Loc} {ls : Array Slot} {ad bd : Nat → Nat} {gkp gw gz gik gwd gmy : Nat → Int32} {K : Int32} {xo me : Nat} (C0 : lw_At p s m meth c b Ln xs) (hKK : z_KK D cy adK adV (fun q : Nat => s.heap.size ≤ q) s) (hxo : ad 0 = xo) (hme : bd 0 = me) (hSX : z_SX L F cy ad gkp gw gz) (hSM : z_SM L F cy bd gik gwd gmy) (hdis : ∀ i j : Nat, i < 135 → j < 29 → ad i ≠ bd j) (hrel : z_rel gkp gw gz gik gwd gmy) (hw : z_H D vwCl (fun q : Nat => s.heap.size ≤ q) s.heap L F H locs) (hl : lv_has ls 4 [(3, .int K), (2, .ref me), (1, .ref xo), (0, .ref b)]) (hKr : 0 ≤ K.toInt ∧ K.toInt + 6 ≤ Ln) (hLn : Ln ≤ 3072) (kk : ∀ (F2 : Nat → va_E) (H2 : Heap) (locs2 : List Loc) (a1 a2 a3 a4 a5 a6 : Nat → Int32), z_SX L F2 cy ad a1 a2 a3 → z_SM L F2 cy bd a4 a5 a6 → z_rel a1 a2 a3 a4 a5 a6 → z_H D vwCl (fun q : Nat => s.heap.size ≤ q) s.heap L F2 H2 locs2 → W p l e room_1 s m #[Value.ref b] below meth c H2 locs2 164 16321 (lw_Z below #[Value.ref b] s) (F0 m 1615 ls [])) : W p l e room_1 s m #[Value.ref b] below meth c H locs 164 16321 (lw_Z below #[Value.ref b] s) (F0 m 552 ls []) := by
  subst hxo
  subst hme
  obtain ⟨hx, hb, hr, hml, hown, hts, hX, hbl, hlocks, hgv⟩ := C0
  have hA : ∀ q : Nat, s.heap.size ≤ q → (fun q : Nat => s.heap.size ≤ q) q := fun _ h => h
  have hbA : ¬ (fun q : Nat => s.heap.size ≤ q) b := Nat.not_le.mpr hbl
  have hT : ∀ w ∈ lw_all, w.before #[Value.ref b] s = true := fun w h => hts w (z_all_in w h)
  have hown : s.vm.findClass RL = some m.cls := hown
  have hK := hKK.1.1
  obtain ⟨x1, ex1⟩ : ∃ z, z = xs (K.toNatClampNeg + 1) := ⟨_, rfl⟩
  obtain ⟨x2, ex2⟩ : ∃ z, z = xs (K.toNatClampNeg + 2) := ⟨_, rfl⟩
  obtain ⟨x3, ex3⟩ : ∃ z, z = xs (K.toNatClampNeg + 3) := ⟨_, rfl⟩
  obtain ⟨x4, ex4⟩ : ∃ z, z = xs (K.toNatClampNeg + 4) := ⟨_, rfl⟩
  obtain ⟨x5, ex5⟩ : ∃ z, z = xs (K.toNatClampNeg + 5) := ⟨_, rfl⟩
  refine lv_aload_n hx hb dL_law_552 rfl (lv_at hl 2 rfl) ?_
  obtain ⟨fs_, hfo⟩ := z_SX_xo hSX
  refine z_calliV (cells := 164) (slots := 16321) (b := ad 0) (As := []) (rest := []) (ci := 9) (q0 := (RX9, TX9, 11)) ⟨hx, hb, hml, hown, hT⟩ (s_X9_dues l hSX) (cwV 0 hT (z_goodV (fun _ h => h) kw_830 kw_831 kw_832 kw_85 kw_833) rfl rfl rfl (by decide +kernel) ⟨by decide, by decide⟩) z_mv hKK hK hw hA (z_SX_mem hSX (by decide)) hfo rfl rfl rfl hl.1 rfl (Nat.le_of_ble_eq_true rfl) dL_law_553 ⟨by decide, by decide⟩ (fun r2 u H locs hp hw => ?_)
  obtain ⟨L2, F1⟩ := u
  obtain ⟨hL2, hfr, hS2⟩ := hp
  have hL2 : L = L2 := hL2
  subst hL2
  have hw : z_H D vwCl (fun q : Nat => s.heap.size ≤ q) s.heap L F1 H locs := hw
  have hSM := z_SM_fr (f2 := F1) hSM (fun i hi => hfr _ (z_SM_mem hSM hi) (fun j hj => (hdis j i hj hi).symm))
  have hSX := hS2
  have hSX : z_SX L F1 cy ad gkp gw gz := hSX
  refine lv_pop hx hb dL_law_556 rfl ?_
  refine lv_aload_n hx hb dL_law_557 rfl (lv_at hl 1 rfl) ?_
  obtain ⟨fs_, hfo⟩ := z_SM_xo hSM
  refine z_calliV (cells := 164) (slots := 16321) (b := bd 0) (As := []) (rest := []) (ci := 10) (q0 := (RX10, TX10, 54)) ⟨hx, hb, hml, hown, hT⟩ (s_X10_dues l hSM) (cwV 0 hT (z_goodV (fun _ h => h) kw_1591 kw_1592 kw_1593 kw_96 kw_1594) rfl rfl rfl (by decide +kernel) ⟨by decide, by decide⟩) z_mv hKK hK hw hA (z_SM_mem hSM (by decide)) hfo rfl rfl rfl hl.1 rfl (Nat.le_of_ble_eq_true rfl) dL_law_558 ⟨by decide, by decide⟩ (fun r4 u H locs hp hw => ?_)
  obtain ⟨L2, F3⟩ := u
  obtain ⟨hL2, hfr, hS2⟩ := hp
  have hL2 : L = L2 := hL2
  subst hL2
  have hw : z_H D vwCl (fun q : Nat => s.heap.size ≤ q) s.heap L F3 H locs := hw
  have hSX := z_SX_frL (f2 := F3) hSX (fun _ h => h) (fun i hi => hfr _ (z_SX_mem hSX hi) (fun j hj => hdis i j hi hj))
  have hSM := hS2
  have hSM : z_SM L F3 cy bd gik gwd gmy := hSM
  have hrel0 := hrel
  refine lv_pop hx hb dL_law_561 rfl ?_
  refine lv_goto (tgt := 1615) hx hb dL_law_562 (by decide) ?_
  exact kk _ _ _ _ _ _ _ _ _ hSX hSM hrel hw

set_option maxHeartbeats 4000000 in
set_option maxRecDepth 100000 in
theorem lc_due {p : Program} {e : Env} {s : State} {m : MethodId} {below : List Frame} {meth : Method} {c : Code} (l : Launch) {b Ln : Nat} {xs : Nat → Int32} {D : va_G} {cy : Nat → ClassId} {adK adV : Nat → Nat} {L : List Nat} {F : Nat → va_E} {H : Heap} {locs : List Loc} {ls : Array Slot} {ad bd : Nat → Nat} {gkp gw gz gik gwd gmy : Nat → Int32} {K : Int32} {xo me : Nat} (C0 : lw_At p s m meth c b Ln xs) (hKK : z_KK D cy adK adV (fun q : Nat => s.heap.size ≤ q) s) (hxo : ad 0 = xo) (hme : bd 0 = me) (hSX : z_SX L F cy ad gkp gw gz) (hSM : z_SM L F cy bd gik gwd gmy) (hdis : ∀ i j : Nat, i < 135 → j < 29 → ad i ≠ bd j) (hrel : z_rel gkp gw gz gik gwd gmy) (hw : z_H D vwCl (fun q : Nat => s.heap.size ≤ q) s.heap L F H locs) (hl : lv_has ls 4 [(3, .int K), (2, .ref me), (1, .ref xo), (0, .ref b)]) (hKr : 0 ≤ K.toInt ∧ K.toInt + 6 ≤ Ln) (hLn : Ln ≤ 3072) (kk : ∀ (F2 : Nat → va_E) (H2 : Heap) (locs2 : List Loc) (a1 a2 a3 a4 a5 a6 : Nat → Int32), z_SX L F2 cy ad a1 a2 a3 → z_SM L F2 cy bd a4 a5 a6 → z_rel a1 a2 a3 a4 a5 a6 → z_H D vwCl (fun q : Nat => s.heap.size ≤ q) s.heap L F2 H2 locs2 → W p l e room_1 s m #[Value.ref b] below meth c H2 locs2 164 16321 (lw_Z below #[Value.ref b] s) (F0 m 1615 ls [])) : W p l e room_1 s m #[Value.ref b] below meth c H locs 164 16321 (lw_Z below #[Value.ref b] s) (F0 m 565 ls []) := by
  subst hxo
  subst hme
  obtain ⟨hx, hb, hr, hml, hown, hts, hX, hbl, hlocks, hgv⟩ := C0
  have hA : ∀ q : Nat, s.heap.size ≤ q → (fun q : Nat => s.heap.size ≤ q) q := fun _ h => h
  have hbA : ¬ (fun q : Nat => s.heap.size ≤ q) b := Nat.not_le.mpr hbl
  have hT : ∀ w ∈ lw_all, w.before #[Value.ref b] s = true := fun w h => hts w (z_all_in w h)
  have hown : s.vm.findClass RL = some m.cls := hown
  have hK := hKK.1.1
  obtain ⟨x1, ex1⟩ : ∃ z, z = xs (K.toNatClampNeg + 1) := ⟨_, rfl⟩
  obtain ⟨x2, ex2⟩ : ∃ z, z = xs (K.toNatClampNeg + 2) := ⟨_, rfl⟩
  obtain ⟨x3, ex3⟩ : ∃ z, z = xs (K.toNatClampNeg + 3) := ⟨_, rfl⟩
  obtain ⟨x4, ex4⟩ : ∃ z, z = xs (K.toNatClampNeg + 4) := ⟨_, rfl⟩
  obtain ⟨x5, ex5⟩ : ∃ z, z = xs (K.toNatClampNeg + 5) := ⟨_, rfl⟩
  refine lv_aload_n hx hb dL_law_565 rfl (lv_at hl 2 rfl) ?_
  refine lv_aload_n hx hb dL_law_566 rfl (lv_at hl 3 rfl) ?_
  refine lv_iload_n hx hb dL_law_567 rfl (lv_at hl 0 rfl) ?_
  refine lv_iconst (v := 1) hx hb dL_law_568 (by decide) ?_
  refine lv_iadd hx hb dL_law_569 ?_
  refine lv_topi (fun w1 e_w1 => ?_)
  have i_w1 : w1.toInt = (K.toInt + 1) := z_add e_w1 rfl (show (1 : Int32).toInt = 1 by decide) (by omega)
  refine va_sld hx hb hX hbl hbA hw.2.2 (z_ix i_w1 (by omega)) dL_law_570 ?_
  refine z_lit (y := x1) (by rw [ex1, z_ixK (K := K) (k := 1) i_w1 (by omega)]) ?_
  refine lv_aload_n hx hb dL_law_571 rfl (lv_at hl 3 rfl) ?_
  refine lv_iload_n hx hb dL_law_572 rfl (lv_at hl 0 rfl) ?_
  refine lv_iconst (v := 2) hx hb dL_law_573 (by decide) ?_
  refine lv_iadd hx hb dL_law_574 ?_
  refine lv_topi (fun w2 e_w2 => ?_)
  have i_w2 : w2.toInt = (K.toInt + 2) := z_add e_w2 rfl (show (2 : Int32).toInt = 2 by decide) (by omega)
  refine va_sld hx hb hX hbl hbA hw.2.2 (z_ix i_w2 (by omega)) dL_law_575 ?_
  refine z_lit (y := x2) (by rw [ex2, z_ixK (K := K) (k := 2) i_w2 (by omega)]) ?_
  obtain ⟨fs_, hfo⟩ := z_SX_xo hSX
  refine z_calliV (cells := 164) (slots := 16321) (b := ad 0) (As := [.int x1, .int x2]) (rest := []) (ci := 9) (q0 := (RX9, TX9, 11)) ⟨hx, hb, hml, hown, hT⟩ (s_X9_due l hSX) (cwV 2 hT (z_goodV (fun _ h => h) kw_838 kw_839 kw_840 kw_85 kw_841) rfl rfl rfl (by decide +kernel) ⟨by decide, by decide⟩) z_mv hKK hK hw hA (z_SX_mem hSX (by decide)) hfo rfl rfl rfl hl.1 rfl (Nat.le_of_ble_eq_true rfl) dL_law_576 ⟨by decide, by decide⟩ (fun r4 u H locs hp hw => ?_)
  obtain ⟨L2, F3⟩ := u
  obtain ⟨hL2, hfr, hS2⟩ := hp
  have hL2 : L = L2 := hL2
  subst hL2
  have hw : z_H D vwCl (fun q : Nat => s.heap.size ≤ q) s.heap L F3 H locs := hw
  have hSM := z_SM_fr (f2 := F3) hSM (fun i hi => hfr _ (z_SM_mem hSM hi) (fun j hj => (hdis j i hj hi).symm))
  have hSX := hS2
  have hSX : z_SX L F3 cy ad gkp gw gz := hSX
  refine lv_pop hx hb dL_law_579 rfl ?_
  refine lv_aload_n hx hb dL_law_580 rfl (lv_at hl 1 rfl) ?_
  refine lv_aload_n hx hb dL_law_581 rfl (lv_at hl 3 rfl) ?_
  refine lv_iload_n hx hb dL_law_582 rfl (lv_at hl 0 rfl) ?_
  refine lv_iconst (v := 1) hx hb dL_law_583 (by decide) ?_
  refine lv_iadd hx hb dL_law_584 ?_
  refine lv_topi (fun w5 e_w5 => ?_)
  have i_w5 : w5.toInt = (K.toInt + 1) := z_add e_w5 rfl (show (1 : Int32).toInt = 1 by decide) (by omega)
  refine va_sld hx hb hX hbl hbA hw.2.2 (z_ix i_w5 (by omega)) dL_law_585 ?_
  refine z_lit (y := x1) (by rw [ex1, z_ixK (K := K) (k := 1) i_w5 (by omega)]) ?_
  refine lv_aload_n hx hb dL_law_586 rfl (lv_at hl 3 rfl) ?_
  refine lv_iload_n hx hb dL_law_587 rfl (lv_at hl 0 rfl) ?_
  refine lv_iconst (v := 2) hx hb dL_law_588 (by decide) ?_
  refine lv_iadd hx hb dL_law_589 ?_
  refine lv_topi (fun w6 e_w6 => ?_)
  have i_w6 : w6.toInt = (K.toInt + 2) := z_add e_w6 rfl (show (2 : Int32).toInt = 2 by decide) (by omega)
  refine va_sld hx hb hX hbl hbA hw.2.2 (z_ix i_w6 (by omega)) dL_law_590 ?_
  refine z_lit (y := x2) (by rw [ex2, z_ixK (K := K) (k := 2) i_w6 (by omega)]) ?_
  obtain ⟨fs_, hfo⟩ := z_SM_xo hSM
  refine z_calliV (cells := 164) (slots := 16321) (b := bd 0) (As := [.int x1, .int x2]) (rest := []) (ci := 10) (q0 := (RX10, TX10, 54)) ⟨hx, hb, hml, hown, hT⟩ (s_X10_due l hSM) (cwV 2 hT (z_goodV (fun _ h => h) kw_1595 kw_1596 kw_1597 kw_96 kw_1598) rfl rfl rfl (by decide +kernel) ⟨by decide, by decide⟩) z_mv hKK hK hw hA (z_SM_mem hSM (by decide)) hfo rfl rfl rfl hl.1 rfl (Nat.le_of_ble_eq_true rfl) dL_law_591 ⟨by decide, by decide⟩ (fun r8 u H locs hp hw => ?_)
  obtain ⟨L2, F7⟩ := u
  obtain ⟨hL2, hfr, hS2⟩ := hp
  have hL2 : L = L2 := hL2
  subst hL2
  have hw : z_H D vwCl (fun q : Nat => s.heap.size ≤ q) s.heap L F7 H locs := hw
  have hSX := z_SX_frL (f2 := F7) hSX (fun _ h => h) (fun i hi => hfr _ (z_SX_mem hSX hi) (fun j hj => hdis i j hi hj))
  have hSM := hS2
  have hSM : z_SM L F7 cy bd gik gwd gmy := hSM
  have hrel0 := hrel
  refine lv_pop hx hb dL_law_594 rfl ?_
  refine lv_goto (tgt := 1615) hx hb dL_law_595 (by decide) ?_
  exact kk _ _ _ _ _ _ _ _ _ hSX hSM hrel hw

set_option maxHeartbeats 4000000 in
set_option maxRecDepth 100000 in
theorem lc_paid {p : Program} {e : Env} {s : State} {m : MethodId} {below : List Frame} {meth : Method} {c : Code} (l : Launch) {b Ln : Nat} {xs : Nat → Int32} {D : va_G} {cy : Nat → ClassId} {adK adV : Nat → Nat} {L : List Nat} {F : Nat → va_E} {H : Heap} {locs : List Loc} {ls : Array Slot} {ad bd : Nat → Nat} {gkp gw gz gik gwd gmy : Nat → Int32} {K : Int32} {xo me : Nat} (C0 : lw_At p s m meth c b Ln xs) (hKK : z_KK D cy adK adV (fun q : Nat => s.heap.size ≤ q) s) (hxo : ad 0 = xo) (hme : bd 0 = me) (hSX : z_SX L F cy ad gkp gw gz) (hSM : z_SM L F cy bd gik gwd gmy) (hdis : ∀ i j : Nat, i < 135 → j < 29 → ad i ≠ bd j) (hrel : z_rel gkp gw gz gik gwd gmy) (hw : z_H D vwCl (fun q : Nat => s.heap.size ≤ q) s.heap L F H locs) (hl : lv_has ls 4 [(3, .int K), (2, .ref me), (1, .ref xo), (0, .ref b)]) (hKr : 0 ≤ K.toInt ∧ K.toInt + 6 ≤ Ln) (hLn : Ln ≤ 3072) (kk : ∀ (F2 : Nat → va_E) (H2 : Heap) (locs2 : List Loc) (a1 a2 a3 a4 a5 a6 : Nat → Int32), z_SX L F2 cy ad a1 a2 a3 → z_SM L F2 cy bd a4 a5 a6 → z_rel a1 a2 a3 a4 a5 a6 → z_H D vwCl (fun q : Nat => s.heap.size ≤ q) s.heap L F2 H2 locs2 → W p l e room_1 s m #[Value.ref b] below meth c H2 locs2 164 16321 (lw_Z below #[Value.ref b] s) (F0 m 1615 ls [])) : W p l e room_1 s m #[Value.ref b] below meth c H locs 164 16321 (lw_Z below #[Value.ref b] s) (F0 m 598 ls []) := by
  subst hxo
  subst hme
  obtain ⟨hx, hb, hr, hml, hown, hts, hX, hbl, hlocks, hgv⟩ := C0
  have hA : ∀ q : Nat, s.heap.size ≤ q → (fun q : Nat => s.heap.size ≤ q) q := fun _ h => h
  have hbA : ¬ (fun q : Nat => s.heap.size ≤ q) b := Nat.not_le.mpr hbl
  have hT : ∀ w ∈ lw_all, w.before #[Value.ref b] s = true := fun w h => hts w (z_all_in w h)
  have hown : s.vm.findClass RL = some m.cls := hown
  have hK := hKK.1.1
  obtain ⟨x1, ex1⟩ : ∃ z, z = xs (K.toNatClampNeg + 1) := ⟨_, rfl⟩
  obtain ⟨x2, ex2⟩ : ∃ z, z = xs (K.toNatClampNeg + 2) := ⟨_, rfl⟩
  obtain ⟨x3, ex3⟩ : ∃ z, z = xs (K.toNatClampNeg + 3) := ⟨_, rfl⟩
  obtain ⟨x4, ex4⟩ : ∃ z, z = xs (K.toNatClampNeg + 4) := ⟨_, rfl⟩
  obtain ⟨x5, ex5⟩ : ∃ z, z = xs (K.toNatClampNeg + 5) := ⟨_, rfl⟩
  refine lv_aload_n hx hb dL_law_598 rfl (lv_at hl 2 rfl) ?_
  refine lv_aload_n hx hb dL_law_599 rfl (lv_at hl 3 rfl) ?_
  refine lv_iload_n hx hb dL_law_600 rfl (lv_at hl 0 rfl) ?_
  refine lv_iconst (v := 1) hx hb dL_law_601 (by decide) ?_
  refine lv_iadd hx hb dL_law_602 ?_
  refine lv_topi (fun w1 e_w1 => ?_)
  have i_w1 : w1.toInt = (K.toInt + 1) := z_add e_w1 rfl (show (1 : Int32).toInt = 1 by decide) (by omega)
  refine va_sld hx hb hX hbl hbA hw.2.2 (z_ix i_w1 (by omega)) dL_law_603 ?_
  refine z_lit (y := x1) (by rw [ex1, z_ixK (K := K) (k := 1) i_w1 (by omega)]) ?_
  obtain ⟨fs_, hfo⟩ := z_SX_xo hSX
  refine z_calliV (cells := 164) (slots := 16321) (b := ad 0) (As := [.int x1]) (rest := []) (ci := 9) (q0 := (RX9, TX9, 11)) ⟨hx, hb, hml, hown, hT⟩ (s_X9_paid l hSX) (cwV 1 hT (z_goodV (fun _ h => h) kw_854 kw_855 kw_856 kw_85 kw_857) rfl rfl rfl (by decide +kernel) ⟨by decide, by decide⟩) z_mv hKK hK hw hA (z_SX_mem hSX (by decide)) hfo rfl rfl rfl hl.1 rfl (Nat.le_of_ble_eq_true rfl) dL_law_604 ⟨by decide, by decide⟩ (fun r3 u H locs hp hw => ?_)
  obtain ⟨L2, F2⟩ := u
  obtain ⟨hL2, hfr, hS2⟩ := hp
  have hL2 : L = L2 := hL2
  subst hL2
  have hw : z_H D vwCl (fun q : Nat => s.heap.size ≤ q) s.heap L F2 H locs := hw
  have hSM := z_SM_fr (f2 := F2) hSM (fun i hi => hfr _ (z_SM_mem hSM hi) (fun j hj => (hdis j i hj hi).symm))
  have hSX := hS2
  have hSX : z_SX L F2 cy ad gkp gw gz := hSX
  refine lv_pop hx hb dL_law_607 rfl ?_
  refine lv_aload_n hx hb dL_law_608 rfl (lv_at hl 1 rfl) ?_
  refine lv_aload_n hx hb dL_law_609 rfl (lv_at hl 3 rfl) ?_
  refine lv_iload_n hx hb dL_law_610 rfl (lv_at hl 0 rfl) ?_
  refine lv_iconst (v := 1) hx hb dL_law_611 (by decide) ?_
  refine lv_iadd hx hb dL_law_612 ?_
  refine lv_topi (fun w4 e_w4 => ?_)
  have i_w4 : w4.toInt = (K.toInt + 1) := z_add e_w4 rfl (show (1 : Int32).toInt = 1 by decide) (by omega)
  refine va_sld hx hb hX hbl hbA hw.2.2 (z_ix i_w4 (by omega)) dL_law_613 ?_
  refine z_lit (y := x1) (by rw [ex1, z_ixK (K := K) (k := 1) i_w4 (by omega)]) ?_
  obtain ⟨fs_, hfo⟩ := z_SM_xo hSM
  refine z_calliV (cells := 164) (slots := 16321) (b := bd 0) (As := [.int x1]) (rest := []) (ci := 10) (q0 := (RX10, TX10, 54)) ⟨hx, hb, hml, hown, hT⟩ (s_X10_paid l hSM) (cwV 1 hT (z_goodV (fun _ h => h) kw_1600 kw_1601 kw_1602 kw_96 kw_1603) rfl rfl rfl (by decide +kernel) ⟨by decide, by decide⟩) z_mv hKK hK hw hA (z_SM_mem hSM (by decide)) hfo rfl rfl rfl hl.1 rfl (Nat.le_of_ble_eq_true rfl) dL_law_614 ⟨by decide, by decide⟩ (fun r6 u H locs hp hw => ?_)
  obtain ⟨L2, F5⟩ := u
  obtain ⟨hL2, hfr, hS2⟩ := hp
  have hL2 : L = L2 := hL2
  subst hL2
  have hw : z_H D vwCl (fun q : Nat => s.heap.size ≤ q) s.heap L F5 H locs := hw
  have hSX := z_SX_frL (f2 := F5) hSX (fun _ h => h) (fun i hi => hfr _ (z_SX_mem hSX hi) (fun j hj => hdis i j hi hj))
  have hSM := hS2
  have hSM : z_SM L F5 cy bd gik gwd gmy := hSM
  have hrel0 := hrel
  refine lv_pop hx hb dL_law_617 rfl ?_
  refine lv_goto (tgt := 1615) hx hb dL_law_618 (by decide) ?_
  exact kk _ _ _ _ _ _ _ _ _ hSX hSM hrel hw

set_option maxHeartbeats 4000000 in
set_option maxRecDepth 100000 in
theorem lc_pays {p : Program} {e : Env} {s : State} {m : MethodId} {below : List Frame} {meth : Method} {c : Code} (l : Launch) {b Ln : Nat} {xs : Nat → Int32} {D : va_G} {cy : Nat → ClassId} {adK adV : Nat → Nat} {L : List Nat} {F : Nat → va_E} {H : Heap} {locs : List Loc} {ls : Array Slot} {ad bd : Nat → Nat} {gkp gw gz gik gwd gmy : Nat → Int32} {K : Int32} {xo me : Nat} (C0 : lw_At p s m meth c b Ln xs) (hKK : z_KK D cy adK adV (fun q : Nat => s.heap.size ≤ q) s) (hxo : ad 0 = xo) (hme : bd 0 = me) (hSX : z_SX L F cy ad gkp gw gz) (hSM : z_SM L F cy bd gik gwd gmy) (hdis : ∀ i j : Nat, i < 135 → j < 29 → ad i ≠ bd j) (hrel : z_rel gkp gw gz gik gwd gmy) (hw : z_H D vwCl (fun q : Nat => s.heap.size ≤ q) s.heap L F H locs) (hl : lv_has ls 4 [(3, .int K), (2, .ref me), (1, .ref xo), (0, .ref b)]) (hKr : 0 ≤ K.toInt ∧ K.toInt + 6 ≤ Ln) (hLn : Ln ≤ 3072) (kk : ∀ (F2 : Nat → va_E) (H2 : Heap) (locs2 : List Loc) (a1 a2 a3 a4 a5 a6 : Nat → Int32), z_SX L F2 cy ad a1 a2 a3 → z_SM L F2 cy bd a4 a5 a6 → z_rel a1 a2 a3 a4 a5 a6 → z_H D vwCl (fun q : Nat => s.heap.size ≤ q) s.heap L F2 H2 locs2 → W p l e room_1 s m #[Value.ref b] below meth c H2 locs2 164 16321 (lw_Z below #[Value.ref b] s) (F0 m 1615 ls [])) : W p l e room_1 s m #[Value.ref b] below meth c H locs 164 16321 (lw_Z below #[Value.ref b] s) (F0 m 621 ls []) := by
  subst hxo
  subst hme
  obtain ⟨hx, hb, hr, hml, hown, hts, hX, hbl, hlocks, hgv⟩ := C0
  have hA : ∀ q : Nat, s.heap.size ≤ q → (fun q : Nat => s.heap.size ≤ q) q := fun _ h => h
  have hbA : ¬ (fun q : Nat => s.heap.size ≤ q) b := Nat.not_le.mpr hbl
  have hT : ∀ w ∈ lw_all, w.before #[Value.ref b] s = true := fun w h => hts w (z_all_in w h)
  have hown : s.vm.findClass RL = some m.cls := hown
  have hK := hKK.1.1
  obtain ⟨x1, ex1⟩ : ∃ z, z = xs (K.toNatClampNeg + 1) := ⟨_, rfl⟩
  obtain ⟨x2, ex2⟩ : ∃ z, z = xs (K.toNatClampNeg + 2) := ⟨_, rfl⟩
  obtain ⟨x3, ex3⟩ : ∃ z, z = xs (K.toNatClampNeg + 3) := ⟨_, rfl⟩
  obtain ⟨x4, ex4⟩ : ∃ z, z = xs (K.toNatClampNeg + 4) := ⟨_, rfl⟩
  obtain ⟨x5, ex5⟩ : ∃ z, z = xs (K.toNatClampNeg + 5) := ⟨_, rfl⟩
  refine lv_aload_n hx hb dL_law_621 rfl (lv_at hl 2 rfl) ?_
  refine lv_aload_n hx hb dL_law_622 rfl (lv_at hl 3 rfl) ?_
  refine lv_iload_n hx hb dL_law_623 rfl (lv_at hl 0 rfl) ?_
  refine lv_iconst (v := 1) hx hb dL_law_624 (by decide) ?_
  refine lv_iadd hx hb dL_law_625 ?_
  refine lv_topi (fun w1 e_w1 => ?_)
  have i_w1 : w1.toInt = (K.toInt + 1) := z_add e_w1 rfl (show (1 : Int32).toInt = 1 by decide) (by omega)
  refine va_sld hx hb hX hbl hbA hw.2.2 (z_ix i_w1 (by omega)) dL_law_626 ?_
  refine z_lit (y := x1) (by rw [ex1, z_ixK (K := K) (k := 1) i_w1 (by omega)]) ?_
  refine lv_aload_n hx hb dL_law_627 rfl (lv_at hl 3 rfl) ?_
  refine lv_iload_n hx hb dL_law_628 rfl (lv_at hl 0 rfl) ?_
  refine lv_iconst (v := 2) hx hb dL_law_629 (by decide) ?_
  refine lv_iadd hx hb dL_law_630 ?_
  refine lv_topi (fun w2 e_w2 => ?_)
  have i_w2 : w2.toInt = (K.toInt + 2) := z_add e_w2 rfl (show (2 : Int32).toInt = 2 by decide) (by omega)
  refine va_sld hx hb hX hbl hbA hw.2.2 (z_ix i_w2 (by omega)) dL_law_631 ?_
  refine z_lit (y := x2) (by rw [ex2, z_ixK (K := K) (k := 2) i_w2 (by omega)]) ?_
  obtain ⟨fs_, hfo⟩ := z_SX_xo hSX
  refine z_calliV (cells := 164) (slots := 16321) (b := ad 0) (As := [.int x1, .int x2]) (rest := []) (ci := 9) (q0 := (RX9, TX9, 11)) ⟨hx, hb, hml, hown, hT⟩ (s_X9_pays l hSX) (cwV 2 hT (z_goodV (fun _ h => h) kw_867 kw_868 kw_869 kw_85 kw_870) rfl rfl rfl (by decide +kernel) ⟨by decide, by decide⟩) z_mv hKK hK hw hA (z_SX_mem hSX (by decide)) hfo rfl rfl rfl hl.1 rfl (Nat.le_of_ble_eq_true rfl) dL_law_632 ⟨by decide, by decide⟩ (fun r4 u H locs hp hw => ?_)
  obtain ⟨L2, F3⟩ := u
  obtain ⟨hL2, hfr, hS2⟩ := hp
  have hL2 : L = L2 := hL2
  subst hL2
  have hw : z_H D vwCl (fun q : Nat => s.heap.size ≤ q) s.heap L F3 H locs := hw
  have hSM := z_SM_fr (f2 := F3) hSM (fun i hi => hfr _ (z_SM_mem hSM hi) (fun j hj => (hdis j i hj hi).symm))
  have hSX := hS2
  have hSX : z_SX L F3 cy ad gkp gw gz := hSX
  refine lv_pop hx hb dL_law_635 rfl ?_
  refine lv_aload_n hx hb dL_law_636 rfl (lv_at hl 1 rfl) ?_
  refine lv_aload_n hx hb dL_law_637 rfl (lv_at hl 3 rfl) ?_
  refine lv_iload_n hx hb dL_law_638 rfl (lv_at hl 0 rfl) ?_
  refine lv_iconst (v := 1) hx hb dL_law_639 (by decide) ?_
  refine lv_iadd hx hb dL_law_640 ?_
  refine lv_topi (fun w5 e_w5 => ?_)
  have i_w5 : w5.toInt = (K.toInt + 1) := z_add e_w5 rfl (show (1 : Int32).toInt = 1 by decide) (by omega)
  refine va_sld hx hb hX hbl hbA hw.2.2 (z_ix i_w5 (by omega)) dL_law_641 ?_
  refine z_lit (y := x1) (by rw [ex1, z_ixK (K := K) (k := 1) i_w5 (by omega)]) ?_
  refine lv_aload_n hx hb dL_law_642 rfl (lv_at hl 3 rfl) ?_
  refine lv_iload_n hx hb dL_law_643 rfl (lv_at hl 0 rfl) ?_
  refine lv_iconst (v := 2) hx hb dL_law_644 (by decide) ?_
  refine lv_iadd hx hb dL_law_645 ?_
  refine lv_topi (fun w6 e_w6 => ?_)
  have i_w6 : w6.toInt = (K.toInt + 2) := z_add e_w6 rfl (show (2 : Int32).toInt = 2 by decide) (by omega)
  refine va_sld hx hb hX hbl hbA hw.2.2 (z_ix i_w6 (by omega)) dL_law_646 ?_
  refine z_lit (y := x2) (by rw [ex2, z_ixK (K := K) (k := 2) i_w6 (by omega)]) ?_
  obtain ⟨fs_, hfo⟩ := z_SM_xo hSM
  refine z_calliV (cells := 164) (slots := 16321) (b := bd 0) (As := [.int x1, .int x2]) (rest := []) (ci := 10) (q0 := (RX10, TX10, 54)) ⟨hx, hb, hml, hown, hT⟩ (s_X10_pays l hSM) (cwV 2 hT (z_goodV (fun _ h => h) kw_1612 kw_1613 kw_1614 kw_96 kw_1615) rfl rfl rfl (by decide +kernel) ⟨by decide, by decide⟩) z_mv hKK hK hw hA (z_SM_mem hSM (by decide)) hfo rfl rfl rfl hl.1 rfl (Nat.le_of_ble_eq_true rfl) dL_law_647 ⟨by decide, by decide⟩ (fun r8 u H locs hp hw => ?_)
  obtain ⟨L2, F7⟩ := u
  obtain ⟨hL2, hfr, hS2⟩ := hp
  have hL2 : L = L2 := hL2
  subst hL2
  have hw : z_H D vwCl (fun q : Nat => s.heap.size ≤ q) s.heap L F7 H locs := hw
  have hSX := z_SX_frL (f2 := F7) hSX (fun _ h => h) (fun i hi => hfr _ (z_SX_mem hSX hi) (fun j hj => hdis i j hi hj))
  have hSM := hS2
  have hSM : z_SM L F7 cy bd gik gwd gmy := hSM
  have hrel0 := hrel
  refine lv_pop hx hb dL_law_650 rfl ?_
  refine lv_goto (tgt := 1615) hx hb dL_law_651 (by decide) ?_
  exact kk _ _ _ _ _ _ _ _ _ hSX hSM hrel hw

set_option maxHeartbeats 4000000 in
set_option maxRecDepth 100000 in
theorem lc_worst {p : Program} {e : Env} {s : State} {m : MethodId} {below : List Frame} {meth : Method} {c : Code} (l : Launch) {b Ln : Nat} {xs : Nat → Int32} {D : va_G} {cy : Nat → ClassId} {adK adV : Nat → Nat} {L : List Nat} {F : Nat → va_E} {H : Heap} {locs : List Loc} {ls : Array Slot} {ad bd : Nat → Nat} {gkp gw gz gik gwd gmy : Nat → Int32} {K : Int32} {xo me : Nat} (C0 : lw_At p s m meth c b Ln xs) (hKK : z_KK D cy adK adV (fun q : Nat => s.heap.size ≤ q) s) (hxo : ad 0 = xo) (hme : bd 0 = me) (hSX : z_SX L F cy ad gkp gw gz) (hSM : z_SM L F cy bd gik gwd gmy) (hdis : ∀ i j : Nat, i < 135 → j < 29 → ad i ≠ bd j) (hrel : z_rel gkp gw gz gik gwd gmy) (hw : z_H D vwCl (fun q : Nat => s.heap.size ≤ q) s.heap L F H locs) (hl : lv_has ls 4 [(3, .int K), (2, .ref me), (1, .ref xo), (0, .ref b)]) (hKr : 0 ≤ K.toInt ∧ K.toInt + 6 ≤ Ln) (hLn : Ln ≤ 3072) (kk : ∀ (F2 : Nat → va_E) (H2 : Heap) (locs2 : List Loc) (a1 a2 a3 a4 a5 a6 : Nat → Int32), z_SX L F2 cy ad a1 a2 a3 → z_SM L F2 cy bd a4 a5 a6 → z_rel a1 a2 a3 a4 a5 a6 → z_H D vwCl (fun q : Nat => s.heap.size ≤ q) s.heap L F2 H2 locs2 → W p l e room_1 s m #[Value.ref b] below meth c H2 locs2 164 16321 (lw_Z below #[Value.ref b] s) (F0 m 1615 ls [])) : W p l e room_1 s m #[Value.ref b] below meth c H locs 164 16321 (lw_Z below #[Value.ref b] s) (F0 m 654 ls []) := by
  subst hxo
  subst hme
  obtain ⟨hx, hb, hr, hml, hown, hts, hX, hbl, hlocks, hgv⟩ := C0
  have hA : ∀ q : Nat, s.heap.size ≤ q → (fun q : Nat => s.heap.size ≤ q) q := fun _ h => h
  have hbA : ¬ (fun q : Nat => s.heap.size ≤ q) b := Nat.not_le.mpr hbl
  have hT : ∀ w ∈ lw_all, w.before #[Value.ref b] s = true := fun w h => hts w (z_all_in w h)
  have hown : s.vm.findClass RL = some m.cls := hown
  have hK := hKK.1.1
  obtain ⟨x1, ex1⟩ : ∃ z, z = xs (K.toNatClampNeg + 1) := ⟨_, rfl⟩
  obtain ⟨x2, ex2⟩ : ∃ z, z = xs (K.toNatClampNeg + 2) := ⟨_, rfl⟩
  obtain ⟨x3, ex3⟩ : ∃ z, z = xs (K.toNatClampNeg + 3) := ⟨_, rfl⟩
  obtain ⟨x4, ex4⟩ : ∃ z, z = xs (K.toNatClampNeg + 4) := ⟨_, rfl⟩
  obtain ⟨x5, ex5⟩ : ∃ z, z = xs (K.toNatClampNeg + 5) := ⟨_, rfl⟩
  refine lv_aload_n hx hb dL_law_654 rfl (lv_at hl 2 rfl) ?_
  obtain ⟨fs_, hfo⟩ := z_SX_xo hSX
  refine z_calliV (cells := 164) (slots := 16321) (b := ad 0) (As := []) (rest := []) (ci := 9) (q0 := (RX9, TX9, 11)) ⟨hx, hb, hml, hown, hT⟩ (s_X9_worst l hSX) (cwV 0 hT (z_goodV (fun _ h => h) kw_875 kw_876 kw_877 kw_85 kw_878) rfl rfl rfl (by decide +kernel) ⟨by decide, by decide⟩) z_mv hKK hK hw hA (z_SX_mem hSX (by decide)) hfo rfl rfl rfl hl.1 rfl (Nat.le_of_ble_eq_true rfl) dL_law_655 ⟨by decide, by decide⟩ (fun r2 u H locs hp hw => ?_)
  obtain ⟨L2, F1⟩ := u
  obtain ⟨hL2, hfr, hS2⟩ := hp
  have hL2 : L = L2 := hL2
  subst hL2
  have hw : z_H D vwCl (fun q : Nat => s.heap.size ≤ q) s.heap L F1 H locs := hw
  have hSM := z_SM_fr (f2 := F1) hSM (fun i hi => hfr _ (z_SM_mem hSM hi) (fun j hj => (hdis j i hj hi).symm))
  have hSX := hS2
  have hSX : z_SX L F1 cy ad gkp gw gz := hSX
  refine lv_pop hx hb dL_law_658 rfl ?_
  refine lv_aload_n hx hb dL_law_659 rfl (lv_at hl 1 rfl) ?_
  obtain ⟨fs_, hfo⟩ := z_SM_xo hSM
  refine z_calliV (cells := 164) (slots := 16321) (b := bd 0) (As := []) (rest := []) (ci := 10) (q0 := (RX10, TX10, 54)) ⟨hx, hb, hml, hown, hT⟩ (s_X10_worst l hSM) (cwV 0 hT (z_goodV (fun _ h => h) kw_1616 kw_1617 kw_1618 kw_96 kw_1619) rfl rfl rfl (by decide +kernel) ⟨by decide, by decide⟩) z_mv hKK hK hw hA (z_SM_mem hSM (by decide)) hfo rfl rfl rfl hl.1 rfl (Nat.le_of_ble_eq_true rfl) dL_law_660 ⟨by decide, by decide⟩ (fun r4 u H locs hp hw => ?_)
  obtain ⟨L2, F3⟩ := u
  obtain ⟨hL2, hfr, hS2⟩ := hp
  have hL2 : L = L2 := hL2
  subst hL2
  have hw : z_H D vwCl (fun q : Nat => s.heap.size ≤ q) s.heap L F3 H locs := hw
  have hSX := z_SX_frL (f2 := F3) hSX (fun _ h => h) (fun i hi => hfr _ (z_SX_mem hSX hi) (fun j hj => hdis i j hi hj))
  have hSM := hS2
  have hSM : z_SM L F3 cy bd gik gwd gmy := hSM
  have hrel0 := hrel
  refine lv_pop hx hb dL_law_663 rfl ?_
  refine lv_goto (tgt := 1615) hx hb dL_law_664 (by decide) ?_
  exact kk _ _ _ _ _ _ _ _ _ hSX hSM hrel hw

set_option maxHeartbeats 4000000 in
set_option maxRecDepth 100000 in
theorem lc_left {p : Program} {e : Env} {s : State} {m : MethodId} {below : List Frame} {meth : Method} {c : Code} (l : Launch) {b Ln : Nat} {xs : Nat → Int32} {D : va_G} {cy : Nat → ClassId} {adK adV : Nat → Nat} {L : List Nat} {F : Nat → va_E} {H : Heap} {locs : List Loc} {ls : Array Slot} {ad bd : Nat → Nat} {gkp gw gz gik gwd gmy : Nat → Int32} {K : Int32} {xo me : Nat} (C0 : lw_At p s m meth c b Ln xs) (hKK : z_KK D cy adK adV (fun q : Nat => s.heap.size ≤ q) s) (hxo : ad 0 = xo) (hme : bd 0 = me) (hSX : z_SX L F cy ad gkp gw gz) (hSM : z_SM L F cy bd gik gwd gmy) (hdis : ∀ i j : Nat, i < 135 → j < 29 → ad i ≠ bd j) (hrel : z_rel gkp gw gz gik gwd gmy) (hw : z_H D vwCl (fun q : Nat => s.heap.size ≤ q) s.heap L F H locs) (hl : lv_has ls 4 [(3, .int K), (2, .ref me), (1, .ref xo), (0, .ref b)]) (hKr : 0 ≤ K.toInt ∧ K.toInt + 6 ≤ Ln) (hLn : Ln ≤ 3072) (kk : ∀ (F2 : Nat → va_E) (H2 : Heap) (locs2 : List Loc) (a1 a2 a3 a4 a5 a6 : Nat → Int32), z_SX L F2 cy ad a1 a2 a3 → z_SM L F2 cy bd a4 a5 a6 → z_rel a1 a2 a3 a4 a5 a6 → z_H D vwCl (fun q : Nat => s.heap.size ≤ q) s.heap L F2 H2 locs2 → W p l e room_1 s m #[Value.ref b] below meth c H2 locs2 164 16321 (lw_Z below #[Value.ref b] s) (F0 m 1615 ls [])) : W p l e room_1 s m #[Value.ref b] below meth c H locs 164 16321 (lw_Z below #[Value.ref b] s) (F0 m 667 ls []) := by
  subst hxo
  subst hme
  obtain ⟨hx, hb, hr, hml, hown, hts, hX, hbl, hlocks, hgv⟩ := C0
  have hA : ∀ q : Nat, s.heap.size ≤ q → (fun q : Nat => s.heap.size ≤ q) q := fun _ h => h
  have hbA : ¬ (fun q : Nat => s.heap.size ≤ q) b := Nat.not_le.mpr hbl
  have hT : ∀ w ∈ lw_all, w.before #[Value.ref b] s = true := fun w h => hts w (z_all_in w h)
  have hown : s.vm.findClass RL = some m.cls := hown
  have hK := hKK.1.1
  obtain ⟨x1, ex1⟩ : ∃ z, z = xs (K.toNatClampNeg + 1) := ⟨_, rfl⟩
  obtain ⟨x2, ex2⟩ : ∃ z, z = xs (K.toNatClampNeg + 2) := ⟨_, rfl⟩
  obtain ⟨x3, ex3⟩ : ∃ z, z = xs (K.toNatClampNeg + 3) := ⟨_, rfl⟩
  obtain ⟨x4, ex4⟩ : ∃ z, z = xs (K.toNatClampNeg + 4) := ⟨_, rfl⟩
  obtain ⟨x5, ex5⟩ : ∃ z, z = xs (K.toNatClampNeg + 5) := ⟨_, rfl⟩
  refine lv_aload_n hx hb dL_law_667 rfl (lv_at hl 2 rfl) ?_
  refine lv_aload_n hx hb dL_law_668 rfl (lv_at hl 3 rfl) ?_
  refine lv_iload_n hx hb dL_law_669 rfl (lv_at hl 0 rfl) ?_
  refine lv_iconst (v := 1) hx hb dL_law_670 (by decide) ?_
  refine lv_iadd hx hb dL_law_671 ?_
  refine lv_topi (fun w1 e_w1 => ?_)
  have i_w1 : w1.toInt = (K.toInt + 1) := z_add e_w1 rfl (show (1 : Int32).toInt = 1 by decide) (by omega)
  refine va_sld hx hb hX hbl hbA hw.2.2 (z_ix i_w1 (by omega)) dL_law_672 ?_
  refine z_lit (y := x1) (by rw [ex1, z_ixK (K := K) (k := 1) i_w1 (by omega)]) ?_
  obtain ⟨fs_, hfo⟩ := z_SX_xo hSX
  refine z_calliV (cells := 164) (slots := 16321) (b := ad 0) (As := [.int x1]) (rest := []) (ci := 9) (q0 := (RX9, TX9, 11)) ⟨hx, hb, hml, hown, hT⟩ (s_X9_left l hSX) (cwV 1 hT (z_goodV (fun _ h => h) kw_879 kw_880 kw_881 kw_85 kw_882) rfl rfl rfl (by decide +kernel) ⟨by decide, by decide⟩) z_mv hKK hK hw hA (z_SX_mem hSX (by decide)) hfo rfl rfl rfl hl.1 rfl (Nat.le_of_ble_eq_true rfl) dL_law_673 ⟨by decide, by decide⟩ (fun r3 u H locs hp hw => ?_)
  obtain ⟨L2, F2⟩ := u
  obtain ⟨hL2, hfr, hS2⟩ := hp
  have hL2 : L = L2 := hL2
  subst hL2
  have hw : z_H D vwCl (fun q : Nat => s.heap.size ≤ q) s.heap L F2 H locs := hw
  have hSM := z_SM_fr (f2 := F2) hSM (fun i hi => hfr _ (z_SM_mem hSM hi) (fun j hj => (hdis j i hj hi).symm))
  have hSX := hS2
  have hSX : z_SX L F2 cy ad gkp gw gz := hSX
  refine lv_pop hx hb dL_law_676 rfl ?_
  refine lv_aload_n hx hb dL_law_677 rfl (lv_at hl 1 rfl) ?_
  refine lv_aload_n hx hb dL_law_678 rfl (lv_at hl 3 rfl) ?_
  refine lv_iload_n hx hb dL_law_679 rfl (lv_at hl 0 rfl) ?_
  refine lv_iconst (v := 1) hx hb dL_law_680 (by decide) ?_
  refine lv_iadd hx hb dL_law_681 ?_
  refine lv_topi (fun w4 e_w4 => ?_)
  have i_w4 : w4.toInt = (K.toInt + 1) := z_add e_w4 rfl (show (1 : Int32).toInt = 1 by decide) (by omega)
  refine va_sld hx hb hX hbl hbA hw.2.2 (z_ix i_w4 (by omega)) dL_law_682 ?_
  refine z_lit (y := x1) (by rw [ex1, z_ixK (K := K) (k := 1) i_w4 (by omega)]) ?_
  obtain ⟨fs_, hfo⟩ := z_SM_xo hSM
  refine z_calliV (cells := 164) (slots := 16321) (b := bd 0) (As := [.int x1]) (rest := []) (ci := 10) (q0 := (RX10, TX10, 54)) ⟨hx, hb, hml, hown, hT⟩ (s_X10_left l hSM) (cwV 1 hT (z_goodV (fun _ h => h) kw_1620 kw_1621 kw_1622 kw_96 kw_1623) rfl rfl rfl (by decide +kernel) ⟨by decide, by decide⟩) z_mv hKK hK hw hA (z_SM_mem hSM (by decide)) hfo rfl rfl rfl hl.1 rfl (Nat.le_of_ble_eq_true rfl) dL_law_683 ⟨by decide, by decide⟩ (fun r6 u H locs hp hw => ?_)
  obtain ⟨L2, F5⟩ := u
  obtain ⟨hL2, hfr, hS2⟩ := hp
  have hL2 : L = L2 := hL2
  subst hL2
  have hw : z_H D vwCl (fun q : Nat => s.heap.size ≤ q) s.heap L F5 H locs := hw
  have hSX := z_SX_frL (f2 := F5) hSX (fun _ h => h) (fun i hi => hfr _ (z_SX_mem hSX hi) (fun j hj => hdis i j hi hj))
  have hSM := hS2
  have hSM : z_SM L F5 cy bd gik gwd gmy := hSM
  have hrel0 := hrel
  refine lv_pop hx hb dL_law_686 rfl ?_
  refine lv_goto (tgt := 1615) hx hb dL_law_687 (by decide) ?_
  exact kk _ _ _ _ _ _ _ _ _ hSX hSM hrel hw

set_option maxHeartbeats 4000000 in
set_option maxRecDepth 100000 in
theorem lc_best {p : Program} {e : Env} {s : State} {m : MethodId} {below : List Frame} {meth : Method} {c : Code} (l : Launch) {b Ln : Nat} {xs : Nat → Int32} {D : va_G} {cy : Nat → ClassId} {adK adV : Nat → Nat} {L : List Nat} {F : Nat → va_E} {H : Heap} {locs : List Loc} {ls : Array Slot} {ad bd : Nat → Nat} {gkp gw gz gik gwd gmy : Nat → Int32} {K : Int32} {xo me : Nat} (C0 : lw_At p s m meth c b Ln xs) (hKK : z_KK D cy adK adV (fun q : Nat => s.heap.size ≤ q) s) (hxo : ad 0 = xo) (hme : bd 0 = me) (hSX : z_SX L F cy ad gkp gw gz) (hSM : z_SM L F cy bd gik gwd gmy) (hdis : ∀ i j : Nat, i < 135 → j < 29 → ad i ≠ bd j) (hrel : z_rel gkp gw gz gik gwd gmy) (hw : z_H D vwCl (fun q : Nat => s.heap.size ≤ q) s.heap L F H locs) (hl : lv_has ls 4 [(3, .int K), (2, .ref me), (1, .ref xo), (0, .ref b)]) (hKr : 0 ≤ K.toInt ∧ K.toInt + 6 ≤ Ln) (hLn : Ln ≤ 3072) (kk : ∀ (F2 : Nat → va_E) (H2 : Heap) (locs2 : List Loc) (a1 a2 a3 a4 a5 a6 : Nat → Int32), z_SX L F2 cy ad a1 a2 a3 → z_SM L F2 cy bd a4 a5 a6 → z_rel a1 a2 a3 a4 a5 a6 → z_H D vwCl (fun q : Nat => s.heap.size ≤ q) s.heap L F2 H2 locs2 → W p l e room_1 s m #[Value.ref b] below meth c H2 locs2 164 16321 (lw_Z below #[Value.ref b] s) (F0 m 1615 ls [])) : W p l e room_1 s m #[Value.ref b] below meth c H locs 164 16321 (lw_Z below #[Value.ref b] s) (F0 m 690 ls []) := by
  subst hxo
  subst hme
  obtain ⟨hx, hb, hr, hml, hown, hts, hX, hbl, hlocks, hgv⟩ := C0
  have hA : ∀ q : Nat, s.heap.size ≤ q → (fun q : Nat => s.heap.size ≤ q) q := fun _ h => h
  have hbA : ¬ (fun q : Nat => s.heap.size ≤ q) b := Nat.not_le.mpr hbl
  have hT : ∀ w ∈ lw_all, w.before #[Value.ref b] s = true := fun w h => hts w (z_all_in w h)
  have hown : s.vm.findClass RL = some m.cls := hown
  have hK := hKK.1.1
  obtain ⟨x1, ex1⟩ : ∃ z, z = xs (K.toNatClampNeg + 1) := ⟨_, rfl⟩
  obtain ⟨x2, ex2⟩ : ∃ z, z = xs (K.toNatClampNeg + 2) := ⟨_, rfl⟩
  obtain ⟨x3, ex3⟩ : ∃ z, z = xs (K.toNatClampNeg + 3) := ⟨_, rfl⟩
  obtain ⟨x4, ex4⟩ : ∃ z, z = xs (K.toNatClampNeg + 4) := ⟨_, rfl⟩
  obtain ⟨x5, ex5⟩ : ∃ z, z = xs (K.toNatClampNeg + 5) := ⟨_, rfl⟩
  refine lv_aload_n hx hb dL_law_690 rfl (lv_at hl 2 rfl) ?_
  refine lv_aload_n hx hb dL_law_691 rfl (lv_at hl 3 rfl) ?_
  refine lv_iload_n hx hb dL_law_692 rfl (lv_at hl 0 rfl) ?_
  refine lv_iconst (v := 1) hx hb dL_law_693 (by decide) ?_
  refine lv_iadd hx hb dL_law_694 ?_
  refine lv_topi (fun w1 e_w1 => ?_)
  have i_w1 : w1.toInt = (K.toInt + 1) := z_add e_w1 rfl (show (1 : Int32).toInt = 1 by decide) (by omega)
  refine va_sld hx hb hX hbl hbA hw.2.2 (z_ix i_w1 (by omega)) dL_law_695 ?_
  refine z_lit (y := x1) (by rw [ex1, z_ixK (K := K) (k := 1) i_w1 (by omega)]) ?_
  refine lv_aload_n hx hb dL_law_696 rfl (lv_at hl 3 rfl) ?_
  refine lv_iload_n hx hb dL_law_697 rfl (lv_at hl 0 rfl) ?_
  refine lv_iconst (v := 2) hx hb dL_law_698 (by decide) ?_
  refine lv_iadd hx hb dL_law_699 ?_
  refine lv_topi (fun w2 e_w2 => ?_)
  have i_w2 : w2.toInt = (K.toInt + 2) := z_add e_w2 rfl (show (2 : Int32).toInt = 2 by decide) (by omega)
  refine va_sld hx hb hX hbl hbA hw.2.2 (z_ix i_w2 (by omega)) dL_law_700 ?_
  refine z_lit (y := x2) (by rw [ex2, z_ixK (K := K) (k := 2) i_w2 (by omega)]) ?_
  obtain ⟨fs_, hfo⟩ := z_SX_xo hSX
  refine z_calliV (cells := 164) (slots := 16321) (b := ad 0) (As := [.int x1, .int x2]) (rest := []) (ci := 9) (q0 := (RX9, TX9, 11)) ⟨hx, hb, hml, hown, hT⟩ (s_X9_best l hSX) (cwV 2 hT (z_goodV (fun _ h => h) kw_895 kw_896 kw_897 kw_85 kw_898) rfl rfl rfl (by decide +kernel) ⟨by decide, by decide⟩) z_mv hKK hK hw hA (z_SX_mem hSX (by decide)) hfo rfl rfl rfl hl.1 rfl (Nat.le_of_ble_eq_true rfl) dL_law_701 ⟨by decide, by decide⟩ (fun r4 u H locs hp hw => ?_)
  obtain ⟨L2, F3⟩ := u
  obtain ⟨hL2, hfr, hS2⟩ := hp
  have hL2 : L = L2 := hL2
  subst hL2
  have hw : z_H D vwCl (fun q : Nat => s.heap.size ≤ q) s.heap L F3 H locs := hw
  have hSM := z_SM_fr (f2 := F3) hSM (fun i hi => hfr _ (z_SM_mem hSM hi) (fun j hj => (hdis j i hj hi).symm))
  have hSX := hS2
  have hSX : z_SX L F3 cy ad gkp gw gz := hSX
  refine lv_pop hx hb dL_law_704 rfl ?_
  refine lv_aload_n hx hb dL_law_705 rfl (lv_at hl 1 rfl) ?_
  refine lv_aload_n hx hb dL_law_706 rfl (lv_at hl 3 rfl) ?_
  refine lv_iload_n hx hb dL_law_707 rfl (lv_at hl 0 rfl) ?_
  refine lv_iconst (v := 1) hx hb dL_law_708 (by decide) ?_
  refine lv_iadd hx hb dL_law_709 ?_
  refine lv_topi (fun w5 e_w5 => ?_)
  have i_w5 : w5.toInt = (K.toInt + 1) := z_add e_w5 rfl (show (1 : Int32).toInt = 1 by decide) (by omega)
  refine va_sld hx hb hX hbl hbA hw.2.2 (z_ix i_w5 (by omega)) dL_law_710 ?_
  refine z_lit (y := x1) (by rw [ex1, z_ixK (K := K) (k := 1) i_w5 (by omega)]) ?_
  refine lv_aload_n hx hb dL_law_711 rfl (lv_at hl 3 rfl) ?_
  refine lv_iload_n hx hb dL_law_712 rfl (lv_at hl 0 rfl) ?_
  refine lv_iconst (v := 2) hx hb dL_law_713 (by decide) ?_
  refine lv_iadd hx hb dL_law_714 ?_
  refine lv_topi (fun w6 e_w6 => ?_)
  have i_w6 : w6.toInt = (K.toInt + 2) := z_add e_w6 rfl (show (2 : Int32).toInt = 2 by decide) (by omega)
  refine va_sld hx hb hX hbl hbA hw.2.2 (z_ix i_w6 (by omega)) dL_law_715 ?_
  refine z_lit (y := x2) (by rw [ex2, z_ixK (K := K) (k := 2) i_w6 (by omega)]) ?_
  obtain ⟨fs_, hfo⟩ := z_SM_xo hSM
  refine z_calliV (cells := 164) (slots := 16321) (b := bd 0) (As := [.int x1, .int x2]) (rest := []) (ci := 10) (q0 := (RX10, TX10, 54)) ⟨hx, hb, hml, hown, hT⟩ (s_X10_best l hSM) (cwV 2 hT (z_goodV (fun _ h => h) kw_1624 kw_1625 kw_1626 kw_96 kw_1627) rfl rfl rfl (by decide +kernel) ⟨by decide, by decide⟩) z_mv hKK hK hw hA (z_SM_mem hSM (by decide)) hfo rfl rfl rfl hl.1 rfl (Nat.le_of_ble_eq_true rfl) dL_law_716 ⟨by decide, by decide⟩ (fun r8 u H locs hp hw => ?_)
  obtain ⟨L2, F7⟩ := u
  obtain ⟨hL2, hfr, hS2⟩ := hp
  have hL2 : L = L2 := hL2
  subst hL2
  have hw : z_H D vwCl (fun q : Nat => s.heap.size ≤ q) s.heap L F7 H locs := hw
  have hSX := z_SX_frL (f2 := F7) hSX (fun _ h => h) (fun i hi => hfr _ (z_SX_mem hSX hi) (fun j hj => hdis i j hi hj))
  have hSM := hS2
  have hSM : z_SM L F7 cy bd gik gwd gmy := hSM
  have hrel0 := hrel
  refine lv_pop hx hb dL_law_719 rfl ?_
  refine lv_goto (tgt := 1615) hx hb dL_law_720 (by decide) ?_
  exact kk _ _ _ _ _ _ _ _ _ hSX hSM hrel hw

set_option maxHeartbeats 4000000 in
set_option maxRecDepth 100000 in
theorem lc_split {p : Program} {e : Env} {s : State} {m : MethodId} {below : List Frame} {meth : Method} {c : Code} (l : Launch) {b Ln : Nat} {xs : Nat → Int32} {D : va_G} {cy : Nat → ClassId} {adK adV : Nat → Nat} {L : List Nat} {F : Nat → va_E} {H : Heap} {locs : List Loc} {ls : Array Slot} {ad bd : Nat → Nat} {gkp gw gz gik gwd gmy : Nat → Int32} {K : Int32} {xo me : Nat} (C0 : lw_At p s m meth c b Ln xs) (hKK : z_KK D cy adK adV (fun q : Nat => s.heap.size ≤ q) s) (hxo : ad 0 = xo) (hme : bd 0 = me) (hSX : z_SX L F cy ad gkp gw gz) (hSM : z_SM L F cy bd gik gwd gmy) (hdis : ∀ i j : Nat, i < 135 → j < 29 → ad i ≠ bd j) (hrel : z_rel gkp gw gz gik gwd gmy) (hw : z_H D vwCl (fun q : Nat => s.heap.size ≤ q) s.heap L F H locs) (hl : lv_has ls 4 [(3, .int K), (2, .ref me), (1, .ref xo), (0, .ref b)]) (hKr : 0 ≤ K.toInt ∧ K.toInt + 6 ≤ Ln) (hLn : Ln ≤ 3072) (kk : ∀ (F2 : Nat → va_E) (H2 : Heap) (locs2 : List Loc) (a1 a2 a3 a4 a5 a6 : Nat → Int32), z_SX L F2 cy ad a1 a2 a3 → z_SM L F2 cy bd a4 a5 a6 → z_rel a1 a2 a3 a4 a5 a6 → z_H D vwCl (fun q : Nat => s.heap.size ≤ q) s.heap L F2 H2 locs2 → W p l e room_1 s m #[Value.ref b] below meth c H2 locs2 164 16321 (lw_Z below #[Value.ref b] s) (F0 m 1615 ls [])) : W p l e room_1 s m #[Value.ref b] below meth c H locs 164 16321 (lw_Z below #[Value.ref b] s) (F0 m 723 ls []) := by
  subst hxo
  subst hme
  obtain ⟨hx, hb, hr, hml, hown, hts, hX, hbl, hlocks, hgv⟩ := C0
  have hA : ∀ q : Nat, s.heap.size ≤ q → (fun q : Nat => s.heap.size ≤ q) q := fun _ h => h
  have hbA : ¬ (fun q : Nat => s.heap.size ≤ q) b := Nat.not_le.mpr hbl
  have hT : ∀ w ∈ lw_all, w.before #[Value.ref b] s = true := fun w h => hts w (z_all_in w h)
  have hown : s.vm.findClass RL = some m.cls := hown
  have hK := hKK.1.1
  obtain ⟨x1, ex1⟩ : ∃ z, z = xs (K.toNatClampNeg + 1) := ⟨_, rfl⟩
  obtain ⟨x2, ex2⟩ : ∃ z, z = xs (K.toNatClampNeg + 2) := ⟨_, rfl⟩
  obtain ⟨x3, ex3⟩ : ∃ z, z = xs (K.toNatClampNeg + 3) := ⟨_, rfl⟩
  obtain ⟨x4, ex4⟩ : ∃ z, z = xs (K.toNatClampNeg + 4) := ⟨_, rfl⟩
  obtain ⟨x5, ex5⟩ : ∃ z, z = xs (K.toNatClampNeg + 5) := ⟨_, rfl⟩
  refine lv_aload_n hx hb dL_law_723 rfl (lv_at hl 2 rfl) ?_
  refine lv_aload_n hx hb dL_law_724 rfl (lv_at hl 3 rfl) ?_
  refine lv_iload_n hx hb dL_law_725 rfl (lv_at hl 0 rfl) ?_
  refine lv_iconst (v := 1) hx hb dL_law_726 (by decide) ?_
  refine lv_iadd hx hb dL_law_727 ?_
  refine lv_topi (fun w1 e_w1 => ?_)
  have i_w1 : w1.toInt = (K.toInt + 1) := z_add e_w1 rfl (show (1 : Int32).toInt = 1 by decide) (by omega)
  refine va_sld hx hb hX hbl hbA hw.2.2 (z_ix i_w1 (by omega)) dL_law_728 ?_
  refine z_lit (y := x1) (by rw [ex1, z_ixK (K := K) (k := 1) i_w1 (by omega)]) ?_
  refine lv_aload_n hx hb dL_law_729 rfl (lv_at hl 3 rfl) ?_
  refine lv_iload_n hx hb dL_law_730 rfl (lv_at hl 0 rfl) ?_
  refine lv_iconst (v := 2) hx hb dL_law_731 (by decide) ?_
  refine lv_iadd hx hb dL_law_732 ?_
  refine lv_topi (fun w2 e_w2 => ?_)
  have i_w2 : w2.toInt = (K.toInt + 2) := z_add e_w2 rfl (show (2 : Int32).toInt = 2 by decide) (by omega)
  refine va_sld hx hb hX hbl hbA hw.2.2 (z_ix i_w2 (by omega)) dL_law_733 ?_
  refine z_lit (y := x2) (by rw [ex2, z_ixK (K := K) (k := 2) i_w2 (by omega)]) ?_
  obtain ⟨fs_, hfo⟩ := z_SX_xo hSX
  refine z_calliV (cells := 164) (slots := 16321) (b := ad 0) (As := [.int x1, .int x2]) (rest := []) (ci := 9) (q0 := (RX9, TX9, 11)) ⟨hx, hb, hml, hown, hT⟩ (s_X9_split l hSX) (cwV 2 hT (z_goodV (fun _ h => h) kw_920 kw_921 kw_922 kw_85 kw_923) rfl rfl rfl (by decide +kernel) ⟨by decide, by decide⟩) z_mv hKK hK hw hA (z_SX_mem hSX (by decide)) hfo rfl rfl rfl hl.1 rfl (Nat.le_of_ble_eq_true rfl) dL_law_734 ⟨by decide, by decide⟩ (fun r4 u H locs hp hw => ?_)
  obtain ⟨L2, F3⟩ := u
  obtain ⟨hL2, hfr, hS2⟩ := hp
  have hL2 : L = L2 := hL2
  subst hL2
  have hw : z_H D vwCl (fun q : Nat => s.heap.size ≤ q) s.heap L F3 H locs := hw
  have hSM := z_SM_fr (f2 := F3) hSM (fun i hi => hfr _ (z_SM_mem hSM hi) (fun j hj => (hdis j i hj hi).symm))
  have hSX := hS2
  have hSX : z_SX L F3 cy ad gkp gw gz := hSX
  refine lv_pop hx hb dL_law_737 rfl ?_
  refine lv_aload_n hx hb dL_law_738 rfl (lv_at hl 1 rfl) ?_
  refine lv_aload_n hx hb dL_law_739 rfl (lv_at hl 3 rfl) ?_
  refine lv_iload_n hx hb dL_law_740 rfl (lv_at hl 0 rfl) ?_
  refine lv_iconst (v := 1) hx hb dL_law_741 (by decide) ?_
  refine lv_iadd hx hb dL_law_742 ?_
  refine lv_topi (fun w5 e_w5 => ?_)
  have i_w5 : w5.toInt = (K.toInt + 1) := z_add e_w5 rfl (show (1 : Int32).toInt = 1 by decide) (by omega)
  refine va_sld hx hb hX hbl hbA hw.2.2 (z_ix i_w5 (by omega)) dL_law_743 ?_
  refine z_lit (y := x1) (by rw [ex1, z_ixK (K := K) (k := 1) i_w5 (by omega)]) ?_
  refine lv_aload_n hx hb dL_law_744 rfl (lv_at hl 3 rfl) ?_
  refine lv_iload_n hx hb dL_law_745 rfl (lv_at hl 0 rfl) ?_
  refine lv_iconst (v := 2) hx hb dL_law_746 (by decide) ?_
  refine lv_iadd hx hb dL_law_747 ?_
  refine lv_topi (fun w6 e_w6 => ?_)
  have i_w6 : w6.toInt = (K.toInt + 2) := z_add e_w6 rfl (show (2 : Int32).toInt = 2 by decide) (by omega)
  refine va_sld hx hb hX hbl hbA hw.2.2 (z_ix i_w6 (by omega)) dL_law_748 ?_
  refine z_lit (y := x2) (by rw [ex2, z_ixK (K := K) (k := 2) i_w6 (by omega)]) ?_
  obtain ⟨fs_, hfo⟩ := z_SM_xo hSM
  refine z_calliV (cells := 164) (slots := 16321) (b := bd 0) (As := [.int x1, .int x2]) (rest := []) (ci := 10) (q0 := (RX10, TX10, 54)) ⟨hx, hb, hml, hown, hT⟩ (s_X10_split l hSM) (cwV 2 hT (z_goodV (fun _ h => h) kw_1632 kw_1633 kw_1634 kw_96 kw_1635) rfl rfl rfl (by decide +kernel) ⟨by decide, by decide⟩) z_mv hKK hK hw hA (z_SM_mem hSM (by decide)) hfo rfl rfl rfl hl.1 rfl (Nat.le_of_ble_eq_true rfl) dL_law_749 ⟨by decide, by decide⟩ (fun r8 u H locs hp hw => ?_)
  obtain ⟨L2, F7⟩ := u
  obtain ⟨hL2, hfr, hS2⟩ := hp
  have hL2 : L = L2 := hL2
  subst hL2
  have hw : z_H D vwCl (fun q : Nat => s.heap.size ≤ q) s.heap L F7 H locs := hw
  have hSX := z_SX_frL (f2 := F7) hSX (fun _ h => h) (fun i hi => hfr _ (z_SX_mem hSX hi) (fun j hj => hdis i j hi hj))
  have hSM := hS2
  have hSM : z_SM L F7 cy bd gik gwd gmy := hSM
  have hrel0 := hrel
  refine lv_pop hx hb dL_law_752 rfl ?_
  refine lv_goto (tgt := 1615) hx hb dL_law_753 (by decide) ?_
  exact kk _ _ _ _ _ _ _ _ _ hSX hSM hrel hw

set_option maxHeartbeats 4000000 in
set_option maxRecDepth 100000 in
theorem lc_rest {p : Program} {e : Env} {s : State} {m : MethodId} {below : List Frame} {meth : Method} {c : Code} (l : Launch) {b Ln : Nat} {xs : Nat → Int32} {D : va_G} {cy : Nat → ClassId} {adK adV : Nat → Nat} {L : List Nat} {F : Nat → va_E} {H : Heap} {locs : List Loc} {ls : Array Slot} {ad bd : Nat → Nat} {gkp gw gz gik gwd gmy : Nat → Int32} {K : Int32} {xo me : Nat} (C0 : lw_At p s m meth c b Ln xs) (hKK : z_KK D cy adK adV (fun q : Nat => s.heap.size ≤ q) s) (hxo : ad 0 = xo) (hme : bd 0 = me) (hSX : z_SX L F cy ad gkp gw gz) (hSM : z_SM L F cy bd gik gwd gmy) (hdis : ∀ i j : Nat, i < 135 → j < 29 → ad i ≠ bd j) (hrel : z_rel gkp gw gz gik gwd gmy) (hw : z_H D vwCl (fun q : Nat => s.heap.size ≤ q) s.heap L F H locs) (hl : lv_has ls 4 [(3, .int K), (2, .ref me), (1, .ref xo), (0, .ref b)]) (hKr : 0 ≤ K.toInt ∧ K.toInt + 6 ≤ Ln) (hLn : Ln ≤ 3072) (kk : ∀ (F2 : Nat → va_E) (H2 : Heap) (locs2 : List Loc) (a1 a2 a3 a4 a5 a6 : Nat → Int32), z_SX L F2 cy ad a1 a2 a3 → z_SM L F2 cy bd a4 a5 a6 → z_rel a1 a2 a3 a4 a5 a6 → z_H D vwCl (fun q : Nat => s.heap.size ≤ q) s.heap L F2 H2 locs2 → W p l e room_1 s m #[Value.ref b] below meth c H2 locs2 164 16321 (lw_Z below #[Value.ref b] s) (F0 m 1615 ls [])) : W p l e room_1 s m #[Value.ref b] below meth c H locs 164 16321 (lw_Z below #[Value.ref b] s) (F0 m 756 ls []) := by
  subst hxo
  subst hme
  obtain ⟨hx, hb, hr, hml, hown, hts, hX, hbl, hlocks, hgv⟩ := C0
  have hA : ∀ q : Nat, s.heap.size ≤ q → (fun q : Nat => s.heap.size ≤ q) q := fun _ h => h
  have hbA : ¬ (fun q : Nat => s.heap.size ≤ q) b := Nat.not_le.mpr hbl
  have hT : ∀ w ∈ lw_all, w.before #[Value.ref b] s = true := fun w h => hts w (z_all_in w h)
  have hown : s.vm.findClass RL = some m.cls := hown
  have hK := hKK.1.1
  obtain ⟨x1, ex1⟩ : ∃ z, z = xs (K.toNatClampNeg + 1) := ⟨_, rfl⟩
  obtain ⟨x2, ex2⟩ : ∃ z, z = xs (K.toNatClampNeg + 2) := ⟨_, rfl⟩
  obtain ⟨x3, ex3⟩ : ∃ z, z = xs (K.toNatClampNeg + 3) := ⟨_, rfl⟩
  obtain ⟨x4, ex4⟩ : ∃ z, z = xs (K.toNatClampNeg + 4) := ⟨_, rfl⟩
  obtain ⟨x5, ex5⟩ : ∃ z, z = xs (K.toNatClampNeg + 5) := ⟨_, rfl⟩
  refine lv_aload_n hx hb dL_law_756 rfl (lv_at hl 2 rfl) ?_
  obtain ⟨fs_, hfo⟩ := z_SX_xo hSX
  refine z_calliV (cells := 164) (slots := 16321) (b := ad 0) (As := []) (rest := []) (ci := 9) (q0 := (RX9, TX9, 11)) ⟨hx, hb, hml, hown, hT⟩ (s_X9_rest l hSX) (cwV 0 hT (z_goodV (fun _ h => h) kw_930 kw_931 kw_932 kw_85 kw_933) rfl rfl rfl (by decide +kernel) ⟨by decide, by decide⟩) z_mv hKK hK hw hA (z_SX_mem hSX (by decide)) hfo rfl rfl rfl hl.1 rfl (Nat.le_of_ble_eq_true rfl) dL_law_757 ⟨by decide, by decide⟩ (fun r2 u H locs hp hw => ?_)
  obtain ⟨L2, F1⟩ := u
  obtain ⟨hL2, hfr, hS2⟩ := hp
  have hL2 : L = L2 := hL2
  subst hL2
  have hw : z_H D vwCl (fun q : Nat => s.heap.size ≤ q) s.heap L F1 H locs := hw
  have hSM := z_SM_fr (f2 := F1) hSM (fun i hi => hfr _ (z_SM_mem hSM hi) (fun j hj => (hdis j i hj hi).symm))
  have hSX := hS2
  have hSX : z_SX L F1 cy ad gkp gw gz := hSX
  refine lv_pop hx hb dL_law_760 rfl ?_
  refine lv_aload_n hx hb dL_law_761 rfl (lv_at hl 1 rfl) ?_
  obtain ⟨fs_, hfo⟩ := z_SM_xo hSM
  refine z_calliV (cells := 164) (slots := 16321) (b := bd 0) (As := []) (rest := []) (ci := 10) (q0 := (RX10, TX10, 54)) ⟨hx, hb, hml, hown, hT⟩ (s_X10_rest l hSM) (cwV 0 hT (z_goodV (fun _ h => h) kw_1640 kw_1641 kw_1642 kw_96 kw_1643) rfl rfl rfl (by decide +kernel) ⟨by decide, by decide⟩) z_mv hKK hK hw hA (z_SM_mem hSM (by decide)) hfo rfl rfl rfl hl.1 rfl (Nat.le_of_ble_eq_true rfl) dL_law_762 ⟨by decide, by decide⟩ (fun r4 u H locs hp hw => ?_)
  obtain ⟨L2, F3⟩ := u
  obtain ⟨hL2, hfr, hS2⟩ := hp
  have hL2 : L = L2 := hL2
  subst hL2
  have hw : z_H D vwCl (fun q : Nat => s.heap.size ≤ q) s.heap L F3 H locs := hw
  have hSX := z_SX_frL (f2 := F3) hSX (fun _ h => h) (fun i hi => hfr _ (z_SX_mem hSX hi) (fun j hj => hdis i j hi hj))
  have hSM := hS2
  have hSM : z_SM L F3 cy bd gik gwd gmy := hSM
  have hrel0 := hrel
  refine lv_pop hx hb dL_law_765 rfl ?_
  refine lv_goto (tgt := 1615) hx hb dL_law_766 (by decide) ?_
  exact kk _ _ _ _ _ _ _ _ _ hSX hSM hrel hw

set_option maxHeartbeats 4000000 in
set_option maxRecDepth 100000 in
theorem lc_rests {p : Program} {e : Env} {s : State} {m : MethodId} {below : List Frame} {meth : Method} {c : Code} (l : Launch) {b Ln : Nat} {xs : Nat → Int32} {D : va_G} {cy : Nat → ClassId} {adK adV : Nat → Nat} {L : List Nat} {F : Nat → va_E} {H : Heap} {locs : List Loc} {ls : Array Slot} {ad bd : Nat → Nat} {gkp gw gz gik gwd gmy : Nat → Int32} {K : Int32} {xo me : Nat} (C0 : lw_At p s m meth c b Ln xs) (hKK : z_KK D cy adK adV (fun q : Nat => s.heap.size ≤ q) s) (hxo : ad 0 = xo) (hme : bd 0 = me) (hSX : z_SX L F cy ad gkp gw gz) (hSM : z_SM L F cy bd gik gwd gmy) (hdis : ∀ i j : Nat, i < 135 → j < 29 → ad i ≠ bd j) (hrel : z_rel gkp gw gz gik gwd gmy) (hw : z_H D vwCl (fun q : Nat => s.heap.size ≤ q) s.heap L F H locs) (hl : lv_has ls 4 [(3, .int K), (2, .ref me), (1, .ref xo), (0, .ref b)]) (hKr : 0 ≤ K.toInt ∧ K.toInt + 6 ≤ Ln) (hLn : Ln ≤ 3072) (kk : ∀ (F2 : Nat → va_E) (H2 : Heap) (locs2 : List Loc) (a1 a2 a3 a4 a5 a6 : Nat → Int32), z_SX L F2 cy ad a1 a2 a3 → z_SM L F2 cy bd a4 a5 a6 → z_rel a1 a2 a3 a4 a5 a6 → z_H D vwCl (fun q : Nat => s.heap.size ≤ q) s.heap L F2 H2 locs2 → W p l e room_1 s m #[Value.ref b] below meth c H2 locs2 164 16321 (lw_Z below #[Value.ref b] s) (F0 m 1615 ls [])) : W p l e room_1 s m #[Value.ref b] below meth c H locs 164 16321 (lw_Z below #[Value.ref b] s) (F0 m 769 ls []) := by
  subst hxo
  subst hme
  obtain ⟨hx, hb, hr, hml, hown, hts, hX, hbl, hlocks, hgv⟩ := C0
  have hA : ∀ q : Nat, s.heap.size ≤ q → (fun q : Nat => s.heap.size ≤ q) q := fun _ h => h
  have hbA : ¬ (fun q : Nat => s.heap.size ≤ q) b := Nat.not_le.mpr hbl
  have hT : ∀ w ∈ lw_all, w.before #[Value.ref b] s = true := fun w h => hts w (z_all_in w h)
  have hown : s.vm.findClass RL = some m.cls := hown
  have hK := hKK.1.1
  obtain ⟨x1, ex1⟩ : ∃ z, z = xs (K.toNatClampNeg + 1) := ⟨_, rfl⟩
  obtain ⟨x2, ex2⟩ : ∃ z, z = xs (K.toNatClampNeg + 2) := ⟨_, rfl⟩
  obtain ⟨x3, ex3⟩ : ∃ z, z = xs (K.toNatClampNeg + 3) := ⟨_, rfl⟩
  obtain ⟨x4, ex4⟩ : ∃ z, z = xs (K.toNatClampNeg + 4) := ⟨_, rfl⟩
  obtain ⟨x5, ex5⟩ : ∃ z, z = xs (K.toNatClampNeg + 5) := ⟨_, rfl⟩
  refine lv_aload_n hx hb dL_law_769 rfl (lv_at hl 2 rfl) ?_
  refine lv_aload_n hx hb dL_law_770 rfl (lv_at hl 3 rfl) ?_
  refine lv_iload_n hx hb dL_law_771 rfl (lv_at hl 0 rfl) ?_
  refine lv_iconst (v := 1) hx hb dL_law_772 (by decide) ?_
  refine lv_iadd hx hb dL_law_773 ?_
  refine lv_topi (fun w1 e_w1 => ?_)
  have i_w1 : w1.toInt = (K.toInt + 1) := z_add e_w1 rfl (show (1 : Int32).toInt = 1 by decide) (by omega)
  refine va_sld hx hb hX hbl hbA hw.2.2 (z_ix i_w1 (by omega)) dL_law_774 ?_
  refine z_lit (y := x1) (by rw [ex1, z_ixK (K := K) (k := 1) i_w1 (by omega)]) ?_
  obtain ⟨fs_, hfo⟩ := z_SX_xo hSX
  refine z_calliV (cells := 164) (slots := 16321) (b := ad 0) (As := [.int x1]) (rest := []) (ci := 9) (q0 := (RX9, TX9, 11)) ⟨hx, hb, hml, hown, hT⟩ (s_X9_rests l hSX) (cwV 1 hT (z_goodV (fun _ h => h) kw_939 kw_940 kw_941 kw_85 kw_942) rfl rfl rfl (by decide +kernel) ⟨by decide, by decide⟩) z_mv hKK hK hw hA (z_SX_mem hSX (by decide)) hfo rfl rfl rfl hl.1 rfl (Nat.le_of_ble_eq_true rfl) dL_law_775 ⟨by decide, by decide⟩ (fun r3 u H locs hp hw => ?_)
  obtain ⟨L2, F2⟩ := u
  obtain ⟨hL2, hfr, hS2⟩ := hp
  have hL2 : L = L2 := hL2
  subst hL2
  have hw : z_H D vwCl (fun q : Nat => s.heap.size ≤ q) s.heap L F2 H locs := hw
  have hSM := z_SM_fr (f2 := F2) hSM (fun i hi => hfr _ (z_SM_mem hSM hi) (fun j hj => (hdis j i hj hi).symm))
  have hSX := hS2
  have hSX : z_SX L F2 cy ad gkp gw gz := hSX
  refine lv_pop hx hb dL_law_778 rfl ?_
  refine lv_aload_n hx hb dL_law_779 rfl (lv_at hl 1 rfl) ?_
  refine lv_aload_n hx hb dL_law_780 rfl (lv_at hl 3 rfl) ?_
  refine lv_iload_n hx hb dL_law_781 rfl (lv_at hl 0 rfl) ?_
  refine lv_iconst (v := 1) hx hb dL_law_782 (by decide) ?_
  refine lv_iadd hx hb dL_law_783 ?_
  refine lv_topi (fun w4 e_w4 => ?_)
  have i_w4 : w4.toInt = (K.toInt + 1) := z_add e_w4 rfl (show (1 : Int32).toInt = 1 by decide) (by omega)
  refine va_sld hx hb hX hbl hbA hw.2.2 (z_ix i_w4 (by omega)) dL_law_784 ?_
  refine z_lit (y := x1) (by rw [ex1, z_ixK (K := K) (k := 1) i_w4 (by omega)]) ?_
  obtain ⟨fs_, hfo⟩ := z_SM_xo hSM
  refine z_calliV (cells := 164) (slots := 16321) (b := bd 0) (As := [.int x1]) (rest := []) (ci := 10) (q0 := (RX10, TX10, 54)) ⟨hx, hb, hml, hown, hT⟩ (s_X10_rests l hSM) (cwV 1 hT (z_goodV (fun _ h => h) kw_1648 kw_1649 kw_1650 kw_96 kw_1651) rfl rfl rfl (by decide +kernel) ⟨by decide, by decide⟩) z_mv hKK hK hw hA (z_SM_mem hSM (by decide)) hfo rfl rfl rfl hl.1 rfl (Nat.le_of_ble_eq_true rfl) dL_law_785 ⟨by decide, by decide⟩ (fun r6 u H locs hp hw => ?_)
  obtain ⟨L2, F5⟩ := u
  obtain ⟨hL2, hfr, hS2⟩ := hp
  have hL2 : L = L2 := hL2
  subst hL2
  have hw : z_H D vwCl (fun q : Nat => s.heap.size ≤ q) s.heap L F5 H locs := hw
  have hSX := z_SX_frL (f2 := F5) hSX (fun _ h => h) (fun i hi => hfr _ (z_SX_mem hSX hi) (fun j hj => hdis i j hi hj))
  have hSM := hS2
  have hSM : z_SM L F5 cy bd gik gwd gmy := hSM
  have hrel0 := hrel
  refine lv_pop hx hb dL_law_788 rfl ?_
  refine lv_goto (tgt := 1615) hx hb dL_law_789 (by decide) ?_
  exact kk _ _ _ _ _ _ _ _ _ hSX hSM hrel hw

set_option maxHeartbeats 4000000 in
set_option maxRecDepth 100000 in
theorem lc_sent {p : Program} {e : Env} {s : State} {m : MethodId} {below : List Frame} {meth : Method} {c : Code} (l : Launch) {b Ln : Nat} {xs : Nat → Int32} {D : va_G} {cy : Nat → ClassId} {adK adV : Nat → Nat} {L : List Nat} {F : Nat → va_E} {H : Heap} {locs : List Loc} {ls : Array Slot} {ad bd : Nat → Nat} {gkp gw gz gik gwd gmy : Nat → Int32} {K : Int32} {xo me : Nat} (C0 : lw_At p s m meth c b Ln xs) (hKK : z_KK D cy adK adV (fun q : Nat => s.heap.size ≤ q) s) (hxo : ad 0 = xo) (hme : bd 0 = me) (hSX : z_SX L F cy ad gkp gw gz) (hSM : z_SM L F cy bd gik gwd gmy) (hdis : ∀ i j : Nat, i < 135 → j < 29 → ad i ≠ bd j) (hrel : z_rel gkp gw gz gik gwd gmy) (hw : z_H D vwCl (fun q : Nat => s.heap.size ≤ q) s.heap L F H locs) (hl : lv_has ls 4 [(3, .int K), (2, .ref me), (1, .ref xo), (0, .ref b)]) (hKr : 0 ≤ K.toInt ∧ K.toInt + 6 ≤ Ln) (hLn : Ln ≤ 3072) (kk : ∀ (F2 : Nat → va_E) (H2 : Heap) (locs2 : List Loc) (a1 a2 a3 a4 a5 a6 : Nat → Int32), z_SX L F2 cy ad a1 a2 a3 → z_SM L F2 cy bd a4 a5 a6 → z_rel a1 a2 a3 a4 a5 a6 → z_H D vwCl (fun q : Nat => s.heap.size ≤ q) s.heap L F2 H2 locs2 → W p l e room_1 s m #[Value.ref b] below meth c H2 locs2 164 16321 (lw_Z below #[Value.ref b] s) (F0 m 1615 ls [])) : W p l e room_1 s m #[Value.ref b] below meth c H locs 164 16321 (lw_Z below #[Value.ref b] s) (F0 m 792 ls []) := by
  subst hxo
  subst hme
  obtain ⟨hx, hb, hr, hml, hown, hts, hX, hbl, hlocks, hgv⟩ := C0
  have hA : ∀ q : Nat, s.heap.size ≤ q → (fun q : Nat => s.heap.size ≤ q) q := fun _ h => h
  have hbA : ¬ (fun q : Nat => s.heap.size ≤ q) b := Nat.not_le.mpr hbl
  have hT : ∀ w ∈ lw_all, w.before #[Value.ref b] s = true := fun w h => hts w (z_all_in w h)
  have hown : s.vm.findClass RL = some m.cls := hown
  have hK := hKK.1.1
  obtain ⟨x1, ex1⟩ : ∃ z, z = xs (K.toNatClampNeg + 1) := ⟨_, rfl⟩
  obtain ⟨x2, ex2⟩ : ∃ z, z = xs (K.toNatClampNeg + 2) := ⟨_, rfl⟩
  obtain ⟨x3, ex3⟩ : ∃ z, z = xs (K.toNatClampNeg + 3) := ⟨_, rfl⟩
  obtain ⟨x4, ex4⟩ : ∃ z, z = xs (K.toNatClampNeg + 4) := ⟨_, rfl⟩
  obtain ⟨x5, ex5⟩ : ∃ z, z = xs (K.toNatClampNeg + 5) := ⟨_, rfl⟩
  refine lv_aload_n hx hb dL_law_792 rfl (lv_at hl 2 rfl) ?_
  refine lv_aload_n hx hb dL_law_793 rfl (lv_at hl 3 rfl) ?_
  refine lv_iload_n hx hb dL_law_794 rfl (lv_at hl 0 rfl) ?_
  refine lv_iconst (v := 1) hx hb dL_law_795 (by decide) ?_
  refine lv_iadd hx hb dL_law_796 ?_
  refine lv_topi (fun w1 e_w1 => ?_)
  have i_w1 : w1.toInt = (K.toInt + 1) := z_add e_w1 rfl (show (1 : Int32).toInt = 1 by decide) (by omega)
  refine va_sld hx hb hX hbl hbA hw.2.2 (z_ix i_w1 (by omega)) dL_law_797 ?_
  refine z_lit (y := x1) (by rw [ex1, z_ixK (K := K) (k := 1) i_w1 (by omega)]) ?_
  refine lv_aload_n hx hb dL_law_798 rfl (lv_at hl 3 rfl) ?_
  refine lv_iload_n hx hb dL_law_799 rfl (lv_at hl 0 rfl) ?_
  refine lv_iconst (v := 2) hx hb dL_law_800 (by decide) ?_
  refine lv_iadd hx hb dL_law_801 ?_
  refine lv_topi (fun w2 e_w2 => ?_)
  have i_w2 : w2.toInt = (K.toInt + 2) := z_add e_w2 rfl (show (2 : Int32).toInt = 2 by decide) (by omega)
  refine va_sld hx hb hX hbl hbA hw.2.2 (z_ix i_w2 (by omega)) dL_law_802 ?_
  refine z_lit (y := x2) (by rw [ex2, z_ixK (K := K) (k := 2) i_w2 (by omega)]) ?_
  obtain ⟨fs_, hfo⟩ := z_SX_xo hSX
  refine z_calliV (cells := 164) (slots := 16321) (b := ad 0) (As := [.int x1, .int x2]) (rest := []) (ci := 9) (q0 := (RX9, TX9, 11)) ⟨hx, hb, hml, hown, hT⟩ (s_X9_sent l hSX) (cwV 2 hT (z_goodV (fun _ h => h) kw_948 kw_949 kw_950 kw_85 kw_951) rfl rfl rfl (by decide +kernel) ⟨by decide, by decide⟩) z_mv hKK hK hw hA (z_SX_mem hSX (by decide)) hfo rfl rfl rfl hl.1 rfl (Nat.le_of_ble_eq_true rfl) dL_law_803 ⟨by decide, by decide⟩ (fun r4 u H locs hp hw => ?_)
  obtain ⟨L2, F3⟩ := u
  obtain ⟨hL2, hfr, hS2⟩ := hp
  have hL2 : L = L2 := hL2
  subst hL2
  have hw : z_H D vwCl (fun q : Nat => s.heap.size ≤ q) s.heap L F3 H locs := hw
  have hSM := z_SM_fr (f2 := F3) hSM (fun i hi => hfr _ (z_SM_mem hSM hi) (fun j hj => (hdis j i hj hi).symm))
  have hSX := hS2
  have hSX : z_SX L F3 cy ad gkp gw gz := hSX
  refine lv_pop hx hb dL_law_806 rfl ?_
  refine lv_aload_n hx hb dL_law_807 rfl (lv_at hl 1 rfl) ?_
  refine lv_aload_n hx hb dL_law_808 rfl (lv_at hl 3 rfl) ?_
  refine lv_iload_n hx hb dL_law_809 rfl (lv_at hl 0 rfl) ?_
  refine lv_iconst (v := 1) hx hb dL_law_810 (by decide) ?_
  refine lv_iadd hx hb dL_law_811 ?_
  refine lv_topi (fun w5 e_w5 => ?_)
  have i_w5 : w5.toInt = (K.toInt + 1) := z_add e_w5 rfl (show (1 : Int32).toInt = 1 by decide) (by omega)
  refine va_sld hx hb hX hbl hbA hw.2.2 (z_ix i_w5 (by omega)) dL_law_812 ?_
  refine z_lit (y := x1) (by rw [ex1, z_ixK (K := K) (k := 1) i_w5 (by omega)]) ?_
  refine lv_aload_n hx hb dL_law_813 rfl (lv_at hl 3 rfl) ?_
  refine lv_iload_n hx hb dL_law_814 rfl (lv_at hl 0 rfl) ?_
  refine lv_iconst (v := 2) hx hb dL_law_815 (by decide) ?_
  refine lv_iadd hx hb dL_law_816 ?_
  refine lv_topi (fun w6 e_w6 => ?_)
  have i_w6 : w6.toInt = (K.toInt + 2) := z_add e_w6 rfl (show (2 : Int32).toInt = 2 by decide) (by omega)
  refine va_sld hx hb hX hbl hbA hw.2.2 (z_ix i_w6 (by omega)) dL_law_817 ?_
  refine z_lit (y := x2) (by rw [ex2, z_ixK (K := K) (k := 2) i_w6 (by omega)]) ?_
  obtain ⟨fs_, hfo⟩ := z_SM_xo hSM
  refine z_calliV (cells := 164) (slots := 16321) (b := bd 0) (As := [.int x1, .int x2]) (rest := []) (ci := 10) (q0 := (RX10, TX10, 54)) ⟨hx, hb, hml, hown, hT⟩ (s_X10_sent l hSM) (cwV 2 hT (z_goodV (fun _ h => h) kw_1657 kw_1658 kw_1659 kw_96 kw_1660) rfl rfl rfl (by decide +kernel) ⟨by decide, by decide⟩) z_mv hKK hK hw hA (z_SM_mem hSM (by decide)) hfo rfl rfl rfl hl.1 rfl (Nat.le_of_ble_eq_true rfl) dL_law_818 ⟨by decide, by decide⟩ (fun r8 u H locs hp hw => ?_)
  obtain ⟨L2, F7⟩ := u
  obtain ⟨hL2, hfr, hS2⟩ := hp
  have hL2 : L = L2 := hL2
  subst hL2
  have hw : z_H D vwCl (fun q : Nat => s.heap.size ≤ q) s.heap L F7 H locs := hw
  have hSX := z_SX_frL (f2 := F7) hSX (fun _ h => h) (fun i hi => hfr _ (z_SX_mem hSX hi) (fun j hj => hdis i j hi hj))
  have hSM := hS2
  have hSM : z_SM L F7 cy bd gik gwd gmy := hSM
  have hrel0 := hrel
  refine lv_pop hx hb dL_law_821 rfl ?_
  refine lv_goto (tgt := 1615) hx hb dL_law_822 (by decide) ?_
  exact kk _ _ _ _ _ _ _ _ _ hSX hSM hrel hw

set_option maxHeartbeats 4000000 in
set_option maxRecDepth 100000 in
theorem lc_harm {p : Program} {e : Env} {s : State} {m : MethodId} {below : List Frame} {meth : Method} {c : Code} (l : Launch) {b Ln : Nat} {xs : Nat → Int32} {D : va_G} {cy : Nat → ClassId} {adK adV : Nat → Nat} {L : List Nat} {F : Nat → va_E} {H : Heap} {locs : List Loc} {ls : Array Slot} {ad bd : Nat → Nat} {gkp gw gz gik gwd gmy : Nat → Int32} {K : Int32} {xo me : Nat} (C0 : lw_At p s m meth c b Ln xs) (hKK : z_KK D cy adK adV (fun q : Nat => s.heap.size ≤ q) s) (hxo : ad 0 = xo) (hme : bd 0 = me) (hSX : z_SX L F cy ad gkp gw gz) (hSM : z_SM L F cy bd gik gwd gmy) (hdis : ∀ i j : Nat, i < 135 → j < 29 → ad i ≠ bd j) (hrel : z_rel gkp gw gz gik gwd gmy) (hw : z_H D vwCl (fun q : Nat => s.heap.size ≤ q) s.heap L F H locs) (hl : lv_has ls 4 [(3, .int K), (2, .ref me), (1, .ref xo), (0, .ref b)]) (hKr : 0 ≤ K.toInt ∧ K.toInt + 6 ≤ Ln) (hLn : Ln ≤ 3072) (kk : ∀ (F2 : Nat → va_E) (H2 : Heap) (locs2 : List Loc) (a1 a2 a3 a4 a5 a6 : Nat → Int32), z_SX L F2 cy ad a1 a2 a3 → z_SM L F2 cy bd a4 a5 a6 → z_rel a1 a2 a3 a4 a5 a6 → z_H D vwCl (fun q : Nat => s.heap.size ≤ q) s.heap L F2 H2 locs2 → W p l e room_1 s m #[Value.ref b] below meth c H2 locs2 164 16321 (lw_Z below #[Value.ref b] s) (F0 m 1615 ls [])) : W p l e room_1 s m #[Value.ref b] below meth c H locs 164 16321 (lw_Z below #[Value.ref b] s) (F0 m 825 ls []) := by
  subst hxo
  subst hme
  obtain ⟨hx, hb, hr, hml, hown, hts, hX, hbl, hlocks, hgv⟩ := C0
  have hA : ∀ q : Nat, s.heap.size ≤ q → (fun q : Nat => s.heap.size ≤ q) q := fun _ h => h
  have hbA : ¬ (fun q : Nat => s.heap.size ≤ q) b := Nat.not_le.mpr hbl
  have hT : ∀ w ∈ lw_all, w.before #[Value.ref b] s = true := fun w h => hts w (z_all_in w h)
  have hown : s.vm.findClass RL = some m.cls := hown
  have hK := hKK.1.1
  obtain ⟨x1, ex1⟩ : ∃ z, z = xs (K.toNatClampNeg + 1) := ⟨_, rfl⟩
  obtain ⟨x2, ex2⟩ : ∃ z, z = xs (K.toNatClampNeg + 2) := ⟨_, rfl⟩
  obtain ⟨x3, ex3⟩ : ∃ z, z = xs (K.toNatClampNeg + 3) := ⟨_, rfl⟩
  obtain ⟨x4, ex4⟩ : ∃ z, z = xs (K.toNatClampNeg + 4) := ⟨_, rfl⟩
  obtain ⟨x5, ex5⟩ : ∃ z, z = xs (K.toNatClampNeg + 5) := ⟨_, rfl⟩
  refine lv_aload_n hx hb dL_law_825 rfl (lv_at hl 2 rfl) ?_
  refine lv_aload_n hx hb dL_law_826 rfl (lv_at hl 3 rfl) ?_
  refine lv_iload_n hx hb dL_law_827 rfl (lv_at hl 0 rfl) ?_
  refine lv_iconst (v := 1) hx hb dL_law_828 (by decide) ?_
  refine lv_iadd hx hb dL_law_829 ?_
  refine lv_topi (fun w1 e_w1 => ?_)
  have i_w1 : w1.toInt = (K.toInt + 1) := z_add e_w1 rfl (show (1 : Int32).toInt = 1 by decide) (by omega)
  refine va_sld hx hb hX hbl hbA hw.2.2 (z_ix i_w1 (by omega)) dL_law_830 ?_
  refine z_lit (y := x1) (by rw [ex1, z_ixK (K := K) (k := 1) i_w1 (by omega)]) ?_
  obtain ⟨fs_, hfo⟩ := z_SX_xo hSX
  refine z_calliV (cells := 164) (slots := 16321) (b := ad 0) (As := [.int x1]) (rest := []) (ci := 9) (q0 := (RX9, TX9, 11)) ⟨hx, hb, hml, hown, hT⟩ (s_X9_harm l hSX) (cwV 1 hT (z_goodV (fun _ h => h) kw_952 kw_953 kw_954 kw_85 kw_955) rfl rfl rfl (by decide +kernel) ⟨by decide, by decide⟩) z_mv hKK hK hw hA (z_SX_mem hSX (by decide)) hfo rfl rfl rfl hl.1 rfl (Nat.le_of_ble_eq_true rfl) dL_law_831 ⟨by decide, by decide⟩ (fun r3 u H locs hp hw => ?_)
  obtain ⟨L2, F2⟩ := u
  obtain ⟨hL2, hfr, hS2⟩ := hp
  have hL2 : L = L2 := hL2
  subst hL2
  have hw : z_H D vwCl (fun q : Nat => s.heap.size ≤ q) s.heap L F2 H locs := hw
  have hSM := z_SM_fr (f2 := F2) hSM (fun i hi => hfr _ (z_SM_mem hSM hi) (fun j hj => (hdis j i hj hi).symm))
  have hSX := hS2
  have hSX : z_SX L F2 cy ad gkp gw gz := hSX
  refine lv_pop hx hb dL_law_834 rfl ?_
  refine lv_aload_n hx hb dL_law_835 rfl (lv_at hl 1 rfl) ?_
  refine lv_aload_n hx hb dL_law_836 rfl (lv_at hl 3 rfl) ?_
  refine lv_iload_n hx hb dL_law_837 rfl (lv_at hl 0 rfl) ?_
  refine lv_iconst (v := 1) hx hb dL_law_838 (by decide) ?_
  refine lv_iadd hx hb dL_law_839 ?_
  refine lv_topi (fun w4 e_w4 => ?_)
  have i_w4 : w4.toInt = (K.toInt + 1) := z_add e_w4 rfl (show (1 : Int32).toInt = 1 by decide) (by omega)
  refine va_sld hx hb hX hbl hbA hw.2.2 (z_ix i_w4 (by omega)) dL_law_840 ?_
  refine z_lit (y := x1) (by rw [ex1, z_ixK (K := K) (k := 1) i_w4 (by omega)]) ?_
  obtain ⟨fs_, hfo⟩ := z_SM_xo hSM
  refine z_calliV (cells := 164) (slots := 16321) (b := bd 0) (As := [.int x1]) (rest := []) (ci := 10) (q0 := (RX10, TX10, 54)) ⟨hx, hb, hml, hown, hT⟩ (s_X10_harm l hSM) (cwV 1 hT (z_goodV (fun _ h => h) kw_1661 kw_1662 kw_1663 kw_96 kw_1664) rfl rfl rfl (by decide +kernel) ⟨by decide, by decide⟩) z_mv hKK hK hw hA (z_SM_mem hSM (by decide)) hfo rfl rfl rfl hl.1 rfl (Nat.le_of_ble_eq_true rfl) dL_law_841 ⟨by decide, by decide⟩ (fun r6 u H locs hp hw => ?_)
  obtain ⟨L2, F5⟩ := u
  obtain ⟨hL2, hfr, hS2⟩ := hp
  have hL2 : L = L2 := hL2
  subst hL2
  have hw : z_H D vwCl (fun q : Nat => s.heap.size ≤ q) s.heap L F5 H locs := hw
  have hSX := z_SX_frL (f2 := F5) hSX (fun _ h => h) (fun i hi => hfr _ (z_SX_mem hSX hi) (fun j hj => hdis i j hi hj))
  have hSM := hS2
  have hSM : z_SM L F5 cy bd gik gwd gmy := hSM
  have hrel0 := hrel
  refine lv_pop hx hb dL_law_844 rfl ?_
  refine lv_goto (tgt := 1615) hx hb dL_law_845 (by decide) ?_
  exact kk _ _ _ _ _ _ _ _ _ hSX hSM hrel hw

set_option maxHeartbeats 4000000 in
set_option maxRecDepth 100000 in
theorem lc_ewe {p : Program} {e : Env} {s : State} {m : MethodId} {below : List Frame} {meth : Method} {c : Code} (l : Launch) {b Ln : Nat} {xs : Nat → Int32} {D : va_G} {cy : Nat → ClassId} {adK adV : Nat → Nat} {L : List Nat} {F : Nat → va_E} {H : Heap} {locs : List Loc} {ls : Array Slot} {ad bd : Nat → Nat} {gkp gw gz gik gwd gmy : Nat → Int32} {K : Int32} {xo me : Nat} (C0 : lw_At p s m meth c b Ln xs) (hKK : z_KK D cy adK adV (fun q : Nat => s.heap.size ≤ q) s) (hxo : ad 0 = xo) (hme : bd 0 = me) (hSX : z_SX L F cy ad gkp gw gz) (hSM : z_SM L F cy bd gik gwd gmy) (hdis : ∀ i j : Nat, i < 135 → j < 29 → ad i ≠ bd j) (hrel : z_rel gkp gw gz gik gwd gmy) (hw : z_H D vwCl (fun q : Nat => s.heap.size ≤ q) s.heap L F H locs) (hl : lv_has ls 4 [(3, .int K), (2, .ref me), (1, .ref xo), (0, .ref b)]) (hKr : 0 ≤ K.toInt ∧ K.toInt + 6 ≤ Ln) (hLn : Ln ≤ 3072) (kk : ∀ (F2 : Nat → va_E) (H2 : Heap) (locs2 : List Loc) (a1 a2 a3 a4 a5 a6 : Nat → Int32), z_SX L F2 cy ad a1 a2 a3 → z_SM L F2 cy bd a4 a5 a6 → z_rel a1 a2 a3 a4 a5 a6 → z_H D vwCl (fun q : Nat => s.heap.size ≤ q) s.heap L F2 H2 locs2 → W p l e room_1 s m #[Value.ref b] below meth c H2 locs2 164 16321 (lw_Z below #[Value.ref b] s) (F0 m 1615 ls [])) : W p l e room_1 s m #[Value.ref b] below meth c H locs 164 16321 (lw_Z below #[Value.ref b] s) (F0 m 848 ls []) := by
  subst hxo
  subst hme
  obtain ⟨hx, hb, hr, hml, hown, hts, hX, hbl, hlocks, hgv⟩ := C0
  have hA : ∀ q : Nat, s.heap.size ≤ q → (fun q : Nat => s.heap.size ≤ q) q := fun _ h => h
  have hbA : ¬ (fun q : Nat => s.heap.size ≤ q) b := Nat.not_le.mpr hbl
  have hT : ∀ w ∈ lw_all, w.before #[Value.ref b] s = true := fun w h => hts w (z_all_in w h)
  have hown : s.vm.findClass RL = some m.cls := hown
  have hK := hKK.1.1
  obtain ⟨x1, ex1⟩ : ∃ z, z = xs (K.toNatClampNeg + 1) := ⟨_, rfl⟩
  obtain ⟨x2, ex2⟩ : ∃ z, z = xs (K.toNatClampNeg + 2) := ⟨_, rfl⟩
  obtain ⟨x3, ex3⟩ : ∃ z, z = xs (K.toNatClampNeg + 3) := ⟨_, rfl⟩
  obtain ⟨x4, ex4⟩ : ∃ z, z = xs (K.toNatClampNeg + 4) := ⟨_, rfl⟩
  obtain ⟨x5, ex5⟩ : ∃ z, z = xs (K.toNatClampNeg + 5) := ⟨_, rfl⟩
  refine lv_aload_n hx hb dL_law_848 rfl (lv_at hl 2 rfl) ?_
  refine lv_aload_n hx hb dL_law_849 rfl (lv_at hl 3 rfl) ?_
  refine lv_iload_n hx hb dL_law_850 rfl (lv_at hl 0 rfl) ?_
  refine lv_iconst (v := 1) hx hb dL_law_851 (by decide) ?_
  refine lv_iadd hx hb dL_law_852 ?_
  refine lv_topi (fun w1 e_w1 => ?_)
  have i_w1 : w1.toInt = (K.toInt + 1) := z_add e_w1 rfl (show (1 : Int32).toInt = 1 by decide) (by omega)
  refine va_sld hx hb hX hbl hbA hw.2.2 (z_ix i_w1 (by omega)) dL_law_853 ?_
  refine z_lit (y := x1) (by rw [ex1, z_ixK (K := K) (k := 1) i_w1 (by omega)]) ?_
  refine lv_aload_n hx hb dL_law_854 rfl (lv_at hl 3 rfl) ?_
  refine lv_iload_n hx hb dL_law_855 rfl (lv_at hl 0 rfl) ?_
  refine lv_iconst (v := 2) hx hb dL_law_856 (by decide) ?_
  refine lv_iadd hx hb dL_law_857 ?_
  refine lv_topi (fun w2 e_w2 => ?_)
  have i_w2 : w2.toInt = (K.toInt + 2) := z_add e_w2 rfl (show (2 : Int32).toInt = 2 by decide) (by omega)
  refine va_sld hx hb hX hbl hbA hw.2.2 (z_ix i_w2 (by omega)) dL_law_858 ?_
  refine z_lit (y := x2) (by rw [ex2, z_ixK (K := K) (k := 2) i_w2 (by omega)]) ?_
  refine lv_aload_n hx hb dL_law_859 rfl (lv_at hl 3 rfl) ?_
  refine lv_iload_n hx hb dL_law_860 rfl (lv_at hl 0 rfl) ?_
  refine lv_iconst (v := 3) hx hb dL_law_861 (by decide) ?_
  refine lv_iadd hx hb dL_law_862 ?_
  refine lv_topi (fun w3 e_w3 => ?_)
  have i_w3 : w3.toInt = (K.toInt + 3) := z_add e_w3 rfl (show (3 : Int32).toInt = 3 by decide) (by omega)
  refine va_sld hx hb hX hbl hbA hw.2.2 (z_ix i_w3 (by omega)) dL_law_863 ?_
  refine z_lit (y := x3) (by rw [ex3, z_ixK (K := K) (k := 3) i_w3 (by omega)]) ?_
  refine lv_aload_n hx hb dL_law_864 rfl (lv_at hl 3 rfl) ?_
  refine lv_iload_n hx hb dL_law_865 rfl (lv_at hl 0 rfl) ?_
  refine lv_iconst (v := 4) hx hb dL_law_866 (by decide) ?_
  refine lv_iadd hx hb dL_law_867 ?_
  refine lv_topi (fun w4 e_w4 => ?_)
  have i_w4 : w4.toInt = (K.toInt + 4) := z_add e_w4 rfl (show (4 : Int32).toInt = 4 by decide) (by omega)
  refine va_sld hx hb hX hbl hbA hw.2.2 (z_ix i_w4 (by omega)) dL_law_868 ?_
  refine z_lit (y := x4) (by rw [ex4, z_ixK (K := K) (k := 4) i_w4 (by omega)]) ?_
  obtain ⟨fs_, hfo⟩ := z_SX_xo hSX
  refine z_calliV (cells := 164) (slots := 16321) (b := ad 0) (As := [.int x1, .int x2, .int x3, .int x4]) (rest := []) (ci := 9) (q0 := (RX9, TX9, 11)) ⟨hx, hb, hml, hown, hT⟩ (s_X9_ewe l hSX) (cwV 4 hT (z_goodV (fun _ h => h) kw_960 kw_961 kw_962 kw_85 kw_963) rfl rfl rfl (by decide +kernel) ⟨by decide, by decide⟩) z_mv hKK hK hw hA (z_SX_mem hSX (by decide)) hfo rfl rfl rfl hl.1 rfl (Nat.le_of_ble_eq_true rfl) dL_law_869 ⟨by decide, by decide⟩ (fun r6 u H locs hp hw => ?_)
  obtain ⟨L2, F5⟩ := u
  obtain ⟨hL2, hfr, hS2⟩ := hp
  have hL2 : L = L2 := hL2
  subst hL2
  have hw : z_H D vwCl (fun q : Nat => s.heap.size ≤ q) s.heap L F5 H locs := hw
  have hSM := z_SM_fr (f2 := F5) hSM (fun i hi => hfr _ (z_SM_mem hSM hi) (fun j hj => (hdis j i hj hi).symm))
  have hSX := hS2
  have hSX : z_SX L F5 cy ad gkp gw gz := hSX
  refine lv_pop hx hb dL_law_872 rfl ?_
  refine lv_aload_n hx hb dL_law_873 rfl (lv_at hl 1 rfl) ?_
  refine lv_aload_n hx hb dL_law_874 rfl (lv_at hl 3 rfl) ?_
  refine lv_iload_n hx hb dL_law_875 rfl (lv_at hl 0 rfl) ?_
  refine lv_iconst (v := 1) hx hb dL_law_876 (by decide) ?_
  refine lv_iadd hx hb dL_law_877 ?_
  refine lv_topi (fun w7 e_w7 => ?_)
  have i_w7 : w7.toInt = (K.toInt + 1) := z_add e_w7 rfl (show (1 : Int32).toInt = 1 by decide) (by omega)
  refine va_sld hx hb hX hbl hbA hw.2.2 (z_ix i_w7 (by omega)) dL_law_878 ?_
  refine z_lit (y := x1) (by rw [ex1, z_ixK (K := K) (k := 1) i_w7 (by omega)]) ?_
  refine lv_aload_n hx hb dL_law_879 rfl (lv_at hl 3 rfl) ?_
  refine lv_iload_n hx hb dL_law_880 rfl (lv_at hl 0 rfl) ?_
  refine lv_iconst (v := 2) hx hb dL_law_881 (by decide) ?_
  refine lv_iadd hx hb dL_law_882 ?_
  refine lv_topi (fun w8 e_w8 => ?_)
  have i_w8 : w8.toInt = (K.toInt + 2) := z_add e_w8 rfl (show (2 : Int32).toInt = 2 by decide) (by omega)
  refine va_sld hx hb hX hbl hbA hw.2.2 (z_ix i_w8 (by omega)) dL_law_883 ?_
  refine z_lit (y := x2) (by rw [ex2, z_ixK (K := K) (k := 2) i_w8 (by omega)]) ?_
  refine lv_aload_n hx hb dL_law_884 rfl (lv_at hl 3 rfl) ?_
  refine lv_iload_n hx hb dL_law_885 rfl (lv_at hl 0 rfl) ?_
  refine lv_iconst (v := 3) hx hb dL_law_886 (by decide) ?_
  refine lv_iadd hx hb dL_law_887 ?_
  refine lv_topi (fun w9 e_w9 => ?_)
  have i_w9 : w9.toInt = (K.toInt + 3) := z_add e_w9 rfl (show (3 : Int32).toInt = 3 by decide) (by omega)
  refine va_sld hx hb hX hbl hbA hw.2.2 (z_ix i_w9 (by omega)) dL_law_888 ?_
  refine z_lit (y := x3) (by rw [ex3, z_ixK (K := K) (k := 3) i_w9 (by omega)]) ?_
  refine lv_aload_n hx hb dL_law_889 rfl (lv_at hl 3 rfl) ?_
  refine lv_iload_n hx hb dL_law_890 rfl (lv_at hl 0 rfl) ?_
  refine lv_iconst (v := 4) hx hb dL_law_891 (by decide) ?_
  refine lv_iadd hx hb dL_law_892 ?_
  refine lv_topi (fun w10 e_w10 => ?_)
  have i_w10 : w10.toInt = (K.toInt + 4) := z_add e_w10 rfl (show (4 : Int32).toInt = 4 by decide) (by omega)
  refine va_sld hx hb hX hbl hbA hw.2.2 (z_ix i_w10 (by omega)) dL_law_893 ?_
  refine z_lit (y := x4) (by rw [ex4, z_ixK (K := K) (k := 4) i_w10 (by omega)]) ?_
  obtain ⟨fs_, hfo⟩ := z_SM_xo hSM
  refine z_calliV (cells := 164) (slots := 16321) (b := bd 0) (As := [.int x1, .int x2, .int x3, .int x4]) (rest := []) (ci := 10) (q0 := (RX10, TX10, 54)) ⟨hx, hb, hml, hown, hT⟩ (s_X10_ewe l hSM) (cwV 4 hT (z_goodV (fun _ h => h) kw_1669 kw_1670 kw_1671 kw_96 kw_1672) rfl rfl rfl (by decide +kernel) ⟨by decide, by decide⟩) z_mv hKK hK hw hA (z_SM_mem hSM (by decide)) hfo rfl rfl rfl hl.1 rfl (Nat.le_of_ble_eq_true rfl) dL_law_894 ⟨by decide, by decide⟩ (fun r12 u H locs hp hw => ?_)
  obtain ⟨L2, F11⟩ := u
  obtain ⟨hL2, hfr, hS2⟩ := hp
  have hL2 : L = L2 := hL2
  subst hL2
  have hw : z_H D vwCl (fun q : Nat => s.heap.size ≤ q) s.heap L F11 H locs := hw
  have hSX := z_SX_frL (f2 := F11) hSX (fun _ h => h) (fun i hi => hfr _ (z_SX_mem hSX hi) (fun j hj => hdis i j hi hj))
  have hSM := hS2
  have hSM : z_SM L F11 cy bd gik gwd gmy := hSM
  have hrel0 := hrel
  refine lv_pop hx hb dL_law_897 rfl ?_
  refine lv_goto (tgt := 1615) hx hb dL_law_898 (by decide) ?_
  exact kk _ _ _ _ _ _ _ _ _ hSX hSM hrel hw

set_option maxHeartbeats 4000000 in
set_option maxRecDepth 100000 in
theorem lc_waits {p : Program} {e : Env} {s : State} {m : MethodId} {below : List Frame} {meth : Method} {c : Code} (l : Launch) {b Ln : Nat} {xs : Nat → Int32} {D : va_G} {cy : Nat → ClassId} {adK adV : Nat → Nat} {L : List Nat} {F : Nat → va_E} {H : Heap} {locs : List Loc} {ls : Array Slot} {ad bd : Nat → Nat} {gkp gw gz gik gwd gmy : Nat → Int32} {K : Int32} {xo me : Nat} (C0 : lw_At p s m meth c b Ln xs) (hKK : z_KK D cy adK adV (fun q : Nat => s.heap.size ≤ q) s) (hxo : ad 0 = xo) (hme : bd 0 = me) (hSX : z_SX L F cy ad gkp gw gz) (hSM : z_SM L F cy bd gik gwd gmy) (hdis : ∀ i j : Nat, i < 135 → j < 29 → ad i ≠ bd j) (hrel : z_rel gkp gw gz gik gwd gmy) (hw : z_H D vwCl (fun q : Nat => s.heap.size ≤ q) s.heap L F H locs) (hl : lv_has ls 4 [(3, .int K), (2, .ref me), (1, .ref xo), (0, .ref b)]) (hKr : 0 ≤ K.toInt ∧ K.toInt + 6 ≤ Ln) (hLn : Ln ≤ 3072) (kk : ∀ (F2 : Nat → va_E) (H2 : Heap) (locs2 : List Loc) (a1 a2 a3 a4 a5 a6 : Nat → Int32), z_SX L F2 cy ad a1 a2 a3 → z_SM L F2 cy bd a4 a5 a6 → z_rel a1 a2 a3 a4 a5 a6 → z_H D vwCl (fun q : Nat => s.heap.size ≤ q) s.heap L F2 H2 locs2 → W p l e room_1 s m #[Value.ref b] below meth c H2 locs2 164 16321 (lw_Z below #[Value.ref b] s) (F0 m 1615 ls [])) : W p l e room_1 s m #[Value.ref b] below meth c H locs 164 16321 (lw_Z below #[Value.ref b] s) (F0 m 901 ls []) := by
  subst hxo
  subst hme
  obtain ⟨hx, hb, hr, hml, hown, hts, hX, hbl, hlocks, hgv⟩ := C0
  have hA : ∀ q : Nat, s.heap.size ≤ q → (fun q : Nat => s.heap.size ≤ q) q := fun _ h => h
  have hbA : ¬ (fun q : Nat => s.heap.size ≤ q) b := Nat.not_le.mpr hbl
  have hT : ∀ w ∈ lw_all, w.before #[Value.ref b] s = true := fun w h => hts w (z_all_in w h)
  have hown : s.vm.findClass RL = some m.cls := hown
  have hK := hKK.1.1
  obtain ⟨x1, ex1⟩ : ∃ z, z = xs (K.toNatClampNeg + 1) := ⟨_, rfl⟩
  obtain ⟨x2, ex2⟩ : ∃ z, z = xs (K.toNatClampNeg + 2) := ⟨_, rfl⟩
  obtain ⟨x3, ex3⟩ : ∃ z, z = xs (K.toNatClampNeg + 3) := ⟨_, rfl⟩
  obtain ⟨x4, ex4⟩ : ∃ z, z = xs (K.toNatClampNeg + 4) := ⟨_, rfl⟩
  obtain ⟨x5, ex5⟩ : ∃ z, z = xs (K.toNatClampNeg + 5) := ⟨_, rfl⟩
  refine lv_aload_n hx hb dL_law_901 rfl (lv_at hl 2 rfl) ?_
  refine lv_aload_n hx hb dL_law_902 rfl (lv_at hl 3 rfl) ?_
  refine lv_iload_n hx hb dL_law_903 rfl (lv_at hl 0 rfl) ?_
  refine lv_iconst (v := 1) hx hb dL_law_904 (by decide) ?_
  refine lv_iadd hx hb dL_law_905 ?_
  refine lv_topi (fun w1 e_w1 => ?_)
  have i_w1 : w1.toInt = (K.toInt + 1) := z_add e_w1 rfl (show (1 : Int32).toInt = 1 by decide) (by omega)
  refine va_sld hx hb hX hbl hbA hw.2.2 (z_ix i_w1 (by omega)) dL_law_906 ?_
  refine z_lit (y := x1) (by rw [ex1, z_ixK (K := K) (k := 1) i_w1 (by omega)]) ?_
  refine lv_aload_n hx hb dL_law_907 rfl (lv_at hl 3 rfl) ?_
  refine lv_iload_n hx hb dL_law_908 rfl (lv_at hl 0 rfl) ?_
  refine lv_iconst (v := 2) hx hb dL_law_909 (by decide) ?_
  refine lv_iadd hx hb dL_law_910 ?_
  refine lv_topi (fun w2 e_w2 => ?_)
  have i_w2 : w2.toInt = (K.toInt + 2) := z_add e_w2 rfl (show (2 : Int32).toInt = 2 by decide) (by omega)
  refine va_sld hx hb hX hbl hbA hw.2.2 (z_ix i_w2 (by omega)) dL_law_911 ?_
  refine z_lit (y := x2) (by rw [ex2, z_ixK (K := K) (k := 2) i_w2 (by omega)]) ?_
  refine lv_aload_n hx hb dL_law_912 rfl (lv_at hl 3 rfl) ?_
  refine lv_iload_n hx hb dL_law_913 rfl (lv_at hl 0 rfl) ?_
  refine lv_iconst (v := 3) hx hb dL_law_914 (by decide) ?_
  refine lv_iadd hx hb dL_law_915 ?_
  refine lv_topi (fun w3 e_w3 => ?_)
  have i_w3 : w3.toInt = (K.toInt + 3) := z_add e_w3 rfl (show (3 : Int32).toInt = 3 by decide) (by omega)
  refine va_sld hx hb hX hbl hbA hw.2.2 (z_ix i_w3 (by omega)) dL_law_916 ?_
  refine z_lit (y := x3) (by rw [ex3, z_ixK (K := K) (k := 3) i_w3 (by omega)]) ?_
  refine lv_aload_n hx hb dL_law_917 rfl (lv_at hl 3 rfl) ?_
  refine lv_iload_n hx hb dL_law_918 rfl (lv_at hl 0 rfl) ?_
  refine lv_iconst (v := 4) hx hb dL_law_919 (by decide) ?_
  refine lv_iadd hx hb dL_law_920 ?_
  refine lv_topi (fun w4 e_w4 => ?_)
  have i_w4 : w4.toInt = (K.toInt + 4) := z_add e_w4 rfl (show (4 : Int32).toInt = 4 by decide) (by omega)
  refine va_sld hx hb hX hbl hbA hw.2.2 (z_ix i_w4 (by omega)) dL_law_921 ?_
  refine z_lit (y := x4) (by rw [ex4, z_ixK (K := K) (k := 4) i_w4 (by omega)]) ?_
  obtain ⟨fs_, hfo⟩ := z_SX_xo hSX
  refine z_calliV (cells := 164) (slots := 16321) (b := ad 0) (As := [.int x1, .int x2, .int x3, .int x4]) (rest := []) (ci := 9) (q0 := (RX9, TX9, 11)) ⟨hx, hb, hml, hown, hT⟩ (s_X9_waits l hSX) (cwV 4 hT (z_goodV (fun _ h => h) kw_973 kw_974 kw_975 kw_85 kw_976) rfl rfl rfl (by decide +kernel) ⟨by decide, by decide⟩) z_mv hKK hK hw hA (z_SX_mem hSX (by decide)) hfo rfl rfl rfl hl.1 rfl (Nat.le_of_ble_eq_true rfl) dL_law_922 ⟨by decide, by decide⟩ (fun r6 u H locs hp hw => ?_)
  obtain ⟨L2, F5⟩ := u
  obtain ⟨hL2, hfr, hS2⟩ := hp
  have hL2 : L = L2 := hL2
  subst hL2
  have hw : z_H D vwCl (fun q : Nat => s.heap.size ≤ q) s.heap L F5 H locs := hw
  have hSM := z_SM_fr (f2 := F5) hSM (fun i hi => hfr _ (z_SM_mem hSM hi) (fun j hj => (hdis j i hj hi).symm))
  have hSX := hS2
  have hSX : z_SX L F5 cy ad gkp gw gz := hSX
  refine lv_pop hx hb dL_law_925 rfl ?_
  refine lv_aload_n hx hb dL_law_926 rfl (lv_at hl 1 rfl) ?_
  refine lv_aload_n hx hb dL_law_927 rfl (lv_at hl 3 rfl) ?_
  refine lv_iload_n hx hb dL_law_928 rfl (lv_at hl 0 rfl) ?_
  refine lv_iconst (v := 1) hx hb dL_law_929 (by decide) ?_
  refine lv_iadd hx hb dL_law_930 ?_
  refine lv_topi (fun w7 e_w7 => ?_)
  have i_w7 : w7.toInt = (K.toInt + 1) := z_add e_w7 rfl (show (1 : Int32).toInt = 1 by decide) (by omega)
  refine va_sld hx hb hX hbl hbA hw.2.2 (z_ix i_w7 (by omega)) dL_law_931 ?_
  refine z_lit (y := x1) (by rw [ex1, z_ixK (K := K) (k := 1) i_w7 (by omega)]) ?_
  refine lv_aload_n hx hb dL_law_932 rfl (lv_at hl 3 rfl) ?_
  refine lv_iload_n hx hb dL_law_933 rfl (lv_at hl 0 rfl) ?_
  refine lv_iconst (v := 2) hx hb dL_law_934 (by decide) ?_
  refine lv_iadd hx hb dL_law_935 ?_
  refine lv_topi (fun w8 e_w8 => ?_)
  have i_w8 : w8.toInt = (K.toInt + 2) := z_add e_w8 rfl (show (2 : Int32).toInt = 2 by decide) (by omega)
  refine va_sld hx hb hX hbl hbA hw.2.2 (z_ix i_w8 (by omega)) dL_law_936 ?_
  refine z_lit (y := x2) (by rw [ex2, z_ixK (K := K) (k := 2) i_w8 (by omega)]) ?_
  refine lv_aload_n hx hb dL_law_937 rfl (lv_at hl 3 rfl) ?_
  refine lv_iload_n hx hb dL_law_938 rfl (lv_at hl 0 rfl) ?_
  refine lv_iconst (v := 3) hx hb dL_law_939 (by decide) ?_
  refine lv_iadd hx hb dL_law_940 ?_
  refine lv_topi (fun w9 e_w9 => ?_)
  have i_w9 : w9.toInt = (K.toInt + 3) := z_add e_w9 rfl (show (3 : Int32).toInt = 3 by decide) (by omega)
  refine va_sld hx hb hX hbl hbA hw.2.2 (z_ix i_w9 (by omega)) dL_law_941 ?_
  refine z_lit (y := x3) (by rw [ex3, z_ixK (K := K) (k := 3) i_w9 (by omega)]) ?_
  refine lv_aload_n hx hb dL_law_942 rfl (lv_at hl 3 rfl) ?_
  refine lv_iload_n hx hb dL_law_943 rfl (lv_at hl 0 rfl) ?_
  refine lv_iconst (v := 4) hx hb dL_law_944 (by decide) ?_
  refine lv_iadd hx hb dL_law_945 ?_
  refine lv_topi (fun w10 e_w10 => ?_)
  have i_w10 : w10.toInt = (K.toInt + 4) := z_add e_w10 rfl (show (4 : Int32).toInt = 4 by decide) (by omega)
  refine va_sld hx hb hX hbl hbA hw.2.2 (z_ix i_w10 (by omega)) dL_law_946 ?_
  refine z_lit (y := x4) (by rw [ex4, z_ixK (K := K) (k := 4) i_w10 (by omega)]) ?_
  obtain ⟨fs_, hfo⟩ := z_SM_xo hSM
  refine z_calliV (cells := 164) (slots := 16321) (b := bd 0) (As := [.int x1, .int x2, .int x3, .int x4]) (rest := []) (ci := 10) (q0 := (RX10, TX10, 54)) ⟨hx, hb, hml, hown, hT⟩ (s_X10_waits l hSM) (cwV 4 hT (z_goodV (fun _ h => h) kw_1677 kw_1678 kw_1679 kw_96 kw_1680) rfl rfl rfl (by decide +kernel) ⟨by decide, by decide⟩) z_mv hKK hK hw hA (z_SM_mem hSM (by decide)) hfo rfl rfl rfl hl.1 rfl (Nat.le_of_ble_eq_true rfl) dL_law_947 ⟨by decide, by decide⟩ (fun r12 u H locs hp hw => ?_)
  obtain ⟨L2, F11⟩ := u
  obtain ⟨hL2, hfr, hS2⟩ := hp
  have hL2 : L = L2 := hL2
  subst hL2
  have hw : z_H D vwCl (fun q : Nat => s.heap.size ≤ q) s.heap L F11 H locs := hw
  have hSX := z_SX_frL (f2 := F11) hSX (fun _ h => h) (fun i hi => hfr _ (z_SX_mem hSX hi) (fun j hj => hdis i j hi hj))
  have hSM := hS2
  have hSM : z_SM L F11 cy bd gik gwd gmy := hSM
  have hrel0 := hrel
  refine lv_pop hx hb dL_law_950 rfl ?_
  refine lv_goto (tgt := 1615) hx hb dL_law_951 (by decide) ?_
  exact kk _ _ _ _ _ _ _ _ _ hSX hSM hrel hw

set_option maxHeartbeats 4000000 in
set_option maxRecDepth 100000 in
theorem lc_ring {p : Program} {e : Env} {s : State} {m : MethodId} {below : List Frame} {meth : Method} {c : Code} (l : Launch) {b Ln : Nat} {xs : Nat → Int32} {D : va_G} {cy : Nat → ClassId} {adK adV : Nat → Nat} {L : List Nat} {F : Nat → va_E} {H : Heap} {locs : List Loc} {ls : Array Slot} {ad bd : Nat → Nat} {gkp gw gz gik gwd gmy : Nat → Int32} {K : Int32} {xo me : Nat} (C0 : lw_At p s m meth c b Ln xs) (hKK : z_KK D cy adK adV (fun q : Nat => s.heap.size ≤ q) s) (hxo : ad 0 = xo) (hme : bd 0 = me) (hSX : z_SX L F cy ad gkp gw gz) (hSM : z_SM L F cy bd gik gwd gmy) (hdis : ∀ i j : Nat, i < 135 → j < 29 → ad i ≠ bd j) (hrel : z_rel gkp gw gz gik gwd gmy) (hw : z_H D vwCl (fun q : Nat => s.heap.size ≤ q) s.heap L F H locs) (hl : lv_has ls 4 [(3, .int K), (2, .ref me), (1, .ref xo), (0, .ref b)]) (hKr : 0 ≤ K.toInt ∧ K.toInt + 6 ≤ Ln) (hLn : Ln ≤ 3072) (kk : ∀ (F2 : Nat → va_E) (H2 : Heap) (locs2 : List Loc) (a1 a2 a3 a4 a5 a6 : Nat → Int32), z_SX L F2 cy ad a1 a2 a3 → z_SM L F2 cy bd a4 a5 a6 → z_rel a1 a2 a3 a4 a5 a6 → z_H D vwCl (fun q : Nat => s.heap.size ≤ q) s.heap L F2 H2 locs2 → W p l e room_1 s m #[Value.ref b] below meth c H2 locs2 164 16321 (lw_Z below #[Value.ref b] s) (F0 m 1615 ls [])) : W p l e room_1 s m #[Value.ref b] below meth c H locs 164 16321 (lw_Z below #[Value.ref b] s) (F0 m 954 ls []) := by
  subst hxo
  subst hme
  obtain ⟨hx, hb, hr, hml, hown, hts, hX, hbl, hlocks, hgv⟩ := C0
  have hA : ∀ q : Nat, s.heap.size ≤ q → (fun q : Nat => s.heap.size ≤ q) q := fun _ h => h
  have hbA : ¬ (fun q : Nat => s.heap.size ≤ q) b := Nat.not_le.mpr hbl
  have hT : ∀ w ∈ lw_all, w.before #[Value.ref b] s = true := fun w h => hts w (z_all_in w h)
  have hown : s.vm.findClass RL = some m.cls := hown
  have hK := hKK.1.1
  obtain ⟨x1, ex1⟩ : ∃ z, z = xs (K.toNatClampNeg + 1) := ⟨_, rfl⟩
  obtain ⟨x2, ex2⟩ : ∃ z, z = xs (K.toNatClampNeg + 2) := ⟨_, rfl⟩
  obtain ⟨x3, ex3⟩ : ∃ z, z = xs (K.toNatClampNeg + 3) := ⟨_, rfl⟩
  obtain ⟨x4, ex4⟩ : ∃ z, z = xs (K.toNatClampNeg + 4) := ⟨_, rfl⟩
  obtain ⟨x5, ex5⟩ : ∃ z, z = xs (K.toNatClampNeg + 5) := ⟨_, rfl⟩
  refine lv_aload_n hx hb dL_law_954 rfl (lv_at hl 2 rfl) ?_
  refine lv_aload_n hx hb dL_law_955 rfl (lv_at hl 3 rfl) ?_
  refine lv_iload_n hx hb dL_law_956 rfl (lv_at hl 0 rfl) ?_
  refine lv_iconst (v := 1) hx hb dL_law_957 (by decide) ?_
  refine lv_iadd hx hb dL_law_958 ?_
  refine lv_topi (fun w1 e_w1 => ?_)
  have i_w1 : w1.toInt = (K.toInt + 1) := z_add e_w1 rfl (show (1 : Int32).toInt = 1 by decide) (by omega)
  refine va_sld hx hb hX hbl hbA hw.2.2 (z_ix i_w1 (by omega)) dL_law_959 ?_
  refine z_lit (y := x1) (by rw [ex1, z_ixK (K := K) (k := 1) i_w1 (by omega)]) ?_
  refine lv_aload_n hx hb dL_law_960 rfl (lv_at hl 3 rfl) ?_
  refine lv_iload_n hx hb dL_law_961 rfl (lv_at hl 0 rfl) ?_
  refine lv_iconst (v := 2) hx hb dL_law_962 (by decide) ?_
  refine lv_iadd hx hb dL_law_963 ?_
  refine lv_topi (fun w2 e_w2 => ?_)
  have i_w2 : w2.toInt = (K.toInt + 2) := z_add e_w2 rfl (show (2 : Int32).toInt = 2 by decide) (by omega)
  refine va_sld hx hb hX hbl hbA hw.2.2 (z_ix i_w2 (by omega)) dL_law_964 ?_
  refine z_lit (y := x2) (by rw [ex2, z_ixK (K := K) (k := 2) i_w2 (by omega)]) ?_
  refine lv_aload_n hx hb dL_law_965 rfl (lv_at hl 3 rfl) ?_
  refine lv_iload_n hx hb dL_law_966 rfl (lv_at hl 0 rfl) ?_
  refine lv_iconst (v := 3) hx hb dL_law_967 (by decide) ?_
  refine lv_iadd hx hb dL_law_968 ?_
  refine lv_topi (fun w3 e_w3 => ?_)
  have i_w3 : w3.toInt = (K.toInt + 3) := z_add e_w3 rfl (show (3 : Int32).toInt = 3 by decide) (by omega)
  refine va_sld hx hb hX hbl hbA hw.2.2 (z_ix i_w3 (by omega)) dL_law_969 ?_
  refine z_lit (y := x3) (by rw [ex3, z_ixK (K := K) (k := 3) i_w3 (by omega)]) ?_
  obtain ⟨fs_, hfo⟩ := z_SX_xo hSX
  refine z_calliV (cells := 164) (slots := 16321) (b := ad 0) (As := [.int x1, .int x2, .int x3]) (rest := []) (ci := 9) (q0 := (RX9, TX9, 11)) ⟨hx, hb, hml, hown, hT⟩ (s_X9_ring l hSX) (cwV 3 hT (z_goodV (fun _ h => h) kw_977 kw_978 kw_979 kw_85 kw_980) rfl rfl rfl (by decide +kernel) ⟨by decide, by decide⟩) z_mv hKK hK hw hA (z_SX_mem hSX (by decide)) hfo rfl rfl rfl hl.1 rfl (Nat.le_of_ble_eq_true rfl) dL_law_970 ⟨by decide, by decide⟩ (fun r5 u H locs hp hw => ?_)
  obtain ⟨L2, F4⟩ := u
  obtain ⟨hL2, hfr, hS2⟩ := hp
  have hL2 : L = L2 := hL2
  subst hL2
  have hw : z_H D vwCl (fun q : Nat => s.heap.size ≤ q) s.heap L F4 H locs := hw
  have hSM := z_SM_fr (f2 := F4) hSM (fun i hi => hfr _ (z_SM_mem hSM hi) (fun j hj => (hdis j i hj hi).symm))
  have hSX := hS2
  have hSX : z_SX L F4 cy ad gkp gw gz := hSX
  refine lv_pop hx hb dL_law_973 rfl ?_
  refine lv_aload_n hx hb dL_law_974 rfl (lv_at hl 1 rfl) ?_
  refine lv_aload_n hx hb dL_law_975 rfl (lv_at hl 3 rfl) ?_
  refine lv_iload_n hx hb dL_law_976 rfl (lv_at hl 0 rfl) ?_
  refine lv_iconst (v := 1) hx hb dL_law_977 (by decide) ?_
  refine lv_iadd hx hb dL_law_978 ?_
  refine lv_topi (fun w6 e_w6 => ?_)
  have i_w6 : w6.toInt = (K.toInt + 1) := z_add e_w6 rfl (show (1 : Int32).toInt = 1 by decide) (by omega)
  refine va_sld hx hb hX hbl hbA hw.2.2 (z_ix i_w6 (by omega)) dL_law_979 ?_
  refine z_lit (y := x1) (by rw [ex1, z_ixK (K := K) (k := 1) i_w6 (by omega)]) ?_
  refine lv_aload_n hx hb dL_law_980 rfl (lv_at hl 3 rfl) ?_
  refine lv_iload_n hx hb dL_law_981 rfl (lv_at hl 0 rfl) ?_
  refine lv_iconst (v := 2) hx hb dL_law_982 (by decide) ?_
  refine lv_iadd hx hb dL_law_983 ?_
  refine lv_topi (fun w7 e_w7 => ?_)
  have i_w7 : w7.toInt = (K.toInt + 2) := z_add e_w7 rfl (show (2 : Int32).toInt = 2 by decide) (by omega)
  refine va_sld hx hb hX hbl hbA hw.2.2 (z_ix i_w7 (by omega)) dL_law_984 ?_
  refine z_lit (y := x2) (by rw [ex2, z_ixK (K := K) (k := 2) i_w7 (by omega)]) ?_
  refine lv_aload_n hx hb dL_law_985 rfl (lv_at hl 3 rfl) ?_
  refine lv_iload_n hx hb dL_law_986 rfl (lv_at hl 0 rfl) ?_
  refine lv_iconst (v := 3) hx hb dL_law_987 (by decide) ?_
  refine lv_iadd hx hb dL_law_988 ?_
  refine lv_topi (fun w8 e_w8 => ?_)
  have i_w8 : w8.toInt = (K.toInt + 3) := z_add e_w8 rfl (show (3 : Int32).toInt = 3 by decide) (by omega)
  refine va_sld hx hb hX hbl hbA hw.2.2 (z_ix i_w8 (by omega)) dL_law_989 ?_
  refine z_lit (y := x3) (by rw [ex3, z_ixK (K := K) (k := 3) i_w8 (by omega)]) ?_
  obtain ⟨fs_, hfo⟩ := z_SM_xo hSM
  refine z_calliV (cells := 164) (slots := 16321) (b := bd 0) (As := [.int x1, .int x2, .int x3]) (rest := []) (ci := 10) (q0 := (RX10, TX10, 54)) ⟨hx, hb, hml, hown, hT⟩ (s_X10_ring l hSM) (cwV 3 hT (z_goodV (fun _ h => h) kw_1681 kw_1682 kw_1683 kw_96 kw_1684) rfl rfl rfl (by decide +kernel) ⟨by decide, by decide⟩) z_mv hKK hK hw hA (z_SM_mem hSM (by decide)) hfo rfl rfl rfl hl.1 rfl (Nat.le_of_ble_eq_true rfl) dL_law_990 ⟨by decide, by decide⟩ (fun r10 u H locs hp hw => ?_)
  obtain ⟨L2, F9⟩ := u
  obtain ⟨hL2, hfr, hS2⟩ := hp
  have hL2 : L = L2 := hL2
  subst hL2
  have hw : z_H D vwCl (fun q : Nat => s.heap.size ≤ q) s.heap L F9 H locs := hw
  have hSX := z_SX_frL (f2 := F9) hSX (fun _ h => h) (fun i hi => hfr _ (z_SX_mem hSX hi) (fun j hj => hdis i j hi hj))
  have hSM := hS2
  have hSM : z_SM L F9 cy bd gik gwd gmy := hSM
  have hrel0 := hrel
  refine lv_pop hx hb dL_law_993 rfl ?_
  refine lv_goto (tgt := 1615) hx hb dL_law_994 (by decide) ?_
  exact kk _ _ _ _ _ _ _ _ _ hSX hSM hrel hw

set_option maxHeartbeats 4000000 in
set_option maxRecDepth 100000 in
theorem lc_rounds {p : Program} {e : Env} {s : State} {m : MethodId} {below : List Frame} {meth : Method} {c : Code} (l : Launch) {b Ln : Nat} {xs : Nat → Int32} {D : va_G} {cy : Nat → ClassId} {adK adV : Nat → Nat} {L : List Nat} {F : Nat → va_E} {H : Heap} {locs : List Loc} {ls : Array Slot} {ad bd : Nat → Nat} {gkp gw gz gik gwd gmy : Nat → Int32} {K : Int32} {xo me : Nat} (C0 : lw_At p s m meth c b Ln xs) (hKK : z_KK D cy adK adV (fun q : Nat => s.heap.size ≤ q) s) (hxo : ad 0 = xo) (hme : bd 0 = me) (hSX : z_SX L F cy ad gkp gw gz) (hSM : z_SM L F cy bd gik gwd gmy) (hdis : ∀ i j : Nat, i < 135 → j < 29 → ad i ≠ bd j) (hrel : z_rel gkp gw gz gik gwd gmy) (hw : z_H D vwCl (fun q : Nat => s.heap.size ≤ q) s.heap L F H locs) (hl : lv_has ls 4 [(3, .int K), (2, .ref me), (1, .ref xo), (0, .ref b)]) (hKr : 0 ≤ K.toInt ∧ K.toInt + 6 ≤ Ln) (hLn : Ln ≤ 3072) (kk : ∀ (F2 : Nat → va_E) (H2 : Heap) (locs2 : List Loc) (a1 a2 a3 a4 a5 a6 : Nat → Int32), z_SX L F2 cy ad a1 a2 a3 → z_SM L F2 cy bd a4 a5 a6 → z_rel a1 a2 a3 a4 a5 a6 → z_H D vwCl (fun q : Nat => s.heap.size ≤ q) s.heap L F2 H2 locs2 → W p l e room_1 s m #[Value.ref b] below meth c H2 locs2 164 16321 (lw_Z below #[Value.ref b] s) (F0 m 1615 ls [])) : W p l e room_1 s m #[Value.ref b] below meth c H locs 164 16321 (lw_Z below #[Value.ref b] s) (F0 m 997 ls []) := by
  subst hxo
  subst hme
  obtain ⟨hx, hb, hr, hml, hown, hts, hX, hbl, hlocks, hgv⟩ := C0
  have hA : ∀ q : Nat, s.heap.size ≤ q → (fun q : Nat => s.heap.size ≤ q) q := fun _ h => h
  have hbA : ¬ (fun q : Nat => s.heap.size ≤ q) b := Nat.not_le.mpr hbl
  have hT : ∀ w ∈ lw_all, w.before #[Value.ref b] s = true := fun w h => hts w (z_all_in w h)
  have hown : s.vm.findClass RL = some m.cls := hown
  have hK := hKK.1.1
  obtain ⟨x1, ex1⟩ : ∃ z, z = xs (K.toNatClampNeg + 1) := ⟨_, rfl⟩
  obtain ⟨x2, ex2⟩ : ∃ z, z = xs (K.toNatClampNeg + 2) := ⟨_, rfl⟩
  obtain ⟨x3, ex3⟩ : ∃ z, z = xs (K.toNatClampNeg + 3) := ⟨_, rfl⟩
  obtain ⟨x4, ex4⟩ : ∃ z, z = xs (K.toNatClampNeg + 4) := ⟨_, rfl⟩
  obtain ⟨x5, ex5⟩ : ∃ z, z = xs (K.toNatClampNeg + 5) := ⟨_, rfl⟩
  refine lv_aload_n hx hb dL_law_997 rfl (lv_at hl 2 rfl) ?_
  refine lv_aload_n hx hb dL_law_998 rfl (lv_at hl 3 rfl) ?_
  refine lv_iload_n hx hb dL_law_999 rfl (lv_at hl 0 rfl) ?_
  refine lv_iconst (v := 1) hx hb dL_law_1000 (by decide) ?_
  refine lv_iadd hx hb dL_law_1001 ?_
  refine lv_topi (fun w1 e_w1 => ?_)
  have i_w1 : w1.toInt = (K.toInt + 1) := z_add e_w1 rfl (show (1 : Int32).toInt = 1 by decide) (by omega)
  refine va_sld hx hb hX hbl hbA hw.2.2 (z_ix i_w1 (by omega)) dL_law_1002 ?_
  refine z_lit (y := x1) (by rw [ex1, z_ixK (K := K) (k := 1) i_w1 (by omega)]) ?_
  refine lv_aload_n hx hb dL_law_1003 rfl (lv_at hl 3 rfl) ?_
  refine lv_iload_n hx hb dL_law_1004 rfl (lv_at hl 0 rfl) ?_
  refine lv_iconst (v := 2) hx hb dL_law_1005 (by decide) ?_
  refine lv_iadd hx hb dL_law_1006 ?_
  refine lv_topi (fun w2 e_w2 => ?_)
  have i_w2 : w2.toInt = (K.toInt + 2) := z_add e_w2 rfl (show (2 : Int32).toInt = 2 by decide) (by omega)
  refine va_sld hx hb hX hbl hbA hw.2.2 (z_ix i_w2 (by omega)) dL_law_1007 ?_
  refine z_lit (y := x2) (by rw [ex2, z_ixK (K := K) (k := 2) i_w2 (by omega)]) ?_
  obtain ⟨fs_, hfo⟩ := z_SX_xo hSX
  refine z_calliV (cells := 164) (slots := 16321) (b := ad 0) (As := [.int x1, .int x2]) (rest := []) (ci := 9) (q0 := (RX9, TX9, 11)) ⟨hx, hb, hml, hown, hT⟩ (s_X9_rounds l hSX) (cwV 2 hT (z_goodV (fun _ h => h) kw_987 kw_988 kw_989 kw_85 kw_990) rfl rfl rfl (by decide +kernel) ⟨by decide, by decide⟩) z_mv hKK hK hw hA (z_SX_mem hSX (by decide)) hfo rfl rfl rfl hl.1 rfl (Nat.le_of_ble_eq_true rfl) dL_law_1008 ⟨by decide, by decide⟩ (fun r4 u H locs hp hw => ?_)
  obtain ⟨L2, F3⟩ := u
  obtain ⟨hL2, hfr, hS2⟩ := hp
  have hL2 : L = L2 := hL2
  subst hL2
  have hw : z_H D vwCl (fun q : Nat => s.heap.size ≤ q) s.heap L F3 H locs := hw
  have hSM := z_SM_fr (f2 := F3) hSM (fun i hi => hfr _ (z_SM_mem hSM hi) (fun j hj => (hdis j i hj hi).symm))
  have hSX := hS2
  have hSX : z_SX L F3 cy ad gkp gw gz := hSX
  refine lv_pop hx hb dL_law_1011 rfl ?_
  refine lv_aload_n hx hb dL_law_1012 rfl (lv_at hl 1 rfl) ?_
  refine lv_aload_n hx hb dL_law_1013 rfl (lv_at hl 3 rfl) ?_
  refine lv_iload_n hx hb dL_law_1014 rfl (lv_at hl 0 rfl) ?_
  refine lv_iconst (v := 1) hx hb dL_law_1015 (by decide) ?_
  refine lv_iadd hx hb dL_law_1016 ?_
  refine lv_topi (fun w5 e_w5 => ?_)
  have i_w5 : w5.toInt = (K.toInt + 1) := z_add e_w5 rfl (show (1 : Int32).toInt = 1 by decide) (by omega)
  refine va_sld hx hb hX hbl hbA hw.2.2 (z_ix i_w5 (by omega)) dL_law_1017 ?_
  refine z_lit (y := x1) (by rw [ex1, z_ixK (K := K) (k := 1) i_w5 (by omega)]) ?_
  refine lv_aload_n hx hb dL_law_1018 rfl (lv_at hl 3 rfl) ?_
  refine lv_iload_n hx hb dL_law_1019 rfl (lv_at hl 0 rfl) ?_
  refine lv_iconst (v := 2) hx hb dL_law_1020 (by decide) ?_
  refine lv_iadd hx hb dL_law_1021 ?_
  refine lv_topi (fun w6 e_w6 => ?_)
  have i_w6 : w6.toInt = (K.toInt + 2) := z_add e_w6 rfl (show (2 : Int32).toInt = 2 by decide) (by omega)
  refine va_sld hx hb hX hbl hbA hw.2.2 (z_ix i_w6 (by omega)) dL_law_1022 ?_
  refine z_lit (y := x2) (by rw [ex2, z_ixK (K := K) (k := 2) i_w6 (by omega)]) ?_
  obtain ⟨fs_, hfo⟩ := z_SM_xo hSM
  refine z_calliV (cells := 164) (slots := 16321) (b := bd 0) (As := [.int x1, .int x2]) (rest := []) (ci := 10) (q0 := (RX10, TX10, 54)) ⟨hx, hb, hml, hown, hT⟩ (s_X10_rounds l hSM) (cwV 2 hT (z_goodV (fun _ h => h) kw_1686 kw_1687 kw_1688 kw_96 kw_1689) rfl rfl rfl (by decide +kernel) ⟨by decide, by decide⟩) z_mv hKK hK hw hA (z_SM_mem hSM (by decide)) hfo rfl rfl rfl hl.1 rfl (Nat.le_of_ble_eq_true rfl) dL_law_1023 ⟨by decide, by decide⟩ (fun r8 u H locs hp hw => ?_)
  obtain ⟨L2, F7⟩ := u
  obtain ⟨hL2, hfr, hS2⟩ := hp
  have hL2 : L = L2 := hL2
  subst hL2
  have hw : z_H D vwCl (fun q : Nat => s.heap.size ≤ q) s.heap L F7 H locs := hw
  have hSX := z_SX_frL (f2 := F7) hSX (fun _ h => h) (fun i hi => hfr _ (z_SX_mem hSX hi) (fun j hj => hdis i j hi hj))
  have hSM := hS2
  have hSM : z_SM L F7 cy bd gik gwd gmy := hSM
  have hrel0 := hrel
  refine lv_pop hx hb dL_law_1026 rfl ?_
  refine lv_goto (tgt := 1615) hx hb dL_law_1027 (by decide) ?_
  exact kk _ _ _ _ _ _ _ _ _ hSX hSM hrel hw

set_option maxHeartbeats 4000000 in
set_option maxRecDepth 100000 in
theorem lc_orders {p : Program} {e : Env} {s : State} {m : MethodId} {below : List Frame} {meth : Method} {c : Code} (l : Launch) {b Ln : Nat} {xs : Nat → Int32} {D : va_G} {cy : Nat → ClassId} {adK adV : Nat → Nat} {L : List Nat} {F : Nat → va_E} {H : Heap} {locs : List Loc} {ls : Array Slot} {ad bd : Nat → Nat} {gkp gw gz gik gwd gmy : Nat → Int32} {K : Int32} {xo me : Nat} (C0 : lw_At p s m meth c b Ln xs) (hKK : z_KK D cy adK adV (fun q : Nat => s.heap.size ≤ q) s) (hxo : ad 0 = xo) (hme : bd 0 = me) (hSX : z_SX L F cy ad gkp gw gz) (hSM : z_SM L F cy bd gik gwd gmy) (hdis : ∀ i j : Nat, i < 135 → j < 29 → ad i ≠ bd j) (hrel : z_rel gkp gw gz gik gwd gmy) (hw : z_H D vwCl (fun q : Nat => s.heap.size ≤ q) s.heap L F H locs) (hl : lv_has ls 4 [(3, .int K), (2, .ref me), (1, .ref xo), (0, .ref b)]) (hKr : 0 ≤ K.toInt ∧ K.toInt + 6 ≤ Ln) (hLn : Ln ≤ 3072) (kk : ∀ (F2 : Nat → va_E) (H2 : Heap) (locs2 : List Loc) (a1 a2 a3 a4 a5 a6 : Nat → Int32), z_SX L F2 cy ad a1 a2 a3 → z_SM L F2 cy bd a4 a5 a6 → z_rel a1 a2 a3 a4 a5 a6 → z_H D vwCl (fun q : Nat => s.heap.size ≤ q) s.heap L F2 H2 locs2 → W p l e room_1 s m #[Value.ref b] below meth c H2 locs2 164 16321 (lw_Z below #[Value.ref b] s) (F0 m 1615 ls [])) : W p l e room_1 s m #[Value.ref b] below meth c H locs 164 16321 (lw_Z below #[Value.ref b] s) (F0 m 1030 ls []) := by
  subst hxo
  subst hme
  obtain ⟨hx, hb, hr, hml, hown, hts, hX, hbl, hlocks, hgv⟩ := C0
  have hA : ∀ q : Nat, s.heap.size ≤ q → (fun q : Nat => s.heap.size ≤ q) q := fun _ h => h
  have hbA : ¬ (fun q : Nat => s.heap.size ≤ q) b := Nat.not_le.mpr hbl
  have hT : ∀ w ∈ lw_all, w.before #[Value.ref b] s = true := fun w h => hts w (z_all_in w h)
  have hown : s.vm.findClass RL = some m.cls := hown
  have hK := hKK.1.1
  obtain ⟨x1, ex1⟩ : ∃ z, z = xs (K.toNatClampNeg + 1) := ⟨_, rfl⟩
  obtain ⟨x2, ex2⟩ : ∃ z, z = xs (K.toNatClampNeg + 2) := ⟨_, rfl⟩
  obtain ⟨x3, ex3⟩ : ∃ z, z = xs (K.toNatClampNeg + 3) := ⟨_, rfl⟩
  obtain ⟨x4, ex4⟩ : ∃ z, z = xs (K.toNatClampNeg + 4) := ⟨_, rfl⟩
  obtain ⟨x5, ex5⟩ : ∃ z, z = xs (K.toNatClampNeg + 5) := ⟨_, rfl⟩
  refine lv_aload_n hx hb dL_law_1030 rfl (lv_at hl 2 rfl) ?_
  refine lv_aload_n hx hb dL_law_1031 rfl (lv_at hl 3 rfl) ?_
  refine lv_iload_n hx hb dL_law_1032 rfl (lv_at hl 0 rfl) ?_
  refine lv_iconst (v := 1) hx hb dL_law_1033 (by decide) ?_
  refine lv_iadd hx hb dL_law_1034 ?_
  refine lv_topi (fun w1 e_w1 => ?_)
  have i_w1 : w1.toInt = (K.toInt + 1) := z_add e_w1 rfl (show (1 : Int32).toInt = 1 by decide) (by omega)
  refine va_sld hx hb hX hbl hbA hw.2.2 (z_ix i_w1 (by omega)) dL_law_1035 ?_
  refine z_lit (y := x1) (by rw [ex1, z_ixK (K := K) (k := 1) i_w1 (by omega)]) ?_
  refine lv_aload_n hx hb dL_law_1036 rfl (lv_at hl 3 rfl) ?_
  refine lv_iload_n hx hb dL_law_1037 rfl (lv_at hl 0 rfl) ?_
  refine lv_iconst (v := 2) hx hb dL_law_1038 (by decide) ?_
  refine lv_iadd hx hb dL_law_1039 ?_
  refine lv_topi (fun w2 e_w2 => ?_)
  have i_w2 : w2.toInt = (K.toInt + 2) := z_add e_w2 rfl (show (2 : Int32).toInt = 2 by decide) (by omega)
  refine va_sld hx hb hX hbl hbA hw.2.2 (z_ix i_w2 (by omega)) dL_law_1040 ?_
  refine z_lit (y := x2) (by rw [ex2, z_ixK (K := K) (k := 2) i_w2 (by omega)]) ?_
  refine lv_aload_n hx hb dL_law_1041 rfl (lv_at hl 3 rfl) ?_
  refine lv_iload_n hx hb dL_law_1042 rfl (lv_at hl 0 rfl) ?_
  refine lv_iconst (v := 3) hx hb dL_law_1043 (by decide) ?_
  refine lv_iadd hx hb dL_law_1044 ?_
  refine lv_topi (fun w3 e_w3 => ?_)
  have i_w3 : w3.toInt = (K.toInt + 3) := z_add e_w3 rfl (show (3 : Int32).toInt = 3 by decide) (by omega)
  refine va_sld hx hb hX hbl hbA hw.2.2 (z_ix i_w3 (by omega)) dL_law_1045 ?_
  refine z_lit (y := x3) (by rw [ex3, z_ixK (K := K) (k := 3) i_w3 (by omega)]) ?_
  obtain ⟨fs_, hfo⟩ := z_SX_xo hSX
  refine z_calliV (cells := 164) (slots := 16321) (b := ad 0) (As := [.int x1, .int x2, .int x3]) (rest := []) (ci := 9) (q0 := (RX9, TX9, 11)) ⟨hx, hb, hml, hown, hT⟩ (s_X9_orders l hSX) (cwV 3 hT (z_goodV (fun _ h => h) kw_991 kw_992 kw_993 kw_85 kw_994) rfl rfl rfl (by decide +kernel) ⟨by decide, by decide⟩) z_mv hKK hK hw hA (z_SX_mem hSX (by decide)) hfo rfl rfl rfl hl.1 rfl (Nat.le_of_ble_eq_true rfl) dL_law_1046 ⟨by decide, by decide⟩ (fun r5 u H locs hp hw => ?_)
  obtain ⟨L2, F4⟩ := u
  obtain ⟨hL2, hfr, hS2⟩ := hp
  have hL2 : L = L2 := hL2
  subst hL2
  have hw : z_H D vwCl (fun q : Nat => s.heap.size ≤ q) s.heap L F4 H locs := hw
  have hSM := z_SM_fr (f2 := F4) hSM (fun i hi => hfr _ (z_SM_mem hSM hi) (fun j hj => (hdis j i hj hi).symm))
  have hSX := hS2
  have hSX : z_SX L F4 cy ad gkp gw gz := hSX
  refine lv_pop hx hb dL_law_1049 rfl ?_
  refine lv_aload_n hx hb dL_law_1050 rfl (lv_at hl 1 rfl) ?_
  refine lv_aload_n hx hb dL_law_1051 rfl (lv_at hl 3 rfl) ?_
  refine lv_iload_n hx hb dL_law_1052 rfl (lv_at hl 0 rfl) ?_
  refine lv_iconst (v := 1) hx hb dL_law_1053 (by decide) ?_
  refine lv_iadd hx hb dL_law_1054 ?_
  refine lv_topi (fun w6 e_w6 => ?_)
  have i_w6 : w6.toInt = (K.toInt + 1) := z_add e_w6 rfl (show (1 : Int32).toInt = 1 by decide) (by omega)
  refine va_sld hx hb hX hbl hbA hw.2.2 (z_ix i_w6 (by omega)) dL_law_1055 ?_
  refine z_lit (y := x1) (by rw [ex1, z_ixK (K := K) (k := 1) i_w6 (by omega)]) ?_
  refine lv_aload_n hx hb dL_law_1056 rfl (lv_at hl 3 rfl) ?_
  refine lv_iload_n hx hb dL_law_1057 rfl (lv_at hl 0 rfl) ?_
  refine lv_iconst (v := 2) hx hb dL_law_1058 (by decide) ?_
  refine lv_iadd hx hb dL_law_1059 ?_
  refine lv_topi (fun w7 e_w7 => ?_)
  have i_w7 : w7.toInt = (K.toInt + 2) := z_add e_w7 rfl (show (2 : Int32).toInt = 2 by decide) (by omega)
  refine va_sld hx hb hX hbl hbA hw.2.2 (z_ix i_w7 (by omega)) dL_law_1060 ?_
  refine z_lit (y := x2) (by rw [ex2, z_ixK (K := K) (k := 2) i_w7 (by omega)]) ?_
  refine lv_aload_n hx hb dL_law_1061 rfl (lv_at hl 3 rfl) ?_
  refine lv_iload_n hx hb dL_law_1062 rfl (lv_at hl 0 rfl) ?_
  refine lv_iconst (v := 3) hx hb dL_law_1063 (by decide) ?_
  refine lv_iadd hx hb dL_law_1064 ?_
  refine lv_topi (fun w8 e_w8 => ?_)
  have i_w8 : w8.toInt = (K.toInt + 3) := z_add e_w8 rfl (show (3 : Int32).toInt = 3 by decide) (by omega)
  refine va_sld hx hb hX hbl hbA hw.2.2 (z_ix i_w8 (by omega)) dL_law_1065 ?_
  refine z_lit (y := x3) (by rw [ex3, z_ixK (K := K) (k := 3) i_w8 (by omega)]) ?_
  obtain ⟨fs_, hfo⟩ := z_SM_xo hSM
  refine z_calliV (cells := 164) (slots := 16321) (b := bd 0) (As := [.int x1, .int x2, .int x3]) (rest := []) (ci := 10) (q0 := (RX10, TX10, 54)) ⟨hx, hb, hml, hown, hT⟩ (s_X10_orders l hSM) (cwV 3 hT (z_goodV (fun _ h => h) kw_1690 kw_1691 kw_1692 kw_96 kw_1693) rfl rfl rfl (by decide +kernel) ⟨by decide, by decide⟩) z_mv hKK hK hw hA (z_SM_mem hSM (by decide)) hfo rfl rfl rfl hl.1 rfl (Nat.le_of_ble_eq_true rfl) dL_law_1066 ⟨by decide, by decide⟩ (fun r10 u H locs hp hw => ?_)
  obtain ⟨L2, F9⟩ := u
  obtain ⟨hL2, hfr, hS2⟩ := hp
  have hL2 : L = L2 := hL2
  subst hL2
  have hw : z_H D vwCl (fun q : Nat => s.heap.size ≤ q) s.heap L F9 H locs := hw
  have hSX := z_SX_frL (f2 := F9) hSX (fun _ h => h) (fun i hi => hfr _ (z_SX_mem hSX hi) (fun j hj => hdis i j hi hj))
  have hSM := hS2
  have hSM : z_SM L F9 cy bd gik gwd gmy := hSM
  have hrel0 := hrel
  refine lv_pop hx hb dL_law_1069 rfl ?_
  refine lv_goto (tgt := 1615) hx hb dL_law_1070 (by decide) ?_
  exact kk _ _ _ _ _ _ _ _ _ hSX hSM hrel hw

set_option maxHeartbeats 4000000 in
set_option maxRecDepth 100000 in
theorem lc_order {p : Program} {e : Env} {s : State} {m : MethodId} {below : List Frame} {meth : Method} {c : Code} (l : Launch) {b Ln : Nat} {xs : Nat → Int32} {D : va_G} {cy : Nat → ClassId} {adK adV : Nat → Nat} {L : List Nat} {F : Nat → va_E} {H : Heap} {locs : List Loc} {ls : Array Slot} {ad bd : Nat → Nat} {gkp gw gz gik gwd gmy : Nat → Int32} {K : Int32} {xo me : Nat} (C0 : lw_At p s m meth c b Ln xs) (hKK : z_KK D cy adK adV (fun q : Nat => s.heap.size ≤ q) s) (hxo : ad 0 = xo) (hme : bd 0 = me) (hSX : z_SX L F cy ad gkp gw gz) (hSM : z_SM L F cy bd gik gwd gmy) (hdis : ∀ i j : Nat, i < 135 → j < 29 → ad i ≠ bd j) (hrel : z_rel gkp gw gz gik gwd gmy) (hw : z_H D vwCl (fun q : Nat => s.heap.size ≤ q) s.heap L F H locs) (hl : lv_has ls 4 [(3, .int K), (2, .ref me), (1, .ref xo), (0, .ref b)]) (hKr : 0 ≤ K.toInt ∧ K.toInt + 6 ≤ Ln) (hLn : Ln ≤ 3072) (kk : ∀ (F2 : Nat → va_E) (H2 : Heap) (locs2 : List Loc) (a1 a2 a3 a4 a5 a6 : Nat → Int32), z_SX L F2 cy ad a1 a2 a3 → z_SM L F2 cy bd a4 a5 a6 → z_rel a1 a2 a3 a4 a5 a6 → z_H D vwCl (fun q : Nat => s.heap.size ≤ q) s.heap L F2 H2 locs2 → W p l e room_1 s m #[Value.ref b] below meth c H2 locs2 164 16321 (lw_Z below #[Value.ref b] s) (F0 m 1615 ls [])) : W p l e room_1 s m #[Value.ref b] below meth c H locs 164 16321 (lw_Z below #[Value.ref b] s) (F0 m 1073 ls []) := by
  subst hxo
  subst hme
  obtain ⟨hx, hb, hr, hml, hown, hts, hX, hbl, hlocks, hgv⟩ := C0
  have hA : ∀ q : Nat, s.heap.size ≤ q → (fun q : Nat => s.heap.size ≤ q) q := fun _ h => h
  have hbA : ¬ (fun q : Nat => s.heap.size ≤ q) b := Nat.not_le.mpr hbl
  have hT : ∀ w ∈ lw_all, w.before #[Value.ref b] s = true := fun w h => hts w (z_all_in w h)
  have hown : s.vm.findClass RL = some m.cls := hown
  have hK := hKK.1.1
  obtain ⟨x1, ex1⟩ : ∃ z, z = xs (K.toNatClampNeg + 1) := ⟨_, rfl⟩
  obtain ⟨x2, ex2⟩ : ∃ z, z = xs (K.toNatClampNeg + 2) := ⟨_, rfl⟩
  obtain ⟨x3, ex3⟩ : ∃ z, z = xs (K.toNatClampNeg + 3) := ⟨_, rfl⟩
  obtain ⟨x4, ex4⟩ : ∃ z, z = xs (K.toNatClampNeg + 4) := ⟨_, rfl⟩
  obtain ⟨x5, ex5⟩ : ∃ z, z = xs (K.toNatClampNeg + 5) := ⟨_, rfl⟩
  refine lv_aload_n hx hb dL_law_1073 rfl (lv_at hl 2 rfl) ?_
  refine lv_aload_n hx hb dL_law_1074 rfl (lv_at hl 3 rfl) ?_
  refine lv_iload_n hx hb dL_law_1075 rfl (lv_at hl 0 rfl) ?_
  refine lv_iconst (v := 1) hx hb dL_law_1076 (by decide) ?_
  refine lv_iadd hx hb dL_law_1077 ?_
  refine lv_topi (fun w1 e_w1 => ?_)
  have i_w1 : w1.toInt = (K.toInt + 1) := z_add e_w1 rfl (show (1 : Int32).toInt = 1 by decide) (by omega)
  refine va_sld hx hb hX hbl hbA hw.2.2 (z_ix i_w1 (by omega)) dL_law_1078 ?_
  refine z_lit (y := x1) (by rw [ex1, z_ixK (K := K) (k := 1) i_w1 (by omega)]) ?_
  refine lv_aload_n hx hb dL_law_1079 rfl (lv_at hl 3 rfl) ?_
  refine lv_iload_n hx hb dL_law_1080 rfl (lv_at hl 0 rfl) ?_
  refine lv_iconst (v := 2) hx hb dL_law_1081 (by decide) ?_
  refine lv_iadd hx hb dL_law_1082 ?_
  refine lv_topi (fun w2 e_w2 => ?_)
  have i_w2 : w2.toInt = (K.toInt + 2) := z_add e_w2 rfl (show (2 : Int32).toInt = 2 by decide) (by omega)
  refine va_sld hx hb hX hbl hbA hw.2.2 (z_ix i_w2 (by omega)) dL_law_1083 ?_
  refine z_lit (y := x2) (by rw [ex2, z_ixK (K := K) (k := 2) i_w2 (by omega)]) ?_
  refine lv_aload_n hx hb dL_law_1084 rfl (lv_at hl 3 rfl) ?_
  refine lv_iload_n hx hb dL_law_1085 rfl (lv_at hl 0 rfl) ?_
  refine lv_iconst (v := 3) hx hb dL_law_1086 (by decide) ?_
  refine lv_iadd hx hb dL_law_1087 ?_
  refine lv_topi (fun w3 e_w3 => ?_)
  have i_w3 : w3.toInt = (K.toInt + 3) := z_add e_w3 rfl (show (3 : Int32).toInt = 3 by decide) (by omega)
  refine va_sld hx hb hX hbl hbA hw.2.2 (z_ix i_w3 (by omega)) dL_law_1088 ?_
  refine z_lit (y := x3) (by rw [ex3, z_ixK (K := K) (k := 3) i_w3 (by omega)]) ?_
  refine lv_aload_n hx hb dL_law_1089 rfl (lv_at hl 3 rfl) ?_
  refine lv_iload_n hx hb dL_law_1090 rfl (lv_at hl 0 rfl) ?_
  refine lv_iconst (v := 4) hx hb dL_law_1091 (by decide) ?_
  refine lv_iadd hx hb dL_law_1092 ?_
  refine lv_topi (fun w4 e_w4 => ?_)
  have i_w4 : w4.toInt = (K.toInt + 4) := z_add e_w4 rfl (show (4 : Int32).toInt = 4 by decide) (by omega)
  refine va_sld hx hb hX hbl hbA hw.2.2 (z_ix i_w4 (by omega)) dL_law_1093 ?_
  refine z_lit (y := x4) (by rw [ex4, z_ixK (K := K) (k := 4) i_w4 (by omega)]) ?_
  obtain ⟨fs_, hfo⟩ := z_SX_xo hSX
  refine z_calliV (cells := 164) (slots := 16321) (b := ad 0) (As := [.int x1, .int x2, .int x3, .int x4]) (rest := []) (ci := 9) (q0 := (RX9, TX9, 11)) ⟨hx, hb, hml, hown, hT⟩ (s_X9_order l hSX) (cwV 4 hT (z_goodV (fun _ h => h) kw_1043 kw_1044 kw_1045 kw_85 kw_1046) rfl rfl rfl (by decide +kernel) ⟨by decide, by decide⟩) z_mv hKK hK hw hA (z_SX_mem hSX (by decide)) hfo rfl rfl rfl hl.1 rfl (Nat.le_of_ble_eq_true rfl) dL_law_1094 ⟨by decide, by decide⟩ (fun r6 u H locs hp hw => ?_)
  obtain ⟨L2, F5⟩ := u
  obtain ⟨hL2, hfr, hS2⟩ := hp
  have hL2 : L = L2 := hL2
  subst hL2
  have hw : z_H D vwCl (fun q : Nat => s.heap.size ≤ q) s.heap L F5 H locs := hw
  have hSM := z_SM_fr (f2 := F5) hSM (fun i hi => hfr _ (z_SM_mem hSM hi) (fun j hj => (hdis j i hj hi).symm))
  have hSX := hS2
  have hSX : z_SX L F5 cy ad gkp gw gz := hSX
  refine lv_pop hx hb dL_law_1097 rfl ?_
  refine lv_aload_n hx hb dL_law_1098 rfl (lv_at hl 1 rfl) ?_
  refine lv_aload_n hx hb dL_law_1099 rfl (lv_at hl 3 rfl) ?_
  refine lv_iload_n hx hb dL_law_1100 rfl (lv_at hl 0 rfl) ?_
  refine lv_iconst (v := 1) hx hb dL_law_1101 (by decide) ?_
  refine lv_iadd hx hb dL_law_1102 ?_
  refine lv_topi (fun w7 e_w7 => ?_)
  have i_w7 : w7.toInt = (K.toInt + 1) := z_add e_w7 rfl (show (1 : Int32).toInt = 1 by decide) (by omega)
  refine va_sld hx hb hX hbl hbA hw.2.2 (z_ix i_w7 (by omega)) dL_law_1103 ?_
  refine z_lit (y := x1) (by rw [ex1, z_ixK (K := K) (k := 1) i_w7 (by omega)]) ?_
  refine lv_aload_n hx hb dL_law_1104 rfl (lv_at hl 3 rfl) ?_
  refine lv_iload_n hx hb dL_law_1105 rfl (lv_at hl 0 rfl) ?_
  refine lv_iconst (v := 2) hx hb dL_law_1106 (by decide) ?_
  refine lv_iadd hx hb dL_law_1107 ?_
  refine lv_topi (fun w8 e_w8 => ?_)
  have i_w8 : w8.toInt = (K.toInt + 2) := z_add e_w8 rfl (show (2 : Int32).toInt = 2 by decide) (by omega)
  refine va_sld hx hb hX hbl hbA hw.2.2 (z_ix i_w8 (by omega)) dL_law_1108 ?_
  refine z_lit (y := x2) (by rw [ex2, z_ixK (K := K) (k := 2) i_w8 (by omega)]) ?_
  refine lv_aload_n hx hb dL_law_1109 rfl (lv_at hl 3 rfl) ?_
  refine lv_iload_n hx hb dL_law_1110 rfl (lv_at hl 0 rfl) ?_
  refine lv_iconst (v := 3) hx hb dL_law_1111 (by decide) ?_
  refine lv_iadd hx hb dL_law_1112 ?_
  refine lv_topi (fun w9 e_w9 => ?_)
  have i_w9 : w9.toInt = (K.toInt + 3) := z_add e_w9 rfl (show (3 : Int32).toInt = 3 by decide) (by omega)
  refine va_sld hx hb hX hbl hbA hw.2.2 (z_ix i_w9 (by omega)) dL_law_1113 ?_
  refine z_lit (y := x3) (by rw [ex3, z_ixK (K := K) (k := 3) i_w9 (by omega)]) ?_
  refine lv_aload_n hx hb dL_law_1114 rfl (lv_at hl 3 rfl) ?_
  refine lv_iload_n hx hb dL_law_1115 rfl (lv_at hl 0 rfl) ?_
  refine lv_iconst (v := 4) hx hb dL_law_1116 (by decide) ?_
  refine lv_iadd hx hb dL_law_1117 ?_
  refine lv_topi (fun w10 e_w10 => ?_)
  have i_w10 : w10.toInt = (K.toInt + 4) := z_add e_w10 rfl (show (4 : Int32).toInt = 4 by decide) (by omega)
  refine va_sld hx hb hX hbl hbA hw.2.2 (z_ix i_w10 (by omega)) dL_law_1118 ?_
  refine z_lit (y := x4) (by rw [ex4, z_ixK (K := K) (k := 4) i_w10 (by omega)]) ?_
  obtain ⟨fs_, hfo⟩ := z_SM_xo hSM
  refine z_calliV (cells := 164) (slots := 16321) (b := bd 0) (As := [.int x1, .int x2, .int x3, .int x4]) (rest := []) (ci := 10) (q0 := (RX10, TX10, 54)) ⟨hx, hb, hml, hown, hT⟩ (s_X10_order l hSM) (cwV 4 hT (z_goodV (fun _ h => h) kw_1710 kw_1711 kw_1712 kw_96 kw_1713) rfl rfl rfl (by decide +kernel) ⟨by decide, by decide⟩) z_mv hKK hK hw hA (z_SM_mem hSM (by decide)) hfo rfl rfl rfl hl.1 rfl (Nat.le_of_ble_eq_true rfl) dL_law_1119 ⟨by decide, by decide⟩ (fun r12 u H locs hp hw => ?_)
  obtain ⟨L2, F11⟩ := u
  obtain ⟨hL2, hfr, hS2⟩ := hp
  have hL2 : L = L2 := hL2
  subst hL2
  have hw : z_H D vwCl (fun q : Nat => s.heap.size ≤ q) s.heap L F11 H locs := hw
  have hSX := z_SX_frL (f2 := F11) hSX (fun _ h => h) (fun i hi => hfr _ (z_SX_mem hSX hi) (fun j hj => hdis i j hi hj))
  have hSM := hS2
  have hSM : z_SM L F11 cy bd gik gwd gmy := hSM
  have hrel0 := hrel
  refine lv_pop hx hb dL_law_1122 rfl ?_
  refine lv_goto (tgt := 1615) hx hb dL_law_1123 (by decide) ?_
  exact kk _ _ _ _ _ _ _ _ _ hSX hSM hrel hw

set_option maxHeartbeats 4000000 in
set_option maxRecDepth 100000 in
theorem lc_sure {p : Program} {e : Env} {s : State} {m : MethodId} {below : List Frame} {meth : Method} {c : Code} (l : Launch) {b Ln : Nat} {xs : Nat → Int32} {D : va_G} {cy : Nat → ClassId} {adK adV : Nat → Nat} {L : List Nat} {F : Nat → va_E} {H : Heap} {locs : List Loc} {ls : Array Slot} {ad bd : Nat → Nat} {gkp gw gz gik gwd gmy : Nat → Int32} {K : Int32} {xo me : Nat} (C0 : lw_At p s m meth c b Ln xs) (hKK : z_KK D cy adK adV (fun q : Nat => s.heap.size ≤ q) s) (hxo : ad 0 = xo) (hme : bd 0 = me) (hSX : z_SX L F cy ad gkp gw gz) (hSM : z_SM L F cy bd gik gwd gmy) (hdis : ∀ i j : Nat, i < 135 → j < 29 → ad i ≠ bd j) (hrel : z_rel gkp gw gz gik gwd gmy) (hw : z_H D vwCl (fun q : Nat => s.heap.size ≤ q) s.heap L F H locs) (hl : lv_has ls 4 [(3, .int K), (2, .ref me), (1, .ref xo), (0, .ref b)]) (hKr : 0 ≤ K.toInt ∧ K.toInt + 6 ≤ Ln) (hLn : Ln ≤ 3072) (kk : ∀ (F2 : Nat → va_E) (H2 : Heap) (locs2 : List Loc) (a1 a2 a3 a4 a5 a6 : Nat → Int32), z_SX L F2 cy ad a1 a2 a3 → z_SM L F2 cy bd a4 a5 a6 → z_rel a1 a2 a3 a4 a5 a6 → z_H D vwCl (fun q : Nat => s.heap.size ≤ q) s.heap L F2 H2 locs2 → W p l e room_1 s m #[Value.ref b] below meth c H2 locs2 164 16321 (lw_Z below #[Value.ref b] s) (F0 m 1615 ls [])) : W p l e room_1 s m #[Value.ref b] below meth c H locs 164 16321 (lw_Z below #[Value.ref b] s) (F0 m 1126 ls []) := by
  subst hxo
  subst hme
  obtain ⟨hx, hb, hr, hml, hown, hts, hX, hbl, hlocks, hgv⟩ := C0
  have hA : ∀ q : Nat, s.heap.size ≤ q → (fun q : Nat => s.heap.size ≤ q) q := fun _ h => h
  have hbA : ¬ (fun q : Nat => s.heap.size ≤ q) b := Nat.not_le.mpr hbl
  have hT : ∀ w ∈ lw_all, w.before #[Value.ref b] s = true := fun w h => hts w (z_all_in w h)
  have hown : s.vm.findClass RL = some m.cls := hown
  have hK := hKK.1.1
  obtain ⟨x1, ex1⟩ : ∃ z, z = xs (K.toNatClampNeg + 1) := ⟨_, rfl⟩
  obtain ⟨x2, ex2⟩ : ∃ z, z = xs (K.toNatClampNeg + 2) := ⟨_, rfl⟩
  obtain ⟨x3, ex3⟩ : ∃ z, z = xs (K.toNatClampNeg + 3) := ⟨_, rfl⟩
  obtain ⟨x4, ex4⟩ : ∃ z, z = xs (K.toNatClampNeg + 4) := ⟨_, rfl⟩
  obtain ⟨x5, ex5⟩ : ∃ z, z = xs (K.toNatClampNeg + 5) := ⟨_, rfl⟩
  refine lv_aload_n hx hb dL_law_1126 rfl (lv_at hl 2 rfl) ?_
  refine lv_aload_n hx hb dL_law_1127 rfl (lv_at hl 3 rfl) ?_
  refine lv_iload_n hx hb dL_law_1128 rfl (lv_at hl 0 rfl) ?_
  refine lv_iconst (v := 1) hx hb dL_law_1129 (by decide) ?_
  refine lv_iadd hx hb dL_law_1130 ?_
  refine lv_topi (fun w1 e_w1 => ?_)
  have i_w1 : w1.toInt = (K.toInt + 1) := z_add e_w1 rfl (show (1 : Int32).toInt = 1 by decide) (by omega)
  refine va_sld hx hb hX hbl hbA hw.2.2 (z_ix i_w1 (by omega)) dL_law_1131 ?_
  refine z_lit (y := x1) (by rw [ex1, z_ixK (K := K) (k := 1) i_w1 (by omega)]) ?_
  refine lv_aload_n hx hb dL_law_1132 rfl (lv_at hl 3 rfl) ?_
  refine lv_iload_n hx hb dL_law_1133 rfl (lv_at hl 0 rfl) ?_
  refine lv_iconst (v := 2) hx hb dL_law_1134 (by decide) ?_
  refine lv_iadd hx hb dL_law_1135 ?_
  refine lv_topi (fun w2 e_w2 => ?_)
  have i_w2 : w2.toInt = (K.toInt + 2) := z_add e_w2 rfl (show (2 : Int32).toInt = 2 by decide) (by omega)
  refine va_sld hx hb hX hbl hbA hw.2.2 (z_ix i_w2 (by omega)) dL_law_1136 ?_
  refine z_lit (y := x2) (by rw [ex2, z_ixK (K := K) (k := 2) i_w2 (by omega)]) ?_
  refine lv_aload_n hx hb dL_law_1137 rfl (lv_at hl 3 rfl) ?_
  refine lv_iload_n hx hb dL_law_1138 rfl (lv_at hl 0 rfl) ?_
  refine lv_iconst (v := 3) hx hb dL_law_1139 (by decide) ?_
  refine lv_iadd hx hb dL_law_1140 ?_
  refine lv_topi (fun w3 e_w3 => ?_)
  have i_w3 : w3.toInt = (K.toInt + 3) := z_add e_w3 rfl (show (3 : Int32).toInt = 3 by decide) (by omega)
  refine va_sld hx hb hX hbl hbA hw.2.2 (z_ix i_w3 (by omega)) dL_law_1141 ?_
  refine z_lit (y := x3) (by rw [ex3, z_ixK (K := K) (k := 3) i_w3 (by omega)]) ?_
  refine lv_aload_n hx hb dL_law_1142 rfl (lv_at hl 3 rfl) ?_
  refine lv_iload_n hx hb dL_law_1143 rfl (lv_at hl 0 rfl) ?_
  refine lv_iconst (v := 4) hx hb dL_law_1144 (by decide) ?_
  refine lv_iadd hx hb dL_law_1145 ?_
  refine lv_topi (fun w4 e_w4 => ?_)
  have i_w4 : w4.toInt = (K.toInt + 4) := z_add e_w4 rfl (show (4 : Int32).toInt = 4 by decide) (by omega)
  refine va_sld hx hb hX hbl hbA hw.2.2 (z_ix i_w4 (by omega)) dL_law_1146 ?_
  refine z_lit (y := x4) (by rw [ex4, z_ixK (K := K) (k := 4) i_w4 (by omega)]) ?_
  obtain ⟨fs_, hfo⟩ := z_SX_xo hSX
  refine z_calliV (cells := 164) (slots := 16321) (b := ad 0) (As := [.int x1, .int x2, .int x3, .int x4]) (rest := []) (ci := 9) (q0 := (RX9, TX9, 11)) ⟨hx, hb, hml, hown, hT⟩ (s_X9_sure l hSX) (cwV 4 hT (z_goodV (fun _ h => h) kw_1047 kw_1048 kw_1049 kw_85 kw_1050) rfl rfl rfl (by decide +kernel) ⟨by decide, by decide⟩) z_mv hKK hK hw hA (z_SX_mem hSX (by decide)) hfo rfl rfl rfl hl.1 rfl (Nat.le_of_ble_eq_true rfl) dL_law_1147 ⟨by decide, by decide⟩ (fun r6 u H locs hp hw => ?_)
  obtain ⟨L2, F5⟩ := u
  obtain ⟨hL2, hfr, hS2⟩ := hp
  have hL2 : L = L2 := hL2
  subst hL2
  have hw : z_H D vwCl (fun q : Nat => s.heap.size ≤ q) s.heap L F5 H locs := hw
  have hSM := z_SM_fr (f2 := F5) hSM (fun i hi => hfr _ (z_SM_mem hSM hi) (fun j hj => (hdis j i hj hi).symm))
  have hSX := hS2
  have hSX : z_SX L F5 cy ad gkp gw gz := hSX
  refine lv_pop hx hb dL_law_1150 rfl ?_
  refine lv_aload_n hx hb dL_law_1151 rfl (lv_at hl 1 rfl) ?_
  refine lv_aload_n hx hb dL_law_1152 rfl (lv_at hl 3 rfl) ?_
  refine lv_iload_n hx hb dL_law_1153 rfl (lv_at hl 0 rfl) ?_
  refine lv_iconst (v := 1) hx hb dL_law_1154 (by decide) ?_
  refine lv_iadd hx hb dL_law_1155 ?_
  refine lv_topi (fun w7 e_w7 => ?_)
  have i_w7 : w7.toInt = (K.toInt + 1) := z_add e_w7 rfl (show (1 : Int32).toInt = 1 by decide) (by omega)
  refine va_sld hx hb hX hbl hbA hw.2.2 (z_ix i_w7 (by omega)) dL_law_1156 ?_
  refine z_lit (y := x1) (by rw [ex1, z_ixK (K := K) (k := 1) i_w7 (by omega)]) ?_
  refine lv_aload_n hx hb dL_law_1157 rfl (lv_at hl 3 rfl) ?_
  refine lv_iload_n hx hb dL_law_1158 rfl (lv_at hl 0 rfl) ?_
  refine lv_iconst (v := 2) hx hb dL_law_1159 (by decide) ?_
  refine lv_iadd hx hb dL_law_1160 ?_
  refine lv_topi (fun w8 e_w8 => ?_)
  have i_w8 : w8.toInt = (K.toInt + 2) := z_add e_w8 rfl (show (2 : Int32).toInt = 2 by decide) (by omega)
  refine va_sld hx hb hX hbl hbA hw.2.2 (z_ix i_w8 (by omega)) dL_law_1161 ?_
  refine z_lit (y := x2) (by rw [ex2, z_ixK (K := K) (k := 2) i_w8 (by omega)]) ?_
  refine lv_aload_n hx hb dL_law_1162 rfl (lv_at hl 3 rfl) ?_
  refine lv_iload_n hx hb dL_law_1163 rfl (lv_at hl 0 rfl) ?_
  refine lv_iconst (v := 3) hx hb dL_law_1164 (by decide) ?_
  refine lv_iadd hx hb dL_law_1165 ?_
  refine lv_topi (fun w9 e_w9 => ?_)
  have i_w9 : w9.toInt = (K.toInt + 3) := z_add e_w9 rfl (show (3 : Int32).toInt = 3 by decide) (by omega)
  refine va_sld hx hb hX hbl hbA hw.2.2 (z_ix i_w9 (by omega)) dL_law_1166 ?_
  refine z_lit (y := x3) (by rw [ex3, z_ixK (K := K) (k := 3) i_w9 (by omega)]) ?_
  refine lv_aload_n hx hb dL_law_1167 rfl (lv_at hl 3 rfl) ?_
  refine lv_iload_n hx hb dL_law_1168 rfl (lv_at hl 0 rfl) ?_
  refine lv_iconst (v := 4) hx hb dL_law_1169 (by decide) ?_
  refine lv_iadd hx hb dL_law_1170 ?_
  refine lv_topi (fun w10 e_w10 => ?_)
  have i_w10 : w10.toInt = (K.toInt + 4) := z_add e_w10 rfl (show (4 : Int32).toInt = 4 by decide) (by omega)
  refine va_sld hx hb hX hbl hbA hw.2.2 (z_ix i_w10 (by omega)) dL_law_1171 ?_
  refine z_lit (y := x4) (by rw [ex4, z_ixK (K := K) (k := 4) i_w10 (by omega)]) ?_
  obtain ⟨fs_, hfo⟩ := z_SM_xo hSM
  refine z_calliV (cells := 164) (slots := 16321) (b := bd 0) (As := [.int x1, .int x2, .int x3, .int x4]) (rest := []) (ci := 10) (q0 := (RX10, TX10, 54)) ⟨hx, hb, hml, hown, hT⟩ (s_X10_sure l hSM) (cwV 4 hT (z_goodV (fun _ h => h) kw_1714 kw_1715 kw_1716 kw_96 kw_1717) rfl rfl rfl (by decide +kernel) ⟨by decide, by decide⟩) z_mv hKK hK hw hA (z_SM_mem hSM (by decide)) hfo rfl rfl rfl hl.1 rfl (Nat.le_of_ble_eq_true rfl) dL_law_1172 ⟨by decide, by decide⟩ (fun r12 u H locs hp hw => ?_)
  obtain ⟨L2, F11⟩ := u
  obtain ⟨hL2, hfr, hS2⟩ := hp
  have hL2 : L = L2 := hL2
  subst hL2
  have hw : z_H D vwCl (fun q : Nat => s.heap.size ≤ q) s.heap L F11 H locs := hw
  have hSX := z_SX_frL (f2 := F11) hSX (fun _ h => h) (fun i hi => hfr _ (z_SX_mem hSX hi) (fun j hj => hdis i j hi hj))
  have hSM := hS2
  have hSM : z_SM L F11 cy bd gik gwd gmy := hSM
  have hrel0 := hrel
  refine lv_pop hx hb dL_law_1175 rfl ?_
  refine lv_goto (tgt := 1615) hx hb dL_law_1176 (by decide) ?_
  exact kk _ _ _ _ _ _ _ _ _ hSX hSM hrel hw

set_option maxHeartbeats 4000000 in
set_option maxRecDepth 100000 in
theorem lc_wrong {p : Program} {e : Env} {s : State} {m : MethodId} {below : List Frame} {meth : Method} {c : Code} (l : Launch) {b Ln : Nat} {xs : Nat → Int32} {D : va_G} {cy : Nat → ClassId} {adK adV : Nat → Nat} {L : List Nat} {F : Nat → va_E} {H : Heap} {locs : List Loc} {ls : Array Slot} {ad bd : Nat → Nat} {gkp gw gz gik gwd gmy : Nat → Int32} {K : Int32} {xo me : Nat} (C0 : lw_At p s m meth c b Ln xs) (hKK : z_KK D cy adK adV (fun q : Nat => s.heap.size ≤ q) s) (hxo : ad 0 = xo) (hme : bd 0 = me) (hSX : z_SX L F cy ad gkp gw gz) (hSM : z_SM L F cy bd gik gwd gmy) (hdis : ∀ i j : Nat, i < 135 → j < 29 → ad i ≠ bd j) (hrel : z_rel gkp gw gz gik gwd gmy) (hw : z_H D vwCl (fun q : Nat => s.heap.size ≤ q) s.heap L F H locs) (hl : lv_has ls 4 [(3, .int K), (2, .ref me), (1, .ref xo), (0, .ref b)]) (hKr : 0 ≤ K.toInt ∧ K.toInt + 6 ≤ Ln) (hLn : Ln ≤ 3072) (kk : ∀ (F2 : Nat → va_E) (H2 : Heap) (locs2 : List Loc) (a1 a2 a3 a4 a5 a6 : Nat → Int32), z_SX L F2 cy ad a1 a2 a3 → z_SM L F2 cy bd a4 a5 a6 → z_rel a1 a2 a3 a4 a5 a6 → z_H D vwCl (fun q : Nat => s.heap.size ≤ q) s.heap L F2 H2 locs2 → W p l e room_1 s m #[Value.ref b] below meth c H2 locs2 164 16321 (lw_Z below #[Value.ref b] s) (F0 m 1615 ls [])) : W p l e room_1 s m #[Value.ref b] below meth c H locs 164 16321 (lw_Z below #[Value.ref b] s) (F0 m 1179 ls []) := by
  subst hxo
  subst hme
  obtain ⟨hx, hb, hr, hml, hown, hts, hX, hbl, hlocks, hgv⟩ := C0
  have hA : ∀ q : Nat, s.heap.size ≤ q → (fun q : Nat => s.heap.size ≤ q) q := fun _ h => h
  have hbA : ¬ (fun q : Nat => s.heap.size ≤ q) b := Nat.not_le.mpr hbl
  have hT : ∀ w ∈ lw_all, w.before #[Value.ref b] s = true := fun w h => hts w (z_all_in w h)
  have hown : s.vm.findClass RL = some m.cls := hown
  have hK := hKK.1.1
  obtain ⟨x1, ex1⟩ : ∃ z, z = xs (K.toNatClampNeg + 1) := ⟨_, rfl⟩
  obtain ⟨x2, ex2⟩ : ∃ z, z = xs (K.toNatClampNeg + 2) := ⟨_, rfl⟩
  obtain ⟨x3, ex3⟩ : ∃ z, z = xs (K.toNatClampNeg + 3) := ⟨_, rfl⟩
  obtain ⟨x4, ex4⟩ : ∃ z, z = xs (K.toNatClampNeg + 4) := ⟨_, rfl⟩
  obtain ⟨x5, ex5⟩ : ∃ z, z = xs (K.toNatClampNeg + 5) := ⟨_, rfl⟩
  refine lv_aload_n hx hb dL_law_1179 rfl (lv_at hl 2 rfl) ?_
  refine lv_aload_n hx hb dL_law_1180 rfl (lv_at hl 3 rfl) ?_
  refine lv_iload_n hx hb dL_law_1181 rfl (lv_at hl 0 rfl) ?_
  refine lv_iconst (v := 1) hx hb dL_law_1182 (by decide) ?_
  refine lv_iadd hx hb dL_law_1183 ?_
  refine lv_topi (fun w1 e_w1 => ?_)
  have i_w1 : w1.toInt = (K.toInt + 1) := z_add e_w1 rfl (show (1 : Int32).toInt = 1 by decide) (by omega)
  refine va_sld hx hb hX hbl hbA hw.2.2 (z_ix i_w1 (by omega)) dL_law_1184 ?_
  refine z_lit (y := x1) (by rw [ex1, z_ixK (K := K) (k := 1) i_w1 (by omega)]) ?_
  refine lv_aload_n hx hb dL_law_1185 rfl (lv_at hl 3 rfl) ?_
  refine lv_iload_n hx hb dL_law_1186 rfl (lv_at hl 0 rfl) ?_
  refine lv_iconst (v := 2) hx hb dL_law_1187 (by decide) ?_
  refine lv_iadd hx hb dL_law_1188 ?_
  refine lv_topi (fun w2 e_w2 => ?_)
  have i_w2 : w2.toInt = (K.toInt + 2) := z_add e_w2 rfl (show (2 : Int32).toInt = 2 by decide) (by omega)
  refine va_sld hx hb hX hbl hbA hw.2.2 (z_ix i_w2 (by omega)) dL_law_1189 ?_
  refine z_lit (y := x2) (by rw [ex2, z_ixK (K := K) (k := 2) i_w2 (by omega)]) ?_
  obtain ⟨fs_, hfo⟩ := z_SX_xo hSX
  refine z_calliV (cells := 164) (slots := 16321) (b := ad 0) (As := [.int x1, .int x2]) (rest := []) (ci := 9) (q0 := (RX9, TX9, 11)) ⟨hx, hb, hml, hown, hT⟩ (s_X9_wrong l hSX) (cwV 2 hT (z_goodV (fun _ h => h) kw_1051 kw_1052 kw_1053 kw_85 kw_1054) rfl rfl rfl (by decide +kernel) ⟨by decide, by decide⟩) z_mv hKK hK hw hA (z_SX_mem hSX (by decide)) hfo rfl rfl rfl hl.1 rfl (Nat.le_of_ble_eq_true rfl) dL_law_1190 ⟨by decide, by decide⟩ (fun r4 u H locs hp hw => ?_)
  obtain ⟨L2, F3⟩ := u
  obtain ⟨hL2, hfr, hS2⟩ := hp
  have hL2 : L = L2 := hL2
  subst hL2
  have hw : z_H D vwCl (fun q : Nat => s.heap.size ≤ q) s.heap L F3 H locs := hw
  have hSM := z_SM_fr (f2 := F3) hSM (fun i hi => hfr _ (z_SM_mem hSM hi) (fun j hj => (hdis j i hj hi).symm))
  have hSX := hS2
  have hSX : z_SX L F3 cy ad gkp gw gz := hSX
  refine lv_pop hx hb dL_law_1193 rfl ?_
  refine lv_aload_n hx hb dL_law_1194 rfl (lv_at hl 1 rfl) ?_
  refine lv_aload_n hx hb dL_law_1195 rfl (lv_at hl 3 rfl) ?_
  refine lv_iload_n hx hb dL_law_1196 rfl (lv_at hl 0 rfl) ?_
  refine lv_iconst (v := 1) hx hb dL_law_1197 (by decide) ?_
  refine lv_iadd hx hb dL_law_1198 ?_
  refine lv_topi (fun w5 e_w5 => ?_)
  have i_w5 : w5.toInt = (K.toInt + 1) := z_add e_w5 rfl (show (1 : Int32).toInt = 1 by decide) (by omega)
  refine va_sld hx hb hX hbl hbA hw.2.2 (z_ix i_w5 (by omega)) dL_law_1199 ?_
  refine z_lit (y := x1) (by rw [ex1, z_ixK (K := K) (k := 1) i_w5 (by omega)]) ?_
  refine lv_aload_n hx hb dL_law_1200 rfl (lv_at hl 3 rfl) ?_
  refine lv_iload_n hx hb dL_law_1201 rfl (lv_at hl 0 rfl) ?_
  refine lv_iconst (v := 2) hx hb dL_law_1202 (by decide) ?_
  refine lv_iadd hx hb dL_law_1203 ?_
  refine lv_topi (fun w6 e_w6 => ?_)
  have i_w6 : w6.toInt = (K.toInt + 2) := z_add e_w6 rfl (show (2 : Int32).toInt = 2 by decide) (by omega)
  refine va_sld hx hb hX hbl hbA hw.2.2 (z_ix i_w6 (by omega)) dL_law_1204 ?_
  refine z_lit (y := x2) (by rw [ex2, z_ixK (K := K) (k := 2) i_w6 (by omega)]) ?_
  obtain ⟨fs_, hfo⟩ := z_SM_xo hSM
  refine z_calliV (cells := 164) (slots := 16321) (b := bd 0) (As := [.int x1, .int x2]) (rest := []) (ci := 10) (q0 := (RX10, TX10, 54)) ⟨hx, hb, hml, hown, hT⟩ (s_X10_wrong l hSM) (cwV 2 hT (z_goodV (fun _ h => h) kw_1718 kw_1719 kw_1720 kw_96 kw_1721) rfl rfl rfl (by decide +kernel) ⟨by decide, by decide⟩) z_mv hKK hK hw hA (z_SM_mem hSM (by decide)) hfo rfl rfl rfl hl.1 rfl (Nat.le_of_ble_eq_true rfl) dL_law_1205 ⟨by decide, by decide⟩ (fun r8 u H locs hp hw => ?_)
  obtain ⟨L2, F7⟩ := u
  obtain ⟨hL2, hfr, hS2⟩ := hp
  have hL2 : L = L2 := hL2
  subst hL2
  have hw : z_H D vwCl (fun q : Nat => s.heap.size ≤ q) s.heap L F7 H locs := hw
  have hSX := z_SX_frL (f2 := F7) hSX (fun _ h => h) (fun i hi => hfr _ (z_SX_mem hSX hi) (fun j hj => hdis i j hi hj))
  have hSM := hS2
  have hSM : z_SM L F7 cy bd gik gwd gmy := hSM
  have hrel0 := hrel
  refine lv_pop hx hb dL_law_1208 rfl ?_
  refine lv_goto (tgt := 1615) hx hb dL_law_1209 (by decide) ?_
  exact kk _ _ _ _ _ _ _ _ _ hSX hSM hrel hw

set_option maxHeartbeats 4000000 in
set_option maxRecDepth 100000 in
theorem lc_anew {p : Program} {e : Env} {s : State} {m : MethodId} {below : List Frame} {meth : Method} {c : Code} (l : Launch) {b Ln : Nat} {xs : Nat → Int32} {D : va_G} {cy : Nat → ClassId} {adK adV : Nat → Nat} {L : List Nat} {F : Nat → va_E} {H : Heap} {locs : List Loc} {ls : Array Slot} {ad bd : Nat → Nat} {gkp gw gz gik gwd gmy : Nat → Int32} {K : Int32} {xo me : Nat} (C0 : lw_At p s m meth c b Ln xs) (hKK : z_KK D cy adK adV (fun q : Nat => s.heap.size ≤ q) s) (hxo : ad 0 = xo) (hme : bd 0 = me) (hSX : z_SX L F cy ad gkp gw gz) (hSM : z_SM L F cy bd gik gwd gmy) (hdis : ∀ i j : Nat, i < 135 → j < 29 → ad i ≠ bd j) (hrel : z_rel gkp gw gz gik gwd gmy) (hw : z_H D vwCl (fun q : Nat => s.heap.size ≤ q) s.heap L F H locs) (hl : lv_has ls 4 [(3, .int K), (2, .ref me), (1, .ref xo), (0, .ref b)]) (hKr : 0 ≤ K.toInt ∧ K.toInt + 6 ≤ Ln) (hLn : Ln ≤ 3072) (kk : ∀ (F2 : Nat → va_E) (H2 : Heap) (locs2 : List Loc) (a1 a2 a3 a4 a5 a6 : Nat → Int32), z_SX L F2 cy ad a1 a2 a3 → z_SM L F2 cy bd a4 a5 a6 → z_rel a1 a2 a3 a4 a5 a6 → z_H D vwCl (fun q : Nat => s.heap.size ≤ q) s.heap L F2 H2 locs2 → W p l e room_1 s m #[Value.ref b] below meth c H2 locs2 164 16321 (lw_Z below #[Value.ref b] s) (F0 m 1615 ls [])) : W p l e room_1 s m #[Value.ref b] below meth c H locs 164 16321 (lw_Z below #[Value.ref b] s) (F0 m 1212 ls []) := by
  subst hxo
  subst hme
  obtain ⟨hx, hb, hr, hml, hown, hts, hX, hbl, hlocks, hgv⟩ := C0
  have hA : ∀ q : Nat, s.heap.size ≤ q → (fun q : Nat => s.heap.size ≤ q) q := fun _ h => h
  have hbA : ¬ (fun q : Nat => s.heap.size ≤ q) b := Nat.not_le.mpr hbl
  have hT : ∀ w ∈ lw_all, w.before #[Value.ref b] s = true := fun w h => hts w (z_all_in w h)
  have hown : s.vm.findClass RL = some m.cls := hown
  have hK := hKK.1.1
  obtain ⟨x1, ex1⟩ : ∃ z, z = xs (K.toNatClampNeg + 1) := ⟨_, rfl⟩
  obtain ⟨x2, ex2⟩ : ∃ z, z = xs (K.toNatClampNeg + 2) := ⟨_, rfl⟩
  obtain ⟨x3, ex3⟩ : ∃ z, z = xs (K.toNatClampNeg + 3) := ⟨_, rfl⟩
  obtain ⟨x4, ex4⟩ : ∃ z, z = xs (K.toNatClampNeg + 4) := ⟨_, rfl⟩
  obtain ⟨x5, ex5⟩ : ∃ z, z = xs (K.toNatClampNeg + 5) := ⟨_, rfl⟩
  refine lv_aload_n hx hb dL_law_1212 rfl (lv_at hl 2 rfl) ?_
  refine lv_aload_n hx hb dL_law_1213 rfl (lv_at hl 3 rfl) ?_
  refine lv_iload_n hx hb dL_law_1214 rfl (lv_at hl 0 rfl) ?_
  refine lv_iconst (v := 1) hx hb dL_law_1215 (by decide) ?_
  refine lv_iadd hx hb dL_law_1216 ?_
  refine lv_topi (fun w1 e_w1 => ?_)
  have i_w1 : w1.toInt = (K.toInt + 1) := z_add e_w1 rfl (show (1 : Int32).toInt = 1 by decide) (by omega)
  refine va_sld hx hb hX hbl hbA hw.2.2 (z_ix i_w1 (by omega)) dL_law_1217 ?_
  refine z_lit (y := x1) (by rw [ex1, z_ixK (K := K) (k := 1) i_w1 (by omega)]) ?_
  refine lv_aload_n hx hb dL_law_1218 rfl (lv_at hl 3 rfl) ?_
  refine lv_iload_n hx hb dL_law_1219 rfl (lv_at hl 0 rfl) ?_
  refine lv_iconst (v := 2) hx hb dL_law_1220 (by decide) ?_
  refine lv_iadd hx hb dL_law_1221 ?_
  refine lv_topi (fun w2 e_w2 => ?_)
  have i_w2 : w2.toInt = (K.toInt + 2) := z_add e_w2 rfl (show (2 : Int32).toInt = 2 by decide) (by omega)
  refine va_sld hx hb hX hbl hbA hw.2.2 (z_ix i_w2 (by omega)) dL_law_1222 ?_
  refine z_lit (y := x2) (by rw [ex2, z_ixK (K := K) (k := 2) i_w2 (by omega)]) ?_
  obtain ⟨fs_, hfo⟩ := z_SX_xo hSX
  refine z_calliV (cells := 164) (slots := 16321) (b := ad 0) (As := [.int x1, .int x2]) (rest := []) (ci := 9) (q0 := (RX9, TX9, 11)) ⟨hx, hb, hml, hown, hT⟩ (s_X9_anew l hSX) (cwV 2 hT (z_goodV (fun _ h => h) kw_1059 kw_1060 kw_1061 kw_85 kw_1062) rfl rfl rfl (by decide +kernel) ⟨by decide, by decide⟩) z_mv hKK hK hw hA (z_SX_mem hSX (by decide)) hfo rfl rfl rfl hl.1 rfl (Nat.le_of_ble_eq_true rfl) dL_law_1223 ⟨by decide, by decide⟩ (fun r4 u H locs hp hw => ?_)
  obtain ⟨L2, F3⟩ := u
  obtain ⟨hL2, hfr, hS2⟩ := hp
  have hL2 : L = L2 := hL2
  subst hL2
  have hw : z_H D vwCl (fun q : Nat => s.heap.size ≤ q) s.heap L F3 H locs := hw
  have hSM := z_SM_fr (f2 := F3) hSM (fun i hi => hfr _ (z_SM_mem hSM hi) (fun j hj => (hdis j i hj hi).symm))
  have hSX := hS2
  have hSX : z_SX L F3 cy ad gkp gw gz := hSX
  refine lv_pop hx hb dL_law_1226 rfl ?_
  refine lv_aload_n hx hb dL_law_1227 rfl (lv_at hl 1 rfl) ?_
  refine lv_aload_n hx hb dL_law_1228 rfl (lv_at hl 3 rfl) ?_
  refine lv_iload_n hx hb dL_law_1229 rfl (lv_at hl 0 rfl) ?_
  refine lv_iconst (v := 1) hx hb dL_law_1230 (by decide) ?_
  refine lv_iadd hx hb dL_law_1231 ?_
  refine lv_topi (fun w5 e_w5 => ?_)
  have i_w5 : w5.toInt = (K.toInt + 1) := z_add e_w5 rfl (show (1 : Int32).toInt = 1 by decide) (by omega)
  refine va_sld hx hb hX hbl hbA hw.2.2 (z_ix i_w5 (by omega)) dL_law_1232 ?_
  refine z_lit (y := x1) (by rw [ex1, z_ixK (K := K) (k := 1) i_w5 (by omega)]) ?_
  refine lv_aload_n hx hb dL_law_1233 rfl (lv_at hl 3 rfl) ?_
  refine lv_iload_n hx hb dL_law_1234 rfl (lv_at hl 0 rfl) ?_
  refine lv_iconst (v := 2) hx hb dL_law_1235 (by decide) ?_
  refine lv_iadd hx hb dL_law_1236 ?_
  refine lv_topi (fun w6 e_w6 => ?_)
  have i_w6 : w6.toInt = (K.toInt + 2) := z_add e_w6 rfl (show (2 : Int32).toInt = 2 by decide) (by omega)
  refine va_sld hx hb hX hbl hbA hw.2.2 (z_ix i_w6 (by omega)) dL_law_1237 ?_
  refine z_lit (y := x2) (by rw [ex2, z_ixK (K := K) (k := 2) i_w6 (by omega)]) ?_
  obtain ⟨fs_, hfo⟩ := z_SM_xo hSM
  refine z_calliV (cells := 164) (slots := 16321) (b := bd 0) (As := [.int x1, .int x2]) (rest := []) (ci := 10) (q0 := (RX10, TX10, 54)) ⟨hx, hb, hml, hown, hT⟩ (s_X10_anew l hSM) (cwV 2 hT (z_goodV (fun _ h => h) kw_1727 kw_1728 kw_1729 kw_96 kw_1730) rfl rfl rfl (by decide +kernel) ⟨by decide, by decide⟩) z_mv hKK hK hw hA (z_SM_mem hSM (by decide)) hfo rfl rfl rfl hl.1 rfl (Nat.le_of_ble_eq_true rfl) dL_law_1238 ⟨by decide, by decide⟩ (fun r8 u H locs hp hw => ?_)
  obtain ⟨L2, F7⟩ := u
  obtain ⟨hL2, hfr, hS2⟩ := hp
  have hL2 : L = L2 := hL2
  subst hL2
  have hw : z_H D vwCl (fun q : Nat => s.heap.size ≤ q) s.heap L F7 H locs := hw
  have hSX := z_SX_frL (f2 := F7) hSX (fun _ h => h) (fun i hi => hfr _ (z_SX_mem hSX hi) (fun j hj => hdis i j hi hj))
  have hSM := hS2
  have hSM : z_SM L F7 cy bd gik gwd gmy := hSM
  have hrel0 := hrel
  refine lv_pop hx hb dL_law_1241 rfl ?_
  refine lv_goto (tgt := 1615) hx hb dL_law_1242 (by decide) ?_
  exact kk _ _ _ _ _ _ _ _ _ hSX hSM hrel hw

set_option maxHeartbeats 4000000 in
set_option maxRecDepth 100000 in
theorem lc_mixed {p : Program} {e : Env} {s : State} {m : MethodId} {below : List Frame} {meth : Method} {c : Code} (l : Launch) {b Ln : Nat} {xs : Nat → Int32} {D : va_G} {cy : Nat → ClassId} {adK adV : Nat → Nat} {L : List Nat} {F : Nat → va_E} {H : Heap} {locs : List Loc} {ls : Array Slot} {ad bd : Nat → Nat} {gkp gw gz gik gwd gmy : Nat → Int32} {K : Int32} {xo me : Nat} (C0 : lw_At p s m meth c b Ln xs) (hKK : z_KK D cy adK adV (fun q : Nat => s.heap.size ≤ q) s) (hxo : ad 0 = xo) (hme : bd 0 = me) (hSX : z_SX L F cy ad gkp gw gz) (hSM : z_SM L F cy bd gik gwd gmy) (hdis : ∀ i j : Nat, i < 135 → j < 29 → ad i ≠ bd j) (hrel : z_rel gkp gw gz gik gwd gmy) (hw : z_H D vwCl (fun q : Nat => s.heap.size ≤ q) s.heap L F H locs) (hl : lv_has ls 4 [(3, .int K), (2, .ref me), (1, .ref xo), (0, .ref b)]) (hKr : 0 ≤ K.toInt ∧ K.toInt + 6 ≤ Ln) (hLn : Ln ≤ 3072) (kk : ∀ (F2 : Nat → va_E) (H2 : Heap) (locs2 : List Loc) (a1 a2 a3 a4 a5 a6 : Nat → Int32), z_SX L F2 cy ad a1 a2 a3 → z_SM L F2 cy bd a4 a5 a6 → z_rel a1 a2 a3 a4 a5 a6 → z_H D vwCl (fun q : Nat => s.heap.size ≤ q) s.heap L F2 H2 locs2 → W p l e room_1 s m #[Value.ref b] below meth c H2 locs2 164 16321 (lw_Z below #[Value.ref b] s) (F0 m 1615 ls [])) : W p l e room_1 s m #[Value.ref b] below meth c H locs 164 16321 (lw_Z below #[Value.ref b] s) (F0 m 1245 ls []) := by
  subst hxo
  subst hme
  obtain ⟨hx, hb, hr, hml, hown, hts, hX, hbl, hlocks, hgv⟩ := C0
  have hA : ∀ q : Nat, s.heap.size ≤ q → (fun q : Nat => s.heap.size ≤ q) q := fun _ h => h
  have hbA : ¬ (fun q : Nat => s.heap.size ≤ q) b := Nat.not_le.mpr hbl
  have hT : ∀ w ∈ lw_all, w.before #[Value.ref b] s = true := fun w h => hts w (z_all_in w h)
  have hown : s.vm.findClass RL = some m.cls := hown
  have hK := hKK.1.1
  obtain ⟨x1, ex1⟩ : ∃ z, z = xs (K.toNatClampNeg + 1) := ⟨_, rfl⟩
  obtain ⟨x2, ex2⟩ : ∃ z, z = xs (K.toNatClampNeg + 2) := ⟨_, rfl⟩
  obtain ⟨x3, ex3⟩ : ∃ z, z = xs (K.toNatClampNeg + 3) := ⟨_, rfl⟩
  obtain ⟨x4, ex4⟩ : ∃ z, z = xs (K.toNatClampNeg + 4) := ⟨_, rfl⟩
  obtain ⟨x5, ex5⟩ : ∃ z, z = xs (K.toNatClampNeg + 5) := ⟨_, rfl⟩
  refine lv_aload_n hx hb dL_law_1245 rfl (lv_at hl 2 rfl) ?_
  refine lv_aload_n hx hb dL_law_1246 rfl (lv_at hl 3 rfl) ?_
  refine lv_iload_n hx hb dL_law_1247 rfl (lv_at hl 0 rfl) ?_
  refine lv_iconst (v := 1) hx hb dL_law_1248 (by decide) ?_
  refine lv_iadd hx hb dL_law_1249 ?_
  refine lv_topi (fun w1 e_w1 => ?_)
  have i_w1 : w1.toInt = (K.toInt + 1) := z_add e_w1 rfl (show (1 : Int32).toInt = 1 by decide) (by omega)
  refine va_sld hx hb hX hbl hbA hw.2.2 (z_ix i_w1 (by omega)) dL_law_1250 ?_
  refine z_lit (y := x1) (by rw [ex1, z_ixK (K := K) (k := 1) i_w1 (by omega)]) ?_
  refine lv_aload_n hx hb dL_law_1251 rfl (lv_at hl 3 rfl) ?_
  refine lv_iload_n hx hb dL_law_1252 rfl (lv_at hl 0 rfl) ?_
  refine lv_iconst (v := 2) hx hb dL_law_1253 (by decide) ?_
  refine lv_iadd hx hb dL_law_1254 ?_
  refine lv_topi (fun w2 e_w2 => ?_)
  have i_w2 : w2.toInt = (K.toInt + 2) := z_add e_w2 rfl (show (2 : Int32).toInt = 2 by decide) (by omega)
  refine va_sld hx hb hX hbl hbA hw.2.2 (z_ix i_w2 (by omega)) dL_law_1255 ?_
  refine z_lit (y := x2) (by rw [ex2, z_ixK (K := K) (k := 2) i_w2 (by omega)]) ?_
  obtain ⟨fs_, hfo⟩ := z_SX_xo hSX
  refine z_calliV (cells := 164) (slots := 16321) (b := ad 0) (As := [.int x1, .int x2]) (rest := []) (ci := 9) (q0 := (RX9, TX9, 11)) ⟨hx, hb, hml, hown, hT⟩ (s_X9_mixed l hSX) (cwV 2 hT (z_goodV (fun _ h => h) kw_1063 kw_1064 kw_1065 kw_85 kw_1066) rfl rfl rfl (by decide +kernel) ⟨by decide, by decide⟩) z_mv hKK hK hw hA (z_SX_mem hSX (by decide)) hfo rfl rfl rfl hl.1 rfl (Nat.le_of_ble_eq_true rfl) dL_law_1256 ⟨by decide, by decide⟩ (fun r4 u H locs hp hw => ?_)
  obtain ⟨L2, F3⟩ := u
  obtain ⟨hL2, hfr, hS2⟩ := hp
  have hL2 : L = L2 := hL2
  subst hL2
  have hw : z_H D vwCl (fun q : Nat => s.heap.size ≤ q) s.heap L F3 H locs := hw
  have hSM := z_SM_fr (f2 := F3) hSM (fun i hi => hfr _ (z_SM_mem hSM hi) (fun j hj => (hdis j i hj hi).symm))
  have hSX := hS2
  have hSX : z_SX L F3 cy ad gkp gw gz := hSX
  refine lv_pop hx hb dL_law_1259 rfl ?_
  refine lv_aload_n hx hb dL_law_1260 rfl (lv_at hl 1 rfl) ?_
  refine lv_aload_n hx hb dL_law_1261 rfl (lv_at hl 3 rfl) ?_
  refine lv_iload_n hx hb dL_law_1262 rfl (lv_at hl 0 rfl) ?_
  refine lv_iconst (v := 1) hx hb dL_law_1263 (by decide) ?_
  refine lv_iadd hx hb dL_law_1264 ?_
  refine lv_topi (fun w5 e_w5 => ?_)
  have i_w5 : w5.toInt = (K.toInt + 1) := z_add e_w5 rfl (show (1 : Int32).toInt = 1 by decide) (by omega)
  refine va_sld hx hb hX hbl hbA hw.2.2 (z_ix i_w5 (by omega)) dL_law_1265 ?_
  refine z_lit (y := x1) (by rw [ex1, z_ixK (K := K) (k := 1) i_w5 (by omega)]) ?_
  refine lv_aload_n hx hb dL_law_1266 rfl (lv_at hl 3 rfl) ?_
  refine lv_iload_n hx hb dL_law_1267 rfl (lv_at hl 0 rfl) ?_
  refine lv_iconst (v := 2) hx hb dL_law_1268 (by decide) ?_
  refine lv_iadd hx hb dL_law_1269 ?_
  refine lv_topi (fun w6 e_w6 => ?_)
  have i_w6 : w6.toInt = (K.toInt + 2) := z_add e_w6 rfl (show (2 : Int32).toInt = 2 by decide) (by omega)
  refine va_sld hx hb hX hbl hbA hw.2.2 (z_ix i_w6 (by omega)) dL_law_1270 ?_
  refine z_lit (y := x2) (by rw [ex2, z_ixK (K := K) (k := 2) i_w6 (by omega)]) ?_
  obtain ⟨fs_, hfo⟩ := z_SM_xo hSM
  refine z_calliV (cells := 164) (slots := 16321) (b := bd 0) (As := [.int x1, .int x2]) (rest := []) (ci := 10) (q0 := (RX10, TX10, 54)) ⟨hx, hb, hml, hown, hT⟩ (s_X10_mixed l hSM) (cwV 2 hT (z_goodV (fun _ h => h) kw_1735 kw_1736 kw_1737 kw_96 kw_1738) rfl rfl rfl (by decide +kernel) ⟨by decide, by decide⟩) z_mv hKK hK hw hA (z_SM_mem hSM (by decide)) hfo rfl rfl rfl hl.1 rfl (Nat.le_of_ble_eq_true rfl) dL_law_1271 ⟨by decide, by decide⟩ (fun r8 u H locs hp hw => ?_)
  obtain ⟨L2, F7⟩ := u
  obtain ⟨hL2, hfr, hS2⟩ := hp
  have hL2 : L = L2 := hL2
  subst hL2
  have hw : z_H D vwCl (fun q : Nat => s.heap.size ≤ q) s.heap L F7 H locs := hw
  have hSX := z_SX_frL (f2 := F7) hSX (fun _ h => h) (fun i hi => hfr _ (z_SX_mem hSX hi) (fun j hj => hdis i j hi hj))
  have hSM := hS2
  have hSM : z_SM L F7 cy bd gik gwd gmy := hSM
  have hrel0 := hrel
  refine lv_pop hx hb dL_law_1274 rfl ?_
  refine lv_goto (tgt := 1615) hx hb dL_law_1275 (by decide) ?_
  exact kk _ _ _ _ _ _ _ _ _ hSX hSM hrel hw

set_option maxHeartbeats 4000000 in
set_option maxRecDepth 100000 in
theorem lc_luck {p : Program} {e : Env} {s : State} {m : MethodId} {below : List Frame} {meth : Method} {c : Code} (l : Launch) {b Ln : Nat} {xs : Nat → Int32} {D : va_G} {cy : Nat → ClassId} {adK adV : Nat → Nat} {L : List Nat} {F : Nat → va_E} {H : Heap} {locs : List Loc} {ls : Array Slot} {ad bd : Nat → Nat} {gkp gw gz gik gwd gmy : Nat → Int32} {K : Int32} {xo me : Nat} (C0 : lw_At p s m meth c b Ln xs) (hKK : z_KK D cy adK adV (fun q : Nat => s.heap.size ≤ q) s) (hxo : ad 0 = xo) (hme : bd 0 = me) (hSX : z_SX L F cy ad gkp gw gz) (hSM : z_SM L F cy bd gik gwd gmy) (hdis : ∀ i j : Nat, i < 135 → j < 29 → ad i ≠ bd j) (hrel : z_rel gkp gw gz gik gwd gmy) (hw : z_H D vwCl (fun q : Nat => s.heap.size ≤ q) s.heap L F H locs) (hl : lv_has ls 4 [(3, .int K), (2, .ref me), (1, .ref xo), (0, .ref b)]) (hKr : 0 ≤ K.toInt ∧ K.toInt + 6 ≤ Ln) (hLn : Ln ≤ 3072) (kk : ∀ (F2 : Nat → va_E) (H2 : Heap) (locs2 : List Loc) (a1 a2 a3 a4 a5 a6 : Nat → Int32), z_SX L F2 cy ad a1 a2 a3 → z_SM L F2 cy bd a4 a5 a6 → z_rel a1 a2 a3 a4 a5 a6 → z_H D vwCl (fun q : Nat => s.heap.size ≤ q) s.heap L F2 H2 locs2 → W p l e room_1 s m #[Value.ref b] below meth c H2 locs2 164 16321 (lw_Z below #[Value.ref b] s) (F0 m 1615 ls [])) : W p l e room_1 s m #[Value.ref b] below meth c H locs 164 16321 (lw_Z below #[Value.ref b] s) (F0 m 1278 ls []) := by
  subst hxo
  subst hme
  obtain ⟨hx, hb, hr, hml, hown, hts, hX, hbl, hlocks, hgv⟩ := C0
  have hA : ∀ q : Nat, s.heap.size ≤ q → (fun q : Nat => s.heap.size ≤ q) q := fun _ h => h
  have hbA : ¬ (fun q : Nat => s.heap.size ≤ q) b := Nat.not_le.mpr hbl
  have hT : ∀ w ∈ lw_all, w.before #[Value.ref b] s = true := fun w h => hts w (z_all_in w h)
  have hown : s.vm.findClass RL = some m.cls := hown
  have hK := hKK.1.1
  obtain ⟨x1, ex1⟩ : ∃ z, z = xs (K.toNatClampNeg + 1) := ⟨_, rfl⟩
  obtain ⟨x2, ex2⟩ : ∃ z, z = xs (K.toNatClampNeg + 2) := ⟨_, rfl⟩
  obtain ⟨x3, ex3⟩ : ∃ z, z = xs (K.toNatClampNeg + 3) := ⟨_, rfl⟩
  obtain ⟨x4, ex4⟩ : ∃ z, z = xs (K.toNatClampNeg + 4) := ⟨_, rfl⟩
  obtain ⟨x5, ex5⟩ : ∃ z, z = xs (K.toNatClampNeg + 5) := ⟨_, rfl⟩
  refine lv_aload_n hx hb dL_law_1278 rfl (lv_at hl 2 rfl) ?_
  refine lv_aload_n hx hb dL_law_1279 rfl (lv_at hl 3 rfl) ?_
  refine lv_iload_n hx hb dL_law_1280 rfl (lv_at hl 0 rfl) ?_
  refine lv_iconst (v := 1) hx hb dL_law_1281 (by decide) ?_
  refine lv_iadd hx hb dL_law_1282 ?_
  refine lv_topi (fun w1 e_w1 => ?_)
  have i_w1 : w1.toInt = (K.toInt + 1) := z_add e_w1 rfl (show (1 : Int32).toInt = 1 by decide) (by omega)
  refine va_sld hx hb hX hbl hbA hw.2.2 (z_ix i_w1 (by omega)) dL_law_1283 ?_
  refine z_lit (y := x1) (by rw [ex1, z_ixK (K := K) (k := 1) i_w1 (by omega)]) ?_
  refine lv_aload_n hx hb dL_law_1284 rfl (lv_at hl 3 rfl) ?_
  refine lv_iload_n hx hb dL_law_1285 rfl (lv_at hl 0 rfl) ?_
  refine lv_iconst (v := 2) hx hb dL_law_1286 (by decide) ?_
  refine lv_iadd hx hb dL_law_1287 ?_
  refine lv_topi (fun w2 e_w2 => ?_)
  have i_w2 : w2.toInt = (K.toInt + 2) := z_add e_w2 rfl (show (2 : Int32).toInt = 2 by decide) (by omega)
  refine va_sld hx hb hX hbl hbA hw.2.2 (z_ix i_w2 (by omega)) dL_law_1288 ?_
  refine z_lit (y := x2) (by rw [ex2, z_ixK (K := K) (k := 2) i_w2 (by omega)]) ?_
  refine lv_aload_n hx hb dL_law_1289 rfl (lv_at hl 3 rfl) ?_
  refine lv_iload_n hx hb dL_law_1290 rfl (lv_at hl 0 rfl) ?_
  refine lv_iconst (v := 3) hx hb dL_law_1291 (by decide) ?_
  refine lv_iadd hx hb dL_law_1292 ?_
  refine lv_topi (fun w3 e_w3 => ?_)
  have i_w3 : w3.toInt = (K.toInt + 3) := z_add e_w3 rfl (show (3 : Int32).toInt = 3 by decide) (by omega)
  refine va_sld hx hb hX hbl hbA hw.2.2 (z_ix i_w3 (by omega)) dL_law_1293 ?_
  refine z_lit (y := x3) (by rw [ex3, z_ixK (K := K) (k := 3) i_w3 (by omega)]) ?_
  obtain ⟨fs_, hfo⟩ := z_SX_xo hSX
  refine z_calliV (cells := 164) (slots := 16321) (b := ad 0) (As := [.int x1, .int x2, .int x3]) (rest := []) (ci := 9) (q0 := (RX9, TX9, 11)) ⟨hx, hb, hml, hown, hT⟩ (s_X9_luck l hSX) (cwV 3 hT (z_goodV (fun _ h => h) kw_1106 kw_1107 kw_1108 kw_85 kw_1109) rfl rfl rfl (by decide +kernel) ⟨by decide, by decide⟩) z_mv hKK hK hw hA (z_SX_mem hSX (by decide)) hfo rfl rfl rfl hl.1 rfl (Nat.le_of_ble_eq_true rfl) dL_law_1294 ⟨by decide, by decide⟩ (fun r5 u H locs hp hw => ?_)
  obtain ⟨L2, F4⟩ := u
  obtain ⟨hL2, hfr, hS2⟩ := hp
  have hL2 : L = L2 := hL2
  subst hL2
  have hw : z_H D vwCl (fun q : Nat => s.heap.size ≤ q) s.heap L F4 H locs := hw
  have hSM := z_SM_fr (f2 := F4) hSM (fun i hi => hfr _ (z_SM_mem hSM hi) (fun j hj => (hdis j i hj hi).symm))
  have hSX := hS2
  have hSX : z_SX L F4 cy ad gkp gw gz := hSX
  refine lv_pop hx hb dL_law_1297 rfl ?_
  refine lv_aload_n hx hb dL_law_1298 rfl (lv_at hl 1 rfl) ?_
  refine lv_aload_n hx hb dL_law_1299 rfl (lv_at hl 3 rfl) ?_
  refine lv_iload_n hx hb dL_law_1300 rfl (lv_at hl 0 rfl) ?_
  refine lv_iconst (v := 1) hx hb dL_law_1301 (by decide) ?_
  refine lv_iadd hx hb dL_law_1302 ?_
  refine lv_topi (fun w6 e_w6 => ?_)
  have i_w6 : w6.toInt = (K.toInt + 1) := z_add e_w6 rfl (show (1 : Int32).toInt = 1 by decide) (by omega)
  refine va_sld hx hb hX hbl hbA hw.2.2 (z_ix i_w6 (by omega)) dL_law_1303 ?_
  refine z_lit (y := x1) (by rw [ex1, z_ixK (K := K) (k := 1) i_w6 (by omega)]) ?_
  refine lv_aload_n hx hb dL_law_1304 rfl (lv_at hl 3 rfl) ?_
  refine lv_iload_n hx hb dL_law_1305 rfl (lv_at hl 0 rfl) ?_
  refine lv_iconst (v := 2) hx hb dL_law_1306 (by decide) ?_
  refine lv_iadd hx hb dL_law_1307 ?_
  refine lv_topi (fun w7 e_w7 => ?_)
  have i_w7 : w7.toInt = (K.toInt + 2) := z_add e_w7 rfl (show (2 : Int32).toInt = 2 by decide) (by omega)
  refine va_sld hx hb hX hbl hbA hw.2.2 (z_ix i_w7 (by omega)) dL_law_1308 ?_
  refine z_lit (y := x2) (by rw [ex2, z_ixK (K := K) (k := 2) i_w7 (by omega)]) ?_
  refine lv_aload_n hx hb dL_law_1309 rfl (lv_at hl 3 rfl) ?_
  refine lv_iload_n hx hb dL_law_1310 rfl (lv_at hl 0 rfl) ?_
  refine lv_iconst (v := 3) hx hb dL_law_1311 (by decide) ?_
  refine lv_iadd hx hb dL_law_1312 ?_
  refine lv_topi (fun w8 e_w8 => ?_)
  have i_w8 : w8.toInt = (K.toInt + 3) := z_add e_w8 rfl (show (3 : Int32).toInt = 3 by decide) (by omega)
  refine va_sld hx hb hX hbl hbA hw.2.2 (z_ix i_w8 (by omega)) dL_law_1313 ?_
  refine z_lit (y := x3) (by rw [ex3, z_ixK (K := K) (k := 3) i_w8 (by omega)]) ?_
  obtain ⟨fs_, hfo⟩ := z_SM_xo hSM
  refine z_calliV (cells := 164) (slots := 16321) (b := bd 0) (As := [.int x1, .int x2, .int x3]) (rest := []) (ci := 10) (q0 := (RX10, TX10, 54)) ⟨hx, hb, hml, hown, hT⟩ (s_X10_luck l hSM) (cwV 3 hT (z_goodV (fun _ h => h) kw_1747 kw_1748 kw_1749 kw_96 kw_1750) rfl rfl rfl (by decide +kernel) ⟨by decide, by decide⟩) z_mv hKK hK hw hA (z_SM_mem hSM (by decide)) hfo rfl rfl rfl hl.1 rfl (Nat.le_of_ble_eq_true rfl) dL_law_1314 ⟨by decide, by decide⟩ (fun r10 u H locs hp hw => ?_)
  obtain ⟨L2, F9⟩ := u
  obtain ⟨hL2, hfr, hS2⟩ := hp
  have hL2 : L = L2 := hL2
  subst hL2
  have hw : z_H D vwCl (fun q : Nat => s.heap.size ≤ q) s.heap L F9 H locs := hw
  have hSX := z_SX_frL (f2 := F9) hSX (fun _ h => h) (fun i hi => hfr _ (z_SX_mem hSX hi) (fun j hj => hdis i j hi hj))
  have hSM := hS2
  have hSM : z_SM L F9 cy bd gik gwd gmy := hSM
  have hrel0 := hrel
  refine lv_pop hx hb dL_law_1317 rfl ?_
  refine lv_goto (tgt := 1615) hx hb dL_law_1318 (by decide) ?_
  exact kk _ _ _ _ _ _ _ _ _ hSX hSM hrel hw

set_option maxHeartbeats 4000000 in
set_option maxRecDepth 100000 in
theorem lc_free {p : Program} {e : Env} {s : State} {m : MethodId} {below : List Frame} {meth : Method} {c : Code} (l : Launch) {b Ln : Nat} {xs : Nat → Int32} {D : va_G} {cy : Nat → ClassId} {adK adV : Nat → Nat} {L : List Nat} {F : Nat → va_E} {H : Heap} {locs : List Loc} {ls : Array Slot} {ad bd : Nat → Nat} {gkp gw gz gik gwd gmy : Nat → Int32} {K : Int32} {xo me : Nat} (C0 : lw_At p s m meth c b Ln xs) (hKK : z_KK D cy adK adV (fun q : Nat => s.heap.size ≤ q) s) (hxo : ad 0 = xo) (hme : bd 0 = me) (hSX : z_SX L F cy ad gkp gw gz) (hSM : z_SM L F cy bd gik gwd gmy) (hdis : ∀ i j : Nat, i < 135 → j < 29 → ad i ≠ bd j) (hrel : z_rel gkp gw gz gik gwd gmy) (hw : z_H D vwCl (fun q : Nat => s.heap.size ≤ q) s.heap L F H locs) (hl : lv_has ls 4 [(3, .int K), (2, .ref me), (1, .ref xo), (0, .ref b)]) (hKr : 0 ≤ K.toInt ∧ K.toInt + 6 ≤ Ln) (hLn : Ln ≤ 3072) (kk : ∀ (F2 : Nat → va_E) (H2 : Heap) (locs2 : List Loc) (a1 a2 a3 a4 a5 a6 : Nat → Int32), z_SX L F2 cy ad a1 a2 a3 → z_SM L F2 cy bd a4 a5 a6 → z_rel a1 a2 a3 a4 a5 a6 → z_H D vwCl (fun q : Nat => s.heap.size ≤ q) s.heap L F2 H2 locs2 → W p l e room_1 s m #[Value.ref b] below meth c H2 locs2 164 16321 (lw_Z below #[Value.ref b] s) (F0 m 1615 ls [])) : W p l e room_1 s m #[Value.ref b] below meth c H locs 164 16321 (lw_Z below #[Value.ref b] s) (F0 m 1321 ls []) := by
  subst hxo
  subst hme
  obtain ⟨hx, hb, hr, hml, hown, hts, hX, hbl, hlocks, hgv⟩ := C0
  have hA : ∀ q : Nat, s.heap.size ≤ q → (fun q : Nat => s.heap.size ≤ q) q := fun _ h => h
  have hbA : ¬ (fun q : Nat => s.heap.size ≤ q) b := Nat.not_le.mpr hbl
  have hT : ∀ w ∈ lw_all, w.before #[Value.ref b] s = true := fun w h => hts w (z_all_in w h)
  have hown : s.vm.findClass RL = some m.cls := hown
  have hK := hKK.1.1
  obtain ⟨x1, ex1⟩ : ∃ z, z = xs (K.toNatClampNeg + 1) := ⟨_, rfl⟩
  obtain ⟨x2, ex2⟩ : ∃ z, z = xs (K.toNatClampNeg + 2) := ⟨_, rfl⟩
  obtain ⟨x3, ex3⟩ : ∃ z, z = xs (K.toNatClampNeg + 3) := ⟨_, rfl⟩
  obtain ⟨x4, ex4⟩ : ∃ z, z = xs (K.toNatClampNeg + 4) := ⟨_, rfl⟩
  obtain ⟨x5, ex5⟩ : ∃ z, z = xs (K.toNatClampNeg + 5) := ⟨_, rfl⟩
  refine lv_aload_n hx hb dL_law_1321 rfl (lv_at hl 2 rfl) ?_
  refine lv_aload_n hx hb dL_law_1322 rfl (lv_at hl 3 rfl) ?_
  refine lv_iload_n hx hb dL_law_1323 rfl (lv_at hl 0 rfl) ?_
  refine lv_iconst (v := 1) hx hb dL_law_1324 (by decide) ?_
  refine lv_iadd hx hb dL_law_1325 ?_
  refine lv_topi (fun w1 e_w1 => ?_)
  have i_w1 : w1.toInt = (K.toInt + 1) := z_add e_w1 rfl (show (1 : Int32).toInt = 1 by decide) (by omega)
  refine va_sld hx hb hX hbl hbA hw.2.2 (z_ix i_w1 (by omega)) dL_law_1326 ?_
  refine z_lit (y := x1) (by rw [ex1, z_ixK (K := K) (k := 1) i_w1 (by omega)]) ?_
  obtain ⟨fs_, hfo⟩ := z_SX_xo hSX
  refine z_calliV (cells := 164) (slots := 16321) (b := ad 0) (As := [.int x1]) (rest := []) (ci := 9) (q0 := (RX9, TX9, 11)) ⟨hx, hb, hml, hown, hT⟩ (s_X9_free l hSX) (cwV 1 hT (z_goodV (fun _ h => h) kw_1110 kw_1111 kw_1112 kw_85 kw_1113) rfl rfl rfl (by decide +kernel) ⟨by decide, by decide⟩) z_mv hKK hK hw hA (z_SX_mem hSX (by decide)) hfo rfl rfl rfl hl.1 rfl (Nat.le_of_ble_eq_true rfl) dL_law_1327 ⟨by decide, by decide⟩ (fun r3 u H locs hp hw => ?_)
  obtain ⟨L2, F2⟩ := u
  obtain ⟨hL2, hfr, hS2⟩ := hp
  have hL2 : L = L2 := hL2
  subst hL2
  have hw : z_H D vwCl (fun q : Nat => s.heap.size ≤ q) s.heap L F2 H locs := hw
  have hSM := z_SM_fr (f2 := F2) hSM (fun i hi => hfr _ (z_SM_mem hSM hi) (fun j hj => (hdis j i hj hi).symm))
  have hSX := hS2
  have hSX : z_SX L F2 cy ad gkp gw gz := hSX
  refine lv_pop hx hb dL_law_1330 rfl ?_
  refine lv_aload_n hx hb dL_law_1331 rfl (lv_at hl 1 rfl) ?_
  refine lv_aload_n hx hb dL_law_1332 rfl (lv_at hl 3 rfl) ?_
  refine lv_iload_n hx hb dL_law_1333 rfl (lv_at hl 0 rfl) ?_
  refine lv_iconst (v := 1) hx hb dL_law_1334 (by decide) ?_
  refine lv_iadd hx hb dL_law_1335 ?_
  refine lv_topi (fun w4 e_w4 => ?_)
  have i_w4 : w4.toInt = (K.toInt + 1) := z_add e_w4 rfl (show (1 : Int32).toInt = 1 by decide) (by omega)
  refine va_sld hx hb hX hbl hbA hw.2.2 (z_ix i_w4 (by omega)) dL_law_1336 ?_
  refine z_lit (y := x1) (by rw [ex1, z_ixK (K := K) (k := 1) i_w4 (by omega)]) ?_
  obtain ⟨fs_, hfo⟩ := z_SM_xo hSM
  refine z_calliV (cells := 164) (slots := 16321) (b := bd 0) (As := [.int x1]) (rest := []) (ci := 10) (q0 := (RX10, TX10, 54)) ⟨hx, hb, hml, hown, hT⟩ (s_X10_free l hSM) (cwV 1 hT (z_goodV (fun _ h => h) kw_1752 kw_1753 kw_1754 kw_96 kw_1755) rfl rfl rfl (by decide +kernel) ⟨by decide, by decide⟩) z_mv hKK hK hw hA (z_SM_mem hSM (by decide)) hfo rfl rfl rfl hl.1 rfl (Nat.le_of_ble_eq_true rfl) dL_law_1337 ⟨by decide, by decide⟩ (fun r6 u H locs hp hw => ?_)
  obtain ⟨L2, F5⟩ := u
  obtain ⟨hL2, hfr, hS2⟩ := hp
  have hL2 : L = L2 := hL2
  subst hL2
  have hw : z_H D vwCl (fun q : Nat => s.heap.size ≤ q) s.heap L F5 H locs := hw
  have hSX := z_SX_frL (f2 := F5) hSX (fun _ h => h) (fun i hi => hfr _ (z_SX_mem hSX hi) (fun j hj => hdis i j hi hj))
  have hSM := hS2
  have hSM : z_SM L F5 cy bd gik gwd gmy := hSM
  have hrel0 := hrel
  refine lv_pop hx hb dL_law_1340 rfl ?_
  refine lv_goto (tgt := 1615) hx hb dL_law_1341 (by decide) ?_
  exact kk _ _ _ _ _ _ _ _ _ hSX hSM hrel hw

set_option maxHeartbeats 4000000 in
set_option maxRecDepth 100000 in
theorem lc_all {p : Program} {e : Env} {s : State} {m : MethodId} {below : List Frame} {meth : Method} {c : Code} (l : Launch) {b Ln : Nat} {xs : Nat → Int32} {D : va_G} {cy : Nat → ClassId} {adK adV : Nat → Nat} {L : List Nat} {F : Nat → va_E} {H : Heap} {locs : List Loc} {ls : Array Slot} {ad bd : Nat → Nat} {gkp gw gz gik gwd gmy : Nat → Int32} {K : Int32} {xo me : Nat} (C0 : lw_At p s m meth c b Ln xs) (hKK : z_KK D cy adK adV (fun q : Nat => s.heap.size ≤ q) s) (hxo : ad 0 = xo) (hme : bd 0 = me) (hSX : z_SX L F cy ad gkp gw gz) (hSM : z_SM L F cy bd gik gwd gmy) (hdis : ∀ i j : Nat, i < 135 → j < 29 → ad i ≠ bd j) (hrel : z_rel gkp gw gz gik gwd gmy) (hw : z_H D vwCl (fun q : Nat => s.heap.size ≤ q) s.heap L F H locs) (hl : lv_has ls 4 [(3, .int K), (2, .ref me), (1, .ref xo), (0, .ref b)]) (hKr : 0 ≤ K.toInt ∧ K.toInt + 6 ≤ Ln) (hLn : Ln ≤ 3072) (kk : ∀ (F2 : Nat → va_E) (H2 : Heap) (locs2 : List Loc) (a1 a2 a3 a4 a5 a6 : Nat → Int32), z_SX L F2 cy ad a1 a2 a3 → z_SM L F2 cy bd a4 a5 a6 → z_rel a1 a2 a3 a4 a5 a6 → z_H D vwCl (fun q : Nat => s.heap.size ≤ q) s.heap L F2 H2 locs2 → W p l e room_1 s m #[Value.ref b] below meth c H2 locs2 164 16321 (lw_Z below #[Value.ref b] s) (F0 m 1615 ls [])) : W p l e room_1 s m #[Value.ref b] below meth c H locs 164 16321 (lw_Z below #[Value.ref b] s) (F0 m 1344 ls []) := by
  subst hxo
  subst hme
  obtain ⟨hx, hb, hr, hml, hown, hts, hX, hbl, hlocks, hgv⟩ := C0
  have hA : ∀ q : Nat, s.heap.size ≤ q → (fun q : Nat => s.heap.size ≤ q) q := fun _ h => h
  have hbA : ¬ (fun q : Nat => s.heap.size ≤ q) b := Nat.not_le.mpr hbl
  have hT : ∀ w ∈ lw_all, w.before #[Value.ref b] s = true := fun w h => hts w (z_all_in w h)
  have hown : s.vm.findClass RL = some m.cls := hown
  have hK := hKK.1.1
  obtain ⟨x1, ex1⟩ : ∃ z, z = xs (K.toNatClampNeg + 1) := ⟨_, rfl⟩
  obtain ⟨x2, ex2⟩ : ∃ z, z = xs (K.toNatClampNeg + 2) := ⟨_, rfl⟩
  obtain ⟨x3, ex3⟩ : ∃ z, z = xs (K.toNatClampNeg + 3) := ⟨_, rfl⟩
  obtain ⟨x4, ex4⟩ : ∃ z, z = xs (K.toNatClampNeg + 4) := ⟨_, rfl⟩
  obtain ⟨x5, ex5⟩ : ∃ z, z = xs (K.toNatClampNeg + 5) := ⟨_, rfl⟩
  refine lv_aload_n hx hb dL_law_1344 rfl (lv_at hl 2 rfl) ?_
  refine lv_aload_n hx hb dL_law_1345 rfl (lv_at hl 3 rfl) ?_
  refine lv_iload_n hx hb dL_law_1346 rfl (lv_at hl 0 rfl) ?_
  refine lv_iconst (v := 1) hx hb dL_law_1347 (by decide) ?_
  refine lv_iadd hx hb dL_law_1348 ?_
  refine lv_topi (fun w1 e_w1 => ?_)
  have i_w1 : w1.toInt = (K.toInt + 1) := z_add e_w1 rfl (show (1 : Int32).toInt = 1 by decide) (by omega)
  refine va_sld hx hb hX hbl hbA hw.2.2 (z_ix i_w1 (by omega)) dL_law_1349 ?_
  refine z_lit (y := x1) (by rw [ex1, z_ixK (K := K) (k := 1) i_w1 (by omega)]) ?_
  obtain ⟨fs_, hfo⟩ := z_SX_xo hSX
  refine z_calliV (cells := 164) (slots := 16321) (b := ad 0) (As := [.int x1]) (rest := []) (ci := 9) (q0 := (RX9, TX9, 11)) ⟨hx, hb, hml, hown, hT⟩ (s_X9_all l hSX) (cwV 1 hT (z_goodV (fun _ h => h) kw_1114 kw_1115 kw_1116 kw_85 kw_1117) rfl rfl rfl (by decide +kernel) ⟨by decide, by decide⟩) z_mv hKK hK hw hA (z_SX_mem hSX (by decide)) hfo rfl rfl rfl hl.1 rfl (Nat.le_of_ble_eq_true rfl) dL_law_1350 ⟨by decide, by decide⟩ (fun r3 u H locs hp hw => ?_)
  obtain ⟨L2, F2⟩ := u
  obtain ⟨hL2, hfr, hS2⟩ := hp
  have hL2 : L = L2 := hL2
  subst hL2
  have hw : z_H D vwCl (fun q : Nat => s.heap.size ≤ q) s.heap L F2 H locs := hw
  have hSM := z_SM_fr (f2 := F2) hSM (fun i hi => hfr _ (z_SM_mem hSM hi) (fun j hj => (hdis j i hj hi).symm))
  have hSX := hS2
  have hSX : z_SX L F2 cy ad gkp gw gz := hSX
  refine lv_pop hx hb dL_law_1353 rfl ?_
  refine lv_aload_n hx hb dL_law_1354 rfl (lv_at hl 1 rfl) ?_
  refine lv_aload_n hx hb dL_law_1355 rfl (lv_at hl 3 rfl) ?_
  refine lv_iload_n hx hb dL_law_1356 rfl (lv_at hl 0 rfl) ?_
  refine lv_iconst (v := 1) hx hb dL_law_1357 (by decide) ?_
  refine lv_iadd hx hb dL_law_1358 ?_
  refine lv_topi (fun w4 e_w4 => ?_)
  have i_w4 : w4.toInt = (K.toInt + 1) := z_add e_w4 rfl (show (1 : Int32).toInt = 1 by decide) (by omega)
  refine va_sld hx hb hX hbl hbA hw.2.2 (z_ix i_w4 (by omega)) dL_law_1359 ?_
  refine z_lit (y := x1) (by rw [ex1, z_ixK (K := K) (k := 1) i_w4 (by omega)]) ?_
  obtain ⟨fs_, hfo⟩ := z_SM_xo hSM
  refine z_calliV (cells := 164) (slots := 16321) (b := bd 0) (As := [.int x1]) (rest := []) (ci := 10) (q0 := (RX10, TX10, 54)) ⟨hx, hb, hml, hown, hT⟩ (s_X10_all l hSM) (cwV 1 hT (z_goodV (fun _ h => h) kw_1756 kw_1757 kw_1758 kw_96 kw_1759) rfl rfl rfl (by decide +kernel) ⟨by decide, by decide⟩) z_mv hKK hK hw hA (z_SM_mem hSM (by decide)) hfo rfl rfl rfl hl.1 rfl (Nat.le_of_ble_eq_true rfl) dL_law_1360 ⟨by decide, by decide⟩ (fun r6 u H locs hp hw => ?_)
  obtain ⟨L2, F5⟩ := u
  obtain ⟨hL2, hfr, hS2⟩ := hp
  have hL2 : L = L2 := hL2
  subst hL2
  have hw : z_H D vwCl (fun q : Nat => s.heap.size ≤ q) s.heap L F5 H locs := hw
  have hSX := z_SX_frL (f2 := F5) hSX (fun _ h => h) (fun i hi => hfr _ (z_SX_mem hSX hi) (fun j hj => hdis i j hi hj))
  have hSM := hS2
  have hSM : z_SM L F5 cy bd gik gwd gmy := hSM
  have hrel0 := hrel
  refine lv_pop hx hb dL_law_1363 rfl ?_
  refine lv_goto (tgt := 1615) hx hb dL_law_1364 (by decide) ?_
  exact kk _ _ _ _ _ _ _ _ _ hSX hSM hrel hw

set_option maxHeartbeats 4000000 in
set_option maxRecDepth 100000 in
theorem lc_count {p : Program} {e : Env} {s : State} {m : MethodId} {below : List Frame} {meth : Method} {c : Code} (l : Launch) {b Ln : Nat} {xs : Nat → Int32} {D : va_G} {cy : Nat → ClassId} {adK adV : Nat → Nat} {L : List Nat} {F : Nat → va_E} {H : Heap} {locs : List Loc} {ls : Array Slot} {ad bd : Nat → Nat} {gkp gw gz gik gwd gmy : Nat → Int32} {K : Int32} {xo me : Nat} (C0 : lw_At p s m meth c b Ln xs) (hKK : z_KK D cy adK adV (fun q : Nat => s.heap.size ≤ q) s) (hxo : ad 0 = xo) (hme : bd 0 = me) (hSX : z_SX L F cy ad gkp gw gz) (hSM : z_SM L F cy bd gik gwd gmy) (hdis : ∀ i j : Nat, i < 135 → j < 29 → ad i ≠ bd j) (hrel : z_rel gkp gw gz gik gwd gmy) (hw : z_H D vwCl (fun q : Nat => s.heap.size ≤ q) s.heap L F H locs) (hl : lv_has ls 4 [(3, .int K), (2, .ref me), (1, .ref xo), (0, .ref b)]) (hKr : 0 ≤ K.toInt ∧ K.toInt + 6 ≤ Ln) (hLn : Ln ≤ 3072) (kk : ∀ (F2 : Nat → va_E) (H2 : Heap) (locs2 : List Loc) (a1 a2 a3 a4 a5 a6 : Nat → Int32), z_SX L F2 cy ad a1 a2 a3 → z_SM L F2 cy bd a4 a5 a6 → z_rel a1 a2 a3 a4 a5 a6 → z_H D vwCl (fun q : Nat => s.heap.size ≤ q) s.heap L F2 H2 locs2 → W p l e room_1 s m #[Value.ref b] below meth c H2 locs2 164 16321 (lw_Z below #[Value.ref b] s) (F0 m 1615 ls [])) : W p l e room_1 s m #[Value.ref b] below meth c H locs 164 16321 (lw_Z below #[Value.ref b] s) (F0 m 1367 ls []) := by
  subst hxo
  subst hme
  obtain ⟨hx, hb, hr, hml, hown, hts, hX, hbl, hlocks, hgv⟩ := C0
  have hA : ∀ q : Nat, s.heap.size ≤ q → (fun q : Nat => s.heap.size ≤ q) q := fun _ h => h
  have hbA : ¬ (fun q : Nat => s.heap.size ≤ q) b := Nat.not_le.mpr hbl
  have hT : ∀ w ∈ lw_all, w.before #[Value.ref b] s = true := fun w h => hts w (z_all_in w h)
  have hown : s.vm.findClass RL = some m.cls := hown
  have hK := hKK.1.1
  obtain ⟨x1, ex1⟩ : ∃ z, z = xs (K.toNatClampNeg + 1) := ⟨_, rfl⟩
  obtain ⟨x2, ex2⟩ : ∃ z, z = xs (K.toNatClampNeg + 2) := ⟨_, rfl⟩
  obtain ⟨x3, ex3⟩ : ∃ z, z = xs (K.toNatClampNeg + 3) := ⟨_, rfl⟩
  obtain ⟨x4, ex4⟩ : ∃ z, z = xs (K.toNatClampNeg + 4) := ⟨_, rfl⟩
  obtain ⟨x5, ex5⟩ : ∃ z, z = xs (K.toNatClampNeg + 5) := ⟨_, rfl⟩
  refine lv_aload_n hx hb dL_law_1367 rfl (lv_at hl 2 rfl) ?_
  refine lv_aload_n hx hb dL_law_1368 rfl (lv_at hl 3 rfl) ?_
  refine lv_iload_n hx hb dL_law_1369 rfl (lv_at hl 0 rfl) ?_
  refine lv_iconst (v := 1) hx hb dL_law_1370 (by decide) ?_
  refine lv_iadd hx hb dL_law_1371 ?_
  refine lv_topi (fun w1 e_w1 => ?_)
  have i_w1 : w1.toInt = (K.toInt + 1) := z_add e_w1 rfl (show (1 : Int32).toInt = 1 by decide) (by omega)
  refine va_sld hx hb hX hbl hbA hw.2.2 (z_ix i_w1 (by omega)) dL_law_1372 ?_
  refine z_lit (y := x1) (by rw [ex1, z_ixK (K := K) (k := 1) i_w1 (by omega)]) ?_
  obtain ⟨fs_, hfo⟩ := z_SX_xo hSX
  refine z_calliV (cells := 164) (slots := 16321) (b := ad 0) (As := [.int x1]) (rest := []) (ci := 9) (q0 := (RX9, TX9, 11)) ⟨hx, hb, hml, hown, hT⟩ (s_X9_count l hSX) (cwV 1 hT (z_goodV (fun _ h => h) kw_1118 kw_1119 kw_1120 kw_85 kw_1121) rfl rfl rfl (by decide +kernel) ⟨by decide, by decide⟩) z_mv hKK hK hw hA (z_SX_mem hSX (by decide)) hfo rfl rfl rfl hl.1 rfl (Nat.le_of_ble_eq_true rfl) dL_law_1373 ⟨by decide, by decide⟩ (fun r3 u H locs hp hw => ?_)
  obtain ⟨L2, F2⟩ := u
  obtain ⟨hL2, hfr, hS2⟩ := hp
  have hL2 : L = L2 := hL2
  subst hL2
  have hw : z_H D vwCl (fun q : Nat => s.heap.size ≤ q) s.heap L F2 H locs := hw
  have hSM := z_SM_fr (f2 := F2) hSM (fun i hi => hfr _ (z_SM_mem hSM hi) (fun j hj => (hdis j i hj hi).symm))
  have hSX := hS2
  have hSX : z_SX L F2 cy ad gkp gw gz := hSX
  refine lv_pop hx hb dL_law_1376 rfl ?_
  refine lv_aload_n hx hb dL_law_1377 rfl (lv_at hl 1 rfl) ?_
  refine lv_aload_n hx hb dL_law_1378 rfl (lv_at hl 3 rfl) ?_
  refine lv_iload_n hx hb dL_law_1379 rfl (lv_at hl 0 rfl) ?_
  refine lv_iconst (v := 1) hx hb dL_law_1380 (by decide) ?_
  refine lv_iadd hx hb dL_law_1381 ?_
  refine lv_topi (fun w4 e_w4 => ?_)
  have i_w4 : w4.toInt = (K.toInt + 1) := z_add e_w4 rfl (show (1 : Int32).toInt = 1 by decide) (by omega)
  refine va_sld hx hb hX hbl hbA hw.2.2 (z_ix i_w4 (by omega)) dL_law_1382 ?_
  refine z_lit (y := x1) (by rw [ex1, z_ixK (K := K) (k := 1) i_w4 (by omega)]) ?_
  obtain ⟨fs_, hfo⟩ := z_SM_xo hSM
  refine z_calliV (cells := 164) (slots := 16321) (b := bd 0) (As := [.int x1]) (rest := []) (ci := 10) (q0 := (RX10, TX10, 54)) ⟨hx, hb, hml, hown, hT⟩ (s_X10_count l hSM) (cwV 1 hT (z_goodV (fun _ h => h) kw_1760 kw_1761 kw_1762 kw_96 kw_1763) rfl rfl rfl (by decide +kernel) ⟨by decide, by decide⟩) z_mv hKK hK hw hA (z_SM_mem hSM (by decide)) hfo rfl rfl rfl hl.1 rfl (Nat.le_of_ble_eq_true rfl) dL_law_1383 ⟨by decide, by decide⟩ (fun r6 u H locs hp hw => ?_)
  obtain ⟨L2, F5⟩ := u
  obtain ⟨hL2, hfr, hS2⟩ := hp
  have hL2 : L = L2 := hL2
  subst hL2
  have hw : z_H D vwCl (fun q : Nat => s.heap.size ≤ q) s.heap L F5 H locs := hw
  have hSX := z_SX_frL (f2 := F5) hSX (fun _ h => h) (fun i hi => hfr _ (z_SX_mem hSX hi) (fun j hj => hdis i j hi hj))
  have hSM := hS2
  have hSM : z_SM L F5 cy bd gik gwd gmy := hSM
  have hrel0 := hrel
  refine lv_pop hx hb dL_law_1386 rfl ?_
  refine lv_goto (tgt := 1615) hx hb dL_law_1387 (by decide) ?_
  exact kk _ _ _ _ _ _ _ _ _ hSX hSM hrel hw

set_option maxHeartbeats 4000000 in
set_option maxRecDepth 100000 in
theorem lc_keep {p : Program} {e : Env} {s : State} {m : MethodId} {below : List Frame} {meth : Method} {c : Code} (l : Launch) {b Ln : Nat} {xs : Nat → Int32} {D : va_G} {cy : Nat → ClassId} {adK adV : Nat → Nat} {L : List Nat} {F : Nat → va_E} {H : Heap} {locs : List Loc} {ls : Array Slot} {ad bd : Nat → Nat} {gkp gw gz gik gwd gmy : Nat → Int32} {K : Int32} {xo me : Nat} (C0 : lw_At p s m meth c b Ln xs) (hKK : z_KK D cy adK adV (fun q : Nat => s.heap.size ≤ q) s) (hxo : ad 0 = xo) (hme : bd 0 = me) (hSX : z_SX L F cy ad gkp gw gz) (hSM : z_SM L F cy bd gik gwd gmy) (hdis : ∀ i j : Nat, i < 135 → j < 29 → ad i ≠ bd j) (hrel : z_rel gkp gw gz gik gwd gmy) (hw : z_H D vwCl (fun q : Nat => s.heap.size ≤ q) s.heap L F H locs) (hl : lv_has ls 4 [(3, .int K), (2, .ref me), (1, .ref xo), (0, .ref b)]) (hKr : 0 ≤ K.toInt ∧ K.toInt + 6 ≤ Ln) (hLn : Ln ≤ 3072) (kk : ∀ (F2 : Nat → va_E) (H2 : Heap) (locs2 : List Loc) (a1 a2 a3 a4 a5 a6 : Nat → Int32), z_SX L F2 cy ad a1 a2 a3 → z_SM L F2 cy bd a4 a5 a6 → z_rel a1 a2 a3 a4 a5 a6 → z_H D vwCl (fun q : Nat => s.heap.size ≤ q) s.heap L F2 H2 locs2 → W p l e room_1 s m #[Value.ref b] below meth c H2 locs2 164 16321 (lw_Z below #[Value.ref b] s) (F0 m 1615 ls [])) : W p l e room_1 s m #[Value.ref b] below meth c H locs 164 16321 (lw_Z below #[Value.ref b] s) (F0 m 1390 ls []) := by
  subst hxo
  subst hme
  obtain ⟨hx, hb, hr, hml, hown, hts, hX, hbl, hlocks, hgv⟩ := C0
  have hA : ∀ q : Nat, s.heap.size ≤ q → (fun q : Nat => s.heap.size ≤ q) q := fun _ h => h
  have hbA : ¬ (fun q : Nat => s.heap.size ≤ q) b := Nat.not_le.mpr hbl
  have hT : ∀ w ∈ lw_all, w.before #[Value.ref b] s = true := fun w h => hts w (z_all_in w h)
  have hown : s.vm.findClass RL = some m.cls := hown
  have hK := hKK.1.1
  obtain ⟨x1, ex1⟩ : ∃ z, z = xs (K.toNatClampNeg + 1) := ⟨_, rfl⟩
  obtain ⟨x2, ex2⟩ : ∃ z, z = xs (K.toNatClampNeg + 2) := ⟨_, rfl⟩
  obtain ⟨x3, ex3⟩ : ∃ z, z = xs (K.toNatClampNeg + 3) := ⟨_, rfl⟩
  obtain ⟨x4, ex4⟩ : ∃ z, z = xs (K.toNatClampNeg + 4) := ⟨_, rfl⟩
  obtain ⟨x5, ex5⟩ : ∃ z, z = xs (K.toNatClampNeg + 5) := ⟨_, rfl⟩
  refine lv_aload_n hx hb dL_law_1390 rfl (lv_at hl 2 rfl) ?_
  refine lv_aload_n hx hb dL_law_1391 rfl (lv_at hl 3 rfl) ?_
  refine lv_iload_n hx hb dL_law_1392 rfl (lv_at hl 0 rfl) ?_
  refine lv_iconst (v := 1) hx hb dL_law_1393 (by decide) ?_
  refine lv_iadd hx hb dL_law_1394 ?_
  refine lv_topi (fun w1 e_w1 => ?_)
  have i_w1 : w1.toInt = (K.toInt + 1) := z_add e_w1 rfl (show (1 : Int32).toInt = 1 by decide) (by omega)
  refine va_sld hx hb hX hbl hbA hw.2.2 (z_ix i_w1 (by omega)) dL_law_1395 ?_
  refine z_lit (y := x1) (by rw [ex1, z_ixK (K := K) (k := 1) i_w1 (by omega)]) ?_
  obtain ⟨fs_, hfo⟩ := z_SX_xo hSX
  refine z_calliV (cells := 164) (slots := 16321) (b := ad 0) (As := [.int x1]) (rest := []) (ci := 9) (q0 := (RX9, TX9, 11)) ⟨hx, hb, hml, hown, hT⟩ (s_X9_keep l hSX) (cwV 1 hT (z_goodV (fun _ h => h) kw_1127 kw_1128 kw_1129 kw_85 kw_1130) rfl rfl rfl (by decide +kernel) ⟨by decide, by decide⟩) z_mv hKK hK hw hA (z_SX_mem hSX (by decide)) hfo rfl rfl rfl hl.1 rfl (Nat.le_of_ble_eq_true rfl) dL_law_1396 ⟨by decide, by decide⟩ (fun r3 u H locs hp hw => ?_)
  obtain ⟨L2, F2⟩ := u
  obtain ⟨hL2, hfr, hS2⟩ := hp
  have hL2 : L = L2 := hL2
  subst hL2
  have hw : z_H D vwCl (fun q : Nat => s.heap.size ≤ q) s.heap L F2 H locs := hw
  have hSM := z_SM_fr (f2 := F2) hSM (fun i hi => hfr _ (z_SM_mem hSM hi) (fun j hj => (hdis j i hj hi).symm))
  obtain ⟨kp2, hSX, hrx⟩ := hS2
  have hSX : z_SX L F2 cy ad kp2 gw gz := hSX
  refine lv_pop hx hb dL_law_1399 rfl ?_
  refine lv_aload_n hx hb dL_law_1400 rfl (lv_at hl 1 rfl) ?_
  refine lv_aload_n hx hb dL_law_1401 rfl (lv_at hl 3 rfl) ?_
  refine lv_iload_n hx hb dL_law_1402 rfl (lv_at hl 0 rfl) ?_
  refine lv_iconst (v := 1) hx hb dL_law_1403 (by decide) ?_
  refine lv_iadd hx hb dL_law_1404 ?_
  refine lv_topi (fun w4 e_w4 => ?_)
  have i_w4 : w4.toInt = (K.toInt + 1) := z_add e_w4 rfl (show (1 : Int32).toInt = 1 by decide) (by omega)
  refine va_sld hx hb hX hbl hbA hw.2.2 (z_ix i_w4 (by omega)) dL_law_1405 ?_
  refine z_lit (y := x1) (by rw [ex1, z_ixK (K := K) (k := 1) i_w4 (by omega)]) ?_
  obtain ⟨fs_, hfo⟩ := z_SM_xo hSM
  refine z_calliV (cells := 164) (slots := 16321) (b := bd 0) (As := [.int x1]) (rest := []) (ci := 10) (q0 := (RX10, TX10, 54)) ⟨hx, hb, hml, hown, hT⟩ (s_X10_keep l hSM) (cwV 1 hT (z_goodV (fun _ h => h) kw_1764 kw_1765 kw_1766 kw_96 kw_1767) rfl rfl rfl (by decide +kernel) ⟨by decide, by decide⟩) z_mv hKK hK hw hA (z_SM_mem hSM (by decide)) hfo rfl rfl rfl hl.1 rfl (Nat.le_of_ble_eq_true rfl) dL_law_1406 ⟨by decide, by decide⟩ (fun r6 u H locs hp hw => ?_)
  obtain ⟨L2, F5⟩ := u
  obtain ⟨hL2, hfr, hS2⟩ := hp
  have hL2 : L = L2 := hL2
  subst hL2
  have hw : z_H D vwCl (fun q : Nat => s.heap.size ≤ q) s.heap L F5 H locs := hw
  have hSX := z_SX_frL (f2 := F5) hSX (fun _ h => h) (fun i hi => hfr _ (z_SX_mem hSX hi) (fun j hj => hdis i j hi hj))
  obtain ⟨nik, hSM, hrm⟩ := hS2
  have hSM : z_SM L F5 cy bd nik gwd gmy := hSM
  have hrel0 := hrel
  have hrel := z_rel_keep hrel hrx hrm
  refine lv_pop hx hb dL_law_1409 rfl ?_
  refine lv_goto (tgt := 1615) hx hb dL_law_1410 (by decide) ?_
  exact kk _ _ _ _ _ _ _ _ _ hSX hSM hrel hw

set_option maxHeartbeats 4000000 in
set_option maxRecDepth 100000 in
theorem lc_back {p : Program} {e : Env} {s : State} {m : MethodId} {below : List Frame} {meth : Method} {c : Code} (l : Launch) {b Ln : Nat} {xs : Nat → Int32} {D : va_G} {cy : Nat → ClassId} {adK adV : Nat → Nat} {L : List Nat} {F : Nat → va_E} {H : Heap} {locs : List Loc} {ls : Array Slot} {ad bd : Nat → Nat} {gkp gw gz gik gwd gmy : Nat → Int32} {K : Int32} {xo me : Nat} (C0 : lw_At p s m meth c b Ln xs) (hKK : z_KK D cy adK adV (fun q : Nat => s.heap.size ≤ q) s) (hxo : ad 0 = xo) (hme : bd 0 = me) (hSX : z_SX L F cy ad gkp gw gz) (hSM : z_SM L F cy bd gik gwd gmy) (hdis : ∀ i j : Nat, i < 135 → j < 29 → ad i ≠ bd j) (hrel : z_rel gkp gw gz gik gwd gmy) (hw : z_H D vwCl (fun q : Nat => s.heap.size ≤ q) s.heap L F H locs) (hl : lv_has ls 4 [(3, .int K), (2, .ref me), (1, .ref xo), (0, .ref b)]) (hKr : 0 ≤ K.toInt ∧ K.toInt + 6 ≤ Ln) (hLn : Ln ≤ 3072) (kk : ∀ (F2 : Nat → va_E) (H2 : Heap) (locs2 : List Loc) (a1 a2 a3 a4 a5 a6 : Nat → Int32), z_SX L F2 cy ad a1 a2 a3 → z_SM L F2 cy bd a4 a5 a6 → z_rel a1 a2 a3 a4 a5 a6 → z_H D vwCl (fun q : Nat => s.heap.size ≤ q) s.heap L F2 H2 locs2 → W p l e room_1 s m #[Value.ref b] below meth c H2 locs2 164 16321 (lw_Z below #[Value.ref b] s) (F0 m 1615 ls [])) : W p l e room_1 s m #[Value.ref b] below meth c H locs 164 16321 (lw_Z below #[Value.ref b] s) (F0 m 1413 ls []) := by
  subst hxo
  subst hme
  obtain ⟨hx, hb, hr, hml, hown, hts, hX, hbl, hlocks, hgv⟩ := C0
  have hA : ∀ q : Nat, s.heap.size ≤ q → (fun q : Nat => s.heap.size ≤ q) q := fun _ h => h
  have hbA : ¬ (fun q : Nat => s.heap.size ≤ q) b := Nat.not_le.mpr hbl
  have hT : ∀ w ∈ lw_all, w.before #[Value.ref b] s = true := fun w h => hts w (z_all_in w h)
  have hown : s.vm.findClass RL = some m.cls := hown
  have hK := hKK.1.1
  obtain ⟨x1, ex1⟩ : ∃ z, z = xs (K.toNatClampNeg + 1) := ⟨_, rfl⟩
  obtain ⟨x2, ex2⟩ : ∃ z, z = xs (K.toNatClampNeg + 2) := ⟨_, rfl⟩
  obtain ⟨x3, ex3⟩ : ∃ z, z = xs (K.toNatClampNeg + 3) := ⟨_, rfl⟩
  obtain ⟨x4, ex4⟩ : ∃ z, z = xs (K.toNatClampNeg + 4) := ⟨_, rfl⟩
  obtain ⟨x5, ex5⟩ : ∃ z, z = xs (K.toNatClampNeg + 5) := ⟨_, rfl⟩
  refine lv_aload_n hx hb dL_law_1413 rfl (lv_at hl 2 rfl) ?_
  refine lv_aload_n hx hb dL_law_1414 rfl (lv_at hl 3 rfl) ?_
  refine lv_iload_n hx hb dL_law_1415 rfl (lv_at hl 0 rfl) ?_
  refine lv_iconst (v := 1) hx hb dL_law_1416 (by decide) ?_
  refine lv_iadd hx hb dL_law_1417 ?_
  refine lv_topi (fun w1 e_w1 => ?_)
  have i_w1 : w1.toInt = (K.toInt + 1) := z_add e_w1 rfl (show (1 : Int32).toInt = 1 by decide) (by omega)
  refine va_sld hx hb hX hbl hbA hw.2.2 (z_ix i_w1 (by omega)) dL_law_1418 ?_
  refine z_lit (y := x1) (by rw [ex1, z_ixK (K := K) (k := 1) i_w1 (by omega)]) ?_
  obtain ⟨fs_, hfo⟩ := z_SX_xo hSX
  refine z_calliV (cells := 164) (slots := 16321) (b := ad 0) (As := [.int x1]) (rest := []) (ci := 9) (q0 := (RX9, TX9, 11)) ⟨hx, hb, hml, hown, hT⟩ (s_X9_back l hSX) (cwV 1 hT (z_goodV (fun _ h => h) kw_1131 kw_1132 kw_1133 kw_85 kw_1134) rfl rfl rfl (by decide +kernel) ⟨by decide, by decide⟩) z_mv hKK hK hw hA (z_SX_mem hSX (by decide)) hfo rfl rfl rfl hl.1 rfl (Nat.le_of_ble_eq_true rfl) dL_law_1419 ⟨by decide, by decide⟩ (fun r3 u H locs hp hw => ?_)
  obtain ⟨L2, F2⟩ := u
  obtain ⟨hL2, hfr, hS2⟩ := hp
  have hL2 : L = L2 := hL2
  subst hL2
  have hw : z_H D vwCl (fun q : Nat => s.heap.size ≤ q) s.heap L F2 H locs := hw
  have hSM := z_SM_fr (f2 := F2) hSM (fun i hi => hfr _ (z_SM_mem hSM hi) (fun j hj => (hdis j i hj hi).symm))
  obtain ⟨hSX, hrx⟩ := hS2
  have hSX : z_SX L F2 cy ad gkp gw gz := hSX
  refine lv_pop hx hb dL_law_1422 rfl ?_
  refine lv_aload_n hx hb dL_law_1423 rfl (lv_at hl 1 rfl) ?_
  refine lv_aload_n hx hb dL_law_1424 rfl (lv_at hl 3 rfl) ?_
  refine lv_iload_n hx hb dL_law_1425 rfl (lv_at hl 0 rfl) ?_
  refine lv_iconst (v := 1) hx hb dL_law_1426 (by decide) ?_
  refine lv_iadd hx hb dL_law_1427 ?_
  refine lv_topi (fun w4 e_w4 => ?_)
  have i_w4 : w4.toInt = (K.toInt + 1) := z_add e_w4 rfl (show (1 : Int32).toInt = 1 by decide) (by omega)
  refine va_sld hx hb hX hbl hbA hw.2.2 (z_ix i_w4 (by omega)) dL_law_1428 ?_
  refine z_lit (y := x1) (by rw [ex1, z_ixK (K := K) (k := 1) i_w4 (by omega)]) ?_
  obtain ⟨fs_, hfo⟩ := z_SM_xo hSM
  refine z_calliV (cells := 164) (slots := 16321) (b := bd 0) (As := [.int x1]) (rest := []) (ci := 10) (q0 := (RX10, TX10, 54)) ⟨hx, hb, hml, hown, hT⟩ (s_X10_back l hSM) (cwV 1 hT (z_goodV (fun _ h => h) kw_1768 kw_1769 kw_1770 kw_96 kw_1771) rfl rfl rfl (by decide +kernel) ⟨by decide, by decide⟩) z_mv hKK hK hw hA (z_SM_mem hSM (by decide)) hfo rfl rfl rfl hl.1 rfl (Nat.le_of_ble_eq_true rfl) dL_law_1429 ⟨by decide, by decide⟩ (fun r6 u H locs hp hw => ?_)
  obtain ⟨L2, F5⟩ := u
  obtain ⟨hL2, hfr, hS2⟩ := hp
  have hL2 : L = L2 := hL2
  subst hL2
  have hw : z_H D vwCl (fun q : Nat => s.heap.size ≤ q) s.heap L F5 H locs := hw
  have hSX := z_SX_frL (f2 := F5) hSX (fun _ h => h) (fun i hi => hfr _ (z_SX_mem hSX hi) (fun j hj => hdis i j hi hj))
  obtain ⟨hSM, hrm⟩ := hS2
  have hSM : z_SM L F5 cy bd gik gwd gmy := hSM
  have hrel0 := hrel
  refine lv_pop hx hb dL_law_1432 rfl ?_
  refine lv_goto (tgt := 1615) hx hb dL_law_1433 (by decide) ?_
  exact kk _ _ _ _ _ _ _ _ _ hSX hSM hrel hw

set_option maxHeartbeats 4000000 in
set_option maxRecDepth 100000 in
theorem lc_row {p : Program} {e : Env} {s : State} {m : MethodId} {below : List Frame} {meth : Method} {c : Code} (l : Launch) {b Ln : Nat} {xs : Nat → Int32} {D : va_G} {cy : Nat → ClassId} {adK adV : Nat → Nat} {L : List Nat} {F : Nat → va_E} {H : Heap} {locs : List Loc} {ls : Array Slot} {ad bd : Nat → Nat} {gkp gw gz gik gwd gmy : Nat → Int32} {K : Int32} {xo me : Nat} (C0 : lw_At p s m meth c b Ln xs) (hKK : z_KK D cy adK adV (fun q : Nat => s.heap.size ≤ q) s) (hxo : ad 0 = xo) (hme : bd 0 = me) (hSX : z_SX L F cy ad gkp gw gz) (hSM : z_SM L F cy bd gik gwd gmy) (hdis : ∀ i j : Nat, i < 135 → j < 29 → ad i ≠ bd j) (hrel : z_rel gkp gw gz gik gwd gmy) (hw : z_H D vwCl (fun q : Nat => s.heap.size ≤ q) s.heap L F H locs) (hl : lv_has ls 4 [(3, .int K), (2, .ref me), (1, .ref xo), (0, .ref b)]) (hKr : 0 ≤ K.toInt ∧ K.toInt + 6 ≤ Ln) (hLn : Ln ≤ 3072) (kk : ∀ (F2 : Nat → va_E) (H2 : Heap) (locs2 : List Loc) (a1 a2 a3 a4 a5 a6 : Nat → Int32), z_SX L F2 cy ad a1 a2 a3 → z_SM L F2 cy bd a4 a5 a6 → z_rel a1 a2 a3 a4 a5 a6 → z_H D vwCl (fun q : Nat => s.heap.size ≤ q) s.heap L F2 H2 locs2 → W p l e room_1 s m #[Value.ref b] below meth c H2 locs2 164 16321 (lw_Z below #[Value.ref b] s) (F0 m 1615 ls [])) : W p l e room_1 s m #[Value.ref b] below meth c H locs 164 16321 (lw_Z below #[Value.ref b] s) (F0 m 1436 ls []) := by
  subst hxo
  subst hme
  obtain ⟨hx, hb, hr, hml, hown, hts, hX, hbl, hlocks, hgv⟩ := C0
  have hA : ∀ q : Nat, s.heap.size ≤ q → (fun q : Nat => s.heap.size ≤ q) q := fun _ h => h
  have hbA : ¬ (fun q : Nat => s.heap.size ≤ q) b := Nat.not_le.mpr hbl
  have hT : ∀ w ∈ lw_all, w.before #[Value.ref b] s = true := fun w h => hts w (z_all_in w h)
  have hown : s.vm.findClass RL = some m.cls := hown
  have hK := hKK.1.1
  obtain ⟨x1, ex1⟩ : ∃ z, z = xs (K.toNatClampNeg + 1) := ⟨_, rfl⟩
  obtain ⟨x2, ex2⟩ : ∃ z, z = xs (K.toNatClampNeg + 2) := ⟨_, rfl⟩
  obtain ⟨x3, ex3⟩ : ∃ z, z = xs (K.toNatClampNeg + 3) := ⟨_, rfl⟩
  obtain ⟨x4, ex4⟩ : ∃ z, z = xs (K.toNatClampNeg + 4) := ⟨_, rfl⟩
  obtain ⟨x5, ex5⟩ : ∃ z, z = xs (K.toNatClampNeg + 5) := ⟨_, rfl⟩
  refine lv_aload_n hx hb dL_law_1436 rfl (lv_at hl 2 rfl) ?_
  refine lv_aload_n hx hb dL_law_1437 rfl (lv_at hl 3 rfl) ?_
  refine lv_iload_n hx hb dL_law_1438 rfl (lv_at hl 0 rfl) ?_
  refine lv_iconst (v := 1) hx hb dL_law_1439 (by decide) ?_
  refine lv_iadd hx hb dL_law_1440 ?_
  refine lv_topi (fun w1 e_w1 => ?_)
  have i_w1 : w1.toInt = (K.toInt + 1) := z_add e_w1 rfl (show (1 : Int32).toInt = 1 by decide) (by omega)
  refine va_sld hx hb hX hbl hbA hw.2.2 (z_ix i_w1 (by omega)) dL_law_1441 ?_
  refine z_lit (y := x1) (by rw [ex1, z_ixK (K := K) (k := 1) i_w1 (by omega)]) ?_
  refine lv_aload_n hx hb dL_law_1442 rfl (lv_at hl 3 rfl) ?_
  refine lv_iload_n hx hb dL_law_1443 rfl (lv_at hl 0 rfl) ?_
  refine lv_iconst (v := 2) hx hb dL_law_1444 (by decide) ?_
  refine lv_iadd hx hb dL_law_1445 ?_
  refine lv_topi (fun w2 e_w2 => ?_)
  have i_w2 : w2.toInt = (K.toInt + 2) := z_add e_w2 rfl (show (2 : Int32).toInt = 2 by decide) (by omega)
  refine va_sld hx hb hX hbl hbA hw.2.2 (z_ix i_w2 (by omega)) dL_law_1446 ?_
  refine z_lit (y := x2) (by rw [ex2, z_ixK (K := K) (k := 2) i_w2 (by omega)]) ?_
  refine lv_aload_n hx hb dL_law_1447 rfl (lv_at hl 3 rfl) ?_
  refine lv_iload_n hx hb dL_law_1448 rfl (lv_at hl 0 rfl) ?_
  refine lv_iconst (v := 3) hx hb dL_law_1449 (by decide) ?_
  refine lv_iadd hx hb dL_law_1450 ?_
  refine lv_topi (fun w3 e_w3 => ?_)
  have i_w3 : w3.toInt = (K.toInt + 3) := z_add e_w3 rfl (show (3 : Int32).toInt = 3 by decide) (by omega)
  refine va_sld hx hb hX hbl hbA hw.2.2 (z_ix i_w3 (by omega)) dL_law_1451 ?_
  refine z_lit (y := x3) (by rw [ex3, z_ixK (K := K) (k := 3) i_w3 (by omega)]) ?_
  obtain ⟨fs_, hfo⟩ := z_SX_xo hSX
  refine z_calliV (cells := 164) (slots := 16321) (b := ad 0) (As := [.int x1, .int x2, .int x3]) (rest := []) (ci := 9) (q0 := (RX9, TX9, 11)) ⟨hx, hb, hml, hown, hT⟩ (s_X9_row l hSX) (cwV 3 hT (z_goodV (fun _ h => h) kw_1135 kw_1136 kw_1137 kw_85 kw_1138) rfl rfl rfl (by decide +kernel) ⟨by decide, by decide⟩) z_mv hKK hK hw hA (z_SX_mem hSX (by decide)) hfo rfl rfl rfl hl.1 rfl (Nat.le_of_ble_eq_true rfl) dL_law_1452 ⟨by decide, by decide⟩ (fun r5 u H locs hp hw => ?_)
  obtain ⟨L2, F4⟩ := u
  obtain ⟨hL2, hfr, hS2⟩ := hp
  have hL2 : L = L2 := hL2
  subst hL2
  have hw : z_H D vwCl (fun q : Nat => s.heap.size ≤ q) s.heap L F4 H locs := hw
  have hSM := z_SM_fr (f2 := F4) hSM (fun i hi => hfr _ (z_SM_mem hSM hi) (fun j hj => (hdis j i hj hi).symm))
  obtain ⟨w2, z2, hSX, hrx⟩ := hS2
  have hSX : z_SX L F4 cy ad gkp w2 z2 := hSX
  refine lv_pop hx hb dL_law_1455 rfl ?_
  refine lv_aload_n hx hb dL_law_1456 rfl (lv_at hl 1 rfl) ?_
  refine lv_aload_n hx hb dL_law_1457 rfl (lv_at hl 3 rfl) ?_
  refine lv_iload_n hx hb dL_law_1458 rfl (lv_at hl 0 rfl) ?_
  refine lv_iconst (v := 1) hx hb dL_law_1459 (by decide) ?_
  refine lv_iadd hx hb dL_law_1460 ?_
  refine lv_topi (fun w6 e_w6 => ?_)
  have i_w6 : w6.toInt = (K.toInt + 1) := z_add e_w6 rfl (show (1 : Int32).toInt = 1 by decide) (by omega)
  refine va_sld hx hb hX hbl hbA hw.2.2 (z_ix i_w6 (by omega)) dL_law_1461 ?_
  refine z_lit (y := x1) (by rw [ex1, z_ixK (K := K) (k := 1) i_w6 (by omega)]) ?_
  refine lv_aload_n hx hb dL_law_1462 rfl (lv_at hl 3 rfl) ?_
  refine lv_iload_n hx hb dL_law_1463 rfl (lv_at hl 0 rfl) ?_
  refine lv_iconst (v := 2) hx hb dL_law_1464 (by decide) ?_
  refine lv_iadd hx hb dL_law_1465 ?_
  refine lv_topi (fun w7 e_w7 => ?_)
  have i_w7 : w7.toInt = (K.toInt + 2) := z_add e_w7 rfl (show (2 : Int32).toInt = 2 by decide) (by omega)
  refine va_sld hx hb hX hbl hbA hw.2.2 (z_ix i_w7 (by omega)) dL_law_1466 ?_
  refine z_lit (y := x2) (by rw [ex2, z_ixK (K := K) (k := 2) i_w7 (by omega)]) ?_
  refine lv_aload_n hx hb dL_law_1467 rfl (lv_at hl 3 rfl) ?_
  refine lv_iload_n hx hb dL_law_1468 rfl (lv_at hl 0 rfl) ?_
  refine lv_iconst (v := 3) hx hb dL_law_1469 (by decide) ?_
  refine lv_iadd hx hb dL_law_1470 ?_
  refine lv_topi (fun w8 e_w8 => ?_)
  have i_w8 : w8.toInt = (K.toInt + 3) := z_add e_w8 rfl (show (3 : Int32).toInt = 3 by decide) (by omega)
  refine va_sld hx hb hX hbl hbA hw.2.2 (z_ix i_w8 (by omega)) dL_law_1471 ?_
  refine z_lit (y := x3) (by rw [ex3, z_ixK (K := K) (k := 3) i_w8 (by omega)]) ?_
  obtain ⟨fs_, hfo⟩ := z_SM_xo hSM
  refine z_calliV (cells := 164) (slots := 16321) (b := bd 0) (As := [.int x1, .int x2, .int x3]) (rest := []) (ci := 10) (q0 := (RX10, TX10, 54)) ⟨hx, hb, hml, hown, hT⟩ (s_X10_row l hSM) (cwV 3 hT (z_goodV (fun _ h => h) kw_1331 kw_1332 kw_1333 kw_96 kw_1334) rfl rfl rfl (by decide +kernel) ⟨by decide, by decide⟩) z_mv hKK hK hw hA (z_SM_mem hSM (by decide)) hfo rfl rfl rfl hl.1 rfl (Nat.le_of_ble_eq_true rfl) dL_law_1472 ⟨by decide, by decide⟩ (fun r10 u H locs hp hw => ?_)
  obtain ⟨L2, F9⟩ := u
  obtain ⟨hL2, hfr, hS2⟩ := hp
  have hL2 : L = L2 := hL2
  subst hL2
  have hw : z_H D vwCl (fun q : Nat => s.heap.size ≤ q) s.heap L F9 H locs := hw
  have hSX := z_SX_frL (f2 := F9) hSX (fun _ h => h) (fun i hi => hfr _ (z_SX_mem hSX hi) (fun j hj => hdis i j hi hj))
  obtain ⟨nwd, nmy, hSM, hrm⟩ := hS2
  have hSM : z_SM L F9 cy bd gik nwd nmy := hSM
  have hrel0 := hrel
  have hrel := z_rel_row hrel hrx hrm
  refine lv_pop hx hb dL_law_1475 rfl ?_
  refine lv_goto (tgt := 1615) hx hb dL_law_1476 (by decide) ?_
  exact kk _ _ _ _ _ _ _ _ _ hSX hSM hrel hw

set_option maxHeartbeats 4000000 in
set_option maxRecDepth 100000 in
theorem lc_write {p : Program} {e : Env} {s : State} {m : MethodId} {below : List Frame} {meth : Method} {c : Code} (l : Launch) {b Ln : Nat} {xs : Nat → Int32} {D : va_G} {cy : Nat → ClassId} {adK adV : Nat → Nat} {L : List Nat} {F : Nat → va_E} {H : Heap} {locs : List Loc} {ls : Array Slot} {ad bd : Nat → Nat} {gkp gw gz gik gwd gmy : Nat → Int32} {K : Int32} {xo me : Nat} (C0 : lw_At p s m meth c b Ln xs) (hKK : z_KK D cy adK adV (fun q : Nat => s.heap.size ≤ q) s) (hxo : ad 0 = xo) (hme : bd 0 = me) (hSX : z_SX L F cy ad gkp gw gz) (hSM : z_SM L F cy bd gik gwd gmy) (hdis : ∀ i j : Nat, i < 135 → j < 29 → ad i ≠ bd j) (hrel : z_rel gkp gw gz gik gwd gmy) (hw : z_H D vwCl (fun q : Nat => s.heap.size ≤ q) s.heap L F H locs) (hl : lv_has ls 4 [(3, .int K), (2, .ref me), (1, .ref xo), (0, .ref b)]) (hKr : 0 ≤ K.toInt ∧ K.toInt + 6 ≤ Ln) (hLn : Ln ≤ 3072) (kk : ∀ (F2 : Nat → va_E) (H2 : Heap) (locs2 : List Loc) (a1 a2 a3 a4 a5 a6 : Nat → Int32), z_SX L F2 cy ad a1 a2 a3 → z_SM L F2 cy bd a4 a5 a6 → z_rel a1 a2 a3 a4 a5 a6 → z_H D vwCl (fun q : Nat => s.heap.size ≤ q) s.heap L F2 H2 locs2 → W p l e room_1 s m #[Value.ref b] below meth c H2 locs2 164 16321 (lw_Z below #[Value.ref b] s) (F0 m 1615 ls [])) : W p l e room_1 s m #[Value.ref b] below meth c H locs 164 16321 (lw_Z below #[Value.ref b] s) (F0 m 1479 ls []) := by
  subst hxo
  subst hme
  obtain ⟨hx, hb, hr, hml, hown, hts, hX, hbl, hlocks, hgv⟩ := C0
  have hA : ∀ q : Nat, s.heap.size ≤ q → (fun q : Nat => s.heap.size ≤ q) q := fun _ h => h
  have hbA : ¬ (fun q : Nat => s.heap.size ≤ q) b := Nat.not_le.mpr hbl
  have hT : ∀ w ∈ lw_all, w.before #[Value.ref b] s = true := fun w h => hts w (z_all_in w h)
  have hown : s.vm.findClass RL = some m.cls := hown
  have hK := hKK.1.1
  obtain ⟨x1, ex1⟩ : ∃ z, z = xs (K.toNatClampNeg + 1) := ⟨_, rfl⟩
  obtain ⟨x2, ex2⟩ : ∃ z, z = xs (K.toNatClampNeg + 2) := ⟨_, rfl⟩
  obtain ⟨x3, ex3⟩ : ∃ z, z = xs (K.toNatClampNeg + 3) := ⟨_, rfl⟩
  obtain ⟨x4, ex4⟩ : ∃ z, z = xs (K.toNatClampNeg + 4) := ⟨_, rfl⟩
  obtain ⟨x5, ex5⟩ : ∃ z, z = xs (K.toNatClampNeg + 5) := ⟨_, rfl⟩
  refine lv_aload_n hx hb dL_law_1479 rfl (lv_at hl 2 rfl) ?_
  refine lv_aload_n hx hb dL_law_1480 rfl (lv_at hl 3 rfl) ?_
  refine lv_iload_n hx hb dL_law_1481 rfl (lv_at hl 0 rfl) ?_
  refine lv_iconst (v := 1) hx hb dL_law_1482 (by decide) ?_
  refine lv_iadd hx hb dL_law_1483 ?_
  refine lv_topi (fun w1 e_w1 => ?_)
  have i_w1 : w1.toInt = (K.toInt + 1) := z_add e_w1 rfl (show (1 : Int32).toInt = 1 by decide) (by omega)
  refine va_sld hx hb hX hbl hbA hw.2.2 (z_ix i_w1 (by omega)) dL_law_1484 ?_
  refine z_lit (y := x1) (by rw [ex1, z_ixK (K := K) (k := 1) i_w1 (by omega)]) ?_
  refine lv_aload_n hx hb dL_law_1485 rfl (lv_at hl 3 rfl) ?_
  refine lv_iload_n hx hb dL_law_1486 rfl (lv_at hl 0 rfl) ?_
  refine lv_iconst (v := 2) hx hb dL_law_1487 (by decide) ?_
  refine lv_iadd hx hb dL_law_1488 ?_
  refine lv_topi (fun w2 e_w2 => ?_)
  have i_w2 : w2.toInt = (K.toInt + 2) := z_add e_w2 rfl (show (2 : Int32).toInt = 2 by decide) (by omega)
  refine va_sld hx hb hX hbl hbA hw.2.2 (z_ix i_w2 (by omega)) dL_law_1489 ?_
  refine z_lit (y := x2) (by rw [ex2, z_ixK (K := K) (k := 2) i_w2 (by omega)]) ?_
  refine lv_aload_n hx hb dL_law_1490 rfl (lv_at hl 3 rfl) ?_
  refine lv_iload_n hx hb dL_law_1491 rfl (lv_at hl 0 rfl) ?_
  refine lv_iconst (v := 3) hx hb dL_law_1492 (by decide) ?_
  refine lv_iadd hx hb dL_law_1493 ?_
  refine lv_topi (fun w3 e_w3 => ?_)
  have i_w3 : w3.toInt = (K.toInt + 3) := z_add e_w3 rfl (show (3 : Int32).toInt = 3 by decide) (by omega)
  refine va_sld hx hb hX hbl hbA hw.2.2 (z_ix i_w3 (by omega)) dL_law_1494 ?_
  refine z_lit (y := x3) (by rw [ex3, z_ixK (K := K) (k := 3) i_w3 (by omega)]) ?_
  refine lv_i2l hx hb dL_law_1495 rfl ?_
  refine lv_topl (fun w4 e_w4 => ?_)
  have i_w4 : w4.toInt = x3.toInt := z_i2l e_w4 rfl
  refine lv_bipush (v := 32) hx hb dL_law_1496 (by decide) ?_
  refine lv_lshl hx hb dL_law_1498 rfl ?_
  refine lv_topl (fun w5 e_w5 => ?_)
  refine lv_aload_n hx hb dL_law_1499 rfl (lv_at hl 3 rfl) ?_
  refine lv_iload_n hx hb dL_law_1500 rfl (lv_at hl 0 rfl) ?_
  refine lv_iconst (v := 4) hx hb dL_law_1501 (by decide) ?_
  refine lv_iadd hx hb dL_law_1502 ?_
  refine lv_topi (fun w6 e_w6 => ?_)
  have i_w6 : w6.toInt = (K.toInt + 4) := z_add e_w6 rfl (show (4 : Int32).toInt = 4 by decide) (by omega)
  refine va_sld hx hb hX hbl hbA hw.2.2 (z_ix i_w6 (by omega)) dL_law_1503 ?_
  refine z_lit (y := x4) (by rw [ex4, z_ixK (K := K) (k := 4) i_w6 (by omega)]) ?_
  refine lv_i2l hx hb dL_law_1504 rfl ?_
  refine lv_topl (fun w7 e_w7 => ?_)
  have i_w7 : w7.toInt = x4.toInt := z_i2l e_w7 rfl
  refine lv_ldc2 (v := 4294967295) hx hb hown (hT _ kw_1772) dL_law_1505 ?_
  refine lv_land hx hb dL_law_1508 ?_
  refine lv_topl (fun w8 e_w8 => ?_)
  refine lv_lor hx hb dL_law_1509 ?_
  refine lv_topl (fun w9 e_w9 => ?_)
  obtain ⟨fs_, hfo⟩ := z_SX_xo hSX
  refine z_calliV (cells := 164) (slots := 16321) (b := ad 0) (As := [.int x1, .int x2, .long w9]) (rest := []) (ci := 9) (q0 := (RX9, TX9, 11)) ⟨hx, hb, hml, hown, hT⟩ (s_X9_write l hSX) (cwV 3 hT (z_goodV (fun _ h => h) kw_1146 kw_1147 kw_1148 kw_85 kw_1149) rfl rfl rfl (by decide +kernel) ⟨by decide, by decide⟩) z_mv hKK hK hw hA (z_SX_mem hSX (by decide)) hfo rfl rfl rfl hl.1 rfl (Nat.le_of_ble_eq_true rfl) dL_law_1510 ⟨by decide, by decide⟩ (fun r11 u H locs hp hw => ?_)
  obtain ⟨L2, F10⟩ := u
  obtain ⟨hL2, hfr, hS2⟩ := hp
  have hL2 : L = L2 := hL2
  subst hL2
  have hw : z_H D vwCl (fun q : Nat => s.heap.size ≤ q) s.heap L F10 H locs := hw
  have hSM := z_SM_fr (f2 := F10) hSM (fun i hi => hfr _ (z_SM_mem hSM hi) (fun j hj => (hdis j i hj hi).symm))
  obtain ⟨hSX, hrx⟩ := hS2
  have hSX : z_SX L F10 cy ad gkp gw gz := hSX
  refine lv_pop hx hb dL_law_1513 rfl ?_
  refine lv_aload_n hx hb dL_law_1514 rfl (lv_at hl 1 rfl) ?_
  refine lv_aload_n hx hb dL_law_1515 rfl (lv_at hl 3 rfl) ?_
  refine lv_iload_n hx hb dL_law_1516 rfl (lv_at hl 0 rfl) ?_
  refine lv_iconst (v := 1) hx hb dL_law_1517 (by decide) ?_
  refine lv_iadd hx hb dL_law_1518 ?_
  refine lv_topi (fun w12 e_w12 => ?_)
  have i_w12 : w12.toInt = (K.toInt + 1) := z_add e_w12 rfl (show (1 : Int32).toInt = 1 by decide) (by omega)
  refine va_sld hx hb hX hbl hbA hw.2.2 (z_ix i_w12 (by omega)) dL_law_1519 ?_
  refine z_lit (y := x1) (by rw [ex1, z_ixK (K := K) (k := 1) i_w12 (by omega)]) ?_
  refine lv_aload_n hx hb dL_law_1520 rfl (lv_at hl 3 rfl) ?_
  refine lv_iload_n hx hb dL_law_1521 rfl (lv_at hl 0 rfl) ?_
  refine lv_iconst (v := 2) hx hb dL_law_1522 (by decide) ?_
  refine lv_iadd hx hb dL_law_1523 ?_
  refine lv_topi (fun w13 e_w13 => ?_)
  have i_w13 : w13.toInt = (K.toInt + 2) := z_add e_w13 rfl (show (2 : Int32).toInt = 2 by decide) (by omega)
  refine va_sld hx hb hX hbl hbA hw.2.2 (z_ix i_w13 (by omega)) dL_law_1524 ?_
  refine z_lit (y := x2) (by rw [ex2, z_ixK (K := K) (k := 2) i_w13 (by omega)]) ?_
  refine lv_aload_n hx hb dL_law_1525 rfl (lv_at hl 3 rfl) ?_
  refine lv_iload_n hx hb dL_law_1526 rfl (lv_at hl 0 rfl) ?_
  refine lv_iconst (v := 3) hx hb dL_law_1527 (by decide) ?_
  refine lv_iadd hx hb dL_law_1528 ?_
  refine lv_topi (fun w14 e_w14 => ?_)
  have i_w14 : w14.toInt = (K.toInt + 3) := z_add e_w14 rfl (show (3 : Int32).toInt = 3 by decide) (by omega)
  refine va_sld hx hb hX hbl hbA hw.2.2 (z_ix i_w14 (by omega)) dL_law_1529 ?_
  refine z_lit (y := x3) (by rw [ex3, z_ixK (K := K) (k := 3) i_w14 (by omega)]) ?_
  refine lv_i2l hx hb dL_law_1530 rfl ?_
  refine lv_topl (fun w15 e_w15 => ?_)
  have i_w15 : w15.toInt = x3.toInt := z_i2l e_w15 rfl
  refine lv_bipush (v := 32) hx hb dL_law_1531 (by decide) ?_
  refine lv_lshl hx hb dL_law_1533 rfl ?_
  refine lv_topl (fun w16 e_w16 => ?_)
  refine lv_aload_n hx hb dL_law_1534 rfl (lv_at hl 3 rfl) ?_
  refine lv_iload_n hx hb dL_law_1535 rfl (lv_at hl 0 rfl) ?_
  refine lv_iconst (v := 4) hx hb dL_law_1536 (by decide) ?_
  refine lv_iadd hx hb dL_law_1537 ?_
  refine lv_topi (fun w17 e_w17 => ?_)
  have i_w17 : w17.toInt = (K.toInt + 4) := z_add e_w17 rfl (show (4 : Int32).toInt = 4 by decide) (by omega)
  refine va_sld hx hb hX hbl hbA hw.2.2 (z_ix i_w17 (by omega)) dL_law_1538 ?_
  refine z_lit (y := x4) (by rw [ex4, z_ixK (K := K) (k := 4) i_w17 (by omega)]) ?_
  refine lv_i2l hx hb dL_law_1539 rfl ?_
  refine lv_topl (fun w18 e_w18 => ?_)
  have i_w18 : w18.toInt = x4.toInt := z_i2l e_w18 rfl
  refine lv_ldc2 (v := 4294967295) hx hb hown (hT _ kw_1772) dL_law_1540 ?_
  refine lv_land hx hb dL_law_1543 ?_
  refine lv_topl (fun w19 e_w19 => ?_)
  refine lv_lor hx hb dL_law_1544 ?_
  refine lv_topl (fun w20 e_w20 => ?_)
  obtain ⟨fs_, hfo⟩ := z_SM_xo hSM
  refine z_calliV (cells := 164) (slots := 16321) (b := bd 0) (As := [.int x1, .int x2, .long w20]) (rest := []) (ci := 10) (q0 := (RX10, TX10, 54)) ⟨hx, hb, hml, hown, hT⟩ (s_X10_write l hSM) (cwV 3 hT (z_goodV (fun _ h => h) kw_1342 kw_1343 kw_1344 kw_96 kw_1345) rfl rfl rfl (by decide +kernel) ⟨by decide, by decide⟩) z_mv hKK hK hw hA (z_SM_mem hSM (by decide)) hfo rfl rfl rfl hl.1 rfl (Nat.le_of_ble_eq_true rfl) dL_law_1545 ⟨by decide, by decide⟩ (fun r22 u H locs hp hw => ?_)
  obtain ⟨L2, F21⟩ := u
  obtain ⟨hL2, hfr, hS2⟩ := hp
  have hL2 : L = L2 := hL2
  subst hL2
  have hw : z_H D vwCl (fun q : Nat => s.heap.size ≤ q) s.heap L F21 H locs := hw
  have hSX := z_SX_frL (f2 := F21) hSX (fun _ h => h) (fun i hi => hfr _ (z_SX_mem hSX hi) (fun j hj => hdis i j hi hj))
  obtain ⟨hSM, hrm⟩ := hS2
  have hSM : z_SM L F21 cy bd gik gwd gmy := hSM
  have hrel0 := hrel
  refine lv_pop hx hb dL_law_1548 rfl ?_
  refine lv_goto (tgt := 1615) hx hb dL_law_1549 (by decide) ?_
  exact kk _ _ _ _ _ _ _ _ _ hSX hSM hrel hw
