set_option maxHeartbeats 4000000 in
set_option maxRecDepth 100000 in
theorem s_X10_feed (l : Launch) {D : va_G} {cy : Nat → ClassId} {L : List Nat} {f : Nat → va_E} {sz : Nat} {adK adV : Nat → Nat} {bd : Nat → Nat} {gik gwd gmy : Nat → Int32} {b0 : Int32} {b1 : Int32} {b2 : Int32} {b3 : Int32} {b4 : Int32} (hS : z_SM L f cy bd gik gwd gmy) : Met l yX10_feed (z_ws yX10_feed cX10_feed 6 (some .int)) (z_R 2 0 0) (va_Pc [.ref (bd 0), .int b0, .int b1, .int b2, .int b3, .int b4] (z_Pre D vwCl (z_KK D cy adK adV) L f sz)) (z_Qi D vwCl (fun r u => L = u.1 ∧ (∀ b ∈ L, (∀ i : Nat, i < 29 → b ≠ bd i) → u.2 b = f b) ∧ (z_SM L u.2 cy bd gik gwd gmy)) L sz) 0 0 (z_A L sz) := by
  obtain ⟨hm, hJ, h0_, hH_, hf_ik, hf_wd, hf_my, hq_my, hy_ce, hy_mv, hy_ta, hy_li, hy_st, hy_fo, hy_dr, hy_ro, hy_ct, hy_se, hy_th, hy_cn, hy_be, hy_du, hy_db, hy_pn, hy_wg, hy_wh, hy_tn, hy_he, hy_tr, hy_fd, hy_po⟩ := hS
  have h1_ := h0_
  obtain ⟨m0, m6, m7, m8, m9, m10, m12, m13, m14, m15, m22, m24, m25, m27, m28, m30, m36, m38, m40, m41, m42, m48, m52, m53, m11, m26, hf_mm, htp, hxx, hbg, hbh⟩ := h1_
  have h3_ := hy_ta
  obtain ⟨gta, hf_ta, hq_ta⟩ := h3_
  refine z_weak (c_X10_feed l (hm 0 (by decide)) (hm 5 (by decide)) hf_mm hf_ta (by first | assumption | omega)) ?_
  rintro r ⟨L2, F2⟩ ⟨hsb, hfm, t2, nta, ha_mm, ha_ta, hp⟩
  obtain rfl : L = L2 := hsb
  have hk : ∀ i : Nat, i < 29 → i ≠ 0 → i ≠ 5 → F2 (bd i) = f (bd i) := fun i hi h0 h5 => hfm _ (hm i hi) (fun h => h0 (hJ _ _ hi (by decide) h)) (fun h => h5 (hJ _ _ hi (by decide) h))
  refine ⟨rfl, fun b hb h => hfm b hb (h 0 (by decide)) (h 5 (by decide)), ?_⟩
  exact ⟨hm, hJ, (⟨0, t2, m7, m8, m9, m10, m12, m13, m14, m15, m22, m24, m25, m27, m28, m30, m36, m38, m40, m41, m42, m48, m52, m53, m11, m26, ha_mm, (by first | assumption | omega | decide), (by first | assumption | omega | decide), (by first | assumption | omega | decide), (by first | assumption | omega | decide)⟩), (y_H_fr hH_ (hk 7 (by decide) (by decide) (by decide)) (hk 8 (by decide) (by decide) (by decide))), ((hk 12 (by decide) (by decide) (by decide)).trans hf_ik), ((hk 1 (by decide) (by decide) (by decide)).trans hf_wd), ((hk 2 (by decide) (by decide) (by decide)).trans hf_my), (hq_my), (y_J_fr hy_ce (hk 3 (by decide) (by decide) (by decide))), (y_J_fr hy_mv (hk 4 (by decide) (by decide) (by decide))), (⟨_, ha_ta, fun _ => trivial⟩), (y_A_fr hy_li (hk 6 (by decide) (by decide) (by decide))), (y_A_fr hy_st (hk 9 (by decide) (by decide) (by decide))), (y_A_fr hy_fo (hk 10 (by decide) (by decide) (by decide))), (y_A_fr hy_dr (hk 11 (by decide) (by decide) (by decide))), (y_A_fr hy_ro (hk 13 (by decide) (by decide) (by decide))), (y_A_fr hy_ct (hk 14 (by decide) (by decide) (by decide))), (y_A_fr hy_se (hk 15 (by decide) (by decide) (by decide))), (y_A_fr hy_th (hk 16 (by decide) (by decide) (by decide))), (y_A_fr hy_cn (hk 17 (by decide) (by decide) (by decide))), (y_A_fr hy_be (hk 18 (by decide) (by decide) (by decide))), (y_A_fr hy_du (hk 19 (by decide) (by decide) (by decide))), (y_A_fr hy_db (hk 20 (by decide) (by decide) (by decide))), (y_A_fr hy_pn (hk 21 (by decide) (by decide) (by decide))), (y_A_fr hy_wg (hk 22 (by decide) (by decide) (by decide))), (y_A_fr hy_wh (hk 23 (by decide) (by decide) (by decide))), (y_A_fr hy_tn (hk 24 (by decide) (by decide) (by decide))), (y_A_fr hy_he (hk 25 (by decide) (by decide) (by decide))), (y_A_fr hy_tr (hk 26 (by decide) (by decide) (by decide))), (y_A_fr hy_fd (hk 27 (by decide) (by decide) (by decide))), (y_A_fr hy_po (hk 28 (by decide) (by decide) (by decide)))⟩

set_option maxHeartbeats 4000000 in
set_option maxRecDepth 100000 in
theorem s_X10_end (l : Launch) {D : va_G} {cy : Nat → ClassId} {L : List Nat} {f : Nat → va_E} {sz : Nat} {adK adV : Nat → Nat} {bd : Nat → Nat} {gik gwd gmy : Nat → Int32} {nn : Int32} (hS : z_SM L f cy bd gik gwd gmy) : Met l yX10_end (z_ws yX10_end cX10_end 2 (some .int)) (z_R 2 0 0) (va_Pc [.ref (bd 0), .int nn] (z_Pre D vwCl (z_KK D cy adK adV) L f sz)) (z_Qi D vwCl (fun r u => L = u.1 ∧ (∀ b ∈ L, (∀ i : Nat, i < 29 → b ≠ bd i) → u.2 b = f b) ∧ (z_SM L u.2 cy bd gik gwd gmy)) L sz) 0 0 (z_A L sz) := by
  obtain ⟨hm, hJ, h0_, hH_, hf_ik, hf_wd, hf_my, hq_my, hy_ce, hy_mv, hy_ta, hy_li, hy_st, hy_fo, hy_dr, hy_ro, hy_ct, hy_se, hy_th, hy_cn, hy_be, hy_du, hy_db, hy_pn, hy_wg, hy_wh, hy_tn, hy_he, hy_tr, hy_fd, hy_po⟩ := hS
  have h1_ := h0_
  obtain ⟨m0, m6, m7, m8, m9, m10, m12, m13, m14, m15, m22, m24, m25, m27, m28, m30, m36, m38, m40, m41, m42, m48, m52, m53, m11, m26, hf_mm, htp, hxx, hbg, hbh⟩ := h1_
  refine z_weak (c_X10_end l (hm 0 (by decide)) hf_mm (by first | assumption | omega)) ?_
  rintro r ⟨L2, F2⟩ ⟨hsb, hfm, t2, ha_mm, hp⟩
  obtain rfl : L = L2 := hsb
  have hk : ∀ i : Nat, i < 29 → i ≠ 0 → F2 (bd i) = f (bd i) := fun i hi h0 => hfm _ (hm i hi) (fun h => h0 (hJ _ _ hi (by decide) h))
  refine ⟨rfl, fun b hb h => hfm b hb (h 0 (by decide)), ?_⟩
  exact ⟨hm, hJ, (⟨0, t2, m7, m8, m9, m10, m12, m13, m14, m15, m22, m24, m25, m27, m28, m30, m36, m38, m40, m41, m42, m48, m52, m53, m11, m26, ha_mm, (by first | assumption | omega | decide), (by first | assumption | omega | decide), (by first | assumption | omega | decide), (by first | assumption | omega | decide)⟩), (y_H_fr hH_ (hk 7 (by decide) (by decide)) (hk 8 (by decide) (by decide))), ((hk 12 (by decide) (by decide)).trans hf_ik), ((hk 1 (by decide) (by decide)).trans hf_wd), ((hk 2 (by decide) (by decide)).trans hf_my), (hq_my), (y_J_fr hy_ce (hk 3 (by decide) (by decide))), (y_J_fr hy_mv (hk 4 (by decide) (by decide))), (y_A_fr hy_ta (hk 5 (by decide) (by decide))), (y_A_fr hy_li (hk 6 (by decide) (by decide))), (y_A_fr hy_st (hk 9 (by decide) (by decide))), (y_A_fr hy_fo (hk 10 (by decide) (by decide))), (y_A_fr hy_dr (hk 11 (by decide) (by decide))), (y_A_fr hy_ro (hk 13 (by decide) (by decide))), (y_A_fr hy_ct (hk 14 (by decide) (by decide))), (y_A_fr hy_se (hk 15 (by decide) (by decide))), (y_A_fr hy_th (hk 16 (by decide) (by decide))), (y_A_fr hy_cn (hk 17 (by decide) (by decide))), (y_A_fr hy_be (hk 18 (by decide) (by decide))), (y_A_fr hy_du (hk 19 (by decide) (by decide))), (y_A_fr hy_db (hk 20 (by decide) (by decide))), (y_A_fr hy_pn (hk 21 (by decide) (by decide))), (y_A_fr hy_wg (hk 22 (by decide) (by decide))), (y_A_fr hy_wh (hk 23 (by decide) (by decide))), (y_A_fr hy_tn (hk 24 (by decide) (by decide))), (y_A_fr hy_he (hk 25 (by decide) (by decide))), (y_A_fr hy_tr (hk 26 (by decide) (by decide))), (y_A_fr hy_fd (hk 27 (by decide) (by decide))), (y_A_fr hy_po (hk 28 (by decide) (by decide)))⟩

set_option maxHeartbeats 4000000 in
set_option maxRecDepth 100000 in
theorem s_X10_moor (l : Launch) {D : va_G} {cy : Nat → ClassId} {L : List Nat} {f : Nat → va_E} {sz : Nat} {adK adV : Nat → Nat} {bd : Nat → Nat} {gik gwd gmy : Nat → Int32}  (hS : z_SM L f cy bd gik gwd gmy) : Met l yX10_moor (z_ws yX10_moor cX10_moor 1 (some .int)) (z_R 8 0 0) (va_Pc [.ref (bd 0)] (z_Pre D vwCl (z_KK D cy adK adV) L f sz)) (z_Qi D vwCl (fun r u => L = u.1 ∧ (∀ b ∈ L, (∀ i : Nat, i < 29 → b ≠ bd i) → u.2 b = f b) ∧ (z_SM L u.2 cy bd gik gwd gmy)) L sz) 0 0 (z_A L sz) := by
  obtain ⟨hm, hJ, h0_, hH_, hf_ik, hf_wd, hf_my, hq_my, hy_ce, hy_mv, hy_ta, hy_li, hy_st, hy_fo, hy_dr, hy_ro, hy_ct, hy_se, hy_th, hy_cn, hy_be, hy_du, hy_db, hy_pn, hy_wg, hy_wh, hy_tn, hy_he, hy_tr, hy_fd, hy_po⟩ := hS
  have h1_ := h0_
  obtain ⟨m0, m6, m7, m8, m9, m10, m12, m13, m14, m15, m22, m24, m25, m27, m28, m30, m36, m38, m40, m41, m42, m48, m52, m53, m11, m26, hf_mm, htp, hxx, hbg, hbh⟩ := h1_
  have h2_ := hH_
  obtain ⟨gha, glw, hf_ha, hf_lw, hq_ha, hq_lw, hea⟩ := h2_
  have h3_ := hy_ta
  obtain ⟨gta, hf_ta, hq_ta⟩ := h3_
  have h3_ := hy_li
  obtain ⟨gli, hf_li, hq_li⟩ := h3_
  have h3_ := hy_st
  obtain ⟨gst, hf_st, hq_st⟩ := h3_
  have h3_ := hy_fo
  obtain ⟨gfo, hf_fo, hq_fo⟩ := h3_
  have h3_ := hy_dr
  obtain ⟨gdr, hf_dr, hq_dr⟩ := h3_
  refine z_weak (c_X10_moor l (hm 0 (by decide)) (hm 5 (by decide)) (hm 6 (by decide)) (hm 7 (by decide)) (hm 8 (by decide)) (hm 9 (by decide)) (hm 10 (by decide)) (hm 11 (by decide)) hf_mm hf_ta hf_li hf_ha hf_lw hf_st hf_fo hf_dr hq_ha hq_lw hq_st hq_dr (by first | assumption | omega) hea) ?_
  rintro r ⟨L2, F2⟩ ⟨hsb, hfm, a2, k2, p2, v2, b2, q2, t2, f2, g2, w2, nli, nha, nlw, nst, nfo, ndr, ha_mm, ha_li, ha_ha, ha_lw, ha_st, ha_fo, ha_dr, nq_ha, nq_lw, nq_st, nq_dr, hp⟩
  obtain rfl : L = L2 := hsb
  have hk : ∀ i : Nat, i < 29 → i ≠ 0 → i ≠ 6 → i ≠ 7 → i ≠ 8 → i ≠ 9 → i ≠ 10 → i ≠ 11 → F2 (bd i) = f (bd i) := fun i hi h0 h6 h7 h8 h9 h10 h11 => hfm _ (hm i hi) (fun h => h0 (hJ _ _ hi (by decide) h)) (fun h => h6 (hJ _ _ hi (by decide) h)) (fun h => h7 (hJ _ _ hi (by decide) h)) (fun h => h8 (hJ _ _ hi (by decide) h)) (fun h => h9 (hJ _ _ hi (by decide) h)) (fun h => h10 (hJ _ _ hi (by decide) h)) (fun h => h11 (hJ _ _ hi (by decide) h))
  refine ⟨rfl, fun b hb h => hfm b hb (h 0 (by decide)) (h 6 (by decide)) (h 7 (by decide)) (h 8 (by decide)) (h 9 (by decide)) (h 10 (by decide)) (h 11 (by decide)), ?_⟩
  exact ⟨hm, hJ, (⟨0, 0, a2, k2, p2, v2, b2, q2, f2, g2, t2, m24, m25, m27, m28, m30, m36, m38, m40, m41, m42, m48, m52, m53, w2, m26, ha_mm, (by first | assumption | omega | decide), (by first | assumption | omega | decide), (by first | assumption | omega | decide), (by first | assumption | omega | decide)⟩), (⟨nha, nlw, ha_ha, ha_lw, nq_ha, nq_lw, (by first | exact hp | exact hp.1 | exact hp.2)⟩), ((hk 12 (by decide) (by decide) (by decide) (by decide) (by decide) (by decide) (by decide) (by decide)).trans hf_ik), ((hk 1 (by decide) (by decide) (by decide) (by decide) (by decide) (by decide) (by decide) (by decide)).trans hf_wd), ((hk 2 (by decide) (by decide) (by decide) (by decide) (by decide) (by decide) (by decide) (by decide)).trans hf_my), (hq_my), (y_J_fr hy_ce (hk 3 (by decide) (by decide) (by decide) (by decide) (by decide) (by decide) (by decide) (by decide))), (y_J_fr hy_mv (hk 4 (by decide) (by decide) (by decide) (by decide) (by decide) (by decide) (by decide) (by decide))), (y_A_fr hy_ta (hk 5 (by decide) (by decide) (by decide) (by decide) (by decide) (by decide) (by decide) (by decide))), (⟨_, ha_li, fun _ => trivial⟩), (⟨_, ha_st, nq_st⟩), (⟨_, ha_fo, fun _ => trivial⟩), (⟨_, ha_dr, nq_dr⟩), (y_A_fr hy_ro (hk 13 (by decide) (by decide) (by decide) (by decide) (by decide) (by decide) (by decide) (by decide))), (y_A_fr hy_ct (hk 14 (by decide) (by decide) (by decide) (by decide) (by decide) (by decide) (by decide) (by decide))), (y_A_fr hy_se (hk 15 (by decide) (by decide) (by decide) (by decide) (by decide) (by decide) (by decide) (by decide))), (y_A_fr hy_th (hk 16 (by decide) (by decide) (by decide) (by decide) (by decide) (by decide) (by decide) (by decide))), (y_A_fr hy_cn (hk 17 (by decide) (by decide) (by decide) (by decide) (by decide) (by decide) (by decide) (by decide))), (y_A_fr hy_be (hk 18 (by decide) (by decide) (by decide) (by decide) (by decide) (by decide) (by decide) (by decide))), (y_A_fr hy_du (hk 19 (by decide) (by decide) (by decide) (by decide) (by decide) (by decide) (by decide) (by decide))), (y_A_fr hy_db (hk 20 (by decide) (by decide) (by decide) (by decide) (by decide) (by decide) (by decide) (by decide))), (y_A_fr hy_pn (hk 21 (by decide) (by decide) (by decide) (by decide) (by decide) (by decide) (by decide) (by decide))), (y_A_fr hy_wg (hk 22 (by decide) (by decide) (by decide) (by decide) (by decide) (by decide) (by decide) (by decide))), (y_A_fr hy_wh (hk 23 (by decide) (by decide) (by decide) (by decide) (by decide) (by decide) (by decide) (by decide))), (y_A_fr hy_tn (hk 24 (by decide) (by decide) (by decide) (by decide) (by decide) (by decide) (by decide) (by decide))), (y_A_fr hy_he (hk 25 (by decide) (by decide) (by decide) (by decide) (by decide) (by decide) (by decide) (by decide))), (y_A_fr hy_tr (hk 26 (by decide) (by decide) (by decide) (by decide) (by decide) (by decide) (by decide) (by decide))), (y_A_fr hy_fd (hk 27 (by decide) (by decide) (by decide) (by decide) (by decide) (by decide) (by decide) (by decide))), (y_A_fr hy_po (hk 28 (by decide) (by decide) (by decide) (by decide) (by decide) (by decide) (by decide) (by decide)))⟩

set_option maxHeartbeats 4000000 in
set_option maxRecDepth 100000 in
theorem s_X10_fault (l : Launch) {D : va_G} {cy : Nat → ClassId} {L : List Nat} {f : Nat → va_E} {sz : Nat} {adK adV : Nat → Nat} {bd : Nat → Nat} {gik gwd gmy : Nat → Int32} {wt : Int32} (hS : z_SM L f cy bd gik gwd gmy) : Met l yX10_fault (z_ws yX10_fault cX10_fault 2 (some .int)) (z_R 1 0 0) (va_Pc [.ref (bd 0), .int wt] (z_Pre D vwCl (z_KK D cy adK adV) L f sz)) (z_Qi D vwCl (fun r u => L = u.1 ∧ (∀ b ∈ L, (∀ i : Nat, i < 29 → b ≠ bd i) → u.2 b = f b) ∧ (z_SM L u.2 cy bd gik gwd gmy)) L sz) 0 0 (z_A L sz) := by
  obtain ⟨hm, hJ, h0_, hH_, hf_ik, hf_wd, hf_my, hq_my, hy_ce, hy_mv, hy_ta, hy_li, hy_st, hy_fo, hy_dr, hy_ro, hy_ct, hy_se, hy_th, hy_cn, hy_be, hy_du, hy_db, hy_pn, hy_wg, hy_wh, hy_tn, hy_he, hy_tr, hy_fd, hy_po⟩ := hS
  have h1_ := h0_
  obtain ⟨m0, m6, m7, m8, m9, m10, m12, m13, m14, m15, m22, m24, m25, m27, m28, m30, m36, m38, m40, m41, m42, m48, m52, m53, m11, m26, hf_mm, htp, hxx, hbg, hbh⟩ := h1_
  refine z_weak (c_X10_fault l (hm 0 (by decide)) hf_mm) ?_
  rintro r ⟨L2, F2⟩ ⟨hsb, hfm, ha_mm, hp⟩
  obtain rfl : L = L2 := hsb
  have hk : ∀ i : Nat, i < 29 → i ≠ 0 → F2 (bd i) = f (bd i) := fun i hi h0 => hfm _ (hm i hi) (fun h => h0 (hJ _ _ hi (by decide) h))
  refine ⟨rfl, fun b hb h => hfm b hb (h 0 (by decide)), ?_⟩
  exact ⟨hm, hJ, (⟨0, m6, m7, m8, m9, m10, m12, m13, m14, m15, m22, m24, m25, m27, m28, m30, m36, m38, m40, m41, m42, m48, m52, m53, m11, m26, ha_mm, (by first | assumption | omega | decide), (by first | assumption | omega | decide), (by first | assumption | omega | decide), (by first | assumption | omega | decide)⟩), (y_H_fr hH_ (hk 7 (by decide) (by decide)) (hk 8 (by decide) (by decide))), ((hk 12 (by decide) (by decide)).trans hf_ik), ((hk 1 (by decide) (by decide)).trans hf_wd), ((hk 2 (by decide) (by decide)).trans hf_my), (hq_my), (y_J_fr hy_ce (hk 3 (by decide) (by decide))), (y_J_fr hy_mv (hk 4 (by decide) (by decide))), (y_A_fr hy_ta (hk 5 (by decide) (by decide))), (y_A_fr hy_li (hk 6 (by decide) (by decide))), (y_A_fr hy_st (hk 9 (by decide) (by decide))), (y_A_fr hy_fo (hk 10 (by decide) (by decide))), (y_A_fr hy_dr (hk 11 (by decide) (by decide))), (y_A_fr hy_ro (hk 13 (by decide) (by decide))), (y_A_fr hy_ct (hk 14 (by decide) (by decide))), (y_A_fr hy_se (hk 15 (by decide) (by decide))), (y_A_fr hy_th (hk 16 (by decide) (by decide))), (y_A_fr hy_cn (hk 17 (by decide) (by decide))), (y_A_fr hy_be (hk 18 (by decide) (by decide))), (y_A_fr hy_du (hk 19 (by decide) (by decide))), (y_A_fr hy_db (hk 20 (by decide) (by decide))), (y_A_fr hy_pn (hk 21 (by decide) (by decide))), (y_A_fr hy_wg (hk 22 (by decide) (by decide))), (y_A_fr hy_wh (hk 23 (by decide) (by decide))), (y_A_fr hy_tn (hk 24 (by decide) (by decide))), (y_A_fr hy_he (hk 25 (by decide) (by decide))), (y_A_fr hy_tr (hk 26 (by decide) (by decide))), (y_A_fr hy_fd (hk 27 (by decide) (by decide))), (y_A_fr hy_po (hk 28 (by decide) (by decide)))⟩

set_option maxHeartbeats 4000000 in
set_option maxRecDepth 100000 in
theorem s_X10_drive (l : Launch) {D : va_G} {cy : Nat → ClassId} {L : List Nat} {f : Nat → va_E} {sz : Nat} {adK adV : Nat → Nat} {bd : Nat → Nat} {gik gwd gmy : Nat → Int32} {kk : Int32} {wt : Int32} (hS : z_SM L f cy bd gik gwd gmy) : Met l yX10_drive (z_ws yX10_drive cX10_drive 3 (some .int)) (z_R 3 0 0) (va_Pc [.ref (bd 0), .int kk, .int wt] (z_Pre D vwCl (z_KK D cy adK adV) L f sz)) (z_Qi D vwCl (fun r u => L = u.1 ∧ (∀ b ∈ L, (∀ i : Nat, i < 29 → b ≠ bd i) → u.2 b = f b) ∧ (z_SM L u.2 cy bd gik gwd gmy)) L sz) 0 0 (z_A L sz) := by
  obtain ⟨hm, hJ, h0_, hH_, hf_ik, hf_wd, hf_my, hq_my, hy_ce, hy_mv, hy_ta, hy_li, hy_st, hy_fo, hy_dr, hy_ro, hy_ct, hy_se, hy_th, hy_cn, hy_be, hy_du, hy_db, hy_pn, hy_wg, hy_wh, hy_tn, hy_he, hy_tr, hy_fd, hy_po⟩ := hS
  have h1_ := h0_
  obtain ⟨m0, m6, m7, m8, m9, m10, m12, m13, m14, m15, m22, m24, m25, m27, m28, m30, m36, m38, m40, m41, m42, m48, m52, m53, m11, m26, hf_mm, htp, hxx, hbg, hbh⟩ := h1_
  have h2_ := hH_
  obtain ⟨gha, glw, hf_ha, hf_lw, hq_ha, hq_lw, hea⟩ := h2_
  have h3_ := hy_dr
  obtain ⟨gdr, hf_dr, hq_dr⟩ := h3_
  refine z_weak (c_X10_drive l (hm 0 (by decide)) (hm 7 (by decide)) (hm 11 (by decide)) hf_mm hf_ha hf_dr hq_ha hq_dr) ?_
  rintro r ⟨L2, F2⟩ ⟨hsb, hfm, ha_mm, hp⟩
  obtain rfl : L = L2 := hsb
  have hk : ∀ i : Nat, i < 29 → i ≠ 0 → F2 (bd i) = f (bd i) := fun i hi h0 => hfm _ (hm i hi) (fun h => h0 (hJ _ _ hi (by decide) h))
  refine ⟨rfl, fun b hb h => hfm b hb (h 0 (by decide)), ?_⟩
  exact ⟨hm, hJ, (⟨0, m6, m7, m8, m9, m10, m12, m13, m14, m15, m22, m24, m25, m27, m28, m30, m36, m38, m40, m41, m42, m48, m52, m53, m11, m26, ha_mm, (by first | assumption | omega | decide), (by first | assumption | omega | decide), (by first | assumption | omega | decide), (by first | assumption | omega | decide)⟩), (y_H_fr hH_ (hk 7 (by decide) (by decide)) (hk 8 (by decide) (by decide))), ((hk 12 (by decide) (by decide)).trans hf_ik), ((hk 1 (by decide) (by decide)).trans hf_wd), ((hk 2 (by decide) (by decide)).trans hf_my), (hq_my), (y_J_fr hy_ce (hk 3 (by decide) (by decide))), (y_J_fr hy_mv (hk 4 (by decide) (by decide))), (y_A_fr hy_ta (hk 5 (by decide) (by decide))), (y_A_fr hy_li (hk 6 (by decide) (by decide))), (y_A_fr hy_st (hk 9 (by decide) (by decide))), (y_A_fr hy_fo (hk 10 (by decide) (by decide))), (y_A_fr hy_dr (hk 11 (by decide) (by decide))), (y_A_fr hy_ro (hk 13 (by decide) (by decide))), (y_A_fr hy_ct (hk 14 (by decide) (by decide))), (y_A_fr hy_se (hk 15 (by decide) (by decide))), (y_A_fr hy_th (hk 16 (by decide) (by decide))), (y_A_fr hy_cn (hk 17 (by decide) (by decide))), (y_A_fr hy_be (hk 18 (by decide) (by decide))), (y_A_fr hy_du (hk 19 (by decide) (by decide))), (y_A_fr hy_db (hk 20 (by decide) (by decide))), (y_A_fr hy_pn (hk 21 (by decide) (by decide))), (y_A_fr hy_wg (hk 22 (by decide) (by decide))), (y_A_fr hy_wh (hk 23 (by decide) (by decide))), (y_A_fr hy_tn (hk 24 (by decide) (by decide))), (y_A_fr hy_he (hk 25 (by decide) (by decide))), (y_A_fr hy_tr (hk 26 (by decide) (by decide))), (y_A_fr hy_fd (hk 27 (by decide) (by decide))), (y_A_fr hy_po (hk 28 (by decide) (by decide)))⟩

set_option maxHeartbeats 4000000 in
set_option maxRecDepth 100000 in
theorem s_X10_goes (l : Launch) {D : va_G} {cy : Nat → ClassId} {L : List Nat} {f : Nat → va_E} {sz : Nat} {adK adV : Nat → Nat} {bd : Nat → Nat} {gik gwd gmy : Nat → Int32} {kk : Int32} (hS : z_SM L f cy bd gik gwd gmy) : Met l yX10_goes (z_ws yX10_goes cX10_goes 2 (some .int)) (z_R 3 0 0) (va_Pc [.ref (bd 0), .int kk] (z_Pre D vwCl (z_KK D cy adK adV) L f sz)) (z_Qi D vwCl (fun r u => L = u.1 ∧ (∀ b ∈ L, (∀ i : Nat, i < 29 → b ≠ bd i) → u.2 b = f b) ∧ (z_SM L u.2 cy bd gik gwd gmy)) L sz) 0 0 (z_A L sz) := by
  obtain ⟨hm, hJ, h0_, hH_, hf_ik, hf_wd, hf_my, hq_my, hy_ce, hy_mv, hy_ta, hy_li, hy_st, hy_fo, hy_dr, hy_ro, hy_ct, hy_se, hy_th, hy_cn, hy_be, hy_du, hy_db, hy_pn, hy_wg, hy_wh, hy_tn, hy_he, hy_tr, hy_fd, hy_po⟩ := hS
  have h1_ := h0_
  obtain ⟨m0, m6, m7, m8, m9, m10, m12, m13, m14, m15, m22, m24, m25, m27, m28, m30, m36, m38, m40, m41, m42, m48, m52, m53, m11, m26, hf_mm, htp, hxx, hbg, hbh⟩ := h1_
  have h2_ := hH_
  obtain ⟨gha, glw, hf_ha, hf_lw, hq_ha, hq_lw, hea⟩ := h2_
  have h3_ := hy_dr
  obtain ⟨gdr, hf_dr, hq_dr⟩ := h3_
  refine z_weak (c_X10_goes l (hm 0 (by decide)) (hm 7 (by decide)) (hm 11 (by decide)) hf_mm hf_ha hf_dr hq_ha hq_dr) ?_
  rintro r ⟨L2, F2⟩ ⟨hsb, hfm, ha_mm, hp⟩
  obtain rfl : L = L2 := hsb
  have hk : ∀ i : Nat, i < 29 → i ≠ 0 → F2 (bd i) = f (bd i) := fun i hi h0 => hfm _ (hm i hi) (fun h => h0 (hJ _ _ hi (by decide) h))
  refine ⟨rfl, fun b hb h => hfm b hb (h 0 (by decide)), ?_⟩
  exact ⟨hm, hJ, (⟨0, m6, m7, m8, m9, m10, m12, m13, m14, m15, m22, m24, m25, m27, m28, m30, m36, m38, m40, m41, m42, m48, m52, m53, m11, m26, ha_mm, (by first | assumption | omega | decide), (by first | assumption | omega | decide), (by first | assumption | omega | decide), (by first | assumption | omega | decide)⟩), (y_H_fr hH_ (hk 7 (by decide) (by decide)) (hk 8 (by decide) (by decide))), ((hk 12 (by decide) (by decide)).trans hf_ik), ((hk 1 (by decide) (by decide)).trans hf_wd), ((hk 2 (by decide) (by decide)).trans hf_my), (hq_my), (y_J_fr hy_ce (hk 3 (by decide) (by decide))), (y_J_fr hy_mv (hk 4 (by decide) (by decide))), (y_A_fr hy_ta (hk 5 (by decide) (by decide))), (y_A_fr hy_li (hk 6 (by decide) (by decide))), (y_A_fr hy_st (hk 9 (by decide) (by decide))), (y_A_fr hy_fo (hk 10 (by decide) (by decide))), (y_A_fr hy_dr (hk 11 (by decide) (by decide))), (y_A_fr hy_ro (hk 13 (by decide) (by decide))), (y_A_fr hy_ct (hk 14 (by decide) (by decide))), (y_A_fr hy_se (hk 15 (by decide) (by decide))), (y_A_fr hy_th (hk 16 (by decide) (by decide))), (y_A_fr hy_cn (hk 17 (by decide) (by decide))), (y_A_fr hy_be (hk 18 (by decide) (by decide))), (y_A_fr hy_du (hk 19 (by decide) (by decide))), (y_A_fr hy_db (hk 20 (by decide) (by decide))), (y_A_fr hy_pn (hk 21 (by decide) (by decide))), (y_A_fr hy_wg (hk 22 (by decide) (by decide))), (y_A_fr hy_wh (hk 23 (by decide) (by decide))), (y_A_fr hy_tn (hk 24 (by decide) (by decide))), (y_A_fr hy_he (hk 25 (by decide) (by decide))), (y_A_fr hy_tr (hk 26 (by decide) (by decide))), (y_A_fr hy_fd (hk 27 (by decide) (by decide))), (y_A_fr hy_po (hk 28 (by decide) (by decide)))⟩

set_option maxHeartbeats 4000000 in
set_option maxRecDepth 100000 in
theorem s_X10_law (l : Launch) {D : va_G} {cy : Nat → ClassId} {L : List Nat} {f : Nat → va_E} {sz : Nat} {adK adV : Nat → Nat} {bd : Nat → Nat} {gik gwd gmy : Nat → Int32} {wt : Int32} {nn : Int32} (hS : z_SM L f cy bd gik gwd gmy) : Met l yX10_law (z_ws yX10_law cX10_law 4 (some .int)) (z_R 2 0 0) (va_Pc [.ref (bd 0), .int wt, .int nn] (z_Pre D vwCl (z_KK D cy adK adV) L f sz)) (z_Qi D vwCl (fun r u => L = u.1 ∧ (∀ b ∈ L, (∀ i : Nat, i < 29 → b ≠ bd i) → u.2 b = f b) ∧ (z_SM L u.2 cy bd gik gwd gmy)) L sz) 0 0 (z_A L sz) := by
  obtain ⟨hm, hJ, h0_, hH_, hf_ik, hf_wd, hf_my, hq_my, hy_ce, hy_mv, hy_ta, hy_li, hy_st, hy_fo, hy_dr, hy_ro, hy_ct, hy_se, hy_th, hy_cn, hy_be, hy_du, hy_db, hy_pn, hy_wg, hy_wh, hy_tn, hy_he, hy_tr, hy_fd, hy_po⟩ := hS
  have h1_ := h0_
  obtain ⟨m0, m6, m7, m8, m9, m10, m12, m13, m14, m15, m22, m24, m25, m27, m28, m30, m36, m38, m40, m41, m42, m48, m52, m53, m11, m26, hf_mm, htp, hxx, hbg, hbh⟩ := h1_
  have h2_ := hH_
  obtain ⟨gha, glw, hf_ha, hf_lw, hq_ha, hq_lw, hea⟩ := h2_
  have h3_ := hy_li
  obtain ⟨gli, hf_li, hq_li⟩ := h3_
  refine z_weak (c_X10_law l (hm 0 (by decide)) (hm 6 (by decide)) (hm 8 (by decide)) (hm 7 (by decide)) hf_mm hf_li hf_lw hf_ha hq_lw hq_ha hea) ?_
  rintro r ⟨L2, F2⟩ ⟨hsb, hfm, nlw, ha_mm, ha_lw, nq_lw, hp⟩
  obtain rfl : L = L2 := hsb
  have hk : ∀ i : Nat, i < 29 → i ≠ 0 → i ≠ 8 → F2 (bd i) = f (bd i) := fun i hi h0 h8 => hfm _ (hm i hi) (fun h => h0 (hJ _ _ hi (by decide) h)) (fun h => h8 (hJ _ _ hi (by decide) h))
  refine ⟨rfl, fun b hb h => hfm b hb (h 0 (by decide)) (h 8 (by decide)), ?_⟩
  exact ⟨hm, hJ, (⟨0, m6, m7, m8, m9, m10, m12, m13, m14, m15, m22, m24, m25, m27, m28, m30, m36, m38, m40, m41, m42, m48, m52, m53, m11, m26, ha_mm, (by first | assumption | omega | decide), (by first | assumption | omega | decide), (by first | assumption | omega | decide), (by first | assumption | omega | decide)⟩), (⟨gha, nlw, (hk 7 (by decide) (by decide) (by decide)).trans hf_ha, ha_lw, hq_ha, nq_lw, (by first | exact hp | exact hp.1 | exact hp.2)⟩), ((hk 12 (by decide) (by decide) (by decide)).trans hf_ik), ((hk 1 (by decide) (by decide) (by decide)).trans hf_wd), ((hk 2 (by decide) (by decide) (by decide)).trans hf_my), (hq_my), (y_J_fr hy_ce (hk 3 (by decide) (by decide) (by decide))), (y_J_fr hy_mv (hk 4 (by decide) (by decide) (by decide))), (y_A_fr hy_ta (hk 5 (by decide) (by decide) (by decide))), (y_A_fr hy_li (hk 6 (by decide) (by decide) (by decide))), (y_A_fr hy_st (hk 9 (by decide) (by decide) (by decide))), (y_A_fr hy_fo (hk 10 (by decide) (by decide) (by decide))), (y_A_fr hy_dr (hk 11 (by decide) (by decide) (by decide))), (y_A_fr hy_ro (hk 13 (by decide) (by decide) (by decide))), (y_A_fr hy_ct (hk 14 (by decide) (by decide) (by decide))), (y_A_fr hy_se (hk 15 (by decide) (by decide) (by decide))), (y_A_fr hy_th (hk 16 (by decide) (by decide) (by decide))), (y_A_fr hy_cn (hk 17 (by decide) (by decide) (by decide))), (y_A_fr hy_be (hk 18 (by decide) (by decide) (by decide))), (y_A_fr hy_du (hk 19 (by decide) (by decide) (by decide))), (y_A_fr hy_db (hk 20 (by decide) (by decide) (by decide))), (y_A_fr hy_pn (hk 21 (by decide) (by decide) (by decide))), (y_A_fr hy_wg (hk 22 (by decide) (by decide) (by decide))), (y_A_fr hy_wh (hk 23 (by decide) (by decide) (by decide))), (y_A_fr hy_tn (hk 24 (by decide) (by decide) (by decide))), (y_A_fr hy_he (hk 25 (by decide) (by decide) (by decide))), (y_A_fr hy_tr (hk 26 (by decide) (by decide) (by decide))), (y_A_fr hy_fd (hk 27 (by decide) (by decide) (by decide))), (y_A_fr hy_po (hk 28 (by decide) (by decide) (by decide)))⟩

set_option maxHeartbeats 4000000 in
set_option maxRecDepth 100000 in
theorem s_X10_sets (l : Launch) {D : va_G} {cy : Nat → ClassId} {L : List Nat} {f : Nat → va_E} {sz : Nat} {adK adV : Nat → Nat} {bd : Nat → Nat} {gik gwd gmy : Nat → Int32} {kk : Int32} {ga : Int32} {ho : Int32} (hS : z_SM L f cy bd gik gwd gmy) : Met l yX10_sets (z_ws yX10_sets cX10_sets 5 (some .int)) (z_R 3 0 0) (va_Pc [.ref (bd 0), .int kk, .int ga, .int ho] (z_Pre D vwCl (z_KK D cy adK adV) L f sz)) (z_Qi D vwCl (fun r u => L = u.1 ∧ (∀ b ∈ L, (∀ i : Nat, i < 29 → b ≠ bd i) → u.2 b = f b) ∧ (z_SM L u.2 cy bd gik gwd gmy)) L sz) 0 0 (z_A L sz) := by
  obtain ⟨hm, hJ, h0_, hH_, hf_ik, hf_wd, hf_my, hq_my, hy_ce, hy_mv, hy_ta, hy_li, hy_st, hy_fo, hy_dr, hy_ro, hy_ct, hy_se, hy_th, hy_cn, hy_be, hy_du, hy_db, hy_pn, hy_wg, hy_wh, hy_tn, hy_he, hy_tr, hy_fd, hy_po⟩ := hS
  have h1_ := h0_
  obtain ⟨m0, m6, m7, m8, m9, m10, m12, m13, m14, m15, m22, m24, m25, m27, m28, m30, m36, m38, m40, m41, m42, m48, m52, m53, m11, m26, hf_mm, htp, hxx, hbg, hbh⟩ := h1_
  have h2_ := hH_
  obtain ⟨gha, glw, hf_ha, hf_lw, hq_ha, hq_lw, hea⟩ := h2_
  have h3_ := hy_dr
  obtain ⟨gdr, hf_dr, hq_dr⟩ := h3_
  refine z_weak (c_X10_sets l (hm 0 (by decide)) (hm 7 (by decide)) (hm 11 (by decide)) hf_mm hf_ha hf_dr hq_ha hq_dr) ?_
  rintro r ⟨L2, F2⟩ ⟨hsb, hfm, ndr, ha_mm, ha_dr, nq_dr, hp⟩
  obtain rfl : L = L2 := hsb
  have hk : ∀ i : Nat, i < 29 → i ≠ 0 → i ≠ 11 → F2 (bd i) = f (bd i) := fun i hi h0 h11 => hfm _ (hm i hi) (fun h => h0 (hJ _ _ hi (by decide) h)) (fun h => h11 (hJ _ _ hi (by decide) h))
  refine ⟨rfl, fun b hb h => hfm b hb (h 0 (by decide)) (h 11 (by decide)), ?_⟩
  exact ⟨hm, hJ, (⟨0, m6, m7, m8, m9, m10, m12, m13, m14, m15, m22, m24, m25, m27, m28, m30, m36, m38, m40, m41, m42, m48, m52, m53, m11, m26, ha_mm, (by first | assumption | omega | decide), (by first | assumption | omega | decide), (by first | assumption | omega | decide), (by first | assumption | omega | decide)⟩), (y_H_fr hH_ (hk 7 (by decide) (by decide) (by decide)) (hk 8 (by decide) (by decide) (by decide))), ((hk 12 (by decide) (by decide) (by decide)).trans hf_ik), ((hk 1 (by decide) (by decide) (by decide)).trans hf_wd), ((hk 2 (by decide) (by decide) (by decide)).trans hf_my), (hq_my), (y_J_fr hy_ce (hk 3 (by decide) (by decide) (by decide))), (y_J_fr hy_mv (hk 4 (by decide) (by decide) (by decide))), (y_A_fr hy_ta (hk 5 (by decide) (by decide) (by decide))), (y_A_fr hy_li (hk 6 (by decide) (by decide) (by decide))), (y_A_fr hy_st (hk 9 (by decide) (by decide) (by decide))), (y_A_fr hy_fo (hk 10 (by decide) (by decide) (by decide))), (⟨_, ha_dr, nq_dr⟩), (y_A_fr hy_ro (hk 13 (by decide) (by decide) (by decide))), (y_A_fr hy_ct (hk 14 (by decide) (by decide) (by decide))), (y_A_fr hy_se (hk 15 (by decide) (by decide) (by decide))), (y_A_fr hy_th (hk 16 (by decide) (by decide) (by decide))), (y_A_fr hy_cn (hk 17 (by decide) (by decide) (by decide))), (y_A_fr hy_be (hk 18 (by decide) (by decide) (by decide))), (y_A_fr hy_du (hk 19 (by decide) (by decide) (by decide))), (y_A_fr hy_db (hk 20 (by decide) (by decide) (by decide))), (y_A_fr hy_pn (hk 21 (by decide) (by decide) (by decide))), (y_A_fr hy_wg (hk 22 (by decide) (by decide) (by decide))), (y_A_fr hy_wh (hk 23 (by decide) (by decide) (by decide))), (y_A_fr hy_tn (hk 24 (by decide) (by decide) (by decide))), (y_A_fr hy_he (hk 25 (by decide) (by decide) (by decide))), (y_A_fr hy_tr (hk 26 (by decide) (by decide) (by decide))), (y_A_fr hy_fd (hk 27 (by decide) (by decide) (by decide))), (y_A_fr hy_po (hk 28 (by decide) (by decide) (by decide)))⟩

set_option maxHeartbeats 4000000 in
set_option maxRecDepth 100000 in
theorem s_X10_counter (l : Launch) {D : va_G} {cy : Nat → ClassId} {L : List Nat} {f : Nat → va_E} {sz : Nat} {adK adV : Nat → Nat} {bd : Nat → Nat} {gik gwd gmy : Nat → Int32} {ga : Int32} {dy : Int32} {ho : Int32} (hS : z_SM L f cy bd gik gwd gmy) : Met l yX10_counter (z_ws yX10_counter cX10_counter 4 (some .int)) (z_R 6 0 0) (va_Pc [.ref (bd 0), .int ga, .int dy, .int ho] (z_Pre D vwCl (z_KK D cy adK adV) L f sz)) (z_Qi D vwCl (fun r u => L = u.1 ∧ (∀ b ∈ L, (∀ i : Nat, i < 29 → b ≠ bd i) → u.2 b = f b) ∧ (z_SM L u.2 cy bd gik gwd gmy)) L sz) 0 0 (z_A L sz) := by
  obtain ⟨hm, hJ, h0_, hH_, hf_ik, hf_wd, hf_my, hq_my, hy_ce, hy_mv, hy_ta, hy_li, hy_st, hy_fo, hy_dr, hy_ro, hy_ct, hy_se, hy_th, hy_cn, hy_be, hy_du, hy_db, hy_pn, hy_wg, hy_wh, hy_tn, hy_he, hy_tr, hy_fd, hy_po⟩ := hS
  have h1_ := h0_
  obtain ⟨m0, m6, m7, m8, m9, m10, m12, m13, m14, m15, m22, m24, m25, m27, m28, m30, m36, m38, m40, m41, m42, m48, m52, m53, m11, m26, hf_mm, htp, hxx, hbg, hbh⟩ := h1_
  have h2_ := hH_
  obtain ⟨gha, glw, hf_ha, hf_lw, hq_ha, hq_lw, hea⟩ := h2_
  have h3_ := hy_dr
  obtain ⟨gdr, hf_dr, hq_dr⟩ := h3_
  have h3_ := hy_ro
  obtain ⟨gro, hf_ro, hq_ro⟩ := h3_
  have h3_ := hy_st
  obtain ⟨gst, hf_st, hq_st⟩ := h3_
  have h3_ := hy_ct
  obtain ⟨gct, hf_ct, hq_ct⟩ := h3_
  have h3_ := hy_se
  obtain ⟨gse, hf_se, hq_se⟩ := h3_
  have h3_ := hy_th
  obtain ⟨gth, hf_th, hq_th⟩ := h3_
  have h3_ := hy_cn
  obtain ⟨gcn, hf_cn, hq_cn⟩ := h3_
  have h3_ := hy_db
  obtain ⟨gdb, hf_db, hq_db⟩ := h3_
  have h3_ := hy_be
  obtain ⟨gbe, hf_be, hq_be⟩ := h3_
  have h3_ := hy_du
  obtain ⟨gdu, hf_du, hq_du⟩ := h3_
  have h3_ := hy_fo
  obtain ⟨gfo, hf_fo, hq_fo⟩ := h3_
  refine z_weak (c_X10_counter l (hm 0 (by decide)) (hm 7 (by decide)) (hm 11 (by decide)) (hm 13 (by decide)) (hm 8 (by decide)) (hm 9 (by decide)) (hm 14 (by decide)) (hm 15 (by decide)) (hm 16 (by decide)) (hm 17 (by decide)) (hm 20 (by decide)) (hm 18 (by decide)) (hm 19 (by decide)) (hm 10 (by decide)) hf_mm hf_ha hf_dr hf_ro hf_lw hf_st hf_ct hf_se hf_th hf_cn hf_db hf_be hf_du hf_fo (fun h => absurd (hJ _ _ (by decide) (by decide) h) (by decide)) (fun h => absurd (hJ _ _ (by decide) (by decide) h) (by decide)) (fun h => absurd (hJ _ _ (by decide) (by decide) h) (by decide)) hq_ha hq_dr hq_ro hq_lw hq_st hq_ct hq_be hq_du (by first | assumption | omega) hea) ?_
  rintro r ⟨L2, F2⟩ ⟨hsb, hfm, o2, mn2, i2, u2, n2, d2, y2, x2, nro, nct, nse, nth, ncn, ndb, nbe, ndu, ha_mm, ha_ro, ha_ct, ha_se, ha_th, ha_cn, ha_db, ha_be, ha_du, nq_ro, nq_ct, nq_be, nq_du, hp⟩
  obtain rfl : L = L2 := hsb
  have hk : ∀ i : Nat, i < 29 → i ≠ 0 → i ≠ 13 → i ≠ 14 → i ≠ 15 → i ≠ 16 → i ≠ 17 → i ≠ 20 → i ≠ 18 → i ≠ 19 → F2 (bd i) = f (bd i) := fun i hi h0 h13 h14 h15 h16 h17 h20 h18 h19 => hfm _ (hm i hi) (fun h => h0 (hJ _ _ hi (by decide) h)) (fun h => h13 (hJ _ _ hi (by decide) h)) (fun h => h14 (hJ _ _ hi (by decide) h)) (fun h => h15 (hJ _ _ hi (by decide) h)) (fun h => h16 (hJ _ _ hi (by decide) h)) (fun h => h17 (hJ _ _ hi (by decide) h)) (fun h => h20 (hJ _ _ hi (by decide) h)) (fun h => h18 (hJ _ _ hi (by decide) h)) (fun h => h19 (hJ _ _ hi (by decide) h))
  refine ⟨rfl, fun b hb h => hfm b hb (h 0 (by decide)) (h 13 (by decide)) (h 14 (by decide)) (h 15 (by decide)) (h 16 (by decide)) (h 17 (by decide)) (h 20 (by decide)) (h 18 (by decide)) (h 19 (by decide)), ?_⟩
  exact ⟨hm, hJ, (⟨0, m6, m7, m8, m9, m10, m12, m13, m14, m15, m22, o2, mn2, i2, u2, n2, y2, d2, m40, m41, m42, m48, m52, m53, m11, x2, ha_mm, (by first | assumption | omega | decide), (by first | assumption | omega | decide), (by first | assumption | omega | decide), (by first | assumption | omega | decide)⟩), (y_H_fr hH_ (hk 7 (by decide) (by decide) (by decide) (by decide) (by decide) (by decide) (by decide) (by decide) (by decide) (by decide)) (hk 8 (by decide) (by decide) (by decide) (by decide) (by decide) (by decide) (by decide) (by decide) (by decide) (by decide))), ((hk 12 (by decide) (by decide) (by decide) (by decide) (by decide) (by decide) (by decide) (by decide) (by decide) (by decide)).trans hf_ik), ((hk 1 (by decide) (by decide) (by decide) (by decide) (by decide) (by decide) (by decide) (by decide) (by decide) (by decide)).trans hf_wd), ((hk 2 (by decide) (by decide) (by decide) (by decide) (by decide) (by decide) (by decide) (by decide) (by decide) (by decide)).trans hf_my), (hq_my), (y_J_fr hy_ce (hk 3 (by decide) (by decide) (by decide) (by decide) (by decide) (by decide) (by decide) (by decide) (by decide) (by decide))), (y_J_fr hy_mv (hk 4 (by decide) (by decide) (by decide) (by decide) (by decide) (by decide) (by decide) (by decide) (by decide) (by decide))), (y_A_fr hy_ta (hk 5 (by decide) (by decide) (by decide) (by decide) (by decide) (by decide) (by decide) (by decide) (by decide) (by decide))), (y_A_fr hy_li (hk 6 (by decide) (by decide) (by decide) (by decide) (by decide) (by decide) (by decide) (by decide) (by decide) (by decide))), (y_A_fr hy_st (hk 9 (by decide) (by decide) (by decide) (by decide) (by decide) (by decide) (by decide) (by decide) (by decide) (by decide))), (y_A_fr hy_fo (hk 10 (by decide) (by decide) (by decide) (by decide) (by decide) (by decide) (by decide) (by decide) (by decide) (by decide))), (y_A_fr hy_dr (hk 11 (by decide) (by decide) (by decide) (by decide) (by decide) (by decide) (by decide) (by decide) (by decide) (by decide))), (⟨_, ha_ro, nq_ro⟩), (⟨_, ha_ct, nq_ct⟩), (⟨_, ha_se, fun _ => trivial⟩), (⟨_, ha_th, fun _ => trivial⟩), (⟨_, ha_cn, fun _ => trivial⟩), (⟨_, ha_be, nq_be⟩), (⟨_, ha_du, nq_du⟩), (⟨_, ha_db, fun _ => trivial⟩), (y_A_fr hy_pn (hk 21 (by decide) (by decide) (by decide) (by decide) (by decide) (by decide) (by decide) (by decide) (by decide) (by decide))), (y_A_fr hy_wg (hk 22 (by decide) (by decide) (by decide) (by decide) (by decide) (by decide) (by decide) (by decide) (by decide) (by decide))), (y_A_fr hy_wh (hk 23 (by decide) (by decide) (by decide) (by decide) (by decide) (by decide) (by decide) (by decide) (by decide) (by decide))), (y_A_fr hy_tn (hk 24 (by decide) (by decide) (by decide) (by decide) (by decide) (by decide) (by decide) (by decide) (by decide) (by decide))), (y_A_fr hy_he (hk 25 (by decide) (by decide) (by decide) (by decide) (by decide) (by decide) (by decide) (by decide) (by decide) (by decide))), (y_A_fr hy_tr (hk 26 (by decide) (by decide) (by decide) (by decide) (by decide) (by decide) (by decide) (by decide) (by decide) (by decide))), (y_A_fr hy_fd (hk 27 (by decide) (by decide) (by decide) (by decide) (by decide) (by decide) (by decide) (by decide) (by decide) (by decide))), (y_A_fr hy_po (hk 28 (by decide) (by decide) (by decide) (by decide) (by decide) (by decide) (by decide) (by decide) (by decide) (by decide)))⟩

set_option maxHeartbeats 4000000 in
set_option maxRecDepth 100000 in
theorem s_X10_through (l : Launch) {D : va_G} {cy : Nat → ClassId} {L : List Nat} {f : Nat → va_E} {sz : Nat} {adK adV : Nat → Nat} {bd : Nat → Nat} {gik gwd gmy : Nat → Int32} {ga : Int32} {dy : Int32} {wt : Int32} (hS : z_SM L f cy bd gik gwd gmy) : Met l yX10_through (z_ws yX10_through cX10_through 4 (some .int)) (z_R 7 0 0) (va_Pc [.ref (bd 0), .int ga, .int dy, .int wt] (z_Pre D vwCl (z_KK D cy adK adV) L f sz)) (z_Qi D vwCl (fun r u => L = u.1 ∧ (∀ b ∈ L, (∀ i : Nat, i < 29 → b ≠ bd i) → u.2 b = f b) ∧ (z_SM L u.2 cy bd gik gwd gmy)) L sz) 0 0 (z_A L sz) := by
  obtain ⟨hm, hJ, h0_, hH_, hf_ik, hf_wd, hf_my, hq_my, hy_ce, hy_mv, hy_ta, hy_li, hy_st, hy_fo, hy_dr, hy_ro, hy_ct, hy_se, hy_th, hy_cn, hy_be, hy_du, hy_db, hy_pn, hy_wg, hy_wh, hy_tn, hy_he, hy_tr, hy_fd, hy_po⟩ := hS
  have h1_ := h0_
  obtain ⟨m0, m6, m7, m8, m9, m10, m12, m13, m14, m15, m22, m24, m25, m27, m28, m30, m36, m38, m40, m41, m42, m48, m52, m53, m11, m26, hf_mm, htp, hxx, hbg, hbh⟩ := h1_
  have h2_ := hH_
  obtain ⟨gha, glw, hf_ha, hf_lw, hq_ha, hq_lw, hea⟩ := h2_
  have h3_ := hy_dr
  obtain ⟨gdr, hf_dr, hq_dr⟩ := h3_
  have h3_ := hy_ro
  obtain ⟨gro, hf_ro, hq_ro⟩ := h3_
  have h3_ := hy_st
  obtain ⟨gst, hf_st, hq_st⟩ := h3_
  have h3_ := hy_ct
  obtain ⟨gct, hf_ct, hq_ct⟩ := h3_
  have h3_ := hy_se
  obtain ⟨gse, hf_se, hq_se⟩ := h3_
  have h3_ := hy_th
  obtain ⟨gth, hf_th, hq_th⟩ := h3_
  have h3_ := hy_cn
  obtain ⟨gcn, hf_cn, hq_cn⟩ := h3_
  have h3_ := hy_db
  obtain ⟨gdb, hf_db, hq_db⟩ := h3_
  have h3_ := hy_be
  obtain ⟨gbe, hf_be, hq_be⟩ := h3_
  have h3_ := hy_du
  obtain ⟨gdu, hf_du, hq_du⟩ := h3_
  have h3_ := hy_fo
  obtain ⟨gfo, hf_fo, hq_fo⟩ := h3_
  refine z_weak (c_X10_through l (hm 0 (by decide)) (hm 7 (by decide)) (hm 11 (by decide)) (hm 13 (by decide)) (hm 8 (by decide)) (hm 9 (by decide)) (hm 14 (by decide)) (hm 15 (by decide)) (hm 16 (by decide)) (hm 17 (by decide)) (hm 20 (by decide)) (hm 18 (by decide)) (hm 19 (by decide)) (hm 10 (by decide)) hf_mm hf_ha hf_dr hf_ro hf_lw hf_st hf_ct hf_se hf_th hf_cn hf_db hf_be hf_du hf_fo (fun h => absurd (hJ _ _ (by decide) (by decide) h) (by decide)) (fun h => absurd (hJ _ _ (by decide) (by decide) h) (by decide)) (fun h => absurd (hJ _ _ (by decide) (by decide) h) (by decide)) hq_ha hq_dr hq_ro hq_lw hq_st hq_ct hq_be hq_du (by first | assumption | omega) hea) ?_
  rintro r ⟨L2, F2⟩ ⟨hsb, hfm, o2, mn2, i2, u2, n2, d2, y2, x2, nro, nct, nse, nth, ncn, ndb, nbe, ndu, ha_mm, ha_ro, ha_ct, ha_se, ha_th, ha_cn, ha_db, ha_be, ha_du, nq_ro, nq_ct, nq_be, nq_du, hp⟩
  obtain rfl : L = L2 := hsb
  have hk : ∀ i : Nat, i < 29 → i ≠ 0 → i ≠ 13 → i ≠ 14 → i ≠ 15 → i ≠ 16 → i ≠ 17 → i ≠ 20 → i ≠ 18 → i ≠ 19 → F2 (bd i) = f (bd i) := fun i hi h0 h13 h14 h15 h16 h17 h20 h18 h19 => hfm _ (hm i hi) (fun h => h0 (hJ _ _ hi (by decide) h)) (fun h => h13 (hJ _ _ hi (by decide) h)) (fun h => h14 (hJ _ _ hi (by decide) h)) (fun h => h15 (hJ _ _ hi (by decide) h)) (fun h => h16 (hJ _ _ hi (by decide) h)) (fun h => h17 (hJ _ _ hi (by decide) h)) (fun h => h20 (hJ _ _ hi (by decide) h)) (fun h => h18 (hJ _ _ hi (by decide) h)) (fun h => h19 (hJ _ _ hi (by decide) h))
  refine ⟨rfl, fun b hb h => hfm b hb (h 0 (by decide)) (h 13 (by decide)) (h 14 (by decide)) (h 15 (by decide)) (h 16 (by decide)) (h 17 (by decide)) (h 20 (by decide)) (h 18 (by decide)) (h 19 (by decide)), ?_⟩
  exact ⟨hm, hJ, (⟨0, m6, m7, m8, m9, m10, m12, m13, m14, m15, m22, o2, mn2, i2, u2, n2, y2, d2, m40, m41, m42, m48, m52, m53, m11, x2, ha_mm, (by first | assumption | omega | decide), (by first | assumption | omega | decide), (by first | assumption | omega | decide), (by first | assumption | omega | decide)⟩), (y_H_fr hH_ (hk 7 (by decide) (by decide) (by decide) (by decide) (by decide) (by decide) (by decide) (by decide) (by decide) (by decide)) (hk 8 (by decide) (by decide) (by decide) (by decide) (by decide) (by decide) (by decide) (by decide) (by decide) (by decide))), ((hk 12 (by decide) (by decide) (by decide) (by decide) (by decide) (by decide) (by decide) (by decide) (by decide) (by decide)).trans hf_ik), ((hk 1 (by decide) (by decide) (by decide) (by decide) (by decide) (by decide) (by decide) (by decide) (by decide) (by decide)).trans hf_wd), ((hk 2 (by decide) (by decide) (by decide) (by decide) (by decide) (by decide) (by decide) (by decide) (by decide) (by decide)).trans hf_my), (hq_my), (y_J_fr hy_ce (hk 3 (by decide) (by decide) (by decide) (by decide) (by decide) (by decide) (by decide) (by decide) (by decide) (by decide))), (y_J_fr hy_mv (hk 4 (by decide) (by decide) (by decide) (by decide) (by decide) (by decide) (by decide) (by decide) (by decide) (by decide))), (y_A_fr hy_ta (hk 5 (by decide) (by decide) (by decide) (by decide) (by decide) (by decide) (by decide) (by decide) (by decide) (by decide))), (y_A_fr hy_li (hk 6 (by decide) (by decide) (by decide) (by decide) (by decide) (by decide) (by decide) (by decide) (by decide) (by decide))), (y_A_fr hy_st (hk 9 (by decide) (by decide) (by decide) (by decide) (by decide) (by decide) (by decide) (by decide) (by decide) (by decide))), (y_A_fr hy_fo (hk 10 (by decide) (by decide) (by decide) (by decide) (by decide) (by decide) (by decide) (by decide) (by decide) (by decide))), (y_A_fr hy_dr (hk 11 (by decide) (by decide) (by decide) (by decide) (by decide) (by decide) (by decide) (by decide) (by decide) (by decide))), (⟨_, ha_ro, nq_ro⟩), (⟨_, ha_ct, nq_ct⟩), (⟨_, ha_se, fun _ => trivial⟩), (⟨_, ha_th, fun _ => trivial⟩), (⟨_, ha_cn, fun _ => trivial⟩), (⟨_, ha_be, nq_be⟩), (⟨_, ha_du, nq_du⟩), (⟨_, ha_db, fun _ => trivial⟩), (y_A_fr hy_pn (hk 21 (by decide) (by decide) (by decide) (by decide) (by decide) (by decide) (by decide) (by decide) (by decide) (by decide))), (y_A_fr hy_wg (hk 22 (by decide) (by decide) (by decide) (by decide) (by decide) (by decide) (by decide) (by decide) (by decide) (by decide))), (y_A_fr hy_wh (hk 23 (by decide) (by decide) (by decide) (by decide) (by decide) (by decide) (by decide) (by decide) (by decide) (by decide))), (y_A_fr hy_tn (hk 24 (by decide) (by decide) (by decide) (by decide) (by decide) (by decide) (by decide) (by decide) (by decide) (by decide))), (y_A_fr hy_he (hk 25 (by decide) (by decide) (by decide) (by decide) (by decide) (by decide) (by decide) (by decide) (by decide) (by decide))), (y_A_fr hy_tr (hk 26 (by decide) (by decide) (by decide) (by decide) (by decide) (by decide) (by decide) (by decide) (by decide) (by decide))), (y_A_fr hy_fd (hk 27 (by decide) (by decide) (by decide) (by decide) (by decide) (by decide) (by decide) (by decide) (by decide) (by decide))), (y_A_fr hy_po (hk 28 (by decide) (by decide) (by decide) (by decide) (by decide) (by decide) (by decide) (by decide) (by decide) (by decide)))⟩

set_option maxHeartbeats 4000000 in
set_option maxRecDepth 100000 in
theorem s_X10_dues (l : Launch) {D : va_G} {cy : Nat → ClassId} {L : List Nat} {f : Nat → va_E} {sz : Nat} {adK adV : Nat → Nat} {bd : Nat → Nat} {gik gwd gmy : Nat → Int32}  (hS : z_SM L f cy bd gik gwd gmy) : Met l yX10_dues (z_ws yX10_dues cX10_dues 1 (some .int)) (z_R 7 0 0) (va_Pc [.ref (bd 0)] (z_Pre D vwCl (z_KK D cy adK adV) L f sz)) (z_Qi D vwCl (fun r u => L = u.1 ∧ (∀ b ∈ L, (∀ i : Nat, i < 29 → b ≠ bd i) → u.2 b = f b) ∧ (z_SM L u.2 cy bd gik gwd gmy)) L sz) 0 0 (z_A L sz) := by
  obtain ⟨hm, hJ, h0_, hH_, hf_ik, hf_wd, hf_my, hq_my, hy_ce, hy_mv, hy_ta, hy_li, hy_st, hy_fo, hy_dr, hy_ro, hy_ct, hy_se, hy_th, hy_cn, hy_be, hy_du, hy_db, hy_pn, hy_wg, hy_wh, hy_tn, hy_he, hy_tr, hy_fd, hy_po⟩ := hS
  have h1_ := h0_
  obtain ⟨m0, m6, m7, m8, m9, m10, m12, m13, m14, m15, m22, m24, m25, m27, m28, m30, m36, m38, m40, m41, m42, m48, m52, m53, m11, m26, hf_mm, htp, hxx, hbg, hbh⟩ := h1_
  have h2_ := hH_
  obtain ⟨gha, glw, hf_ha, hf_lw, hq_ha, hq_lw, hea⟩ := h2_
  have h3_ := hy_dr
  obtain ⟨gdr, hf_dr, hq_dr⟩ := h3_
  have h3_ := hy_ro
  obtain ⟨gro, hf_ro, hq_ro⟩ := h3_
  have h3_ := hy_st
  obtain ⟨gst, hf_st, hq_st⟩ := h3_
  have h3_ := hy_ct
  obtain ⟨gct, hf_ct, hq_ct⟩ := h3_
  have h3_ := hy_se
  obtain ⟨gse, hf_se, hq_se⟩ := h3_
  have h3_ := hy_th
  obtain ⟨gth, hf_th, hq_th⟩ := h3_
  have h3_ := hy_cn
  obtain ⟨gcn, hf_cn, hq_cn⟩ := h3_
  have h3_ := hy_db
  obtain ⟨gdb, hf_db, hq_db⟩ := h3_
  have h3_ := hy_be
  obtain ⟨gbe, hf_be, hq_be⟩ := h3_
  have h3_ := hy_du
  obtain ⟨gdu, hf_du, hq_du⟩ := h3_
  have h3_ := hy_fo
  obtain ⟨gfo, hf_fo, hq_fo⟩ := h3_
  have h3_ := hy_li
  obtain ⟨gli, hf_li, hq_li⟩ := h3_
  refine z_weak (c_X10_dues l (hm 0 (by decide)) (hm 7 (by decide)) (hm 11 (by decide)) (hm 13 (by decide)) (hm 8 (by decide)) (hm 9 (by decide)) (hm 14 (by decide)) (hm 15 (by decide)) (hm 16 (by decide)) (hm 17 (by decide)) (hm 20 (by decide)) (hm 18 (by decide)) (hm 19 (by decide)) (hm 10 (by decide)) (hm 6 (by decide)) hf_mm hf_ha hf_dr hf_ro hf_lw hf_st hf_ct hf_se hf_th hf_cn hf_db hf_be hf_du hf_fo hf_li (fun h => absurd (hJ _ _ (by decide) (by decide) h) (by decide)) (fun h => absurd (hJ _ _ (by decide) (by decide) h) (by decide)) (fun h => absurd (hJ _ _ (by decide) (by decide) h) (by decide)) (fun h => absurd (hJ _ _ (by decide) (by decide) h) (by decide)) hq_ha hq_dr hq_ro hq_lw hq_st hq_ct hq_be hq_du (by first | assumption | omega) hea) ?_
  rintro r ⟨L2, F2⟩ ⟨hsb, hfm, o2, mn2, i2, u2, n2, d2, y2, x2, nro, nct, nse, nth, ncn, ndb, nbe, ndu, ha_mm, ha_ro, ha_ct, ha_se, ha_th, ha_cn, ha_db, ha_be, ha_du, nq_ro, nq_ct, nq_be, nq_du, hp⟩
  obtain rfl : L = L2 := hsb
  have hk : ∀ i : Nat, i < 29 → i ≠ 0 → i ≠ 13 → i ≠ 14 → i ≠ 15 → i ≠ 16 → i ≠ 17 → i ≠ 20 → i ≠ 18 → i ≠ 19 → F2 (bd i) = f (bd i) := fun i hi h0 h13 h14 h15 h16 h17 h20 h18 h19 => hfm _ (hm i hi) (fun h => h0 (hJ _ _ hi (by decide) h)) (fun h => h13 (hJ _ _ hi (by decide) h)) (fun h => h14 (hJ _ _ hi (by decide) h)) (fun h => h15 (hJ _ _ hi (by decide) h)) (fun h => h16 (hJ _ _ hi (by decide) h)) (fun h => h17 (hJ _ _ hi (by decide) h)) (fun h => h20 (hJ _ _ hi (by decide) h)) (fun h => h18 (hJ _ _ hi (by decide) h)) (fun h => h19 (hJ _ _ hi (by decide) h))
  refine ⟨rfl, fun b hb h => hfm b hb (h 0 (by decide)) (h 13 (by decide)) (h 14 (by decide)) (h 15 (by decide)) (h 16 (by decide)) (h 17 (by decide)) (h 20 (by decide)) (h 18 (by decide)) (h 19 (by decide)), ?_⟩
  exact ⟨hm, hJ, (⟨0, m6, m7, m8, m9, m10, m12, m13, m14, m15, m22, o2, mn2, i2, u2, n2, y2, d2, m40, m41, m42, m48, m52, m53, m11, x2, ha_mm, (by first | assumption | omega | decide), (by first | assumption | omega | decide), (by first | assumption | omega | decide), (by first | assumption | omega | decide)⟩), (y_H_fr hH_ (hk 7 (by decide) (by decide) (by decide) (by decide) (by decide) (by decide) (by decide) (by decide) (by decide) (by decide)) (hk 8 (by decide) (by decide) (by decide) (by decide) (by decide) (by decide) (by decide) (by decide) (by decide) (by decide))), ((hk 12 (by decide) (by decide) (by decide) (by decide) (by decide) (by decide) (by decide) (by decide) (by decide) (by decide)).trans hf_ik), ((hk 1 (by decide) (by decide) (by decide) (by decide) (by decide) (by decide) (by decide) (by decide) (by decide) (by decide)).trans hf_wd), ((hk 2 (by decide) (by decide) (by decide) (by decide) (by decide) (by decide) (by decide) (by decide) (by decide) (by decide)).trans hf_my), (hq_my), (y_J_fr hy_ce (hk 3 (by decide) (by decide) (by decide) (by decide) (by decide) (by decide) (by decide) (by decide) (by decide) (by decide))), (y_J_fr hy_mv (hk 4 (by decide) (by decide) (by decide) (by decide) (by decide) (by decide) (by decide) (by decide) (by decide) (by decide))), (y_A_fr hy_ta (hk 5 (by decide) (by decide) (by decide) (by decide) (by decide) (by decide) (by decide) (by decide) (by decide) (by decide))), (y_A_fr hy_li (hk 6 (by decide) (by decide) (by decide) (by decide) (by decide) (by decide) (by decide) (by decide) (by decide) (by decide))), (y_A_fr hy_st (hk 9 (by decide) (by decide) (by decide) (by decide) (by decide) (by decide) (by decide) (by decide) (by decide) (by decide))), (y_A_fr hy_fo (hk 10 (by decide) (by decide) (by decide) (by decide) (by decide) (by decide) (by decide) (by decide) (by decide) (by decide))), (y_A_fr hy_dr (hk 11 (by decide) (by decide) (by decide) (by decide) (by decide) (by decide) (by decide) (by decide) (by decide) (by decide))), (⟨_, ha_ro, nq_ro⟩), (⟨_, ha_ct, nq_ct⟩), (⟨_, ha_se, fun _ => trivial⟩), (⟨_, ha_th, fun _ => trivial⟩), (⟨_, ha_cn, fun _ => trivial⟩), (⟨_, ha_be, nq_be⟩), (⟨_, ha_du, nq_du⟩), (⟨_, ha_db, fun _ => trivial⟩), (y_A_fr hy_pn (hk 21 (by decide) (by decide) (by decide) (by decide) (by decide) (by decide) (by decide) (by decide) (by decide) (by decide))), (y_A_fr hy_wg (hk 22 (by decide) (by decide) (by decide) (by decide) (by decide) (by decide) (by decide) (by decide) (by decide) (by decide))), (y_A_fr hy_wh (hk 23 (by decide) (by decide) (by decide) (by decide) (by decide) (by decide) (by decide) (by decide) (by decide) (by decide))), (y_A_fr hy_tn (hk 24 (by decide) (by decide) (by decide) (by decide) (by decide) (by decide) (by decide) (by decide) (by decide) (by decide))), (y_A_fr hy_he (hk 25 (by decide) (by decide) (by decide) (by decide) (by decide) (by decide) (by decide) (by decide) (by decide) (by decide))), (y_A_fr hy_tr (hk 26 (by decide) (by decide) (by decide) (by decide) (by decide) (by decide) (by decide) (by decide) (by decide) (by decide))), (y_A_fr hy_fd (hk 27 (by decide) (by decide) (by decide) (by decide) (by decide) (by decide) (by decide) (by decide) (by decide) (by decide))), (y_A_fr hy_po (hk 28 (by decide) (by decide) (by decide) (by decide) (by decide) (by decide) (by decide) (by decide) (by decide) (by decide)))⟩

set_option maxHeartbeats 4000000 in
set_option maxRecDepth 100000 in
theorem s_X10_due (l : Launch) {D : va_G} {cy : Nat → ClassId} {L : List Nat} {f : Nat → va_E} {sz : Nat} {adK adV : Nat → Nat} {bd : Nat → Nat} {gik gwd gmy : Nat → Int32} {ii : Int32} {wt : Int32} (hS : z_SM L f cy bd gik gwd gmy) : Met l yX10_due (z_ws yX10_due cX10_due 5 (some .int)) (z_R 7 0 0) (va_Pc [.ref (bd 0), .int ii, .int wt] (z_Pre D vwCl (z_KK D cy adK adV) L f sz)) (z_Qi D vwCl (fun r u => L = u.1 ∧ (∀ b ∈ L, (∀ i : Nat, i < 29 → b ≠ bd i) → u.2 b = f b) ∧ (z_SM L u.2 cy bd gik gwd gmy)) L sz) 0 0 (z_A L sz) := by
  obtain ⟨hm, hJ, h0_, hH_, hf_ik, hf_wd, hf_my, hq_my, hy_ce, hy_mv, hy_ta, hy_li, hy_st, hy_fo, hy_dr, hy_ro, hy_ct, hy_se, hy_th, hy_cn, hy_be, hy_du, hy_db, hy_pn, hy_wg, hy_wh, hy_tn, hy_he, hy_tr, hy_fd, hy_po⟩ := hS
  have h1_ := h0_
  obtain ⟨m0, m6, m7, m8, m9, m10, m12, m13, m14, m15, m22, m24, m25, m27, m28, m30, m36, m38, m40, m41, m42, m48, m52, m53, m11, m26, hf_mm, htp, hxx, hbg, hbh⟩ := h1_
  have h2_ := hH_
  obtain ⟨gha, glw, hf_ha, hf_lw, hq_ha, hq_lw, hea⟩ := h2_
  have h3_ := hy_dr
  obtain ⟨gdr, hf_dr, hq_dr⟩ := h3_
  have h3_ := hy_ro
  obtain ⟨gro, hf_ro, hq_ro⟩ := h3_
  have h3_ := hy_st
  obtain ⟨gst, hf_st, hq_st⟩ := h3_
  have h3_ := hy_ct
  obtain ⟨gct, hf_ct, hq_ct⟩ := h3_
  have h3_ := hy_se
  obtain ⟨gse, hf_se, hq_se⟩ := h3_
  have h3_ := hy_th
  obtain ⟨gth, hf_th, hq_th⟩ := h3_
  have h3_ := hy_cn
  obtain ⟨gcn, hf_cn, hq_cn⟩ := h3_
  have h3_ := hy_db
  obtain ⟨gdb, hf_db, hq_db⟩ := h3_
  have h3_ := hy_be
  obtain ⟨gbe, hf_be, hq_be⟩ := h3_
  have h3_ := hy_du
  obtain ⟨gdu, hf_du, hq_du⟩ := h3_
  have h3_ := hy_fo
  obtain ⟨gfo, hf_fo, hq_fo⟩ := h3_
  have h3_ := hy_li
  obtain ⟨gli, hf_li, hq_li⟩ := h3_
  refine z_weak (c_X10_due l (hm 0 (by decide)) (hm 7 (by decide)) (hm 11 (by decide)) (hm 13 (by decide)) (hm 8 (by decide)) (hm 9 (by decide)) (hm 14 (by decide)) (hm 15 (by decide)) (hm 16 (by decide)) (hm 17 (by decide)) (hm 20 (by decide)) (hm 18 (by decide)) (hm 19 (by decide)) (hm 10 (by decide)) (hm 6 (by decide)) hf_mm hf_ha hf_dr hf_ro hf_lw hf_st hf_ct hf_se hf_th hf_cn hf_db hf_be hf_du hf_fo hf_li (fun h => absurd (hJ _ _ (by decide) (by decide) h) (by decide)) (fun h => absurd (hJ _ _ (by decide) (by decide) h) (by decide)) (fun h => absurd (hJ _ _ (by decide) (by decide) h) (by decide)) (fun h => absurd (hJ _ _ (by decide) (by decide) h) (by decide)) hq_ha hq_dr hq_ro hq_lw hq_st hq_ct hq_be hq_du (by first | assumption | omega) hea) ?_
  rintro r ⟨L2, F2⟩ ⟨hsb, hfm, o2, mn2, i2, u2, n2, d2, y2, x2, nro, nct, nse, nth, ncn, ndb, nbe, ndu, ha_mm, ha_ro, ha_ct, ha_se, ha_th, ha_cn, ha_db, ha_be, ha_du, nq_ro, nq_ct, nq_be, nq_du, hp⟩
  obtain rfl : L = L2 := hsb
  have hk : ∀ i : Nat, i < 29 → i ≠ 0 → i ≠ 13 → i ≠ 14 → i ≠ 15 → i ≠ 16 → i ≠ 17 → i ≠ 20 → i ≠ 18 → i ≠ 19 → F2 (bd i) = f (bd i) := fun i hi h0 h13 h14 h15 h16 h17 h20 h18 h19 => hfm _ (hm i hi) (fun h => h0 (hJ _ _ hi (by decide) h)) (fun h => h13 (hJ _ _ hi (by decide) h)) (fun h => h14 (hJ _ _ hi (by decide) h)) (fun h => h15 (hJ _ _ hi (by decide) h)) (fun h => h16 (hJ _ _ hi (by decide) h)) (fun h => h17 (hJ _ _ hi (by decide) h)) (fun h => h20 (hJ _ _ hi (by decide) h)) (fun h => h18 (hJ _ _ hi (by decide) h)) (fun h => h19 (hJ _ _ hi (by decide) h))
  refine ⟨rfl, fun b hb h => hfm b hb (h 0 (by decide)) (h 13 (by decide)) (h 14 (by decide)) (h 15 (by decide)) (h 16 (by decide)) (h 17 (by decide)) (h 20 (by decide)) (h 18 (by decide)) (h 19 (by decide)), ?_⟩
  exact ⟨hm, hJ, (⟨0, m6, m7, m8, m9, m10, m12, m13, m14, m15, m22, o2, mn2, i2, u2, n2, y2, d2, m40, m41, m42, m48, m52, m53, m11, x2, ha_mm, (by first | assumption | omega | decide), (by first | assumption | omega | decide), (by first | assumption | omega | decide), (by first | assumption | omega | decide)⟩), (y_H_fr hH_ (hk 7 (by decide) (by decide) (by decide) (by decide) (by decide) (by decide) (by decide) (by decide) (by decide) (by decide)) (hk 8 (by decide) (by decide) (by decide) (by decide) (by decide) (by decide) (by decide) (by decide) (by decide) (by decide))), ((hk 12 (by decide) (by decide) (by decide) (by decide) (by decide) (by decide) (by decide) (by decide) (by decide) (by decide)).trans hf_ik), ((hk 1 (by decide) (by decide) (by decide) (by decide) (by decide) (by decide) (by decide) (by decide) (by decide) (by decide)).trans hf_wd), ((hk 2 (by decide) (by decide) (by decide) (by decide) (by decide) (by decide) (by decide) (by decide) (by decide) (by decide)).trans hf_my), (hq_my), (y_J_fr hy_ce (hk 3 (by decide) (by decide) (by decide) (by decide) (by decide) (by decide) (by decide) (by decide) (by decide) (by decide))), (y_J_fr hy_mv (hk 4 (by decide) (by decide) (by decide) (by decide) (by decide) (by decide) (by decide) (by decide) (by decide) (by decide))), (y_A_fr hy_ta (hk 5 (by decide) (by decide) (by decide) (by decide) (by decide) (by decide) (by decide) (by decide) (by decide) (by decide))), (y_A_fr hy_li (hk 6 (by decide) (by decide) (by decide) (by decide) (by decide) (by decide) (by decide) (by decide) (by decide) (by decide))), (y_A_fr hy_st (hk 9 (by decide) (by decide) (by decide) (by decide) (by decide) (by decide) (by decide) (by decide) (by decide) (by decide))), (y_A_fr hy_fo (hk 10 (by decide) (by decide) (by decide) (by decide) (by decide) (by decide) (by decide) (by decide) (by decide) (by decide))), (y_A_fr hy_dr (hk 11 (by decide) (by decide) (by decide) (by decide) (by decide) (by decide) (by decide) (by decide) (by decide) (by decide))), (⟨_, ha_ro, nq_ro⟩), (⟨_, ha_ct, nq_ct⟩), (⟨_, ha_se, fun _ => trivial⟩), (⟨_, ha_th, fun _ => trivial⟩), (⟨_, ha_cn, fun _ => trivial⟩), (⟨_, ha_be, nq_be⟩), (⟨_, ha_du, nq_du⟩), (⟨_, ha_db, fun _ => trivial⟩), (y_A_fr hy_pn (hk 21 (by decide) (by decide) (by decide) (by decide) (by decide) (by decide) (by decide) (by decide) (by decide) (by decide))), (y_A_fr hy_wg (hk 22 (by decide) (by decide) (by decide) (by decide) (by decide) (by decide) (by decide) (by decide) (by decide) (by decide))), (y_A_fr hy_wh (hk 23 (by decide) (by decide) (by decide) (by decide) (by decide) (by decide) (by decide) (by decide) (by decide) (by decide))), (y_A_fr hy_tn (hk 24 (by decide) (by decide) (by decide) (by decide) (by decide) (by decide) (by decide) (by decide) (by decide) (by decide))), (y_A_fr hy_he (hk 25 (by decide) (by decide) (by decide) (by decide) (by decide) (by decide) (by decide) (by decide) (by decide) (by decide))), (y_A_fr hy_tr (hk 26 (by decide) (by decide) (by decide) (by decide) (by decide) (by decide) (by decide) (by decide) (by decide) (by decide))), (y_A_fr hy_fd (hk 27 (by decide) (by decide) (by decide) (by decide) (by decide) (by decide) (by decide) (by decide) (by decide) (by decide))), (y_A_fr hy_po (hk 28 (by decide) (by decide) (by decide) (by decide) (by decide) (by decide) (by decide) (by decide) (by decide) (by decide)))⟩

set_option maxHeartbeats 4000000 in
set_option maxRecDepth 100000 in
theorem s_X10_paid (l : Launch) {D : va_G} {cy : Nat → ClassId} {L : List Nat} {f : Nat → va_E} {sz : Nat} {adK adV : Nat → Nat} {bd : Nat → Nat} {gik gwd gmy : Nat → Int32} {oo : Int32} (hS : z_SM L f cy bd gik gwd gmy) : Met l yX10_paid (z_ws yX10_paid cX10_paid 2 (some .int)) (z_R 7 0 0) (va_Pc [.ref (bd 0), .int oo] (z_Pre D vwCl (z_KK D cy adK adV) L f sz)) (z_Qi D vwCl (fun r u => L = u.1 ∧ (∀ b ∈ L, (∀ i : Nat, i < 29 → b ≠ bd i) → u.2 b = f b) ∧ (z_SM L u.2 cy bd gik gwd gmy)) L sz) 0 0 (z_A L sz) := by
  obtain ⟨hm, hJ, h0_, hH_, hf_ik, hf_wd, hf_my, hq_my, hy_ce, hy_mv, hy_ta, hy_li, hy_st, hy_fo, hy_dr, hy_ro, hy_ct, hy_se, hy_th, hy_cn, hy_be, hy_du, hy_db, hy_pn, hy_wg, hy_wh, hy_tn, hy_he, hy_tr, hy_fd, hy_po⟩ := hS
  have h1_ := h0_
  obtain ⟨m0, m6, m7, m8, m9, m10, m12, m13, m14, m15, m22, m24, m25, m27, m28, m30, m36, m38, m40, m41, m42, m48, m52, m53, m11, m26, hf_mm, htp, hxx, hbg, hbh⟩ := h1_
  have h2_ := hH_
  obtain ⟨gha, glw, hf_ha, hf_lw, hq_ha, hq_lw, hea⟩ := h2_
  have h3_ := hy_dr
  obtain ⟨gdr, hf_dr, hq_dr⟩ := h3_
  have h3_ := hy_ro
  obtain ⟨gro, hf_ro, hq_ro⟩ := h3_
  have h3_ := hy_st
  obtain ⟨gst, hf_st, hq_st⟩ := h3_
  have h3_ := hy_ct
  obtain ⟨gct, hf_ct, hq_ct⟩ := h3_
  have h3_ := hy_se
  obtain ⟨gse, hf_se, hq_se⟩ := h3_
  have h3_ := hy_th
  obtain ⟨gth, hf_th, hq_th⟩ := h3_
  have h3_ := hy_cn
  obtain ⟨gcn, hf_cn, hq_cn⟩ := h3_
  have h3_ := hy_db
  obtain ⟨gdb, hf_db, hq_db⟩ := h3_
  have h3_ := hy_be
  obtain ⟨gbe, hf_be, hq_be⟩ := h3_
  have h3_ := hy_du
  obtain ⟨gdu, hf_du, hq_du⟩ := h3_
  have h3_ := hy_fo
  obtain ⟨gfo, hf_fo, hq_fo⟩ := h3_
  have h3_ := hy_li
  obtain ⟨gli, hf_li, hq_li⟩ := h3_
  refine z_weak (c_X10_paid l (hm 0 (by decide)) (hm 7 (by decide)) (hm 11 (by decide)) (hm 13 (by decide)) (hm 8 (by decide)) (hm 9 (by decide)) (hm 14 (by decide)) (hm 15 (by decide)) (hm 16 (by decide)) (hm 17 (by decide)) (hm 20 (by decide)) (hm 18 (by decide)) (hm 19 (by decide)) (hm 10 (by decide)) (hm 6 (by decide)) hf_mm hf_ha hf_dr hf_ro hf_lw hf_st hf_ct hf_se hf_th hf_cn hf_db hf_be hf_du hf_fo hf_li (fun h => absurd (hJ _ _ (by decide) (by decide) h) (by decide)) (fun h => absurd (hJ _ _ (by decide) (by decide) h) (by decide)) (fun h => absurd (hJ _ _ (by decide) (by decide) h) (by decide)) (fun h => absurd (hJ _ _ (by decide) (by decide) h) (by decide)) hq_ha hq_dr hq_ro hq_lw hq_st hq_ct hq_be hq_du (by first | assumption | omega) hea) ?_
  rintro r ⟨L2, F2⟩ ⟨hsb, hfm, o2, mn2, i2, u2, n2, d2, y2, x2, nro, nct, nse, nth, ncn, ndb, nbe, ndu, ha_mm, ha_ro, ha_ct, ha_se, ha_th, ha_cn, ha_db, ha_be, ha_du, nq_ro, nq_ct, nq_be, nq_du, hp⟩
  obtain rfl : L = L2 := hsb
  have hk : ∀ i : Nat, i < 29 → i ≠ 0 → i ≠ 13 → i ≠ 14 → i ≠ 15 → i ≠ 16 → i ≠ 17 → i ≠ 20 → i ≠ 18 → i ≠ 19 → F2 (bd i) = f (bd i) := fun i hi h0 h13 h14 h15 h16 h17 h20 h18 h19 => hfm _ (hm i hi) (fun h => h0 (hJ _ _ hi (by decide) h)) (fun h => h13 (hJ _ _ hi (by decide) h)) (fun h => h14 (hJ _ _ hi (by decide) h)) (fun h => h15 (hJ _ _ hi (by decide) h)) (fun h => h16 (hJ _ _ hi (by decide) h)) (fun h => h17 (hJ _ _ hi (by decide) h)) (fun h => h20 (hJ _ _ hi (by decide) h)) (fun h => h18 (hJ _ _ hi (by decide) h)) (fun h => h19 (hJ _ _ hi (by decide) h))
  refine ⟨rfl, fun b hb h => hfm b hb (h 0 (by decide)) (h 13 (by decide)) (h 14 (by decide)) (h 15 (by decide)) (h 16 (by decide)) (h 17 (by decide)) (h 20 (by decide)) (h 18 (by decide)) (h 19 (by decide)), ?_⟩
  exact ⟨hm, hJ, (⟨0, m6, m7, m8, m9, m10, m12, m13, m14, m15, m22, o2, mn2, i2, u2, n2, y2, d2, m40, m41, m42, m48, m52, m53, m11, x2, ha_mm, (by first | assumption | omega | decide), (by first | assumption | omega | decide), (by first | assumption | omega | decide), (by first | assumption | omega | decide)⟩), (y_H_fr hH_ (hk 7 (by decide) (by decide) (by decide) (by decide) (by decide) (by decide) (by decide) (by decide) (by decide) (by decide)) (hk 8 (by decide) (by decide) (by decide) (by decide) (by decide) (by decide) (by decide) (by decide) (by decide) (by decide))), ((hk 12 (by decide) (by decide) (by decide) (by decide) (by decide) (by decide) (by decide) (by decide) (by decide) (by decide)).trans hf_ik), ((hk 1 (by decide) (by decide) (by decide) (by decide) (by decide) (by decide) (by decide) (by decide) (by decide) (by decide)).trans hf_wd), ((hk 2 (by decide) (by decide) (by decide) (by decide) (by decide) (by decide) (by decide) (by decide) (by decide) (by decide)).trans hf_my), (hq_my), (y_J_fr hy_ce (hk 3 (by decide) (by decide) (by decide) (by decide) (by decide) (by decide) (by decide) (by decide) (by decide) (by decide))), (y_J_fr hy_mv (hk 4 (by decide) (by decide) (by decide) (by decide) (by decide) (by decide) (by decide) (by decide) (by decide) (by decide))), (y_A_fr hy_ta (hk 5 (by decide) (by decide) (by decide) (by decide) (by decide) (by decide) (by decide) (by decide) (by decide) (by decide))), (y_A_fr hy_li (hk 6 (by decide) (by decide) (by decide) (by decide) (by decide) (by decide) (by decide) (by decide) (by decide) (by decide))), (y_A_fr hy_st (hk 9 (by decide) (by decide) (by decide) (by decide) (by decide) (by decide) (by decide) (by decide) (by decide) (by decide))), (y_A_fr hy_fo (hk 10 (by decide) (by decide) (by decide) (by decide) (by decide) (by decide) (by decide) (by decide) (by decide) (by decide))), (y_A_fr hy_dr (hk 11 (by decide) (by decide) (by decide) (by decide) (by decide) (by decide) (by decide) (by decide) (by decide) (by decide))), (⟨_, ha_ro, nq_ro⟩), (⟨_, ha_ct, nq_ct⟩), (⟨_, ha_se, fun _ => trivial⟩), (⟨_, ha_th, fun _ => trivial⟩), (⟨_, ha_cn, fun _ => trivial⟩), (⟨_, ha_be, nq_be⟩), (⟨_, ha_du, nq_du⟩), (⟨_, ha_db, fun _ => trivial⟩), (y_A_fr hy_pn (hk 21 (by decide) (by decide) (by decide) (by decide) (by decide) (by decide) (by decide) (by decide) (by decide) (by decide))), (y_A_fr hy_wg (hk 22 (by decide) (by decide) (by decide) (by decide) (by decide) (by decide) (by decide) (by decide) (by decide) (by decide))), (y_A_fr hy_wh (hk 23 (by decide) (by decide) (by decide) (by decide) (by decide) (by decide) (by decide) (by decide) (by decide) (by decide))), (y_A_fr hy_tn (hk 24 (by decide) (by decide) (by decide) (by decide) (by decide) (by decide) (by decide) (by decide) (by decide) (by decide))), (y_A_fr hy_he (hk 25 (by decide) (by decide) (by decide) (by decide) (by decide) (by decide) (by decide) (by decide) (by decide) (by decide))), (y_A_fr hy_tr (hk 26 (by decide) (by decide) (by decide) (by decide) (by decide) (by decide) (by decide) (by decide) (by decide) (by decide))), (y_A_fr hy_fd (hk 27 (by decide) (by decide) (by decide) (by decide) (by decide) (by decide) (by decide) (by decide) (by decide) (by decide))), (y_A_fr hy_po (hk 28 (by decide) (by decide) (by decide) (by decide) (by decide) (by decide) (by decide) (by decide) (by decide) (by decide)))⟩

set_option maxHeartbeats 4000000 in
set_option maxRecDepth 100000 in
theorem s_X10_pays (l : Launch) {D : va_G} {cy : Nat → ClassId} {L : List Nat} {f : Nat → va_E} {sz : Nat} {adK adV : Nat → Nat} {bd : Nat → Nat} {gik gwd gmy : Nat → Int32} {oo : Int32} {dy : Int32} (hS : z_SM L f cy bd gik gwd gmy) : Met l yX10_pays (z_ws yX10_pays cX10_pays 5 (some .int)) (z_R 7 0 0) (va_Pc [.ref (bd 0), .int oo, .int dy] (z_Pre D vwCl (z_KK D cy adK adV) L f sz)) (z_Qi D vwCl (fun r u => L = u.1 ∧ (∀ b ∈ L, (∀ i : Nat, i < 29 → b ≠ bd i) → u.2 b = f b) ∧ (z_SM L u.2 cy bd gik gwd gmy)) L sz) 0 0 (z_A L sz) := by
  obtain ⟨hm, hJ, h0_, hH_, hf_ik, hf_wd, hf_my, hq_my, hy_ce, hy_mv, hy_ta, hy_li, hy_st, hy_fo, hy_dr, hy_ro, hy_ct, hy_se, hy_th, hy_cn, hy_be, hy_du, hy_db, hy_pn, hy_wg, hy_wh, hy_tn, hy_he, hy_tr, hy_fd, hy_po⟩ := hS
  have h1_ := h0_
  obtain ⟨m0, m6, m7, m8, m9, m10, m12, m13, m14, m15, m22, m24, m25, m27, m28, m30, m36, m38, m40, m41, m42, m48, m52, m53, m11, m26, hf_mm, htp, hxx, hbg, hbh⟩ := h1_
  have h2_ := hH_
  obtain ⟨gha, glw, hf_ha, hf_lw, hq_ha, hq_lw, hea⟩ := h2_
  have h3_ := hy_dr
  obtain ⟨gdr, hf_dr, hq_dr⟩ := h3_
  have h3_ := hy_ro
  obtain ⟨gro, hf_ro, hq_ro⟩ := h3_
  have h3_ := hy_st
  obtain ⟨gst, hf_st, hq_st⟩ := h3_
  have h3_ := hy_ct
  obtain ⟨gct, hf_ct, hq_ct⟩ := h3_
  have h3_ := hy_se
  obtain ⟨gse, hf_se, hq_se⟩ := h3_
  have h3_ := hy_th
  obtain ⟨gth, hf_th, hq_th⟩ := h3_
  have h3_ := hy_cn
  obtain ⟨gcn, hf_cn, hq_cn⟩ := h3_
  have h3_ := hy_db
  obtain ⟨gdb, hf_db, hq_db⟩ := h3_
  have h3_ := hy_be
  obtain ⟨gbe, hf_be, hq_be⟩ := h3_
  have h3_ := hy_du
  obtain ⟨gdu, hf_du, hq_du⟩ := h3_
  have h3_ := hy_fo
  obtain ⟨gfo, hf_fo, hq_fo⟩ := h3_
  have h3_ := hy_li
  obtain ⟨gli, hf_li, hq_li⟩ := h3_
  refine z_weak (c_X10_pays l (hm 0 (by decide)) (hm 7 (by decide)) (hm 11 (by decide)) (hm 13 (by decide)) (hm 8 (by decide)) (hm 9 (by decide)) (hm 14 (by decide)) (hm 15 (by decide)) (hm 16 (by decide)) (hm 17 (by decide)) (hm 20 (by decide)) (hm 18 (by decide)) (hm 19 (by decide)) (hm 10 (by decide)) (hm 6 (by decide)) hf_mm hf_ha hf_dr hf_ro hf_lw hf_st hf_ct hf_se hf_th hf_cn hf_db hf_be hf_du hf_fo hf_li (fun h => absurd (hJ _ _ (by decide) (by decide) h) (by decide)) (fun h => absurd (hJ _ _ (by decide) (by decide) h) (by decide)) (fun h => absurd (hJ _ _ (by decide) (by decide) h) (by decide)) (fun h => absurd (hJ _ _ (by decide) (by decide) h) (by decide)) hq_ha hq_dr hq_ro hq_lw hq_st hq_ct hq_be hq_du (by first | assumption | omega) hea) ?_
  rintro r ⟨L2, F2⟩ ⟨hsb, hfm, o2, mn2, i2, u2, n2, d2, y2, x2, nro, nct, nse, nth, ncn, ndb, nbe, ndu, ha_mm, ha_ro, ha_ct, ha_se, ha_th, ha_cn, ha_db, ha_be, ha_du, nq_ro, nq_ct, nq_be, nq_du, hp⟩
  obtain rfl : L = L2 := hsb
  have hk : ∀ i : Nat, i < 29 → i ≠ 0 → i ≠ 13 → i ≠ 14 → i ≠ 15 → i ≠ 16 → i ≠ 17 → i ≠ 20 → i ≠ 18 → i ≠ 19 → F2 (bd i) = f (bd i) := fun i hi h0 h13 h14 h15 h16 h17 h20 h18 h19 => hfm _ (hm i hi) (fun h => h0 (hJ _ _ hi (by decide) h)) (fun h => h13 (hJ _ _ hi (by decide) h)) (fun h => h14 (hJ _ _ hi (by decide) h)) (fun h => h15 (hJ _ _ hi (by decide) h)) (fun h => h16 (hJ _ _ hi (by decide) h)) (fun h => h17 (hJ _ _ hi (by decide) h)) (fun h => h20 (hJ _ _ hi (by decide) h)) (fun h => h18 (hJ _ _ hi (by decide) h)) (fun h => h19 (hJ _ _ hi (by decide) h))
  refine ⟨rfl, fun b hb h => hfm b hb (h 0 (by decide)) (h 13 (by decide)) (h 14 (by decide)) (h 15 (by decide)) (h 16 (by decide)) (h 17 (by decide)) (h 20 (by decide)) (h 18 (by decide)) (h 19 (by decide)), ?_⟩
  exact ⟨hm, hJ, (⟨0, m6, m7, m8, m9, m10, m12, m13, m14, m15, m22, o2, mn2, i2, u2, n2, y2, d2, m40, m41, m42, m48, m52, m53, m11, x2, ha_mm, (by first | assumption | omega | decide), (by first | assumption | omega | decide), (by first | assumption | omega | decide), (by first | assumption | omega | decide)⟩), (y_H_fr hH_ (hk 7 (by decide) (by decide) (by decide) (by decide) (by decide) (by decide) (by decide) (by decide) (by decide) (by decide)) (hk 8 (by decide) (by decide) (by decide) (by decide) (by decide) (by decide) (by decide) (by decide) (by decide) (by decide))), ((hk 12 (by decide) (by decide) (by decide) (by decide) (by decide) (by decide) (by decide) (by decide) (by decide) (by decide)).trans hf_ik), ((hk 1 (by decide) (by decide) (by decide) (by decide) (by decide) (by decide) (by decide) (by decide) (by decide) (by decide)).trans hf_wd), ((hk 2 (by decide) (by decide) (by decide) (by decide) (by decide) (by decide) (by decide) (by decide) (by decide) (by decide)).trans hf_my), (hq_my), (y_J_fr hy_ce (hk 3 (by decide) (by decide) (by decide) (by decide) (by decide) (by decide) (by decide) (by decide) (by decide) (by decide))), (y_J_fr hy_mv (hk 4 (by decide) (by decide) (by decide) (by decide) (by decide) (by decide) (by decide) (by decide) (by decide) (by decide))), (y_A_fr hy_ta (hk 5 (by decide) (by decide) (by decide) (by decide) (by decide) (by decide) (by decide) (by decide) (by decide) (by decide))), (y_A_fr hy_li (hk 6 (by decide) (by decide) (by decide) (by decide) (by decide) (by decide) (by decide) (by decide) (by decide) (by decide))), (y_A_fr hy_st (hk 9 (by decide) (by decide) (by decide) (by decide) (by decide) (by decide) (by decide) (by decide) (by decide) (by decide))), (y_A_fr hy_fo (hk 10 (by decide) (by decide) (by decide) (by decide) (by decide) (by decide) (by decide) (by decide) (by decide) (by decide))), (y_A_fr hy_dr (hk 11 (by decide) (by decide) (by decide) (by decide) (by decide) (by decide) (by decide) (by decide) (by decide) (by decide))), (⟨_, ha_ro, nq_ro⟩), (⟨_, ha_ct, nq_ct⟩), (⟨_, ha_se, fun _ => trivial⟩), (⟨_, ha_th, fun _ => trivial⟩), (⟨_, ha_cn, fun _ => trivial⟩), (⟨_, ha_be, nq_be⟩), (⟨_, ha_du, nq_du⟩), (⟨_, ha_db, fun _ => trivial⟩), (y_A_fr hy_pn (hk 21 (by decide) (by decide) (by decide) (by decide) (by decide) (by decide) (by decide) (by decide) (by decide) (by decide))), (y_A_fr hy_wg (hk 22 (by decide) (by decide) (by decide) (by decide) (by decide) (by decide) (by decide) (by decide) (by decide) (by decide))), (y_A_fr hy_wh (hk 23 (by decide) (by decide) (by decide) (by decide) (by decide) (by decide) (by decide) (by decide) (by decide) (by decide))), (y_A_fr hy_tn (hk 24 (by decide) (by decide) (by decide) (by decide) (by decide) (by decide) (by decide) (by decide) (by decide) (by decide))), (y_A_fr hy_he (hk 25 (by decide) (by decide) (by decide) (by decide) (by decide) (by decide) (by decide) (by decide) (by decide) (by decide))), (y_A_fr hy_tr (hk 26 (by decide) (by decide) (by decide) (by decide) (by decide) (by decide) (by decide) (by decide) (by decide) (by decide))), (y_A_fr hy_fd (hk 27 (by decide) (by decide) (by decide) (by decide) (by decide) (by decide) (by decide) (by decide) (by decide) (by decide))), (y_A_fr hy_po (hk 28 (by decide) (by decide) (by decide) (by decide) (by decide) (by decide) (by decide) (by decide) (by decide) (by decide)))⟩

set_option maxHeartbeats 4000000 in
set_option maxRecDepth 100000 in
theorem s_X10_worst (l : Launch) {D : va_G} {cy : Nat → ClassId} {L : List Nat} {f : Nat → va_E} {sz : Nat} {adK adV : Nat → Nat} {bd : Nat → Nat} {gik gwd gmy : Nat → Int32}  (hS : z_SM L f cy bd gik gwd gmy) : Met l yX10_worst (z_ws yX10_worst cX10_worst 3 (some .int)) (z_R 7 0 0) (va_Pc [.ref (bd 0)] (z_Pre D vwCl (z_KK D cy adK adV) L f sz)) (z_Qi D vwCl (fun r u => L = u.1 ∧ (∀ b ∈ L, (∀ i : Nat, i < 29 → b ≠ bd i) → u.2 b = f b) ∧ (z_SM L u.2 cy bd gik gwd gmy)) L sz) 0 0 (z_A L sz) := by
  obtain ⟨hm, hJ, h0_, hH_, hf_ik, hf_wd, hf_my, hq_my, hy_ce, hy_mv, hy_ta, hy_li, hy_st, hy_fo, hy_dr, hy_ro, hy_ct, hy_se, hy_th, hy_cn, hy_be, hy_du, hy_db, hy_pn, hy_wg, hy_wh, hy_tn, hy_he, hy_tr, hy_fd, hy_po⟩ := hS
  have h1_ := h0_
  obtain ⟨m0, m6, m7, m8, m9, m10, m12, m13, m14, m15, m22, m24, m25, m27, m28, m30, m36, m38, m40, m41, m42, m48, m52, m53, m11, m26, hf_mm, htp, hxx, hbg, hbh⟩ := h1_
  have h2_ := hH_
  obtain ⟨gha, glw, hf_ha, hf_lw, hq_ha, hq_lw, hea⟩ := h2_
  have h3_ := hy_dr
  obtain ⟨gdr, hf_dr, hq_dr⟩ := h3_
  have h3_ := hy_ro
  obtain ⟨gro, hf_ro, hq_ro⟩ := h3_
  have h3_ := hy_st
  obtain ⟨gst, hf_st, hq_st⟩ := h3_
  have h3_ := hy_ct
  obtain ⟨gct, hf_ct, hq_ct⟩ := h3_
  have h3_ := hy_se
  obtain ⟨gse, hf_se, hq_se⟩ := h3_
  have h3_ := hy_th
  obtain ⟨gth, hf_th, hq_th⟩ := h3_
  have h3_ := hy_cn
  obtain ⟨gcn, hf_cn, hq_cn⟩ := h3_
  have h3_ := hy_db
  obtain ⟨gdb, hf_db, hq_db⟩ := h3_
  have h3_ := hy_be
  obtain ⟨gbe, hf_be, hq_be⟩ := h3_
  have h3_ := hy_du
  obtain ⟨gdu, hf_du, hq_du⟩ := h3_
  have h3_ := hy_fo
  obtain ⟨gfo, hf_fo, hq_fo⟩ := h3_
  have h3_ := hy_li
  obtain ⟨gli, hf_li, hq_li⟩ := h3_
  refine z_weak (c_X10_worst l (hm 0 (by decide)) (hm 7 (by decide)) (hm 11 (by decide)) (hm 13 (by decide)) (hm 8 (by decide)) (hm 9 (by decide)) (hm 14 (by decide)) (hm 15 (by decide)) (hm 16 (by decide)) (hm 17 (by decide)) (hm 20 (by decide)) (hm 18 (by decide)) (hm 19 (by decide)) (hm 10 (by decide)) (hm 6 (by decide)) hf_mm hf_ha hf_dr hf_ro hf_lw hf_st hf_ct hf_se hf_th hf_cn hf_db hf_be hf_du hf_fo hf_li (fun h => absurd (hJ _ _ (by decide) (by decide) h) (by decide)) (fun h => absurd (hJ _ _ (by decide) (by decide) h) (by decide)) (fun h => absurd (hJ _ _ (by decide) (by decide) h) (by decide)) (fun h => absurd (hJ _ _ (by decide) (by decide) h) (by decide)) hq_ha hq_dr hq_ro hq_lw hq_st hq_ct hq_be hq_du (by first | assumption | omega) hea) ?_
  rintro r ⟨L2, F2⟩ ⟨hsb, hfm, o2, mn2, i2, u2, n2, d2, y2, x2, nro, nct, nse, nth, ncn, ndb, nbe, ndu, ha_mm, ha_ro, ha_ct, ha_se, ha_th, ha_cn, ha_db, ha_be, ha_du, nq_ro, nq_ct, nq_be, nq_du, hp⟩
  obtain rfl : L = L2 := hsb
  have hk : ∀ i : Nat, i < 29 → i ≠ 0 → i ≠ 13 → i ≠ 14 → i ≠ 15 → i ≠ 16 → i ≠ 17 → i ≠ 20 → i ≠ 18 → i ≠ 19 → F2 (bd i) = f (bd i) := fun i hi h0 h13 h14 h15 h16 h17 h20 h18 h19 => hfm _ (hm i hi) (fun h => h0 (hJ _ _ hi (by decide) h)) (fun h => h13 (hJ _ _ hi (by decide) h)) (fun h => h14 (hJ _ _ hi (by decide) h)) (fun h => h15 (hJ _ _ hi (by decide) h)) (fun h => h16 (hJ _ _ hi (by decide) h)) (fun h => h17 (hJ _ _ hi (by decide) h)) (fun h => h20 (hJ _ _ hi (by decide) h)) (fun h => h18 (hJ _ _ hi (by decide) h)) (fun h => h19 (hJ _ _ hi (by decide) h))
  refine ⟨rfl, fun b hb h => hfm b hb (h 0 (by decide)) (h 13 (by decide)) (h 14 (by decide)) (h 15 (by decide)) (h 16 (by decide)) (h 17 (by decide)) (h 20 (by decide)) (h 18 (by decide)) (h 19 (by decide)), ?_⟩
  exact ⟨hm, hJ, (⟨0, m6, m7, m8, m9, m10, m12, m13, m14, m15, m22, o2, mn2, i2, u2, n2, y2, d2, m40, m41, m42, m48, m52, m53, m11, x2, ha_mm, (by first | assumption | omega | decide), (by first | assumption | omega | decide), (by first | assumption | omega | decide), (by first | assumption | omega | decide)⟩), (y_H_fr hH_ (hk 7 (by decide) (by decide) (by decide) (by decide) (by decide) (by decide) (by decide) (by decide) (by decide) (by decide)) (hk 8 (by decide) (by decide) (by decide) (by decide) (by decide) (by decide) (by decide) (by decide) (by decide) (by decide))), ((hk 12 (by decide) (by decide) (by decide) (by decide) (by decide) (by decide) (by decide) (by decide) (by decide) (by decide)).trans hf_ik), ((hk 1 (by decide) (by decide) (by decide) (by decide) (by decide) (by decide) (by decide) (by decide) (by decide) (by decide)).trans hf_wd), ((hk 2 (by decide) (by decide) (by decide) (by decide) (by decide) (by decide) (by decide) (by decide) (by decide) (by decide)).trans hf_my), (hq_my), (y_J_fr hy_ce (hk 3 (by decide) (by decide) (by decide) (by decide) (by decide) (by decide) (by decide) (by decide) (by decide) (by decide))), (y_J_fr hy_mv (hk 4 (by decide) (by decide) (by decide) (by decide) (by decide) (by decide) (by decide) (by decide) (by decide) (by decide))), (y_A_fr hy_ta (hk 5 (by decide) (by decide) (by decide) (by decide) (by decide) (by decide) (by decide) (by decide) (by decide) (by decide))), (y_A_fr hy_li (hk 6 (by decide) (by decide) (by decide) (by decide) (by decide) (by decide) (by decide) (by decide) (by decide) (by decide))), (y_A_fr hy_st (hk 9 (by decide) (by decide) (by decide) (by decide) (by decide) (by decide) (by decide) (by decide) (by decide) (by decide))), (y_A_fr hy_fo (hk 10 (by decide) (by decide) (by decide) (by decide) (by decide) (by decide) (by decide) (by decide) (by decide) (by decide))), (y_A_fr hy_dr (hk 11 (by decide) (by decide) (by decide) (by decide) (by decide) (by decide) (by decide) (by decide) (by decide) (by decide))), (⟨_, ha_ro, nq_ro⟩), (⟨_, ha_ct, nq_ct⟩), (⟨_, ha_se, fun _ => trivial⟩), (⟨_, ha_th, fun _ => trivial⟩), (⟨_, ha_cn, fun _ => trivial⟩), (⟨_, ha_be, nq_be⟩), (⟨_, ha_du, nq_du⟩), (⟨_, ha_db, fun _ => trivial⟩), (y_A_fr hy_pn (hk 21 (by decide) (by decide) (by decide) (by decide) (by decide) (by decide) (by decide) (by decide) (by decide) (by decide))), (y_A_fr hy_wg (hk 22 (by decide) (by decide) (by decide) (by decide) (by decide) (by decide) (by decide) (by decide) (by decide) (by decide))), (y_A_fr hy_wh (hk 23 (by decide) (by decide) (by decide) (by decide) (by decide) (by decide) (by decide) (by decide) (by decide) (by decide))), (y_A_fr hy_tn (hk 24 (by decide) (by decide) (by decide) (by decide) (by decide) (by decide) (by decide) (by decide) (by decide) (by decide))), (y_A_fr hy_he (hk 25 (by decide) (by decide) (by decide) (by decide) (by decide) (by decide) (by decide) (by decide) (by decide) (by decide))), (y_A_fr hy_tr (hk 26 (by decide) (by decide) (by decide) (by decide) (by decide) (by decide) (by decide) (by decide) (by decide) (by decide))), (y_A_fr hy_fd (hk 27 (by decide) (by decide) (by decide) (by decide) (by decide) (by decide) (by decide) (by decide) (by decide) (by decide))), (y_A_fr hy_po (hk 28 (by decide) (by decide) (by decide) (by decide) (by decide) (by decide) (by decide) (by decide) (by decide) (by decide)))⟩

set_option maxHeartbeats 4000000 in
set_option maxRecDepth 100000 in
theorem s_X10_left (l : Launch) {D : va_G} {cy : Nat → ClassId} {L : List Nat} {f : Nat → va_E} {sz : Nat} {adK adV : Nat → Nat} {bd : Nat → Nat} {gik gwd gmy : Nat → Int32} {ga : Int32} (hS : z_SM L f cy bd gik gwd gmy) : Met l yX10_left (z_ws yX10_left cX10_left 3 (some .int)) (z_R 7 0 0) (va_Pc [.ref (bd 0), .int ga] (z_Pre D vwCl (z_KK D cy adK adV) L f sz)) (z_Qi D vwCl (fun r u => L = u.1 ∧ (∀ b ∈ L, (∀ i : Nat, i < 29 → b ≠ bd i) → u.2 b = f b) ∧ (z_SM L u.2 cy bd gik gwd gmy)) L sz) 0 0 (z_A L sz) := by
  obtain ⟨hm, hJ, h0_, hH_, hf_ik, hf_wd, hf_my, hq_my, hy_ce, hy_mv, hy_ta, hy_li, hy_st, hy_fo, hy_dr, hy_ro, hy_ct, hy_se, hy_th, hy_cn, hy_be, hy_du, hy_db, hy_pn, hy_wg, hy_wh, hy_tn, hy_he, hy_tr, hy_fd, hy_po⟩ := hS
  have h1_ := h0_
  obtain ⟨m0, m6, m7, m8, m9, m10, m12, m13, m14, m15, m22, m24, m25, m27, m28, m30, m36, m38, m40, m41, m42, m48, m52, m53, m11, m26, hf_mm, htp, hxx, hbg, hbh⟩ := h1_
  have h2_ := hH_
  obtain ⟨gha, glw, hf_ha, hf_lw, hq_ha, hq_lw, hea⟩ := h2_
  have h3_ := hy_dr
  obtain ⟨gdr, hf_dr, hq_dr⟩ := h3_
  have h3_ := hy_ro
  obtain ⟨gro, hf_ro, hq_ro⟩ := h3_
  have h3_ := hy_st
  obtain ⟨gst, hf_st, hq_st⟩ := h3_
  have h3_ := hy_ct
  obtain ⟨gct, hf_ct, hq_ct⟩ := h3_
  have h3_ := hy_se
  obtain ⟨gse, hf_se, hq_se⟩ := h3_
  have h3_ := hy_th
  obtain ⟨gth, hf_th, hq_th⟩ := h3_
  have h3_ := hy_cn
  obtain ⟨gcn, hf_cn, hq_cn⟩ := h3_
  have h3_ := hy_db
  obtain ⟨gdb, hf_db, hq_db⟩ := h3_
  have h3_ := hy_be
  obtain ⟨gbe, hf_be, hq_be⟩ := h3_
  have h3_ := hy_du
  obtain ⟨gdu, hf_du, hq_du⟩ := h3_
  have h3_ := hy_fo
  obtain ⟨gfo, hf_fo, hq_fo⟩ := h3_
  refine z_weak (c_X10_left l (hm 0 (by decide)) (hm 7 (by decide)) (hm 11 (by decide)) (hm 13 (by decide)) (hm 8 (by decide)) (hm 9 (by decide)) (hm 14 (by decide)) (hm 15 (by decide)) (hm 16 (by decide)) (hm 17 (by decide)) (hm 20 (by decide)) (hm 18 (by decide)) (hm 19 (by decide)) (hm 10 (by decide)) hf_mm hf_ha hf_dr hf_ro hf_lw hf_st hf_ct hf_se hf_th hf_cn hf_db hf_be hf_du hf_fo (fun h => absurd (hJ _ _ (by decide) (by decide) h) (by decide)) (fun h => absurd (hJ _ _ (by decide) (by decide) h) (by decide)) (fun h => absurd (hJ _ _ (by decide) (by decide) h) (by decide)) hq_ha hq_dr hq_ro hq_lw hq_st hq_ct hq_be hq_du (by first | assumption | omega) hea) ?_
  rintro r ⟨L2, F2⟩ ⟨hsb, hfm, o2, mn2, i2, u2, n2, d2, y2, x2, nro, nct, nse, nth, ncn, ndb, nbe, ndu, ha_mm, ha_ro, ha_ct, ha_se, ha_th, ha_cn, ha_db, ha_be, ha_du, nq_ro, nq_ct, nq_be, nq_du, hp⟩
  obtain rfl : L = L2 := hsb
  have hk : ∀ i : Nat, i < 29 → i ≠ 0 → i ≠ 13 → i ≠ 14 → i ≠ 15 → i ≠ 16 → i ≠ 17 → i ≠ 20 → i ≠ 18 → i ≠ 19 → F2 (bd i) = f (bd i) := fun i hi h0 h13 h14 h15 h16 h17 h20 h18 h19 => hfm _ (hm i hi) (fun h => h0 (hJ _ _ hi (by decide) h)) (fun h => h13 (hJ _ _ hi (by decide) h)) (fun h => h14 (hJ _ _ hi (by decide) h)) (fun h => h15 (hJ _ _ hi (by decide) h)) (fun h => h16 (hJ _ _ hi (by decide) h)) (fun h => h17 (hJ _ _ hi (by decide) h)) (fun h => h20 (hJ _ _ hi (by decide) h)) (fun h => h18 (hJ _ _ hi (by decide) h)) (fun h => h19 (hJ _ _ hi (by decide) h))
  refine ⟨rfl, fun b hb h => hfm b hb (h 0 (by decide)) (h 13 (by decide)) (h 14 (by decide)) (h 15 (by decide)) (h 16 (by decide)) (h 17 (by decide)) (h 20 (by decide)) (h 18 (by decide)) (h 19 (by decide)), ?_⟩
  exact ⟨hm, hJ, (⟨0, m6, m7, m8, m9, m10, m12, m13, m14, m15, m22, o2, mn2, i2, u2, n2, y2, d2, m40, m41, m42, m48, m52, m53, m11, x2, ha_mm, (by first | assumption | omega | decide), (by first | assumption | omega | decide), (by first | assumption | omega | decide), (by first | assumption | omega | decide)⟩), (y_H_fr hH_ (hk 7 (by decide) (by decide) (by decide) (by decide) (by decide) (by decide) (by decide) (by decide) (by decide) (by decide)) (hk 8 (by decide) (by decide) (by decide) (by decide) (by decide) (by decide) (by decide) (by decide) (by decide) (by decide))), ((hk 12 (by decide) (by decide) (by decide) (by decide) (by decide) (by decide) (by decide) (by decide) (by decide) (by decide)).trans hf_ik), ((hk 1 (by decide) (by decide) (by decide) (by decide) (by decide) (by decide) (by decide) (by decide) (by decide) (by decide)).trans hf_wd), ((hk 2 (by decide) (by decide) (by decide) (by decide) (by decide) (by decide) (by decide) (by decide) (by decide) (by decide)).trans hf_my), (hq_my), (y_J_fr hy_ce (hk 3 (by decide) (by decide) (by decide) (by decide) (by decide) (by decide) (by decide) (by decide) (by decide) (by decide))), (y_J_fr hy_mv (hk 4 (by decide) (by decide) (by decide) (by decide) (by decide) (by decide) (by decide) (by decide) (by decide) (by decide))), (y_A_fr hy_ta (hk 5 (by decide) (by decide) (by decide) (by decide) (by decide) (by decide) (by decide) (by decide) (by decide) (by decide))), (y_A_fr hy_li (hk 6 (by decide) (by decide) (by decide) (by decide) (by decide) (by decide) (by decide) (by decide) (by decide) (by decide))), (y_A_fr hy_st (hk 9 (by decide) (by decide) (by decide) (by decide) (by decide) (by decide) (by decide) (by decide) (by decide) (by decide))), (y_A_fr hy_fo (hk 10 (by decide) (by decide) (by decide) (by decide) (by decide) (by decide) (by decide) (by decide) (by decide) (by decide))), (y_A_fr hy_dr (hk 11 (by decide) (by decide) (by decide) (by decide) (by decide) (by decide) (by decide) (by decide) (by decide) (by decide))), (⟨_, ha_ro, nq_ro⟩), (⟨_, ha_ct, nq_ct⟩), (⟨_, ha_se, fun _ => trivial⟩), (⟨_, ha_th, fun _ => trivial⟩), (⟨_, ha_cn, fun _ => trivial⟩), (⟨_, ha_be, nq_be⟩), (⟨_, ha_du, nq_du⟩), (⟨_, ha_db, fun _ => trivial⟩), (y_A_fr hy_pn (hk 21 (by decide) (by decide) (by decide) (by decide) (by decide) (by decide) (by decide) (by decide) (by decide) (by decide))), (y_A_fr hy_wg (hk 22 (by decide) (by decide) (by decide) (by decide) (by decide) (by decide) (by decide) (by decide) (by decide) (by decide))), (y_A_fr hy_wh (hk 23 (by decide) (by decide) (by decide) (by decide) (by decide) (by decide) (by decide) (by decide) (by decide) (by decide))), (y_A_fr hy_tn (hk 24 (by decide) (by decide) (by decide) (by decide) (by decide) (by decide) (by decide) (by decide) (by decide) (by decide))), (y_A_fr hy_he (hk 25 (by decide) (by decide) (by decide) (by decide) (by decide) (by decide) (by decide) (by decide) (by decide) (by decide))), (y_A_fr hy_tr (hk 26 (by decide) (by decide) (by decide) (by decide) (by decide) (by decide) (by decide) (by decide) (by decide) (by decide))), (y_A_fr hy_fd (hk 27 (by decide) (by decide) (by decide) (by decide) (by decide) (by decide) (by decide) (by decide) (by decide) (by decide))), (y_A_fr hy_po (hk 28 (by decide) (by decide) (by decide) (by decide) (by decide) (by decide) (by decide) (by decide) (by decide) (by decide)))⟩

set_option maxHeartbeats 4000000 in
set_option maxRecDepth 100000 in
theorem s_X10_best (l : Launch) {D : va_G} {cy : Nat → ClassId} {L : List Nat} {f : Nat → va_E} {sz : Nat} {adK adV : Nat → Nat} {bd : Nat → Nat} {gik gwd gmy : Nat → Int32} {kk : Int32} {wt : Int32} (hS : z_SM L f cy bd gik gwd gmy) : Met l yX10_best (z_ws yX10_best cX10_best 3 (some .int)) (z_R 8 0 0) (va_Pc [.ref (bd 0), .int kk, .int wt] (z_Pre D vwCl (z_KK D cy adK adV) L f sz)) (z_Qi D vwCl (fun r u => L = u.1 ∧ (∀ b ∈ L, (∀ i : Nat, i < 29 → b ≠ bd i) → u.2 b = f b) ∧ (z_SM L u.2 cy bd gik gwd gmy)) L sz) 0 0 (z_A L sz) := by
  obtain ⟨hm, hJ, h0_, hH_, hf_ik, hf_wd, hf_my, hq_my, hy_ce, hy_mv, hy_ta, hy_li, hy_st, hy_fo, hy_dr, hy_ro, hy_ct, hy_se, hy_th, hy_cn, hy_be, hy_du, hy_db, hy_pn, hy_wg, hy_wh, hy_tn, hy_he, hy_tr, hy_fd, hy_po⟩ := hS
  have h1_ := h0_
  obtain ⟨m0, m6, m7, m8, m9, m10, m12, m13, m14, m15, m22, m24, m25, m27, m28, m30, m36, m38, m40, m41, m42, m48, m52, m53, m11, m26, hf_mm, htp, hxx, hbg, hbh⟩ := h1_
  have h2_ := hH_
  obtain ⟨gha, glw, hf_ha, hf_lw, hq_ha, hq_lw, hea⟩ := h2_
  have h3_ := hy_dr
  obtain ⟨gdr, hf_dr, hq_dr⟩ := h3_
  have h3_ := hy_ro
  obtain ⟨gro, hf_ro, hq_ro⟩ := h3_
  have h3_ := hy_st
  obtain ⟨gst, hf_st, hq_st⟩ := h3_
  have h3_ := hy_ct
  obtain ⟨gct, hf_ct, hq_ct⟩ := h3_
  have h3_ := hy_se
  obtain ⟨gse, hf_se, hq_se⟩ := h3_
  have h3_ := hy_th
  obtain ⟨gth, hf_th, hq_th⟩ := h3_
  have h3_ := hy_cn
  obtain ⟨gcn, hf_cn, hq_cn⟩ := h3_
  have h3_ := hy_db
  obtain ⟨gdb, hf_db, hq_db⟩ := h3_
  have h3_ := hy_be
  obtain ⟨gbe, hf_be, hq_be⟩ := h3_
  have h3_ := hy_du
  obtain ⟨gdu, hf_du, hq_du⟩ := h3_
  have h3_ := hy_fo
  obtain ⟨gfo, hf_fo, hq_fo⟩ := h3_
  refine z_weak (c_X10_best l (hm 0 (by decide)) (hm 7 (by decide)) (hm 11 (by decide)) (hm 13 (by decide)) (hm 8 (by decide)) (hm 9 (by decide)) (hm 14 (by decide)) (hm 15 (by decide)) (hm 16 (by decide)) (hm 17 (by decide)) (hm 20 (by decide)) (hm 18 (by decide)) (hm 19 (by decide)) (hm 10 (by decide)) hf_mm hf_ha hf_dr hf_ro hf_lw hf_st hf_ct hf_se hf_th hf_cn hf_db hf_be hf_du hf_fo (fun h => absurd (hJ _ _ (by decide) (by decide) h) (by decide)) (fun h => absurd (hJ _ _ (by decide) (by decide) h) (by decide)) (fun h => absurd (hJ _ _ (by decide) (by decide) h) (by decide)) hq_ha hq_dr hq_ro hq_lw hq_st hq_ct hq_be hq_du (by first | assumption | omega) hea (by first | assumption | omega) (by first | assumption | omega)) ?_
  rintro r ⟨L2, F2⟩ ⟨hsb, hfm, o2, mn2, i2, u2, n2, d2, y2, bp2, bg2, bh2, x2, nro, nct, nse, nth, ncn, ndb, nbe, ndu, ndr, ha_mm, ha_ro, ha_ct, ha_se, ha_th, ha_cn, ha_db, ha_be, ha_du, ha_dr, nq_ro, nq_ct, nq_be, nq_du, nq_dr, hp⟩
  obtain rfl : L = L2 := hsb
  have hk : ∀ i : Nat, i < 29 → i ≠ 0 → i ≠ 13 → i ≠ 14 → i ≠ 15 → i ≠ 16 → i ≠ 17 → i ≠ 20 → i ≠ 18 → i ≠ 19 → i ≠ 11 → F2 (bd i) = f (bd i) := fun i hi h0 h13 h14 h15 h16 h17 h20 h18 h19 h11 => hfm _ (hm i hi) (fun h => h0 (hJ _ _ hi (by decide) h)) (fun h => h13 (hJ _ _ hi (by decide) h)) (fun h => h14 (hJ _ _ hi (by decide) h)) (fun h => h15 (hJ _ _ hi (by decide) h)) (fun h => h16 (hJ _ _ hi (by decide) h)) (fun h => h17 (hJ _ _ hi (by decide) h)) (fun h => h20 (hJ _ _ hi (by decide) h)) (fun h => h18 (hJ _ _ hi (by decide) h)) (fun h => h19 (hJ _ _ hi (by decide) h)) (fun h => h11 (hJ _ _ hi (by decide) h))
  refine ⟨rfl, fun b hb h => hfm b hb (h 0 (by decide)) (h 13 (by decide)) (h 14 (by decide)) (h 15 (by decide)) (h 16 (by decide)) (h 17 (by decide)) (h 20 (by decide)) (h 18 (by decide)) (h 19 (by decide)) (h 11 (by decide)), ?_⟩
  exact ⟨hm, hJ, (⟨0, m6, m7, m8, m9, m10, m12, m13, m14, m15, m22, o2, mn2, i2, u2, n2, y2, d2, bp2, bg2, bh2, m48, m52, m53, m11, x2, ha_mm, (by first | assumption | omega | decide), (by first | assumption | omega | decide), (by first | assumption | omega | decide), (by first | assumption | omega | decide)⟩), (y_H_fr hH_ (hk 7 (by decide) (by decide) (by decide) (by decide) (by decide) (by decide) (by decide) (by decide) (by decide) (by decide) (by decide)) (hk 8 (by decide) (by decide) (by decide) (by decide) (by decide) (by decide) (by decide) (by decide) (by decide) (by decide) (by decide))), ((hk 12 (by decide) (by decide) (by decide) (by decide) (by decide) (by decide) (by decide) (by decide) (by decide) (by decide) (by decide)).trans hf_ik), ((hk 1 (by decide) (by decide) (by decide) (by decide) (by decide) (by decide) (by decide) (by decide) (by decide) (by decide) (by decide)).trans hf_wd), ((hk 2 (by decide) (by decide) (by decide) (by decide) (by decide) (by decide) (by decide) (by decide) (by decide) (by decide) (by decide)).trans hf_my), (hq_my), (y_J_fr hy_ce (hk 3 (by decide) (by decide) (by decide) (by decide) (by decide) (by decide) (by decide) (by decide) (by decide) (by decide) (by decide))), (y_J_fr hy_mv (hk 4 (by decide) (by decide) (by decide) (by decide) (by decide) (by decide) (by decide) (by decide) (by decide) (by decide) (by decide))), (y_A_fr hy_ta (hk 5 (by decide) (by decide) (by decide) (by decide) (by decide) (by decide) (by decide) (by decide) (by decide) (by decide) (by decide))), (y_A_fr hy_li (hk 6 (by decide) (by decide) (by decide) (by decide) (by decide) (by decide) (by decide) (by decide) (by decide) (by decide) (by decide))), (y_A_fr hy_st (hk 9 (by decide) (by decide) (by decide) (by decide) (by decide) (by decide) (by decide) (by decide) (by decide) (by decide) (by decide))), (y_A_fr hy_fo (hk 10 (by decide) (by decide) (by decide) (by decide) (by decide) (by decide) (by decide) (by decide) (by decide) (by decide) (by decide))), (⟨_, ha_dr, nq_dr⟩), (⟨_, ha_ro, nq_ro⟩), (⟨_, ha_ct, nq_ct⟩), (⟨_, ha_se, fun _ => trivial⟩), (⟨_, ha_th, fun _ => trivial⟩), (⟨_, ha_cn, fun _ => trivial⟩), (⟨_, ha_be, nq_be⟩), (⟨_, ha_du, nq_du⟩), (⟨_, ha_db, fun _ => trivial⟩), (y_A_fr hy_pn (hk 21 (by decide) (by decide) (by decide) (by decide) (by decide) (by decide) (by decide) (by decide) (by decide) (by decide) (by decide))), (y_A_fr hy_wg (hk 22 (by decide) (by decide) (by decide) (by decide) (by decide) (by decide) (by decide) (by decide) (by decide) (by decide) (by decide))), (y_A_fr hy_wh (hk 23 (by decide) (by decide) (by decide) (by decide) (by decide) (by decide) (by decide) (by decide) (by decide) (by decide) (by decide))), (y_A_fr hy_tn (hk 24 (by decide) (by decide) (by decide) (by decide) (by decide) (by decide) (by decide) (by decide) (by decide) (by decide) (by decide))), (y_A_fr hy_he (hk 25 (by decide) (by decide) (by decide) (by decide) (by decide) (by decide) (by decide) (by decide) (by decide) (by decide) (by decide))), (y_A_fr hy_tr (hk 26 (by decide) (by decide) (by decide) (by decide) (by decide) (by decide) (by decide) (by decide) (by decide) (by decide) (by decide))), (y_A_fr hy_fd (hk 27 (by decide) (by decide) (by decide) (by decide) (by decide) (by decide) (by decide) (by decide) (by decide) (by decide) (by decide))), (y_A_fr hy_po (hk 28 (by decide) (by decide) (by decide) (by decide) (by decide) (by decide) (by decide) (by decide) (by decide) (by decide) (by decide)))⟩

set_option maxHeartbeats 4000000 in
set_option maxRecDepth 100000 in
theorem s_X10_split (l : Launch) {D : va_G} {cy : Nat → ClassId} {L : List Nat} {f : Nat → va_E} {sz : Nat} {adK adV : Nat → Nat} {bd : Nat → Nat} {gik gwd gmy : Nat → Int32} {kk : Int32} {wt : Int32} (hS : z_SM L f cy bd gik gwd gmy) : Met l yX10_split (z_ws yX10_split cX10_split 10 (some .int)) (z_R 8 0 0) (va_Pc [.ref (bd 0), .int kk, .int wt] (z_Pre D vwCl (z_KK D cy adK adV) L f sz)) (z_Qi D vwCl (fun r u => L = u.1 ∧ (∀ b ∈ L, (∀ i : Nat, i < 29 → b ≠ bd i) → u.2 b = f b) ∧ (z_SM L u.2 cy bd gik gwd gmy)) L sz) 0 0 (z_A L sz) := by
  obtain ⟨hm, hJ, h0_, hH_, hf_ik, hf_wd, hf_my, hq_my, hy_ce, hy_mv, hy_ta, hy_li, hy_st, hy_fo, hy_dr, hy_ro, hy_ct, hy_se, hy_th, hy_cn, hy_be, hy_du, hy_db, hy_pn, hy_wg, hy_wh, hy_tn, hy_he, hy_tr, hy_fd, hy_po⟩ := hS
  have h1_ := h0_
  obtain ⟨m0, m6, m7, m8, m9, m10, m12, m13, m14, m15, m22, m24, m25, m27, m28, m30, m36, m38, m40, m41, m42, m48, m52, m53, m11, m26, hf_mm, htp, hxx, hbg, hbh⟩ := h1_
  have h2_ := hH_
  obtain ⟨gha, glw, hf_ha, hf_lw, hq_ha, hq_lw, hea⟩ := h2_
  have h3_ := hy_dr
  obtain ⟨gdr, hf_dr, hq_dr⟩ := h3_
  have h3_ := hy_ro
  obtain ⟨gro, hf_ro, hq_ro⟩ := h3_
  have h3_ := hy_st
  obtain ⟨gst, hf_st, hq_st⟩ := h3_
  have h3_ := hy_ct
  obtain ⟨gct, hf_ct, hq_ct⟩ := h3_
  have h3_ := hy_se
  obtain ⟨gse, hf_se, hq_se⟩ := h3_
  have h3_ := hy_th
  obtain ⟨gth, hf_th, hq_th⟩ := h3_
  have h3_ := hy_cn
  obtain ⟨gcn, hf_cn, hq_cn⟩ := h3_
  have h3_ := hy_db
  obtain ⟨gdb, hf_db, hq_db⟩ := h3_
  have h3_ := hy_be
  obtain ⟨gbe, hf_be, hq_be⟩ := h3_
  have h3_ := hy_du
  obtain ⟨gdu, hf_du, hq_du⟩ := h3_
  have h3_ := hy_fo
  obtain ⟨gfo, hf_fo, hq_fo⟩ := h3_
  refine z_weak (c_X10_split l (hm 0 (by decide)) (hm 7 (by decide)) (hm 11 (by decide)) (hm 13 (by decide)) (hm 8 (by decide)) (hm 9 (by decide)) (hm 14 (by decide)) (hm 15 (by decide)) (hm 16 (by decide)) (hm 17 (by decide)) (hm 20 (by decide)) (hm 18 (by decide)) (hm 19 (by decide)) (hm 10 (by decide)) hf_mm hf_ha hf_dr hf_ro hf_lw hf_st hf_ct hf_se hf_th hf_cn hf_db hf_be hf_du hf_fo (fun h => absurd (hJ _ _ (by decide) (by decide) h) (by decide)) (fun h => absurd (hJ _ _ (by decide) (by decide) h) (by decide)) (fun h => absurd (hJ _ _ (by decide) (by decide) h) (by decide)) hq_ha hq_dr hq_ro hq_lw hq_st hq_ct hq_be hq_du (by first | assumption | omega) hea (by first | assumption | omega) (by first | assumption | omega)) ?_
  rintro r ⟨L2, F2⟩ ⟨hsb, hfm, o2, mn2, i2, u2, n2, d2, y2, bp2, bg2, bh2, x2, nro, nct, nse, nth, ncn, ndb, nbe, ndu, ndr, ha_mm, ha_ro, ha_ct, ha_se, ha_th, ha_cn, ha_db, ha_be, ha_du, ha_dr, nq_ro, nq_ct, nq_be, nq_du, nq_dr, hp⟩
  obtain rfl : L = L2 := hsb
  have hk : ∀ i : Nat, i < 29 → i ≠ 0 → i ≠ 13 → i ≠ 14 → i ≠ 15 → i ≠ 16 → i ≠ 17 → i ≠ 20 → i ≠ 18 → i ≠ 19 → i ≠ 11 → F2 (bd i) = f (bd i) := fun i hi h0 h13 h14 h15 h16 h17 h20 h18 h19 h11 => hfm _ (hm i hi) (fun h => h0 (hJ _ _ hi (by decide) h)) (fun h => h13 (hJ _ _ hi (by decide) h)) (fun h => h14 (hJ _ _ hi (by decide) h)) (fun h => h15 (hJ _ _ hi (by decide) h)) (fun h => h16 (hJ _ _ hi (by decide) h)) (fun h => h17 (hJ _ _ hi (by decide) h)) (fun h => h20 (hJ _ _ hi (by decide) h)) (fun h => h18 (hJ _ _ hi (by decide) h)) (fun h => h19 (hJ _ _ hi (by decide) h)) (fun h => h11 (hJ _ _ hi (by decide) h))
  refine ⟨rfl, fun b hb h => hfm b hb (h 0 (by decide)) (h 13 (by decide)) (h 14 (by decide)) (h 15 (by decide)) (h 16 (by decide)) (h 17 (by decide)) (h 20 (by decide)) (h 18 (by decide)) (h 19 (by decide)) (h 11 (by decide)), ?_⟩
  exact ⟨hm, hJ, (⟨0, m6, m7, m8, m9, m10, m12, m13, m14, m15, m22, o2, mn2, i2, u2, n2, y2, d2, bp2, bg2, bh2, m48, m52, m53, m11, x2, ha_mm, (by first | assumption | omega | decide), (by first | assumption | omega | decide), (by first | assumption | omega | decide), (by first | assumption | omega | decide)⟩), (y_H_fr hH_ (hk 7 (by decide) (by decide) (by decide) (by decide) (by decide) (by decide) (by decide) (by decide) (by decide) (by decide) (by decide)) (hk 8 (by decide) (by decide) (by decide) (by decide) (by decide) (by decide) (by decide) (by decide) (by decide) (by decide) (by decide))), ((hk 12 (by decide) (by decide) (by decide) (by decide) (by decide) (by decide) (by decide) (by decide) (by decide) (by decide) (by decide)).trans hf_ik), ((hk 1 (by decide) (by decide) (by decide) (by decide) (by decide) (by decide) (by decide) (by decide) (by decide) (by decide) (by decide)).trans hf_wd), ((hk 2 (by decide) (by decide) (by decide) (by decide) (by decide) (by decide) (by decide) (by decide) (by decide) (by decide) (by decide)).trans hf_my), (hq_my), (y_J_fr hy_ce (hk 3 (by decide) (by decide) (by decide) (by decide) (by decide) (by decide) (by decide) (by decide) (by decide) (by decide) (by decide))), (y_J_fr hy_mv (hk 4 (by decide) (by decide) (by decide) (by decide) (by decide) (by decide) (by decide) (by decide) (by decide) (by decide) (by decide))), (y_A_fr hy_ta (hk 5 (by decide) (by decide) (by decide) (by decide) (by decide) (by decide) (by decide) (by decide) (by decide) (by decide) (by decide))), (y_A_fr hy_li (hk 6 (by decide) (by decide) (by decide) (by decide) (by decide) (by decide) (by decide) (by decide) (by decide) (by decide) (by decide))), (y_A_fr hy_st (hk 9 (by decide) (by decide) (by decide) (by decide) (by decide) (by decide) (by decide) (by decide) (by decide) (by decide) (by decide))), (y_A_fr hy_fo (hk 10 (by decide) (by decide) (by decide) (by decide) (by decide) (by decide) (by decide) (by decide) (by decide) (by decide) (by decide))), (⟨_, ha_dr, nq_dr⟩), (⟨_, ha_ro, nq_ro⟩), (⟨_, ha_ct, nq_ct⟩), (⟨_, ha_se, fun _ => trivial⟩), (⟨_, ha_th, fun _ => trivial⟩), (⟨_, ha_cn, fun _ => trivial⟩), (⟨_, ha_be, nq_be⟩), (⟨_, ha_du, nq_du⟩), (⟨_, ha_db, fun _ => trivial⟩), (y_A_fr hy_pn (hk 21 (by decide) (by decide) (by decide) (by decide) (by decide) (by decide) (by decide) (by decide) (by decide) (by decide) (by decide))), (y_A_fr hy_wg (hk 22 (by decide) (by decide) (by decide) (by decide) (by decide) (by decide) (by decide) (by decide) (by decide) (by decide) (by decide))), (y_A_fr hy_wh (hk 23 (by decide) (by decide) (by decide) (by decide) (by decide) (by decide) (by decide) (by decide) (by decide) (by decide) (by decide))), (y_A_fr hy_tn (hk 24 (by decide) (by decide) (by decide) (by decide) (by decide) (by decide) (by decide) (by decide) (by decide) (by decide) (by decide))), (y_A_fr hy_he (hk 25 (by decide) (by decide) (by decide) (by decide) (by decide) (by decide) (by decide) (by decide) (by decide) (by decide) (by decide))), (y_A_fr hy_tr (hk 26 (by decide) (by decide) (by decide) (by decide) (by decide) (by decide) (by decide) (by decide) (by decide) (by decide) (by decide))), (y_A_fr hy_fd (hk 27 (by decide) (by decide) (by decide) (by decide) (by decide) (by decide) (by decide) (by decide) (by decide) (by decide) (by decide))), (y_A_fr hy_po (hk 28 (by decide) (by decide) (by decide) (by decide) (by decide) (by decide) (by decide) (by decide) (by decide) (by decide) (by decide)))⟩

set_option maxHeartbeats 4000000 in
set_option maxRecDepth 100000 in
theorem s_X10_rest (l : Launch) {D : va_G} {cy : Nat → ClassId} {L : List Nat} {f : Nat → va_E} {sz : Nat} {adK adV : Nat → Nat} {bd : Nat → Nat} {gik gwd gmy : Nat → Int32}  (hS : z_SM L f cy bd gik gwd gmy) : Met l yX10_rest (z_ws yX10_rest cX10_rest 1 (some .int)) (z_R 8 0 0) (va_Pc [.ref (bd 0)] (z_Pre D vwCl (z_KK D cy adK adV) L f sz)) (z_Qi D vwCl (fun r u => L = u.1 ∧ (∀ b ∈ L, (∀ i : Nat, i < 29 → b ≠ bd i) → u.2 b = f b) ∧ (z_SM L u.2 cy bd gik gwd gmy)) L sz) 0 0 (z_A L sz) := by
  obtain ⟨hm, hJ, h0_, hH_, hf_ik, hf_wd, hf_my, hq_my, hy_ce, hy_mv, hy_ta, hy_li, hy_st, hy_fo, hy_dr, hy_ro, hy_ct, hy_se, hy_th, hy_cn, hy_be, hy_du, hy_db, hy_pn, hy_wg, hy_wh, hy_tn, hy_he, hy_tr, hy_fd, hy_po⟩ := hS
  have h1_ := h0_
  obtain ⟨m0, m6, m7, m8, m9, m10, m12, m13, m14, m15, m22, m24, m25, m27, m28, m30, m36, m38, m40, m41, m42, m48, m52, m53, m11, m26, hf_mm, htp, hxx, hbg, hbh⟩ := h1_
  have h2_ := hH_
  obtain ⟨gha, glw, hf_ha, hf_lw, hq_ha, hq_lw, hea⟩ := h2_
  have h3_ := hy_dr
  obtain ⟨gdr, hf_dr, hq_dr⟩ := h3_
  have h3_ := hy_ro
  obtain ⟨gro, hf_ro, hq_ro⟩ := h3_
  have h3_ := hy_st
  obtain ⟨gst, hf_st, hq_st⟩ := h3_
  have h3_ := hy_ct
  obtain ⟨gct, hf_ct, hq_ct⟩ := h3_
  have h3_ := hy_se
  obtain ⟨gse, hf_se, hq_se⟩ := h3_
  have h3_ := hy_th
  obtain ⟨gth, hf_th, hq_th⟩ := h3_
  have h3_ := hy_cn
  obtain ⟨gcn, hf_cn, hq_cn⟩ := h3_
  have h3_ := hy_db
  obtain ⟨gdb, hf_db, hq_db⟩ := h3_
  have h3_ := hy_be
  obtain ⟨gbe, hf_be, hq_be⟩ := h3_
  have h3_ := hy_du
  obtain ⟨gdu, hf_du, hq_du⟩ := h3_
  have h3_ := hy_fo
  obtain ⟨gfo, hf_fo, hq_fo⟩ := h3_
  have h3_ := hy_li
  obtain ⟨gli, hf_li, hq_li⟩ := h3_
  have h3_ := hy_pn
  obtain ⟨gpn, hf_pn, hq_pn⟩ := h3_
  refine z_weak (c_X10_rest l (hm 0 (by decide)) (hm 7 (by decide)) (hm 11 (by decide)) (hm 13 (by decide)) (hm 8 (by decide)) (hm 9 (by decide)) (hm 14 (by decide)) (hm 15 (by decide)) (hm 16 (by decide)) (hm 17 (by decide)) (hm 20 (by decide)) (hm 18 (by decide)) (hm 19 (by decide)) (hm 10 (by decide)) (hm 6 (by decide)) (hm 21 (by decide)) hf_mm hf_ha hf_dr hf_ro hf_lw hf_st hf_ct hf_se hf_th hf_cn hf_db hf_be hf_du hf_fo hf_li hf_pn (fun h => absurd (hJ _ _ (by decide) (by decide) h) (by decide)) (fun h => absurd (hJ _ _ (by decide) (by decide) h) (by decide)) (fun h => absurd (hJ _ _ (by decide) (by decide) h) (by decide)) (fun h => absurd (hJ _ _ (by decide) (by decide) h) (by decide)) (fun h => absurd (hJ _ _ (by decide) (by decide) h) (by decide)) (fun h => absurd (hJ _ _ (by decide) (by decide) h) (by decide)) hq_ha hq_dr hq_ro hq_lw hq_st hq_ct hq_be hq_du (by first | assumption | omega) hea (by first | assumption | omega) (by first | assumption | omega)) ?_
  rintro r ⟨L2, F2⟩ ⟨hsb, hfm, o2, mn2, i2, u2, n2, d2, y2, bp2, bg2, bh2, x2, nro, nct, nse, nth, ncn, ndb, nbe, ndu, ndr, npn, ha_mm, ha_ro, ha_ct, ha_se, ha_th, ha_cn, ha_db, ha_be, ha_du, ha_dr, ha_pn, nq_ro, nq_ct, nq_be, nq_du, nq_dr, hp⟩
  obtain rfl : L = L2 := hsb
  have hk : ∀ i : Nat, i < 29 → i ≠ 0 → i ≠ 13 → i ≠ 14 → i ≠ 15 → i ≠ 16 → i ≠ 17 → i ≠ 20 → i ≠ 18 → i ≠ 19 → i ≠ 11 → i ≠ 21 → F2 (bd i) = f (bd i) := fun i hi h0 h13 h14 h15 h16 h17 h20 h18 h19 h11 h21 => hfm _ (hm i hi) (fun h => h0 (hJ _ _ hi (by decide) h)) (fun h => h13 (hJ _ _ hi (by decide) h)) (fun h => h14 (hJ _ _ hi (by decide) h)) (fun h => h15 (hJ _ _ hi (by decide) h)) (fun h => h16 (hJ _ _ hi (by decide) h)) (fun h => h17 (hJ _ _ hi (by decide) h)) (fun h => h20 (hJ _ _ hi (by decide) h)) (fun h => h18 (hJ _ _ hi (by decide) h)) (fun h => h19 (hJ _ _ hi (by decide) h)) (fun h => h11 (hJ _ _ hi (by decide) h)) (fun h => h21 (hJ _ _ hi (by decide) h))
  refine ⟨rfl, fun b hb h => hfm b hb (h 0 (by decide)) (h 13 (by decide)) (h 14 (by decide)) (h 15 (by decide)) (h 16 (by decide)) (h 17 (by decide)) (h 20 (by decide)) (h 18 (by decide)) (h 19 (by decide)) (h 11 (by decide)) (h 21 (by decide)), ?_⟩
  exact ⟨hm, hJ, (⟨0, m6, m7, m8, m9, m10, m12, m13, m14, m15, m22, o2, mn2, i2, u2, n2, y2, d2, bp2, bg2, bh2, m48, m52, m53, m11, x2, ha_mm, (by first | assumption | omega | decide), (by first | assumption | omega | decide), (by first | assumption | omega | decide), (by first | assumption | omega | decide)⟩), (y_H_fr hH_ (hk 7 (by decide) (by decide) (by decide) (by decide) (by decide) (by decide) (by decide) (by decide) (by decide) (by decide) (by decide) (by decide)) (hk 8 (by decide) (by decide) (by decide) (by decide) (by decide) (by decide) (by decide) (by decide) (by decide) (by decide) (by decide) (by decide))), ((hk 12 (by decide) (by decide) (by decide) (by decide) (by decide) (by decide) (by decide) (by decide) (by decide) (by decide) (by decide) (by decide)).trans hf_ik), ((hk 1 (by decide) (by decide) (by decide) (by decide) (by decide) (by decide) (by decide) (by decide) (by decide) (by decide) (by decide) (by decide)).trans hf_wd), ((hk 2 (by decide) (by decide) (by decide) (by decide) (by decide) (by decide) (by decide) (by decide) (by decide) (by decide) (by decide) (by decide)).trans hf_my), (hq_my), (y_J_fr hy_ce (hk 3 (by decide) (by decide) (by decide) (by decide) (by decide) (by decide) (by decide) (by decide) (by decide) (by decide) (by decide) (by decide))), (y_J_fr hy_mv (hk 4 (by decide) (by decide) (by decide) (by decide) (by decide) (by decide) (by decide) (by decide) (by decide) (by decide) (by decide) (by decide))), (y_A_fr hy_ta (hk 5 (by decide) (by decide) (by decide) (by decide) (by decide) (by decide) (by decide) (by decide) (by decide) (by decide) (by decide) (by decide))), (y_A_fr hy_li (hk 6 (by decide) (by decide) (by decide) (by decide) (by decide) (by decide) (by decide) (by decide) (by decide) (by decide) (by decide) (by decide))), (y_A_fr hy_st (hk 9 (by decide) (by decide) (by decide) (by decide) (by decide) (by decide) (by decide) (by decide) (by decide) (by decide) (by decide) (by decide))), (y_A_fr hy_fo (hk 10 (by decide) (by decide) (by decide) (by decide) (by decide) (by decide) (by decide) (by decide) (by decide) (by decide) (by decide) (by decide))), (⟨_, ha_dr, nq_dr⟩), (⟨_, ha_ro, nq_ro⟩), (⟨_, ha_ct, nq_ct⟩), (⟨_, ha_se, fun _ => trivial⟩), (⟨_, ha_th, fun _ => trivial⟩), (⟨_, ha_cn, fun _ => trivial⟩), (⟨_, ha_be, nq_be⟩), (⟨_, ha_du, nq_du⟩), (⟨_, ha_db, fun _ => trivial⟩), (⟨_, ha_pn, fun _ => trivial⟩), (y_A_fr hy_wg (hk 22 (by decide) (by decide) (by decide) (by decide) (by decide) (by decide) (by decide) (by decide) (by decide) (by decide) (by decide) (by decide))), (y_A_fr hy_wh (hk 23 (by decide) (by decide) (by decide) (by decide) (by decide) (by decide) (by decide) (by decide) (by decide) (by decide) (by decide) (by decide))), (y_A_fr hy_tn (hk 24 (by decide) (by decide) (by decide) (by decide) (by decide) (by decide) (by decide) (by decide) (by decide) (by decide) (by decide) (by decide))), (y_A_fr hy_he (hk 25 (by decide) (by decide) (by decide) (by decide) (by decide) (by decide) (by decide) (by decide) (by decide) (by decide) (by decide) (by decide))), (y_A_fr hy_tr (hk 26 (by decide) (by decide) (by decide) (by decide) (by decide) (by decide) (by decide) (by decide) (by decide) (by decide) (by decide) (by decide))), (y_A_fr hy_fd (hk 27 (by decide) (by decide) (by decide) (by decide) (by decide) (by decide) (by decide) (by decide) (by decide) (by decide) (by decide) (by decide))), (y_A_fr hy_po (hk 28 (by decide) (by decide) (by decide) (by decide) (by decide) (by decide) (by decide) (by decide) (by decide) (by decide) (by decide) (by decide)))⟩

set_option maxHeartbeats 4000000 in
set_option maxRecDepth 100000 in
theorem s_X10_rests (l : Launch) {D : va_G} {cy : Nat → ClassId} {L : List Nat} {f : Nat → va_E} {sz : Nat} {adK adV : Nat → Nat} {bd : Nat → Nat} {gik gwd gmy : Nat → Int32} {nn : Int32} (hS : z_SM L f cy bd gik gwd gmy) : Met l yX10_rests (z_ws yX10_rests cX10_rests 2 (some .int)) (z_R 9 0 0) (va_Pc [.ref (bd 0), .int nn] (z_Pre D vwCl (z_KK D cy adK adV) L f sz)) (z_Qi D vwCl (fun r u => L = u.1 ∧ (∀ b ∈ L, (∀ i : Nat, i < 29 → b ≠ bd i) → u.2 b = f b) ∧ (z_SM L u.2 cy bd gik gwd gmy)) L sz) 0 0 (z_A L sz) := by
  obtain ⟨hm, hJ, h0_, hH_, hf_ik, hf_wd, hf_my, hq_my, hy_ce, hy_mv, hy_ta, hy_li, hy_st, hy_fo, hy_dr, hy_ro, hy_ct, hy_se, hy_th, hy_cn, hy_be, hy_du, hy_db, hy_pn, hy_wg, hy_wh, hy_tn, hy_he, hy_tr, hy_fd, hy_po⟩ := hS
  have h1_ := h0_
  obtain ⟨m0, m6, m7, m8, m9, m10, m12, m13, m14, m15, m22, m24, m25, m27, m28, m30, m36, m38, m40, m41, m42, m48, m52, m53, m11, m26, hf_mm, htp, hxx, hbg, hbh⟩ := h1_
  have h2_ := hH_
  obtain ⟨gha, glw, hf_ha, hf_lw, hq_ha, hq_lw, hea⟩ := h2_
  have h3_ := hy_dr
  obtain ⟨gdr, hf_dr, hq_dr⟩ := h3_
  have h3_ := hy_ro
  obtain ⟨gro, hf_ro, hq_ro⟩ := h3_
  have h3_ := hy_st
  obtain ⟨gst, hf_st, hq_st⟩ := h3_
  have h3_ := hy_ct
  obtain ⟨gct, hf_ct, hq_ct⟩ := h3_
  have h3_ := hy_se
  obtain ⟨gse, hf_se, hq_se⟩ := h3_
  have h3_ := hy_th
  obtain ⟨gth, hf_th, hq_th⟩ := h3_
  have h3_ := hy_cn
  obtain ⟨gcn, hf_cn, hq_cn⟩ := h3_
  have h3_ := hy_db
  obtain ⟨gdb, hf_db, hq_db⟩ := h3_
  have h3_ := hy_be
  obtain ⟨gbe, hf_be, hq_be⟩ := h3_
  have h3_ := hy_du
  obtain ⟨gdu, hf_du, hq_du⟩ := h3_
  have h3_ := hy_fo
  obtain ⟨gfo, hf_fo, hq_fo⟩ := h3_
  have h3_ := hy_li
  obtain ⟨gli, hf_li, hq_li⟩ := h3_
  have h3_ := hy_pn
  obtain ⟨gpn, hf_pn, hq_pn⟩ := h3_
  have h3_ := hy_wg
  obtain ⟨gwg, hf_wg, hq_wg⟩ := h3_
  have h3_ := hy_wh
  obtain ⟨gwh, hf_wh, hq_wh⟩ := h3_
  have h3_ := hy_tn
  obtain ⟨gtn, hf_tn, hq_tn⟩ := h3_
  refine z_weak (c_X10_rests l (hm 0 (by decide)) (hm 7 (by decide)) (hm 11 (by decide)) (hm 13 (by decide)) (hm 8 (by decide)) (hm 9 (by decide)) (hm 14 (by decide)) (hm 15 (by decide)) (hm 16 (by decide)) (hm 17 (by decide)) (hm 20 (by decide)) (hm 18 (by decide)) (hm 19 (by decide)) (hm 10 (by decide)) (hm 6 (by decide)) (hm 21 (by decide)) (hm 22 (by decide)) (hm 23 (by decide)) (hm 24 (by decide)) hf_mm hf_ha hf_dr hf_ro hf_lw hf_st hf_ct hf_se hf_th hf_cn hf_db hf_be hf_du hf_fo hf_li hf_pn hf_wg hf_wh hf_tn (fun h => absurd (hJ _ _ (by decide) (by decide) h) (by decide)) (fun h => absurd (hJ _ _ (by decide) (by decide) h) (by decide)) (fun h => absurd (hJ _ _ (by decide) (by decide) h) (by decide)) (fun h => absurd (hJ _ _ (by decide) (by decide) h) (by decide)) (fun h => absurd (hJ _ _ (by decide) (by decide) h) (by decide)) (fun h => absurd (hJ _ _ (by decide) (by decide) h) (by decide)) (fun h => absurd (hJ _ _ (by decide) (by decide) h) (by decide)) (fun h => absurd (hJ _ _ (by decide) (by decide) h) (by decide)) (fun h => absurd (hJ _ _ (by decide) (by decide) h) (by decide)) hq_ha hq_dr hq_ro hq_lw hq_st hq_ct hq_be hq_du hq_wg hq_wh (by first | assumption | omega) hea (by first | assumption | omega) (by first | assumption | omega)) ?_
  rintro r ⟨L2, F2⟩ ⟨hsb, hfm, o2, mn2, i2, u2, n2, d2, y2, bp2, bg2, bh2, x2, nro, nct, nse, nth, ncn, ndb, nbe, ndu, ndr, npn, nwg, nwh, ntn, ha_mm, ha_ro, ha_ct, ha_se, ha_th, ha_cn, ha_db, ha_be, ha_du, ha_dr, ha_pn, ha_wg, ha_wh, ha_tn, nq_ro, nq_ct, nq_be, nq_du, nq_dr, nq_wg, nq_wh, hp⟩
  obtain rfl : L = L2 := hsb
  have hk : ∀ i : Nat, i < 29 → i ≠ 0 → i ≠ 13 → i ≠ 14 → i ≠ 15 → i ≠ 16 → i ≠ 17 → i ≠ 20 → i ≠ 18 → i ≠ 19 → i ≠ 11 → i ≠ 21 → i ≠ 22 → i ≠ 23 → i ≠ 24 → F2 (bd i) = f (bd i) := fun i hi h0 h13 h14 h15 h16 h17 h20 h18 h19 h11 h21 h22 h23 h24 => hfm _ (hm i hi) (fun h => h0 (hJ _ _ hi (by decide) h)) (fun h => h13 (hJ _ _ hi (by decide) h)) (fun h => h14 (hJ _ _ hi (by decide) h)) (fun h => h15 (hJ _ _ hi (by decide) h)) (fun h => h16 (hJ _ _ hi (by decide) h)) (fun h => h17 (hJ _ _ hi (by decide) h)) (fun h => h20 (hJ _ _ hi (by decide) h)) (fun h => h18 (hJ _ _ hi (by decide) h)) (fun h => h19 (hJ _ _ hi (by decide) h)) (fun h => h11 (hJ _ _ hi (by decide) h)) (fun h => h21 (hJ _ _ hi (by decide) h)) (fun h => h22 (hJ _ _ hi (by decide) h)) (fun h => h23 (hJ _ _ hi (by decide) h)) (fun h => h24 (hJ _ _ hi (by decide) h))
  refine ⟨rfl, fun b hb h => hfm b hb (h 0 (by decide)) (h 13 (by decide)) (h 14 (by decide)) (h 15 (by decide)) (h 16 (by decide)) (h 17 (by decide)) (h 20 (by decide)) (h 18 (by decide)) (h 19 (by decide)) (h 11 (by decide)) (h 21 (by decide)) (h 22 (by decide)) (h 23 (by decide)) (h 24 (by decide)), ?_⟩
  exact ⟨hm, hJ, (⟨0, m6, m7, m8, m9, m10, m12, m13, m14, m15, m22, o2, mn2, i2, u2, n2, y2, d2, bp2, bg2, bh2, m48, m52, m53, m11, x2, ha_mm, (by first | assumption | omega | decide), (by first | assumption | omega | decide), (by first | assumption | omega | decide), (by first | assumption | omega | decide)⟩), (y_H_fr hH_ (hk 7 (by decide) (by decide) (by decide) (by decide) (by decide) (by decide) (by decide) (by decide) (by decide) (by decide) (by decide) (by decide) (by decide) (by decide) (by decide)) (hk 8 (by decide) (by decide) (by decide) (by decide) (by decide) (by decide) (by decide) (by decide) (by decide) (by decide) (by decide) (by decide) (by decide) (by decide) (by decide))), ((hk 12 (by decide) (by decide) (by decide) (by decide) (by decide) (by decide) (by decide) (by decide) (by decide) (by decide) (by decide) (by decide) (by decide) (by decide) (by decide)).trans hf_ik), ((hk 1 (by decide) (by decide) (by decide) (by decide) (by decide) (by decide) (by decide) (by decide) (by decide) (by decide) (by decide) (by decide) (by decide) (by decide) (by decide)).trans hf_wd), ((hk 2 (by decide) (by decide) (by decide) (by decide) (by decide) (by decide) (by decide) (by decide) (by decide) (by decide) (by decide) (by decide) (by decide) (by decide) (by decide)).trans hf_my), (hq_my), (y_J_fr hy_ce (hk 3 (by decide) (by decide) (by decide) (by decide) (by decide) (by decide) (by decide) (by decide) (by decide) (by decide) (by decide) (by decide) (by decide) (by decide) (by decide))), (y_J_fr hy_mv (hk 4 (by decide) (by decide) (by decide) (by decide) (by decide) (by decide) (by decide) (by decide) (by decide) (by decide) (by decide) (by decide) (by decide) (by decide) (by decide))), (y_A_fr hy_ta (hk 5 (by decide) (by decide) (by decide) (by decide) (by decide) (by decide) (by decide) (by decide) (by decide) (by decide) (by decide) (by decide) (by decide) (by decide) (by decide))), (y_A_fr hy_li (hk 6 (by decide) (by decide) (by decide) (by decide) (by decide) (by decide) (by decide) (by decide) (by decide) (by decide) (by decide) (by decide) (by decide) (by decide) (by decide))), (y_A_fr hy_st (hk 9 (by decide) (by decide) (by decide) (by decide) (by decide) (by decide) (by decide) (by decide) (by decide) (by decide) (by decide) (by decide) (by decide) (by decide) (by decide))), (y_A_fr hy_fo (hk 10 (by decide) (by decide) (by decide) (by decide) (by decide) (by decide) (by decide) (by decide) (by decide) (by decide) (by decide) (by decide) (by decide) (by decide) (by decide))), (⟨_, ha_dr, nq_dr⟩), (⟨_, ha_ro, nq_ro⟩), (⟨_, ha_ct, nq_ct⟩), (⟨_, ha_se, fun _ => trivial⟩), (⟨_, ha_th, fun _ => trivial⟩), (⟨_, ha_cn, fun _ => trivial⟩), (⟨_, ha_be, nq_be⟩), (⟨_, ha_du, nq_du⟩), (⟨_, ha_db, fun _ => trivial⟩), (⟨_, ha_pn, fun _ => trivial⟩), (⟨_, ha_wg, nq_wg⟩), (⟨_, ha_wh, nq_wh⟩), (⟨_, ha_tn, fun _ => trivial⟩), (y_A_fr hy_he (hk 25 (by decide) (by decide) (by decide) (by decide) (by decide) (by decide) (by decide) (by decide) (by decide) (by decide) (by decide) (by decide) (by decide) (by decide) (by decide))), (y_A_fr hy_tr (hk 26 (by decide) (by decide) (by decide) (by decide) (by decide) (by decide) (by decide) (by decide) (by decide) (by decide) (by decide) (by decide) (by decide) (by decide) (by decide))), (y_A_fr hy_fd (hk 27 (by decide) (by decide) (by decide) (by decide) (by decide) (by decide) (by decide) (by decide) (by decide) (by decide) (by decide) (by decide) (by decide) (by decide) (by decide))), (y_A_fr hy_po (hk 28 (by decide) (by decide) (by decide) (by decide) (by decide) (by decide) (by decide) (by decide) (by decide) (by decide) (by decide) (by decide) (by decide) (by decide) (by decide)))⟩

set_option maxHeartbeats 4000000 in
set_option maxRecDepth 100000 in
theorem s_X10_sent (l : Launch) {D : va_G} {cy : Nat → ClassId} {L : List Nat} {f : Nat → va_E} {sz : Nat} {adK adV : Nat → Nat} {bd : Nat → Nat} {gik gwd gmy : Nat → Int32} {kk : Int32} {nn : Int32} (hS : z_SM L f cy bd gik gwd gmy) : Met l yX10_sent (z_ws yX10_sent cX10_sent 3 (some .int)) (z_R 9 0 0) (va_Pc [.ref (bd 0), .int kk, .int nn] (z_Pre D vwCl (z_KK D cy adK adV) L f sz)) (z_Qi D vwCl (fun r u => L = u.1 ∧ (∀ b ∈ L, (∀ i : Nat, i < 29 → b ≠ bd i) → u.2 b = f b) ∧ (z_SM L u.2 cy bd gik gwd gmy)) L sz) 0 0 (z_A L sz) := by
  obtain ⟨hm, hJ, h0_, hH_, hf_ik, hf_wd, hf_my, hq_my, hy_ce, hy_mv, hy_ta, hy_li, hy_st, hy_fo, hy_dr, hy_ro, hy_ct, hy_se, hy_th, hy_cn, hy_be, hy_du, hy_db, hy_pn, hy_wg, hy_wh, hy_tn, hy_he, hy_tr, hy_fd, hy_po⟩ := hS
  have h1_ := h0_
  obtain ⟨m0, m6, m7, m8, m9, m10, m12, m13, m14, m15, m22, m24, m25, m27, m28, m30, m36, m38, m40, m41, m42, m48, m52, m53, m11, m26, hf_mm, htp, hxx, hbg, hbh⟩ := h1_
  have h2_ := hH_
  obtain ⟨gha, glw, hf_ha, hf_lw, hq_ha, hq_lw, hea⟩ := h2_
  have h3_ := hy_dr
  obtain ⟨gdr, hf_dr, hq_dr⟩ := h3_
  have h3_ := hy_ro
  obtain ⟨gro, hf_ro, hq_ro⟩ := h3_
  have h3_ := hy_st
  obtain ⟨gst, hf_st, hq_st⟩ := h3_
  have h3_ := hy_ct
  obtain ⟨gct, hf_ct, hq_ct⟩ := h3_
  have h3_ := hy_se
  obtain ⟨gse, hf_se, hq_se⟩ := h3_
  have h3_ := hy_th
  obtain ⟨gth, hf_th, hq_th⟩ := h3_
  have h3_ := hy_cn
  obtain ⟨gcn, hf_cn, hq_cn⟩ := h3_
  have h3_ := hy_db
  obtain ⟨gdb, hf_db, hq_db⟩ := h3_
  have h3_ := hy_be
  obtain ⟨gbe, hf_be, hq_be⟩ := h3_
  have h3_ := hy_du
  obtain ⟨gdu, hf_du, hq_du⟩ := h3_
  have h3_ := hy_fo
  obtain ⟨gfo, hf_fo, hq_fo⟩ := h3_
  have h3_ := hy_pn
  obtain ⟨gpn, hf_pn, hq_pn⟩ := h3_
  have h3_ := hy_wg
  obtain ⟨gwg, hf_wg, hq_wg⟩ := h3_
  have h3_ := hy_wh
  obtain ⟨gwh, hf_wh, hq_wh⟩ := h3_
  have h3_ := hy_tn
  obtain ⟨gtn, hf_tn, hq_tn⟩ := h3_
  refine z_weak (c_X10_sent l (hm 0 (by decide)) (hm 7 (by decide)) (hm 11 (by decide)) (hm 13 (by decide)) (hm 8 (by decide)) (hm 9 (by decide)) (hm 14 (by decide)) (hm 15 (by decide)) (hm 16 (by decide)) (hm 17 (by decide)) (hm 20 (by decide)) (hm 18 (by decide)) (hm 19 (by decide)) (hm 10 (by decide)) (hm 21 (by decide)) (hm 22 (by decide)) (hm 23 (by decide)) (hm 24 (by decide)) hf_mm hf_ha hf_dr hf_ro hf_lw hf_st hf_ct hf_se hf_th hf_cn hf_db hf_be hf_du hf_fo hf_pn hf_wg hf_wh hf_tn (fun h => absurd (hJ _ _ (by decide) (by decide) h) (by decide)) (fun h => absurd (hJ _ _ (by decide) (by decide) h) (by decide)) (fun h => absurd (hJ _ _ (by decide) (by decide) h) (by decide)) (fun h => absurd (hJ _ _ (by decide) (by decide) h) (by decide)) (fun h => absurd (hJ _ _ (by decide) (by decide) h) (by decide)) (fun h => absurd (hJ _ _ (by decide) (by decide) h) (by decide)) (fun h => absurd (hJ _ _ (by decide) (by decide) h) (by decide)) hq_ha hq_dr hq_ro hq_lw hq_st hq_ct hq_be hq_du hq_wg hq_wh (by first | assumption | omega) hea (by first | assumption | omega) (by first | assumption | omega)) ?_
  rintro r ⟨L2, F2⟩ ⟨hsb, hfm, o2, mn2, i2, u2, n2, d2, y2, bp2, bg2, bh2, x2, nro, nct, nse, nth, ncn, ndb, nbe, ndu, ndr, npn, nwg, nwh, ntn, ha_mm, ha_ro, ha_ct, ha_se, ha_th, ha_cn, ha_db, ha_be, ha_du, ha_dr, ha_pn, ha_wg, ha_wh, ha_tn, nq_ro, nq_ct, nq_be, nq_du, nq_dr, nq_wg, nq_wh, hp⟩
  obtain rfl : L = L2 := hsb
  have hk : ∀ i : Nat, i < 29 → i ≠ 0 → i ≠ 13 → i ≠ 14 → i ≠ 15 → i ≠ 16 → i ≠ 17 → i ≠ 20 → i ≠ 18 → i ≠ 19 → i ≠ 11 → i ≠ 21 → i ≠ 22 → i ≠ 23 → i ≠ 24 → F2 (bd i) = f (bd i) := fun i hi h0 h13 h14 h15 h16 h17 h20 h18 h19 h11 h21 h22 h23 h24 => hfm _ (hm i hi) (fun h => h0 (hJ _ _ hi (by decide) h)) (fun h => h13 (hJ _ _ hi (by decide) h)) (fun h => h14 (hJ _ _ hi (by decide) h)) (fun h => h15 (hJ _ _ hi (by decide) h)) (fun h => h16 (hJ _ _ hi (by decide) h)) (fun h => h17 (hJ _ _ hi (by decide) h)) (fun h => h20 (hJ _ _ hi (by decide) h)) (fun h => h18 (hJ _ _ hi (by decide) h)) (fun h => h19 (hJ _ _ hi (by decide) h)) (fun h => h11 (hJ _ _ hi (by decide) h)) (fun h => h21 (hJ _ _ hi (by decide) h)) (fun h => h22 (hJ _ _ hi (by decide) h)) (fun h => h23 (hJ _ _ hi (by decide) h)) (fun h => h24 (hJ _ _ hi (by decide) h))
  refine ⟨rfl, fun b hb h => hfm b hb (h 0 (by decide)) (h 13 (by decide)) (h 14 (by decide)) (h 15 (by decide)) (h 16 (by decide)) (h 17 (by decide)) (h 20 (by decide)) (h 18 (by decide)) (h 19 (by decide)) (h 11 (by decide)) (h 21 (by decide)) (h 22 (by decide)) (h 23 (by decide)) (h 24 (by decide)), ?_⟩
  exact ⟨hm, hJ, (⟨0, m6, m7, m8, m9, m10, m12, m13, m14, m15, m22, o2, mn2, i2, u2, n2, y2, d2, bp2, bg2, bh2, m48, m52, m53, m11, x2, ha_mm, (by first | assumption | omega | decide), (by first | assumption | omega | decide), (by first | assumption | omega | decide), (by first | assumption | omega | decide)⟩), (y_H_fr hH_ (hk 7 (by decide) (by decide) (by decide) (by decide) (by decide) (by decide) (by decide) (by decide) (by decide) (by decide) (by decide) (by decide) (by decide) (by decide) (by decide)) (hk 8 (by decide) (by decide) (by decide) (by decide) (by decide) (by decide) (by decide) (by decide) (by decide) (by decide) (by decide) (by decide) (by decide) (by decide) (by decide))), ((hk 12 (by decide) (by decide) (by decide) (by decide) (by decide) (by decide) (by decide) (by decide) (by decide) (by decide) (by decide) (by decide) (by decide) (by decide) (by decide)).trans hf_ik), ((hk 1 (by decide) (by decide) (by decide) (by decide) (by decide) (by decide) (by decide) (by decide) (by decide) (by decide) (by decide) (by decide) (by decide) (by decide) (by decide)).trans hf_wd), ((hk 2 (by decide) (by decide) (by decide) (by decide) (by decide) (by decide) (by decide) (by decide) (by decide) (by decide) (by decide) (by decide) (by decide) (by decide) (by decide)).trans hf_my), (hq_my), (y_J_fr hy_ce (hk 3 (by decide) (by decide) (by decide) (by decide) (by decide) (by decide) (by decide) (by decide) (by decide) (by decide) (by decide) (by decide) (by decide) (by decide) (by decide))), (y_J_fr hy_mv (hk 4 (by decide) (by decide) (by decide) (by decide) (by decide) (by decide) (by decide) (by decide) (by decide) (by decide) (by decide) (by decide) (by decide) (by decide) (by decide))), (y_A_fr hy_ta (hk 5 (by decide) (by decide) (by decide) (by decide) (by decide) (by decide) (by decide) (by decide) (by decide) (by decide) (by decide) (by decide) (by decide) (by decide) (by decide))), (y_A_fr hy_li (hk 6 (by decide) (by decide) (by decide) (by decide) (by decide) (by decide) (by decide) (by decide) (by decide) (by decide) (by decide) (by decide) (by decide) (by decide) (by decide))), (y_A_fr hy_st (hk 9 (by decide) (by decide) (by decide) (by decide) (by decide) (by decide) (by decide) (by decide) (by decide) (by decide) (by decide) (by decide) (by decide) (by decide) (by decide))), (y_A_fr hy_fo (hk 10 (by decide) (by decide) (by decide) (by decide) (by decide) (by decide) (by decide) (by decide) (by decide) (by decide) (by decide) (by decide) (by decide) (by decide) (by decide))), (⟨_, ha_dr, nq_dr⟩), (⟨_, ha_ro, nq_ro⟩), (⟨_, ha_ct, nq_ct⟩), (⟨_, ha_se, fun _ => trivial⟩), (⟨_, ha_th, fun _ => trivial⟩), (⟨_, ha_cn, fun _ => trivial⟩), (⟨_, ha_be, nq_be⟩), (⟨_, ha_du, nq_du⟩), (⟨_, ha_db, fun _ => trivial⟩), (⟨_, ha_pn, fun _ => trivial⟩), (⟨_, ha_wg, nq_wg⟩), (⟨_, ha_wh, nq_wh⟩), (⟨_, ha_tn, fun _ => trivial⟩), (y_A_fr hy_he (hk 25 (by decide) (by decide) (by decide) (by decide) (by decide) (by decide) (by decide) (by decide) (by decide) (by decide) (by decide) (by decide) (by decide) (by decide) (by decide))), (y_A_fr hy_tr (hk 26 (by decide) (by decide) (by decide) (by decide) (by decide) (by decide) (by decide) (by decide) (by decide) (by decide) (by decide) (by decide) (by decide) (by decide) (by decide))), (y_A_fr hy_fd (hk 27 (by decide) (by decide) (by decide) (by decide) (by decide) (by decide) (by decide) (by decide) (by decide) (by decide) (by decide) (by decide) (by decide) (by decide) (by decide))), (y_A_fr hy_po (hk 28 (by decide) (by decide) (by decide) (by decide) (by decide) (by decide) (by decide) (by decide) (by decide) (by decide) (by decide) (by decide) (by decide) (by decide) (by decide)))⟩

set_option maxHeartbeats 4000000 in
set_option maxRecDepth 100000 in
theorem s_X10_harm (l : Launch) {D : va_G} {cy : Nat → ClassId} {L : List Nat} {f : Nat → va_E} {sz : Nat} {adK adV : Nat → Nat} {bd : Nat → Nat} {gik gwd gmy : Nat → Int32} {kk : Int32} (hS : z_SM L f cy bd gik gwd gmy) : Met l yX10_harm (z_ws yX10_harm cX10_harm 3 (some .int)) (z_R 7 0 0) (va_Pc [.ref (bd 0), .int kk] (z_Pre D vwCl (z_KK D cy adK adV) L f sz)) (z_Qi D vwCl (fun r u => L = u.1 ∧ (∀ b ∈ L, (∀ i : Nat, i < 29 → b ≠ bd i) → u.2 b = f b) ∧ (z_SM L u.2 cy bd gik gwd gmy)) L sz) 0 0 (z_A L sz) := by
  obtain ⟨hm, hJ, h0_, hH_, hf_ik, hf_wd, hf_my, hq_my, hy_ce, hy_mv, hy_ta, hy_li, hy_st, hy_fo, hy_dr, hy_ro, hy_ct, hy_se, hy_th, hy_cn, hy_be, hy_du, hy_db, hy_pn, hy_wg, hy_wh, hy_tn, hy_he, hy_tr, hy_fd, hy_po⟩ := hS
  have h1_ := h0_
  obtain ⟨m0, m6, m7, m8, m9, m10, m12, m13, m14, m15, m22, m24, m25, m27, m28, m30, m36, m38, m40, m41, m42, m48, m52, m53, m11, m26, hf_mm, htp, hxx, hbg, hbh⟩ := h1_
  have h2_ := hH_
  obtain ⟨gha, glw, hf_ha, hf_lw, hq_ha, hq_lw, hea⟩ := h2_
  have h3_ := hy_dr
  obtain ⟨gdr, hf_dr, hq_dr⟩ := h3_
  have h3_ := hy_ro
  obtain ⟨gro, hf_ro, hq_ro⟩ := h3_
  have h3_ := hy_st
  obtain ⟨gst, hf_st, hq_st⟩ := h3_
  have h3_ := hy_ct
  obtain ⟨gct, hf_ct, hq_ct⟩ := h3_
  have h3_ := hy_se
  obtain ⟨gse, hf_se, hq_se⟩ := h3_
  have h3_ := hy_th
  obtain ⟨gth, hf_th, hq_th⟩ := h3_
  have h3_ := hy_cn
  obtain ⟨gcn, hf_cn, hq_cn⟩ := h3_
  have h3_ := hy_db
  obtain ⟨gdb, hf_db, hq_db⟩ := h3_
  have h3_ := hy_be
  obtain ⟨gbe, hf_be, hq_be⟩ := h3_
  have h3_ := hy_du
  obtain ⟨gdu, hf_du, hq_du⟩ := h3_
  have h3_ := hy_fo
  obtain ⟨gfo, hf_fo, hq_fo⟩ := h3_
  refine z_weak (c_X10_harm l (hm 0 (by decide)) (hm 7 (by decide)) (hm 11 (by decide)) (hm 13 (by decide)) (hm 8 (by decide)) (hm 9 (by decide)) (hm 14 (by decide)) (hm 15 (by decide)) (hm 16 (by decide)) (hm 17 (by decide)) (hm 20 (by decide)) (hm 18 (by decide)) (hm 19 (by decide)) (hm 10 (by decide)) hf_mm hf_ha hf_dr hf_ro hf_lw hf_st hf_ct hf_se hf_th hf_cn hf_db hf_be hf_du hf_fo (fun h => absurd (hJ _ _ (by decide) (by decide) h) (by decide)) (fun h => absurd (hJ _ _ (by decide) (by decide) h) (by decide)) (fun h => absurd (hJ _ _ (by decide) (by decide) h) (by decide)) hq_ha hq_dr hq_ro hq_lw hq_st hq_ct hq_be hq_du (by first | assumption | omega) hea) ?_
  rintro r ⟨L2, F2⟩ ⟨hsb, hfm, o2, mn2, i2, u2, n2, d2, y2, x2, nro, nct, nse, nth, ncn, ndb, nbe, ndu, ha_mm, ha_ro, ha_ct, ha_se, ha_th, ha_cn, ha_db, ha_be, ha_du, nq_ro, nq_ct, nq_be, nq_du, hp⟩
  obtain rfl : L = L2 := hsb
  have hk : ∀ i : Nat, i < 29 → i ≠ 0 → i ≠ 13 → i ≠ 14 → i ≠ 15 → i ≠ 16 → i ≠ 17 → i ≠ 20 → i ≠ 18 → i ≠ 19 → F2 (bd i) = f (bd i) := fun i hi h0 h13 h14 h15 h16 h17 h20 h18 h19 => hfm _ (hm i hi) (fun h => h0 (hJ _ _ hi (by decide) h)) (fun h => h13 (hJ _ _ hi (by decide) h)) (fun h => h14 (hJ _ _ hi (by decide) h)) (fun h => h15 (hJ _ _ hi (by decide) h)) (fun h => h16 (hJ _ _ hi (by decide) h)) (fun h => h17 (hJ _ _ hi (by decide) h)) (fun h => h20 (hJ _ _ hi (by decide) h)) (fun h => h18 (hJ _ _ hi (by decide) h)) (fun h => h19 (hJ _ _ hi (by decide) h))
  refine ⟨rfl, fun b hb h => hfm b hb (h 0 (by decide)) (h 13 (by decide)) (h 14 (by decide)) (h 15 (by decide)) (h 16 (by decide)) (h 17 (by decide)) (h 20 (by decide)) (h 18 (by decide)) (h 19 (by decide)), ?_⟩
  exact ⟨hm, hJ, (⟨0, m6, m7, m8, m9, m10, m12, m13, m14, m15, m22, o2, mn2, i2, u2, n2, y2, d2, m40, m41, m42, m48, m52, m53, m11, x2, ha_mm, (by first | assumption | omega | decide), (by first | assumption | omega | decide), (by first | assumption | omega | decide), (by first | assumption | omega | decide)⟩), (y_H_fr hH_ (hk 7 (by decide) (by decide) (by decide) (by decide) (by decide) (by decide) (by decide) (by decide) (by decide) (by decide)) (hk 8 (by decide) (by decide) (by decide) (by decide) (by decide) (by decide) (by decide) (by decide) (by decide) (by decide))), ((hk 12 (by decide) (by decide) (by decide) (by decide) (by decide) (by decide) (by decide) (by decide) (by decide) (by decide)).trans hf_ik), ((hk 1 (by decide) (by decide) (by decide) (by decide) (by decide) (by decide) (by decide) (by decide) (by decide) (by decide)).trans hf_wd), ((hk 2 (by decide) (by decide) (by decide) (by decide) (by decide) (by decide) (by decide) (by decide) (by decide) (by decide)).trans hf_my), (hq_my), (y_J_fr hy_ce (hk 3 (by decide) (by decide) (by decide) (by decide) (by decide) (by decide) (by decide) (by decide) (by decide) (by decide))), (y_J_fr hy_mv (hk 4 (by decide) (by decide) (by decide) (by decide) (by decide) (by decide) (by decide) (by decide) (by decide) (by decide))), (y_A_fr hy_ta (hk 5 (by decide) (by decide) (by decide) (by decide) (by decide) (by decide) (by decide) (by decide) (by decide) (by decide))), (y_A_fr hy_li (hk 6 (by decide) (by decide) (by decide) (by decide) (by decide) (by decide) (by decide) (by decide) (by decide) (by decide))), (y_A_fr hy_st (hk 9 (by decide) (by decide) (by decide) (by decide) (by decide) (by decide) (by decide) (by decide) (by decide) (by decide))), (y_A_fr hy_fo (hk 10 (by decide) (by decide) (by decide) (by decide) (by decide) (by decide) (by decide) (by decide) (by decide) (by decide))), (y_A_fr hy_dr (hk 11 (by decide) (by decide) (by decide) (by decide) (by decide) (by decide) (by decide) (by decide) (by decide) (by decide))), (⟨_, ha_ro, nq_ro⟩), (⟨_, ha_ct, nq_ct⟩), (⟨_, ha_se, fun _ => trivial⟩), (⟨_, ha_th, fun _ => trivial⟩), (⟨_, ha_cn, fun _ => trivial⟩), (⟨_, ha_be, nq_be⟩), (⟨_, ha_du, nq_du⟩), (⟨_, ha_db, fun _ => trivial⟩), (y_A_fr hy_pn (hk 21 (by decide) (by decide) (by decide) (by decide) (by decide) (by decide) (by decide) (by decide) (by decide) (by decide))), (y_A_fr hy_wg (hk 22 (by decide) (by decide) (by decide) (by decide) (by decide) (by decide) (by decide) (by decide) (by decide) (by decide))), (y_A_fr hy_wh (hk 23 (by decide) (by decide) (by decide) (by decide) (by decide) (by decide) (by decide) (by decide) (by decide) (by decide))), (y_A_fr hy_tn (hk 24 (by decide) (by decide) (by decide) (by decide) (by decide) (by decide) (by decide) (by decide) (by decide) (by decide))), (y_A_fr hy_he (hk 25 (by decide) (by decide) (by decide) (by decide) (by decide) (by decide) (by decide) (by decide) (by decide) (by decide))), (y_A_fr hy_tr (hk 26 (by decide) (by decide) (by decide) (by decide) (by decide) (by decide) (by decide) (by decide) (by decide) (by decide))), (y_A_fr hy_fd (hk 27 (by decide) (by decide) (by decide) (by decide) (by decide) (by decide) (by decide) (by decide) (by decide) (by decide))), (y_A_fr hy_po (hk 28 (by decide) (by decide) (by decide) (by decide) (by decide) (by decide) (by decide) (by decide) (by decide) (by decide)))⟩

set_option maxHeartbeats 4000000 in
set_option maxRecDepth 100000 in
theorem s_X10_ewe (l : Launch) {D : va_G} {cy : Nat → ClassId} {L : List Nat} {f : Nat → va_E} {sz : Nat} {adK adV : Nat → Nat} {bd : Nat → Nat} {gik gwd gmy : Nat → Int32} {oo : Int32} {ga : Int32} {dy : Int32} {ho : Int32} (hS : z_SM L f cy bd gik gwd gmy) : Met l yX10_ewe (z_ws yX10_ewe cX10_ewe 5 (some .int)) (z_R 8 0 0) (va_Pc [.ref (bd 0), .int oo, .int ga, .int dy, .int ho] (z_Pre D vwCl (z_KK D cy adK adV) L f sz)) (z_Qi D vwCl (fun r u => L = u.1 ∧ (∀ b ∈ L, (∀ i : Nat, i < 29 → b ≠ bd i) → u.2 b = f b) ∧ (z_SM L u.2 cy bd gik gwd gmy)) L sz) 0 0 (z_A L sz) := by
  obtain ⟨hm, hJ, h0_, hH_, hf_ik, hf_wd, hf_my, hq_my, hy_ce, hy_mv, hy_ta, hy_li, hy_st, hy_fo, hy_dr, hy_ro, hy_ct, hy_se, hy_th, hy_cn, hy_be, hy_du, hy_db, hy_pn, hy_wg, hy_wh, hy_tn, hy_he, hy_tr, hy_fd, hy_po⟩ := hS
  have h1_ := h0_
  obtain ⟨m0, m6, m7, m8, m9, m10, m12, m13, m14, m15, m22, m24, m25, m27, m28, m30, m36, m38, m40, m41, m42, m48, m52, m53, m11, m26, hf_mm, htp, hxx, hbg, hbh⟩ := h1_
  have h2_ := hH_
  obtain ⟨gha, glw, hf_ha, hf_lw, hq_ha, hq_lw, hea⟩ := h2_
  have h3_ := hy_dr
  obtain ⟨gdr, hf_dr, hq_dr⟩ := h3_
  have h3_ := hy_ro
  obtain ⟨gro, hf_ro, hq_ro⟩ := h3_
  have h3_ := hy_st
  obtain ⟨gst, hf_st, hq_st⟩ := h3_
  have h3_ := hy_ct
  obtain ⟨gct, hf_ct, hq_ct⟩ := h3_
  have h3_ := hy_se
  obtain ⟨gse, hf_se, hq_se⟩ := h3_
  have h3_ := hy_th
  obtain ⟨gth, hf_th, hq_th⟩ := h3_
  have h3_ := hy_cn
  obtain ⟨gcn, hf_cn, hq_cn⟩ := h3_
  have h3_ := hy_db
  obtain ⟨gdb, hf_db, hq_db⟩ := h3_
  have h3_ := hy_be
  obtain ⟨gbe, hf_be, hq_be⟩ := h3_
  have h3_ := hy_du
  obtain ⟨gdu, hf_du, hq_du⟩ := h3_
  have h3_ := hy_fo
  obtain ⟨gfo, hf_fo, hq_fo⟩ := h3_
  have h3_ := hy_li
  obtain ⟨gli, hf_li, hq_li⟩ := h3_
  refine z_weak (c_X10_ewe l (hm 0 (by decide)) (hm 7 (by decide)) (hm 11 (by decide)) (hm 13 (by decide)) (hm 8 (by decide)) (hm 9 (by decide)) (hm 14 (by decide)) (hm 15 (by decide)) (hm 16 (by decide)) (hm 17 (by decide)) (hm 20 (by decide)) (hm 18 (by decide)) (hm 19 (by decide)) (hm 10 (by decide)) (hm 6 (by decide)) hf_mm hf_ha hf_dr hf_ro hf_lw hf_st hf_ct hf_se hf_th hf_cn hf_db hf_be hf_du hf_fo hf_li (fun h => absurd (hJ _ _ (by decide) (by decide) h) (by decide)) (fun h => absurd (hJ _ _ (by decide) (by decide) h) (by decide)) (fun h => absurd (hJ _ _ (by decide) (by decide) h) (by decide)) (fun h => absurd (hJ _ _ (by decide) (by decide) h) (by decide)) hq_ha hq_dr hq_ro hq_lw hq_st hq_ct hq_be hq_du (by first | assumption | omega) hea) ?_
  rintro r ⟨L2, F2⟩ ⟨hsb, hfm, o2, mn2, i2, u2, n2, d2, y2, x2, nro, nct, nse, nth, ncn, ndb, nbe, ndu, ndr, ha_mm, ha_ro, ha_ct, ha_se, ha_th, ha_cn, ha_db, ha_be, ha_du, ha_dr, nq_ro, nq_ct, nq_be, nq_du, nq_dr, hp⟩
  obtain rfl : L = L2 := hsb
  have hk : ∀ i : Nat, i < 29 → i ≠ 0 → i ≠ 13 → i ≠ 14 → i ≠ 15 → i ≠ 16 → i ≠ 17 → i ≠ 20 → i ≠ 18 → i ≠ 19 → i ≠ 11 → F2 (bd i) = f (bd i) := fun i hi h0 h13 h14 h15 h16 h17 h20 h18 h19 h11 => hfm _ (hm i hi) (fun h => h0 (hJ _ _ hi (by decide) h)) (fun h => h13 (hJ _ _ hi (by decide) h)) (fun h => h14 (hJ _ _ hi (by decide) h)) (fun h => h15 (hJ _ _ hi (by decide) h)) (fun h => h16 (hJ _ _ hi (by decide) h)) (fun h => h17 (hJ _ _ hi (by decide) h)) (fun h => h20 (hJ _ _ hi (by decide) h)) (fun h => h18 (hJ _ _ hi (by decide) h)) (fun h => h19 (hJ _ _ hi (by decide) h)) (fun h => h11 (hJ _ _ hi (by decide) h))
  refine ⟨rfl, fun b hb h => hfm b hb (h 0 (by decide)) (h 13 (by decide)) (h 14 (by decide)) (h 15 (by decide)) (h 16 (by decide)) (h 17 (by decide)) (h 20 (by decide)) (h 18 (by decide)) (h 19 (by decide)) (h 11 (by decide)), ?_⟩
  exact ⟨hm, hJ, (⟨0, m6, m7, m8, m9, m10, m12, m13, m14, m15, m22, o2, mn2, i2, u2, n2, y2, d2, m40, m41, m42, m48, m52, m53, m11, x2, ha_mm, (by first | assumption | omega | decide), (by first | assumption | omega | decide), (by first | assumption | omega | decide), (by first | assumption | omega | decide)⟩), (y_H_fr hH_ (hk 7 (by decide) (by decide) (by decide) (by decide) (by decide) (by decide) (by decide) (by decide) (by decide) (by decide) (by decide)) (hk 8 (by decide) (by decide) (by decide) (by decide) (by decide) (by decide) (by decide) (by decide) (by decide) (by decide) (by decide))), ((hk 12 (by decide) (by decide) (by decide) (by decide) (by decide) (by decide) (by decide) (by decide) (by decide) (by decide) (by decide)).trans hf_ik), ((hk 1 (by decide) (by decide) (by decide) (by decide) (by decide) (by decide) (by decide) (by decide) (by decide) (by decide) (by decide)).trans hf_wd), ((hk 2 (by decide) (by decide) (by decide) (by decide) (by decide) (by decide) (by decide) (by decide) (by decide) (by decide) (by decide)).trans hf_my), (hq_my), (y_J_fr hy_ce (hk 3 (by decide) (by decide) (by decide) (by decide) (by decide) (by decide) (by decide) (by decide) (by decide) (by decide) (by decide))), (y_J_fr hy_mv (hk 4 (by decide) (by decide) (by decide) (by decide) (by decide) (by decide) (by decide) (by decide) (by decide) (by decide) (by decide))), (y_A_fr hy_ta (hk 5 (by decide) (by decide) (by decide) (by decide) (by decide) (by decide) (by decide) (by decide) (by decide) (by decide) (by decide))), (y_A_fr hy_li (hk 6 (by decide) (by decide) (by decide) (by decide) (by decide) (by decide) (by decide) (by decide) (by decide) (by decide) (by decide))), (y_A_fr hy_st (hk 9 (by decide) (by decide) (by decide) (by decide) (by decide) (by decide) (by decide) (by decide) (by decide) (by decide) (by decide))), (y_A_fr hy_fo (hk 10 (by decide) (by decide) (by decide) (by decide) (by decide) (by decide) (by decide) (by decide) (by decide) (by decide) (by decide))), (⟨_, ha_dr, nq_dr⟩), (⟨_, ha_ro, nq_ro⟩), (⟨_, ha_ct, nq_ct⟩), (⟨_, ha_se, fun _ => trivial⟩), (⟨_, ha_th, fun _ => trivial⟩), (⟨_, ha_cn, fun _ => trivial⟩), (⟨_, ha_be, nq_be⟩), (⟨_, ha_du, nq_du⟩), (⟨_, ha_db, fun _ => trivial⟩), (y_A_fr hy_pn (hk 21 (by decide) (by decide) (by decide) (by decide) (by decide) (by decide) (by decide) (by decide) (by decide) (by decide) (by decide))), (y_A_fr hy_wg (hk 22 (by decide) (by decide) (by decide) (by decide) (by decide) (by decide) (by decide) (by decide) (by decide) (by decide) (by decide))), (y_A_fr hy_wh (hk 23 (by decide) (by decide) (by decide) (by decide) (by decide) (by decide) (by decide) (by decide) (by decide) (by decide) (by decide))), (y_A_fr hy_tn (hk 24 (by decide) (by decide) (by decide) (by decide) (by decide) (by decide) (by decide) (by decide) (by decide) (by decide) (by decide))), (y_A_fr hy_he (hk 25 (by decide) (by decide) (by decide) (by decide) (by decide) (by decide) (by decide) (by decide) (by decide) (by decide) (by decide))), (y_A_fr hy_tr (hk 26 (by decide) (by decide) (by decide) (by decide) (by decide) (by decide) (by decide) (by decide) (by decide) (by decide) (by decide))), (y_A_fr hy_fd (hk 27 (by decide) (by decide) (by decide) (by decide) (by decide) (by decide) (by decide) (by decide) (by decide) (by decide) (by decide))), (y_A_fr hy_po (hk 28 (by decide) (by decide) (by decide) (by decide) (by decide) (by decide) (by decide) (by decide) (by decide) (by decide) (by decide)))⟩

set_option maxHeartbeats 4000000 in
set_option maxRecDepth 100000 in
theorem s_X10_waits (l : Launch) {D : va_G} {cy : Nat → ClassId} {L : List Nat} {f : Nat → va_E} {sz : Nat} {adK adV : Nat → Nat} {bd : Nat → Nat} {gik gwd gmy : Nat → Int32} {oo : Int32} {ga : Int32} {dy : Int32} {wt : Int32} (hS : z_SM L f cy bd gik gwd gmy) : Met l yX10_waits (z_ws yX10_waits cX10_waits 9 (some .int)) (z_R 8 0 0) (va_Pc [.ref (bd 0), .int oo, .int ga, .int dy, .int wt] (z_Pre D vwCl (z_KK D cy adK adV) L f sz)) (z_Qi D vwCl (fun r u => L = u.1 ∧ (∀ b ∈ L, (∀ i : Nat, i < 29 → b ≠ bd i) → u.2 b = f b) ∧ (z_SM L u.2 cy bd gik gwd gmy)) L sz) 0 0 (z_A L sz) := by
  obtain ⟨hm, hJ, h0_, hH_, hf_ik, hf_wd, hf_my, hq_my, hy_ce, hy_mv, hy_ta, hy_li, hy_st, hy_fo, hy_dr, hy_ro, hy_ct, hy_se, hy_th, hy_cn, hy_be, hy_du, hy_db, hy_pn, hy_wg, hy_wh, hy_tn, hy_he, hy_tr, hy_fd, hy_po⟩ := hS
  have h1_ := h0_
  obtain ⟨m0, m6, m7, m8, m9, m10, m12, m13, m14, m15, m22, m24, m25, m27, m28, m30, m36, m38, m40, m41, m42, m48, m52, m53, m11, m26, hf_mm, htp, hxx, hbg, hbh⟩ := h1_
  have h2_ := hH_
  obtain ⟨gha, glw, hf_ha, hf_lw, hq_ha, hq_lw, hea⟩ := h2_
  have h3_ := hy_dr
  obtain ⟨gdr, hf_dr, hq_dr⟩ := h3_
  have h3_ := hy_ro
  obtain ⟨gro, hf_ro, hq_ro⟩ := h3_
  have h3_ := hy_st
  obtain ⟨gst, hf_st, hq_st⟩ := h3_
  have h3_ := hy_ct
  obtain ⟨gct, hf_ct, hq_ct⟩ := h3_
  have h3_ := hy_se
  obtain ⟨gse, hf_se, hq_se⟩ := h3_
  have h3_ := hy_th
  obtain ⟨gth, hf_th, hq_th⟩ := h3_
  have h3_ := hy_cn
  obtain ⟨gcn, hf_cn, hq_cn⟩ := h3_
  have h3_ := hy_db
  obtain ⟨gdb, hf_db, hq_db⟩ := h3_
  have h3_ := hy_be
  obtain ⟨gbe, hf_be, hq_be⟩ := h3_
  have h3_ := hy_du
  obtain ⟨gdu, hf_du, hq_du⟩ := h3_
  have h3_ := hy_fo
  obtain ⟨gfo, hf_fo, hq_fo⟩ := h3_
  have h3_ := hy_li
  obtain ⟨gli, hf_li, hq_li⟩ := h3_
  refine z_weak (c_X10_waits l (hm 0 (by decide)) (hm 7 (by decide)) (hm 11 (by decide)) (hm 13 (by decide)) (hm 8 (by decide)) (hm 9 (by decide)) (hm 14 (by decide)) (hm 15 (by decide)) (hm 16 (by decide)) (hm 17 (by decide)) (hm 20 (by decide)) (hm 18 (by decide)) (hm 19 (by decide)) (hm 10 (by decide)) (hm 6 (by decide)) hf_mm hf_ha hf_dr hf_ro hf_lw hf_st hf_ct hf_se hf_th hf_cn hf_db hf_be hf_du hf_fo hf_li (fun h => absurd (hJ _ _ (by decide) (by decide) h) (by decide)) (fun h => absurd (hJ _ _ (by decide) (by decide) h) (by decide)) (fun h => absurd (hJ _ _ (by decide) (by decide) h) (by decide)) (fun h => absurd (hJ _ _ (by decide) (by decide) h) (by decide)) hq_ha hq_dr hq_ro hq_lw hq_st hq_ct hq_be hq_du (by first | assumption | omega) hea) ?_
  rintro r ⟨L2, F2⟩ ⟨hsb, hfm, o2, mn2, i2, u2, n2, d2, y2, x2, nro, nct, nse, nth, ncn, ndb, nbe, ndu, ndr, ha_mm, ha_ro, ha_ct, ha_se, ha_th, ha_cn, ha_db, ha_be, ha_du, ha_dr, nq_ro, nq_ct, nq_be, nq_du, nq_dr, hp⟩
  obtain rfl : L = L2 := hsb
  have hk : ∀ i : Nat, i < 29 → i ≠ 0 → i ≠ 13 → i ≠ 14 → i ≠ 15 → i ≠ 16 → i ≠ 17 → i ≠ 20 → i ≠ 18 → i ≠ 19 → i ≠ 11 → F2 (bd i) = f (bd i) := fun i hi h0 h13 h14 h15 h16 h17 h20 h18 h19 h11 => hfm _ (hm i hi) (fun h => h0 (hJ _ _ hi (by decide) h)) (fun h => h13 (hJ _ _ hi (by decide) h)) (fun h => h14 (hJ _ _ hi (by decide) h)) (fun h => h15 (hJ _ _ hi (by decide) h)) (fun h => h16 (hJ _ _ hi (by decide) h)) (fun h => h17 (hJ _ _ hi (by decide) h)) (fun h => h20 (hJ _ _ hi (by decide) h)) (fun h => h18 (hJ _ _ hi (by decide) h)) (fun h => h19 (hJ _ _ hi (by decide) h)) (fun h => h11 (hJ _ _ hi (by decide) h))
  refine ⟨rfl, fun b hb h => hfm b hb (h 0 (by decide)) (h 13 (by decide)) (h 14 (by decide)) (h 15 (by decide)) (h 16 (by decide)) (h 17 (by decide)) (h 20 (by decide)) (h 18 (by decide)) (h 19 (by decide)) (h 11 (by decide)), ?_⟩
  exact ⟨hm, hJ, (⟨0, m6, m7, m8, m9, m10, m12, m13, m14, m15, m22, o2, mn2, i2, u2, n2, y2, d2, m40, m41, m42, m48, m52, m53, m11, x2, ha_mm, (by first | assumption | omega | decide), (by first | assumption | omega | decide), (by first | assumption | omega | decide), (by first | assumption | omega | decide)⟩), (y_H_fr hH_ (hk 7 (by decide) (by decide) (by decide) (by decide) (by decide) (by decide) (by decide) (by decide) (by decide) (by decide) (by decide)) (hk 8 (by decide) (by decide) (by decide) (by decide) (by decide) (by decide) (by decide) (by decide) (by decide) (by decide) (by decide))), ((hk 12 (by decide) (by decide) (by decide) (by decide) (by decide) (by decide) (by decide) (by decide) (by decide) (by decide) (by decide)).trans hf_ik), ((hk 1 (by decide) (by decide) (by decide) (by decide) (by decide) (by decide) (by decide) (by decide) (by decide) (by decide) (by decide)).trans hf_wd), ((hk 2 (by decide) (by decide) (by decide) (by decide) (by decide) (by decide) (by decide) (by decide) (by decide) (by decide) (by decide)).trans hf_my), (hq_my), (y_J_fr hy_ce (hk 3 (by decide) (by decide) (by decide) (by decide) (by decide) (by decide) (by decide) (by decide) (by decide) (by decide) (by decide))), (y_J_fr hy_mv (hk 4 (by decide) (by decide) (by decide) (by decide) (by decide) (by decide) (by decide) (by decide) (by decide) (by decide) (by decide))), (y_A_fr hy_ta (hk 5 (by decide) (by decide) (by decide) (by decide) (by decide) (by decide) (by decide) (by decide) (by decide) (by decide) (by decide))), (y_A_fr hy_li (hk 6 (by decide) (by decide) (by decide) (by decide) (by decide) (by decide) (by decide) (by decide) (by decide) (by decide) (by decide))), (y_A_fr hy_st (hk 9 (by decide) (by decide) (by decide) (by decide) (by decide) (by decide) (by decide) (by decide) (by decide) (by decide) (by decide))), (y_A_fr hy_fo (hk 10 (by decide) (by decide) (by decide) (by decide) (by decide) (by decide) (by decide) (by decide) (by decide) (by decide) (by decide))), (⟨_, ha_dr, nq_dr⟩), (⟨_, ha_ro, nq_ro⟩), (⟨_, ha_ct, nq_ct⟩), (⟨_, ha_se, fun _ => trivial⟩), (⟨_, ha_th, fun _ => trivial⟩), (⟨_, ha_cn, fun _ => trivial⟩), (⟨_, ha_be, nq_be⟩), (⟨_, ha_du, nq_du⟩), (⟨_, ha_db, fun _ => trivial⟩), (y_A_fr hy_pn (hk 21 (by decide) (by decide) (by decide) (by decide) (by decide) (by decide) (by decide) (by decide) (by decide) (by decide) (by decide))), (y_A_fr hy_wg (hk 22 (by decide) (by decide) (by decide) (by decide) (by decide) (by decide) (by decide) (by decide) (by decide) (by decide) (by decide))), (y_A_fr hy_wh (hk 23 (by decide) (by decide) (by decide) (by decide) (by decide) (by decide) (by decide) (by decide) (by decide) (by decide) (by decide))), (y_A_fr hy_tn (hk 24 (by decide) (by decide) (by decide) (by decide) (by decide) (by decide) (by decide) (by decide) (by decide) (by decide) (by decide))), (y_A_fr hy_he (hk 25 (by decide) (by decide) (by decide) (by decide) (by decide) (by decide) (by decide) (by decide) (by decide) (by decide) (by decide))), (y_A_fr hy_tr (hk 26 (by decide) (by decide) (by decide) (by decide) (by decide) (by decide) (by decide) (by decide) (by decide) (by decide) (by decide))), (y_A_fr hy_fd (hk 27 (by decide) (by decide) (by decide) (by decide) (by decide) (by decide) (by decide) (by decide) (by decide) (by decide) (by decide))), (y_A_fr hy_po (hk 28 (by decide) (by decide) (by decide) (by decide) (by decide) (by decide) (by decide) (by decide) (by decide) (by decide) (by decide)))⟩

set_option maxHeartbeats 4000000 in
set_option maxRecDepth 100000 in
theorem s_X10_ring (l : Launch) {D : va_G} {cy : Nat → ClassId} {L : List Nat} {f : Nat → va_E} {sz : Nat} {adK adV : Nat → Nat} {bd : Nat → Nat} {gik gwd gmy : Nat → Int32} {ga : Int32} {nn : Int32} {rr : Int32} (hS : z_SM L f cy bd gik gwd gmy) : Met l yX10_ring (z_ws yX10_ring cX10_ring 7 (some .int)) (z_R 7 0 0) (va_Pc [.ref (bd 0), .int ga, .int nn, .int rr] (z_Pre D vwCl (z_KK D cy adK adV) L f sz)) (z_Qi D vwCl (fun r u => L = u.1 ∧ (∀ b ∈ L, (∀ i : Nat, i < 29 → b ≠ bd i) → u.2 b = f b) ∧ (z_SM L u.2 cy bd gik gwd gmy)) L sz) 0 0 (z_A L sz) := by
  obtain ⟨hm, hJ, h0_, hH_, hf_ik, hf_wd, hf_my, hq_my, hy_ce, hy_mv, hy_ta, hy_li, hy_st, hy_fo, hy_dr, hy_ro, hy_ct, hy_se, hy_th, hy_cn, hy_be, hy_du, hy_db, hy_pn, hy_wg, hy_wh, hy_tn, hy_he, hy_tr, hy_fd, hy_po⟩ := hS
  have h1_ := h0_
  obtain ⟨m0, m6, m7, m8, m9, m10, m12, m13, m14, m15, m22, m24, m25, m27, m28, m30, m36, m38, m40, m41, m42, m48, m52, m53, m11, m26, hf_mm, htp, hxx, hbg, hbh⟩ := h1_
  have h2_ := hH_
  obtain ⟨gha, glw, hf_ha, hf_lw, hq_ha, hq_lw, hea⟩ := h2_
  have h3_ := hy_dr
  obtain ⟨gdr, hf_dr, hq_dr⟩ := h3_
  have h3_ := hy_ro
  obtain ⟨gro, hf_ro, hq_ro⟩ := h3_
  have h3_ := hy_st
  obtain ⟨gst, hf_st, hq_st⟩ := h3_
  have h3_ := hy_ct
  obtain ⟨gct, hf_ct, hq_ct⟩ := h3_
  have h3_ := hy_se
  obtain ⟨gse, hf_se, hq_se⟩ := h3_
  have h3_ := hy_th
  obtain ⟨gth, hf_th, hq_th⟩ := h3_
  have h3_ := hy_cn
  obtain ⟨gcn, hf_cn, hq_cn⟩ := h3_
  have h3_ := hy_db
  obtain ⟨gdb, hf_db, hq_db⟩ := h3_
  have h3_ := hy_be
  obtain ⟨gbe, hf_be, hq_be⟩ := h3_
  have h3_ := hy_du
  obtain ⟨gdu, hf_du, hq_du⟩ := h3_
  have h3_ := hy_fo
  obtain ⟨gfo, hf_fo, hq_fo⟩ := h3_
  refine z_weak (c_X10_ring l (hm 0 (by decide)) (hm 7 (by decide)) (hm 11 (by decide)) (hm 13 (by decide)) (hm 8 (by decide)) (hm 9 (by decide)) (hm 14 (by decide)) (hm 15 (by decide)) (hm 16 (by decide)) (hm 17 (by decide)) (hm 20 (by decide)) (hm 18 (by decide)) (hm 19 (by decide)) (hm 10 (by decide)) hf_mm hf_ha hf_dr hf_ro hf_lw hf_st hf_ct hf_se hf_th hf_cn hf_db hf_be hf_du hf_fo (fun h => absurd (hJ _ _ (by decide) (by decide) h) (by decide)) (fun h => absurd (hJ _ _ (by decide) (by decide) h) (by decide)) (fun h => absurd (hJ _ _ (by decide) (by decide) h) (by decide)) hq_ha hq_dr hq_ro hq_lw hq_st hq_ct hq_be hq_du (by first | assumption | omega) hea) ?_
  rintro r ⟨L2, F2⟩ ⟨hsb, hfm, o2, mn2, i2, u2, n2, d2, y2, x2, nro, nct, nse, nth, ncn, ndb, nbe, ndu, ha_mm, ha_ro, ha_ct, ha_se, ha_th, ha_cn, ha_db, ha_be, ha_du, nq_ro, nq_ct, nq_be, nq_du, hp⟩
  obtain rfl : L = L2 := hsb
  have hk : ∀ i : Nat, i < 29 → i ≠ 0 → i ≠ 13 → i ≠ 14 → i ≠ 15 → i ≠ 16 → i ≠ 17 → i ≠ 20 → i ≠ 18 → i ≠ 19 → F2 (bd i) = f (bd i) := fun i hi h0 h13 h14 h15 h16 h17 h20 h18 h19 => hfm _ (hm i hi) (fun h => h0 (hJ _ _ hi (by decide) h)) (fun h => h13 (hJ _ _ hi (by decide) h)) (fun h => h14 (hJ _ _ hi (by decide) h)) (fun h => h15 (hJ _ _ hi (by decide) h)) (fun h => h16 (hJ _ _ hi (by decide) h)) (fun h => h17 (hJ _ _ hi (by decide) h)) (fun h => h20 (hJ _ _ hi (by decide) h)) (fun h => h18 (hJ _ _ hi (by decide) h)) (fun h => h19 (hJ _ _ hi (by decide) h))
  refine ⟨rfl, fun b hb h => hfm b hb (h 0 (by decide)) (h 13 (by decide)) (h 14 (by decide)) (h 15 (by decide)) (h 16 (by decide)) (h 17 (by decide)) (h 20 (by decide)) (h 18 (by decide)) (h 19 (by decide)), ?_⟩
  exact ⟨hm, hJ, (⟨0, m6, m7, m8, m9, m10, m12, m13, m14, m15, m22, o2, mn2, i2, u2, n2, y2, d2, m40, m41, m42, m48, m52, m53, m11, x2, ha_mm, (by first | assumption | omega | decide), (by first | assumption | omega | decide), (by first | assumption | omega | decide), (by first | assumption | omega | decide)⟩), (y_H_fr hH_ (hk 7 (by decide) (by decide) (by decide) (by decide) (by decide) (by decide) (by decide) (by decide) (by decide) (by decide)) (hk 8 (by decide) (by decide) (by decide) (by decide) (by decide) (by decide) (by decide) (by decide) (by decide) (by decide))), ((hk 12 (by decide) (by decide) (by decide) (by decide) (by decide) (by decide) (by decide) (by decide) (by decide) (by decide)).trans hf_ik), ((hk 1 (by decide) (by decide) (by decide) (by decide) (by decide) (by decide) (by decide) (by decide) (by decide) (by decide)).trans hf_wd), ((hk 2 (by decide) (by decide) (by decide) (by decide) (by decide) (by decide) (by decide) (by decide) (by decide) (by decide)).trans hf_my), (hq_my), (y_J_fr hy_ce (hk 3 (by decide) (by decide) (by decide) (by decide) (by decide) (by decide) (by decide) (by decide) (by decide) (by decide))), (y_J_fr hy_mv (hk 4 (by decide) (by decide) (by decide) (by decide) (by decide) (by decide) (by decide) (by decide) (by decide) (by decide))), (y_A_fr hy_ta (hk 5 (by decide) (by decide) (by decide) (by decide) (by decide) (by decide) (by decide) (by decide) (by decide) (by decide))), (y_A_fr hy_li (hk 6 (by decide) (by decide) (by decide) (by decide) (by decide) (by decide) (by decide) (by decide) (by decide) (by decide))), (y_A_fr hy_st (hk 9 (by decide) (by decide) (by decide) (by decide) (by decide) (by decide) (by decide) (by decide) (by decide) (by decide))), (y_A_fr hy_fo (hk 10 (by decide) (by decide) (by decide) (by decide) (by decide) (by decide) (by decide) (by decide) (by decide) (by decide))), (y_A_fr hy_dr (hk 11 (by decide) (by decide) (by decide) (by decide) (by decide) (by decide) (by decide) (by decide) (by decide) (by decide))), (⟨_, ha_ro, nq_ro⟩), (⟨_, ha_ct, nq_ct⟩), (⟨_, ha_se, fun _ => trivial⟩), (⟨_, ha_th, fun _ => trivial⟩), (⟨_, ha_cn, fun _ => trivial⟩), (⟨_, ha_be, nq_be⟩), (⟨_, ha_du, nq_du⟩), (⟨_, ha_db, fun _ => trivial⟩), (y_A_fr hy_pn (hk 21 (by decide) (by decide) (by decide) (by decide) (by decide) (by decide) (by decide) (by decide) (by decide) (by decide))), (y_A_fr hy_wg (hk 22 (by decide) (by decide) (by decide) (by decide) (by decide) (by decide) (by decide) (by decide) (by decide) (by decide))), (y_A_fr hy_wh (hk 23 (by decide) (by decide) (by decide) (by decide) (by decide) (by decide) (by decide) (by decide) (by decide) (by decide))), (y_A_fr hy_tn (hk 24 (by decide) (by decide) (by decide) (by decide) (by decide) (by decide) (by decide) (by decide) (by decide) (by decide))), (y_A_fr hy_he (hk 25 (by decide) (by decide) (by decide) (by decide) (by decide) (by decide) (by decide) (by decide) (by decide) (by decide))), (y_A_fr hy_tr (hk 26 (by decide) (by decide) (by decide) (by decide) (by decide) (by decide) (by decide) (by decide) (by decide) (by decide))), (y_A_fr hy_fd (hk 27 (by decide) (by decide) (by decide) (by decide) (by decide) (by decide) (by decide) (by decide) (by decide) (by decide))), (y_A_fr hy_po (hk 28 (by decide) (by decide) (by decide) (by decide) (by decide) (by decide) (by decide) (by decide) (by decide) (by decide)))⟩

set_option maxHeartbeats 4000000 in
set_option maxRecDepth 100000 in
theorem s_X10_rounds (l : Launch) {D : va_G} {cy : Nat → ClassId} {L : List Nat} {f : Nat → va_E} {sz : Nat} {adK adV : Nat → Nat} {bd : Nat → Nat} {gik gwd gmy : Nat → Int32} {ga : Int32} {nn : Int32} (hS : z_SM L f cy bd gik gwd gmy) : Met l yX10_rounds (z_ws yX10_rounds cX10_rounds 6 (some .int)) (z_R 7 0 0) (va_Pc [.ref (bd 0), .int ga, .int nn] (z_Pre D vwCl (z_KK D cy adK adV) L f sz)) (z_Qi D vwCl (fun r u => L = u.1 ∧ (∀ b ∈ L, (∀ i : Nat, i < 29 → b ≠ bd i) → u.2 b = f b) ∧ (z_SM L u.2 cy bd gik gwd gmy)) L sz) 0 0 (z_A L sz) := by
  obtain ⟨hm, hJ, h0_, hH_, hf_ik, hf_wd, hf_my, hq_my, hy_ce, hy_mv, hy_ta, hy_li, hy_st, hy_fo, hy_dr, hy_ro, hy_ct, hy_se, hy_th, hy_cn, hy_be, hy_du, hy_db, hy_pn, hy_wg, hy_wh, hy_tn, hy_he, hy_tr, hy_fd, hy_po⟩ := hS
  have h1_ := h0_
  obtain ⟨m0, m6, m7, m8, m9, m10, m12, m13, m14, m15, m22, m24, m25, m27, m28, m30, m36, m38, m40, m41, m42, m48, m52, m53, m11, m26, hf_mm, htp, hxx, hbg, hbh⟩ := h1_
  have h2_ := hH_
  obtain ⟨gha, glw, hf_ha, hf_lw, hq_ha, hq_lw, hea⟩ := h2_
  have h3_ := hy_dr
  obtain ⟨gdr, hf_dr, hq_dr⟩ := h3_
  have h3_ := hy_ro
  obtain ⟨gro, hf_ro, hq_ro⟩ := h3_
  have h3_ := hy_st
  obtain ⟨gst, hf_st, hq_st⟩ := h3_
  have h3_ := hy_ct
  obtain ⟨gct, hf_ct, hq_ct⟩ := h3_
  have h3_ := hy_se
  obtain ⟨gse, hf_se, hq_se⟩ := h3_
  have h3_ := hy_th
  obtain ⟨gth, hf_th, hq_th⟩ := h3_
  have h3_ := hy_cn
  obtain ⟨gcn, hf_cn, hq_cn⟩ := h3_
  have h3_ := hy_db
  obtain ⟨gdb, hf_db, hq_db⟩ := h3_
  have h3_ := hy_be
  obtain ⟨gbe, hf_be, hq_be⟩ := h3_
  have h3_ := hy_du
  obtain ⟨gdu, hf_du, hq_du⟩ := h3_
  have h3_ := hy_fo
  obtain ⟨gfo, hf_fo, hq_fo⟩ := h3_
  refine z_weak (c_X10_rounds l (hm 0 (by decide)) (hm 7 (by decide)) (hm 11 (by decide)) (hm 13 (by decide)) (hm 8 (by decide)) (hm 9 (by decide)) (hm 14 (by decide)) (hm 15 (by decide)) (hm 16 (by decide)) (hm 17 (by decide)) (hm 20 (by decide)) (hm 18 (by decide)) (hm 19 (by decide)) (hm 10 (by decide)) hf_mm hf_ha hf_dr hf_ro hf_lw hf_st hf_ct hf_se hf_th hf_cn hf_db hf_be hf_du hf_fo (fun h => absurd (hJ _ _ (by decide) (by decide) h) (by decide)) (fun h => absurd (hJ _ _ (by decide) (by decide) h) (by decide)) (fun h => absurd (hJ _ _ (by decide) (by decide) h) (by decide)) hq_ha hq_dr hq_ro hq_lw hq_st hq_ct hq_be hq_du (by first | assumption | omega) hea) ?_
  rintro r ⟨L2, F2⟩ ⟨hsb, hfm, o2, mn2, i2, u2, n2, d2, y2, x2, nro, nct, nse, nth, ncn, ndb, nbe, ndu, ha_mm, ha_ro, ha_ct, ha_se, ha_th, ha_cn, ha_db, ha_be, ha_du, nq_ro, nq_ct, nq_be, nq_du, hp⟩
  obtain rfl : L = L2 := hsb
  have hk : ∀ i : Nat, i < 29 → i ≠ 0 → i ≠ 13 → i ≠ 14 → i ≠ 15 → i ≠ 16 → i ≠ 17 → i ≠ 20 → i ≠ 18 → i ≠ 19 → F2 (bd i) = f (bd i) := fun i hi h0 h13 h14 h15 h16 h17 h20 h18 h19 => hfm _ (hm i hi) (fun h => h0 (hJ _ _ hi (by decide) h)) (fun h => h13 (hJ _ _ hi (by decide) h)) (fun h => h14 (hJ _ _ hi (by decide) h)) (fun h => h15 (hJ _ _ hi (by decide) h)) (fun h => h16 (hJ _ _ hi (by decide) h)) (fun h => h17 (hJ _ _ hi (by decide) h)) (fun h => h20 (hJ _ _ hi (by decide) h)) (fun h => h18 (hJ _ _ hi (by decide) h)) (fun h => h19 (hJ _ _ hi (by decide) h))
  refine ⟨rfl, fun b hb h => hfm b hb (h 0 (by decide)) (h 13 (by decide)) (h 14 (by decide)) (h 15 (by decide)) (h 16 (by decide)) (h 17 (by decide)) (h 20 (by decide)) (h 18 (by decide)) (h 19 (by decide)), ?_⟩
  exact ⟨hm, hJ, (⟨0, m6, m7, m8, m9, m10, m12, m13, m14, m15, m22, o2, mn2, i2, u2, n2, y2, d2, m40, m41, m42, m48, m52, m53, m11, x2, ha_mm, (by first | assumption | omega | decide), (by first | assumption | omega | decide), (by first | assumption | omega | decide), (by first | assumption | omega | decide)⟩), (y_H_fr hH_ (hk 7 (by decide) (by decide) (by decide) (by decide) (by decide) (by decide) (by decide) (by decide) (by decide) (by decide)) (hk 8 (by decide) (by decide) (by decide) (by decide) (by decide) (by decide) (by decide) (by decide) (by decide) (by decide))), ((hk 12 (by decide) (by decide) (by decide) (by decide) (by decide) (by decide) (by decide) (by decide) (by decide) (by decide)).trans hf_ik), ((hk 1 (by decide) (by decide) (by decide) (by decide) (by decide) (by decide) (by decide) (by decide) (by decide) (by decide)).trans hf_wd), ((hk 2 (by decide) (by decide) (by decide) (by decide) (by decide) (by decide) (by decide) (by decide) (by decide) (by decide)).trans hf_my), (hq_my), (y_J_fr hy_ce (hk 3 (by decide) (by decide) (by decide) (by decide) (by decide) (by decide) (by decide) (by decide) (by decide) (by decide))), (y_J_fr hy_mv (hk 4 (by decide) (by decide) (by decide) (by decide) (by decide) (by decide) (by decide) (by decide) (by decide) (by decide))), (y_A_fr hy_ta (hk 5 (by decide) (by decide) (by decide) (by decide) (by decide) (by decide) (by decide) (by decide) (by decide) (by decide))), (y_A_fr hy_li (hk 6 (by decide) (by decide) (by decide) (by decide) (by decide) (by decide) (by decide) (by decide) (by decide) (by decide))), (y_A_fr hy_st (hk 9 (by decide) (by decide) (by decide) (by decide) (by decide) (by decide) (by decide) (by decide) (by decide) (by decide))), (y_A_fr hy_fo (hk 10 (by decide) (by decide) (by decide) (by decide) (by decide) (by decide) (by decide) (by decide) (by decide) (by decide))), (y_A_fr hy_dr (hk 11 (by decide) (by decide) (by decide) (by decide) (by decide) (by decide) (by decide) (by decide) (by decide) (by decide))), (⟨_, ha_ro, nq_ro⟩), (⟨_, ha_ct, nq_ct⟩), (⟨_, ha_se, fun _ => trivial⟩), (⟨_, ha_th, fun _ => trivial⟩), (⟨_, ha_cn, fun _ => trivial⟩), (⟨_, ha_be, nq_be⟩), (⟨_, ha_du, nq_du⟩), (⟨_, ha_db, fun _ => trivial⟩), (y_A_fr hy_pn (hk 21 (by decide) (by decide) (by decide) (by decide) (by decide) (by decide) (by decide) (by decide) (by decide) (by decide))), (y_A_fr hy_wg (hk 22 (by decide) (by decide) (by decide) (by decide) (by decide) (by decide) (by decide) (by decide) (by decide) (by decide))), (y_A_fr hy_wh (hk 23 (by decide) (by decide) (by decide) (by decide) (by decide) (by decide) (by decide) (by decide) (by decide) (by decide))), (y_A_fr hy_tn (hk 24 (by decide) (by decide) (by decide) (by decide) (by decide) (by decide) (by decide) (by decide) (by decide) (by decide))), (y_A_fr hy_he (hk 25 (by decide) (by decide) (by decide) (by decide) (by decide) (by decide) (by decide) (by decide) (by decide) (by decide))), (y_A_fr hy_tr (hk 26 (by decide) (by decide) (by decide) (by decide) (by decide) (by decide) (by decide) (by decide) (by decide) (by decide))), (y_A_fr hy_fd (hk 27 (by decide) (by decide) (by decide) (by decide) (by decide) (by decide) (by decide) (by decide) (by decide) (by decide))), (y_A_fr hy_po (hk 28 (by decide) (by decide) (by decide) (by decide) (by decide) (by decide) (by decide) (by decide) (by decide) (by decide)))⟩

set_option maxHeartbeats 4000000 in
set_option maxRecDepth 100000 in
theorem s_X10_orders (l : Launch) {D : va_G} {cy : Nat → ClassId} {L : List Nat} {f : Nat → va_E} {sz : Nat} {adK adV : Nat → Nat} {bd : Nat → Nat} {gik gwd gmy : Nat → Int32} {sn : Int32} {ga : Int32} {dy : Int32} (hS : z_SM L f cy bd gik gwd gmy) : Met l yX10_orders (z_ws yX10_orders cX10_orders 5 (some .int)) (z_R 13 0 0) (va_Pc [.ref (bd 0), .int sn, .int ga, .int dy] (z_Pre D vwCl (z_KK D cy adK adV) L f sz)) (z_Qi D vwCl (fun r u => L = u.1 ∧ (∀ b ∈ L, (∀ i : Nat, i < 29 → b ≠ bd i) → u.2 b = f b) ∧ (z_SM L u.2 cy bd gik gwd gmy)) L sz) 0 0 (z_A L sz) := by
  obtain ⟨hm, hJ, h0_, hH_, hf_ik, hf_wd, hf_my, hq_my, hy_ce, hy_mv, hy_ta, hy_li, hy_st, hy_fo, hy_dr, hy_ro, hy_ct, hy_se, hy_th, hy_cn, hy_be, hy_du, hy_db, hy_pn, hy_wg, hy_wh, hy_tn, hy_he, hy_tr, hy_fd, hy_po⟩ := hS
  have h1_ := h0_
  obtain ⟨m0, m6, m7, m8, m9, m10, m12, m13, m14, m15, m22, m24, m25, m27, m28, m30, m36, m38, m40, m41, m42, m48, m52, m53, m11, m26, hf_mm, htp, hxx, hbg, hbh⟩ := h1_
  have h2_ := hH_
  obtain ⟨gha, glw, hf_ha, hf_lw, hq_ha, hq_lw, hea⟩ := h2_
  have h3_ := hy_dr
  obtain ⟨gdr, hf_dr, hq_dr⟩ := h3_
  have h3_ := hy_ro
  obtain ⟨gro, hf_ro, hq_ro⟩ := h3_
  have h3_ := hy_st
  obtain ⟨gst, hf_st, hq_st⟩ := h3_
  have h3_ := hy_ct
  obtain ⟨gct, hf_ct, hq_ct⟩ := h3_
  have h3_ := hy_se
  obtain ⟨gse, hf_se, hq_se⟩ := h3_
  have h3_ := hy_th
  obtain ⟨gth, hf_th, hq_th⟩ := h3_
  have h3_ := hy_cn
  obtain ⟨gcn, hf_cn, hq_cn⟩ := h3_
  have h3_ := hy_db
  obtain ⟨gdb, hf_db, hq_db⟩ := h3_
  have h3_ := hy_be
  obtain ⟨gbe, hf_be, hq_be⟩ := h3_
  have h3_ := hy_du
  obtain ⟨gdu, hf_du, hq_du⟩ := h3_
  have h3_ := hy_fo
  obtain ⟨gfo, hf_fo, hq_fo⟩ := h3_
  have h3_ := hy_li
  obtain ⟨gli, hf_li, hq_li⟩ := h3_
  have h3_ := hy_ce
  obtain ⟨gce, hf_ce⟩ := h3_
  have h3_ := hy_he
  obtain ⟨ghe, hf_he, hq_he⟩ := h3_
  have h3_ := hy_tr
  obtain ⟨gtr, hf_tr, hq_tr⟩ := h3_
  have h3_ := hy_fd
  obtain ⟨gfd, hf_fd, hq_fd⟩ := h3_
  have h3_ := hy_po
  obtain ⟨gpo, hf_po, hq_po⟩ := h3_
  refine z_weak (c_X10_orders l (hm 0 (by decide)) (hm 7 (by decide)) (hm 11 (by decide)) (hm 13 (by decide)) (hm 8 (by decide)) (hm 9 (by decide)) (hm 14 (by decide)) (hm 15 (by decide)) (hm 16 (by decide)) (hm 17 (by decide)) (hm 20 (by decide)) (hm 18 (by decide)) (hm 19 (by decide)) (hm 10 (by decide)) (hm 6 (by decide)) (hm 1 (by decide)) (hm 2 (by decide)) (hm 3 (by decide)) (hm 25 (by decide)) (hm 26 (by decide)) (hm 27 (by decide)) (hm 28 (by decide)) hf_mm hf_ha hf_dr hf_ro hf_lw hf_st hf_ct hf_se hf_th hf_cn hf_db hf_be hf_du hf_fo hf_li hf_wd hf_my hf_ce hf_he hf_tr hf_fd hf_po (fun h => absurd (hJ _ _ (by decide) (by decide) h) (by decide)) (fun h => absurd (hJ _ _ (by decide) (by decide) h) (by decide)) (fun h => absurd (hJ _ _ (by decide) (by decide) h) (by decide)) (fun h => absurd (hJ _ _ (by decide) (by decide) h) (by decide)) (fun h => absurd (hJ _ _ (by decide) (by decide) h) (by decide)) (fun h => absurd (hJ _ _ (by decide) (by decide) h) (by decide)) (fun h => absurd (hJ _ _ (by decide) (by decide) h) (by decide)) (fun h => absurd (hJ _ _ (by decide) (by decide) h) (by decide)) (fun h => absurd (hJ _ _ (by decide) (by decide) h) (by decide)) (fun h => absurd (hJ _ _ (by decide) (by decide) h) (by decide)) (fun h => absurd (hJ _ _ (by decide) (by decide) h) (by decide)) hq_ha hq_dr hq_ro hq_lw hq_st hq_ct hq_be hq_du hq_my hq_he hq_tr (by first | assumption | omega) hea) ?_
  rintro r ⟨L2, F2⟩ ⟨hsb, hfm, o2, mn2, i2, u2, n2, d2, y2, hm2, om2, sh2, x2, nro, nct, nse, nth, ncn, ndb, nbe, ndu, nhe, ntr, nfd, npo, ha_mm, ha_ro, ha_ct, ha_se, ha_th, ha_cn, ha_db, ha_be, ha_du, ha_he, ha_tr, ha_fd, ha_po, nq_ro, nq_ct, nq_be, nq_du, nq_he, nq_tr, hp⟩
  obtain rfl : L = L2 := hsb
  have hk : ∀ i : Nat, i < 29 → i ≠ 0 → i ≠ 13 → i ≠ 14 → i ≠ 15 → i ≠ 16 → i ≠ 17 → i ≠ 20 → i ≠ 18 → i ≠ 19 → i ≠ 25 → i ≠ 26 → i ≠ 27 → i ≠ 28 → F2 (bd i) = f (bd i) := fun i hi h0 h13 h14 h15 h16 h17 h20 h18 h19 h25 h26 h27 h28 => hfm _ (hm i hi) (fun h => h0 (hJ _ _ hi (by decide) h)) (fun h => h13 (hJ _ _ hi (by decide) h)) (fun h => h14 (hJ _ _ hi (by decide) h)) (fun h => h15 (hJ _ _ hi (by decide) h)) (fun h => h16 (hJ _ _ hi (by decide) h)) (fun h => h17 (hJ _ _ hi (by decide) h)) (fun h => h20 (hJ _ _ hi (by decide) h)) (fun h => h18 (hJ _ _ hi (by decide) h)) (fun h => h19 (hJ _ _ hi (by decide) h)) (fun h => h25 (hJ _ _ hi (by decide) h)) (fun h => h26 (hJ _ _ hi (by decide) h)) (fun h => h27 (hJ _ _ hi (by decide) h)) (fun h => h28 (hJ _ _ hi (by decide) h))
  refine ⟨rfl, fun b hb h => hfm b hb (h 0 (by decide)) (h 13 (by decide)) (h 14 (by decide)) (h 15 (by decide)) (h 16 (by decide)) (h 17 (by decide)) (h 20 (by decide)) (h 18 (by decide)) (h 19 (by decide)) (h 25 (by decide)) (h 26 (by decide)) (h 27 (by decide)) (h 28 (by decide)), ?_⟩
  exact ⟨hm, hJ, (⟨0, m6, m7, m8, m9, m10, m12, m13, m14, m15, m22, o2, mn2, i2, u2, n2, y2, d2, m40, m41, m42, hm2, om2, sh2, m11, x2, ha_mm, (by first | assumption | omega | decide), (by first | assumption | omega | decide), (by first | assumption | omega | decide), (by first | assumption | omega | decide)⟩), (y_H_fr hH_ (hk 7 (by decide) (by decide) (by decide) (by decide) (by decide) (by decide) (by decide) (by decide) (by decide) (by decide) (by decide) (by decide) (by decide) (by decide)) (hk 8 (by decide) (by decide) (by decide) (by decide) (by decide) (by decide) (by decide) (by decide) (by decide) (by decide) (by decide) (by decide) (by decide) (by decide))), ((hk 12 (by decide) (by decide) (by decide) (by decide) (by decide) (by decide) (by decide) (by decide) (by decide) (by decide) (by decide) (by decide) (by decide) (by decide)).trans hf_ik), ((hk 1 (by decide) (by decide) (by decide) (by decide) (by decide) (by decide) (by decide) (by decide) (by decide) (by decide) (by decide) (by decide) (by decide) (by decide)).trans hf_wd), ((hk 2 (by decide) (by decide) (by decide) (by decide) (by decide) (by decide) (by decide) (by decide) (by decide) (by decide) (by decide) (by decide) (by decide) (by decide)).trans hf_my), (hq_my), (y_J_fr hy_ce (hk 3 (by decide) (by decide) (by decide) (by decide) (by decide) (by decide) (by decide) (by decide) (by decide) (by decide) (by decide) (by decide) (by decide) (by decide))), (y_J_fr hy_mv (hk 4 (by decide) (by decide) (by decide) (by decide) (by decide) (by decide) (by decide) (by decide) (by decide) (by decide) (by decide) (by decide) (by decide) (by decide))), (y_A_fr hy_ta (hk 5 (by decide) (by decide) (by decide) (by decide) (by decide) (by decide) (by decide) (by decide) (by decide) (by decide) (by decide) (by decide) (by decide) (by decide))), (y_A_fr hy_li (hk 6 (by decide) (by decide) (by decide) (by decide) (by decide) (by decide) (by decide) (by decide) (by decide) (by decide) (by decide) (by decide) (by decide) (by decide))), (y_A_fr hy_st (hk 9 (by decide) (by decide) (by decide) (by decide) (by decide) (by decide) (by decide) (by decide) (by decide) (by decide) (by decide) (by decide) (by decide) (by decide))), (y_A_fr hy_fo (hk 10 (by decide) (by decide) (by decide) (by decide) (by decide) (by decide) (by decide) (by decide) (by decide) (by decide) (by decide) (by decide) (by decide) (by decide))), (y_A_fr hy_dr (hk 11 (by decide) (by decide) (by decide) (by decide) (by decide) (by decide) (by decide) (by decide) (by decide) (by decide) (by decide) (by decide) (by decide) (by decide))), (⟨_, ha_ro, nq_ro⟩), (⟨_, ha_ct, nq_ct⟩), (⟨_, ha_se, fun _ => trivial⟩), (⟨_, ha_th, fun _ => trivial⟩), (⟨_, ha_cn, fun _ => trivial⟩), (⟨_, ha_be, nq_be⟩), (⟨_, ha_du, nq_du⟩), (⟨_, ha_db, fun _ => trivial⟩), (y_A_fr hy_pn (hk 21 (by decide) (by decide) (by decide) (by decide) (by decide) (by decide) (by decide) (by decide) (by decide) (by decide) (by decide) (by decide) (by decide) (by decide))), (y_A_fr hy_wg (hk 22 (by decide) (by decide) (by decide) (by decide) (by decide) (by decide) (by decide) (by decide) (by decide) (by decide) (by decide) (by decide) (by decide) (by decide))), (y_A_fr hy_wh (hk 23 (by decide) (by decide) (by decide) (by decide) (by decide) (by decide) (by decide) (by decide) (by decide) (by decide) (by decide) (by decide) (by decide) (by decide))), (y_A_fr hy_tn (hk 24 (by decide) (by decide) (by decide) (by decide) (by decide) (by decide) (by decide) (by decide) (by decide) (by decide) (by decide) (by decide) (by decide) (by decide))), (⟨_, ha_he, nq_he⟩), (⟨_, ha_tr, nq_tr⟩), (⟨_, ha_fd, fun _ => trivial⟩), (⟨_, ha_po, fun _ => trivial⟩)⟩

set_option maxHeartbeats 4000000 in
set_option maxRecDepth 100000 in
theorem s_X10_order (l : Launch) {D : va_G} {cy : Nat → ClassId} {L : List Nat} {f : Nat → va_E} {sz : Nat} {adK adV : Nat → Nat} {bd : Nat → Nat} {gik gwd gmy : Nat → Int32} {sn : Int32} {ga : Int32} {dy : Int32} {ii : Int32} (hS : z_SM L f cy bd gik gwd gmy) : Met l yX10_order (z_ws yX10_order cX10_order 6 (some .int)) (z_R 13 0 0) (va_Pc [.ref (bd 0), .int sn, .int ga, .int dy, .int ii] (z_Pre D vwCl (z_KK D cy adK adV) L f sz)) (z_Qi D vwCl (fun r u => L = u.1 ∧ (∀ b ∈ L, (∀ i : Nat, i < 29 → b ≠ bd i) → u.2 b = f b) ∧ (z_SM L u.2 cy bd gik gwd gmy)) L sz) 0 0 (z_A L sz) := by
  obtain ⟨hm, hJ, h0_, hH_, hf_ik, hf_wd, hf_my, hq_my, hy_ce, hy_mv, hy_ta, hy_li, hy_st, hy_fo, hy_dr, hy_ro, hy_ct, hy_se, hy_th, hy_cn, hy_be, hy_du, hy_db, hy_pn, hy_wg, hy_wh, hy_tn, hy_he, hy_tr, hy_fd, hy_po⟩ := hS
  have h1_ := h0_
  obtain ⟨m0, m6, m7, m8, m9, m10, m12, m13, m14, m15, m22, m24, m25, m27, m28, m30, m36, m38, m40, m41, m42, m48, m52, m53, m11, m26, hf_mm, htp, hxx, hbg, hbh⟩ := h1_
  have h2_ := hH_
  obtain ⟨gha, glw, hf_ha, hf_lw, hq_ha, hq_lw, hea⟩ := h2_
  have h3_ := hy_dr
  obtain ⟨gdr, hf_dr, hq_dr⟩ := h3_
  have h3_ := hy_ro
  obtain ⟨gro, hf_ro, hq_ro⟩ := h3_
  have h3_ := hy_st
  obtain ⟨gst, hf_st, hq_st⟩ := h3_
  have h3_ := hy_ct
  obtain ⟨gct, hf_ct, hq_ct⟩ := h3_
  have h3_ := hy_se
  obtain ⟨gse, hf_se, hq_se⟩ := h3_
  have h3_ := hy_th
  obtain ⟨gth, hf_th, hq_th⟩ := h3_
  have h3_ := hy_cn
  obtain ⟨gcn, hf_cn, hq_cn⟩ := h3_
  have h3_ := hy_db
  obtain ⟨gdb, hf_db, hq_db⟩ := h3_
  have h3_ := hy_be
  obtain ⟨gbe, hf_be, hq_be⟩ := h3_
  have h3_ := hy_du
  obtain ⟨gdu, hf_du, hq_du⟩ := h3_
  have h3_ := hy_fo
  obtain ⟨gfo, hf_fo, hq_fo⟩ := h3_
  have h3_ := hy_li
  obtain ⟨gli, hf_li, hq_li⟩ := h3_
  have h3_ := hy_ce
  obtain ⟨gce, hf_ce⟩ := h3_
  have h3_ := hy_he
  obtain ⟨ghe, hf_he, hq_he⟩ := h3_
  have h3_ := hy_tr
  obtain ⟨gtr, hf_tr, hq_tr⟩ := h3_
  have h3_ := hy_fd
  obtain ⟨gfd, hf_fd, hq_fd⟩ := h3_
  have h3_ := hy_po
  obtain ⟨gpo, hf_po, hq_po⟩ := h3_
  refine z_weak (c_X10_order l (hm 0 (by decide)) (hm 7 (by decide)) (hm 11 (by decide)) (hm 13 (by decide)) (hm 8 (by decide)) (hm 9 (by decide)) (hm 14 (by decide)) (hm 15 (by decide)) (hm 16 (by decide)) (hm 17 (by decide)) (hm 20 (by decide)) (hm 18 (by decide)) (hm 19 (by decide)) (hm 10 (by decide)) (hm 6 (by decide)) (hm 1 (by decide)) (hm 2 (by decide)) (hm 3 (by decide)) (hm 25 (by decide)) (hm 26 (by decide)) (hm 27 (by decide)) (hm 28 (by decide)) hf_mm hf_ha hf_dr hf_ro hf_lw hf_st hf_ct hf_se hf_th hf_cn hf_db hf_be hf_du hf_fo hf_li hf_wd hf_my hf_ce hf_he hf_tr hf_fd hf_po (fun h => absurd (hJ _ _ (by decide) (by decide) h) (by decide)) (fun h => absurd (hJ _ _ (by decide) (by decide) h) (by decide)) (fun h => absurd (hJ _ _ (by decide) (by decide) h) (by decide)) (fun h => absurd (hJ _ _ (by decide) (by decide) h) (by decide)) (fun h => absurd (hJ _ _ (by decide) (by decide) h) (by decide)) (fun h => absurd (hJ _ _ (by decide) (by decide) h) (by decide)) (fun h => absurd (hJ _ _ (by decide) (by decide) h) (by decide)) (fun h => absurd (hJ _ _ (by decide) (by decide) h) (by decide)) (fun h => absurd (hJ _ _ (by decide) (by decide) h) (by decide)) (fun h => absurd (hJ _ _ (by decide) (by decide) h) (by decide)) (fun h => absurd (hJ _ _ (by decide) (by decide) h) (by decide)) hq_ha hq_dr hq_ro hq_lw hq_st hq_ct hq_be hq_du hq_my hq_he hq_tr (by first | assumption | omega) hea) ?_
  rintro r ⟨L2, F2⟩ ⟨hsb, hfm, o2, mn2, i2, u2, n2, d2, y2, hm2, om2, sh2, x2, nro, nct, nse, nth, ncn, ndb, nbe, ndu, nhe, ntr, nfd, npo, ha_mm, ha_ro, ha_ct, ha_se, ha_th, ha_cn, ha_db, ha_be, ha_du, ha_he, ha_tr, ha_fd, ha_po, nq_ro, nq_ct, nq_be, nq_du, nq_he, nq_tr, hp⟩
  obtain rfl : L = L2 := hsb
  have hk : ∀ i : Nat, i < 29 → i ≠ 0 → i ≠ 13 → i ≠ 14 → i ≠ 15 → i ≠ 16 → i ≠ 17 → i ≠ 20 → i ≠ 18 → i ≠ 19 → i ≠ 25 → i ≠ 26 → i ≠ 27 → i ≠ 28 → F2 (bd i) = f (bd i) := fun i hi h0 h13 h14 h15 h16 h17 h20 h18 h19 h25 h26 h27 h28 => hfm _ (hm i hi) (fun h => h0 (hJ _ _ hi (by decide) h)) (fun h => h13 (hJ _ _ hi (by decide) h)) (fun h => h14 (hJ _ _ hi (by decide) h)) (fun h => h15 (hJ _ _ hi (by decide) h)) (fun h => h16 (hJ _ _ hi (by decide) h)) (fun h => h17 (hJ _ _ hi (by decide) h)) (fun h => h20 (hJ _ _ hi (by decide) h)) (fun h => h18 (hJ _ _ hi (by decide) h)) (fun h => h19 (hJ _ _ hi (by decide) h)) (fun h => h25 (hJ _ _ hi (by decide) h)) (fun h => h26 (hJ _ _ hi (by decide) h)) (fun h => h27 (hJ _ _ hi (by decide) h)) (fun h => h28 (hJ _ _ hi (by decide) h))
  refine ⟨rfl, fun b hb h => hfm b hb (h 0 (by decide)) (h 13 (by decide)) (h 14 (by decide)) (h 15 (by decide)) (h 16 (by decide)) (h 17 (by decide)) (h 20 (by decide)) (h 18 (by decide)) (h 19 (by decide)) (h 25 (by decide)) (h 26 (by decide)) (h 27 (by decide)) (h 28 (by decide)), ?_⟩
  exact ⟨hm, hJ, (⟨0, m6, m7, m8, m9, m10, m12, m13, m14, m15, m22, o2, mn2, i2, u2, n2, y2, d2, m40, m41, m42, hm2, om2, sh2, m11, x2, ha_mm, (by first | assumption | omega | decide), (by first | assumption | omega | decide), (by first | assumption | omega | decide), (by first | assumption | omega | decide)⟩), (y_H_fr hH_ (hk 7 (by decide) (by decide) (by decide) (by decide) (by decide) (by decide) (by decide) (by decide) (by decide) (by decide) (by decide) (by decide) (by decide) (by decide)) (hk 8 (by decide) (by decide) (by decide) (by decide) (by decide) (by decide) (by decide) (by decide) (by decide) (by decide) (by decide) (by decide) (by decide) (by decide))), ((hk 12 (by decide) (by decide) (by decide) (by decide) (by decide) (by decide) (by decide) (by decide) (by decide) (by decide) (by decide) (by decide) (by decide) (by decide)).trans hf_ik), ((hk 1 (by decide) (by decide) (by decide) (by decide) (by decide) (by decide) (by decide) (by decide) (by decide) (by decide) (by decide) (by decide) (by decide) (by decide)).trans hf_wd), ((hk 2 (by decide) (by decide) (by decide) (by decide) (by decide) (by decide) (by decide) (by decide) (by decide) (by decide) (by decide) (by decide) (by decide) (by decide)).trans hf_my), (hq_my), (y_J_fr hy_ce (hk 3 (by decide) (by decide) (by decide) (by decide) (by decide) (by decide) (by decide) (by decide) (by decide) (by decide) (by decide) (by decide) (by decide) (by decide))), (y_J_fr hy_mv (hk 4 (by decide) (by decide) (by decide) (by decide) (by decide) (by decide) (by decide) (by decide) (by decide) (by decide) (by decide) (by decide) (by decide) (by decide))), (y_A_fr hy_ta (hk 5 (by decide) (by decide) (by decide) (by decide) (by decide) (by decide) (by decide) (by decide) (by decide) (by decide) (by decide) (by decide) (by decide) (by decide))), (y_A_fr hy_li (hk 6 (by decide) (by decide) (by decide) (by decide) (by decide) (by decide) (by decide) (by decide) (by decide) (by decide) (by decide) (by decide) (by decide) (by decide))), (y_A_fr hy_st (hk 9 (by decide) (by decide) (by decide) (by decide) (by decide) (by decide) (by decide) (by decide) (by decide) (by decide) (by decide) (by decide) (by decide) (by decide))), (y_A_fr hy_fo (hk 10 (by decide) (by decide) (by decide) (by decide) (by decide) (by decide) (by decide) (by decide) (by decide) (by decide) (by decide) (by decide) (by decide) (by decide))), (y_A_fr hy_dr (hk 11 (by decide) (by decide) (by decide) (by decide) (by decide) (by decide) (by decide) (by decide) (by decide) (by decide) (by decide) (by decide) (by decide) (by decide))), (⟨_, ha_ro, nq_ro⟩), (⟨_, ha_ct, nq_ct⟩), (⟨_, ha_se, fun _ => trivial⟩), (⟨_, ha_th, fun _ => trivial⟩), (⟨_, ha_cn, fun _ => trivial⟩), (⟨_, ha_be, nq_be⟩), (⟨_, ha_du, nq_du⟩), (⟨_, ha_db, fun _ => trivial⟩), (y_A_fr hy_pn (hk 21 (by decide) (by decide) (by decide) (by decide) (by decide) (by decide) (by decide) (by decide) (by decide) (by decide) (by decide) (by decide) (by decide) (by decide))), (y_A_fr hy_wg (hk 22 (by decide) (by decide) (by decide) (by decide) (by decide) (by decide) (by decide) (by decide) (by decide) (by decide) (by decide) (by decide) (by decide) (by decide))), (y_A_fr hy_wh (hk 23 (by decide) (by decide) (by decide) (by decide) (by decide) (by decide) (by decide) (by decide) (by decide) (by decide) (by decide) (by decide) (by decide) (by decide))), (y_A_fr hy_tn (hk 24 (by decide) (by decide) (by decide) (by decide) (by decide) (by decide) (by decide) (by decide) (by decide) (by decide) (by decide) (by decide) (by decide) (by decide))), (⟨_, ha_he, nq_he⟩), (⟨_, ha_tr, nq_tr⟩), (⟨_, ha_fd, fun _ => trivial⟩), (⟨_, ha_po, fun _ => trivial⟩)⟩

set_option maxHeartbeats 4000000 in
set_option maxRecDepth 100000 in
theorem s_X10_sure (l : Launch) {D : va_G} {cy : Nat → ClassId} {L : List Nat} {f : Nat → va_E} {sz : Nat} {adK adV : Nat → Nat} {bd : Nat → Nat} {gik gwd gmy : Nat → Int32} {sn : Int32} {ga : Int32} {dy : Int32} {kk : Int32} (hS : z_SM L f cy bd gik gwd gmy) : Met l yX10_sure (z_ws yX10_sure cX10_sure 6 (some .int)) (z_R 13 0 0) (va_Pc [.ref (bd 0), .int sn, .int ga, .int dy, .int kk] (z_Pre D vwCl (z_KK D cy adK adV) L f sz)) (z_Qi D vwCl (fun r u => L = u.1 ∧ (∀ b ∈ L, (∀ i : Nat, i < 29 → b ≠ bd i) → u.2 b = f b) ∧ (z_SM L u.2 cy bd gik gwd gmy)) L sz) 0 0 (z_A L sz) := by
  obtain ⟨hm, hJ, h0_, hH_, hf_ik, hf_wd, hf_my, hq_my, hy_ce, hy_mv, hy_ta, hy_li, hy_st, hy_fo, hy_dr, hy_ro, hy_ct, hy_se, hy_th, hy_cn, hy_be, hy_du, hy_db, hy_pn, hy_wg, hy_wh, hy_tn, hy_he, hy_tr, hy_fd, hy_po⟩ := hS
  have h1_ := h0_
  obtain ⟨m0, m6, m7, m8, m9, m10, m12, m13, m14, m15, m22, m24, m25, m27, m28, m30, m36, m38, m40, m41, m42, m48, m52, m53, m11, m26, hf_mm, htp, hxx, hbg, hbh⟩ := h1_
  have h2_ := hH_
  obtain ⟨gha, glw, hf_ha, hf_lw, hq_ha, hq_lw, hea⟩ := h2_
  have h3_ := hy_dr
  obtain ⟨gdr, hf_dr, hq_dr⟩ := h3_
  have h3_ := hy_ro
  obtain ⟨gro, hf_ro, hq_ro⟩ := h3_
  have h3_ := hy_st
  obtain ⟨gst, hf_st, hq_st⟩ := h3_
  have h3_ := hy_ct
  obtain ⟨gct, hf_ct, hq_ct⟩ := h3_
  have h3_ := hy_se
  obtain ⟨gse, hf_se, hq_se⟩ := h3_
  have h3_ := hy_th
  obtain ⟨gth, hf_th, hq_th⟩ := h3_
  have h3_ := hy_cn
  obtain ⟨gcn, hf_cn, hq_cn⟩ := h3_
  have h3_ := hy_db
  obtain ⟨gdb, hf_db, hq_db⟩ := h3_
  have h3_ := hy_be
  obtain ⟨gbe, hf_be, hq_be⟩ := h3_
  have h3_ := hy_du
  obtain ⟨gdu, hf_du, hq_du⟩ := h3_
  have h3_ := hy_fo
  obtain ⟨gfo, hf_fo, hq_fo⟩ := h3_
  have h3_ := hy_li
  obtain ⟨gli, hf_li, hq_li⟩ := h3_
  have h3_ := hy_ce
  obtain ⟨gce, hf_ce⟩ := h3_
  have h3_ := hy_he
  obtain ⟨ghe, hf_he, hq_he⟩ := h3_
  have h3_ := hy_tr
  obtain ⟨gtr, hf_tr, hq_tr⟩ := h3_
  have h3_ := hy_fd
  obtain ⟨gfd, hf_fd, hq_fd⟩ := h3_
  have h3_ := hy_po
  obtain ⟨gpo, hf_po, hq_po⟩ := h3_
  refine z_weak (c_X10_sure l (hm 0 (by decide)) (hm 7 (by decide)) (hm 11 (by decide)) (hm 13 (by decide)) (hm 8 (by decide)) (hm 9 (by decide)) (hm 14 (by decide)) (hm 15 (by decide)) (hm 16 (by decide)) (hm 17 (by decide)) (hm 20 (by decide)) (hm 18 (by decide)) (hm 19 (by decide)) (hm 10 (by decide)) (hm 6 (by decide)) (hm 1 (by decide)) (hm 2 (by decide)) (hm 3 (by decide)) (hm 25 (by decide)) (hm 26 (by decide)) (hm 27 (by decide)) (hm 28 (by decide)) hf_mm hf_ha hf_dr hf_ro hf_lw hf_st hf_ct hf_se hf_th hf_cn hf_db hf_be hf_du hf_fo hf_li hf_wd hf_my hf_ce hf_he hf_tr hf_fd hf_po (fun h => absurd (hJ _ _ (by decide) (by decide) h) (by decide)) (fun h => absurd (hJ _ _ (by decide) (by decide) h) (by decide)) (fun h => absurd (hJ _ _ (by decide) (by decide) h) (by decide)) (fun h => absurd (hJ _ _ (by decide) (by decide) h) (by decide)) (fun h => absurd (hJ _ _ (by decide) (by decide) h) (by decide)) (fun h => absurd (hJ _ _ (by decide) (by decide) h) (by decide)) (fun h => absurd (hJ _ _ (by decide) (by decide) h) (by decide)) (fun h => absurd (hJ _ _ (by decide) (by decide) h) (by decide)) (fun h => absurd (hJ _ _ (by decide) (by decide) h) (by decide)) (fun h => absurd (hJ _ _ (by decide) (by decide) h) (by decide)) (fun h => absurd (hJ _ _ (by decide) (by decide) h) (by decide)) hq_ha hq_dr hq_ro hq_lw hq_st hq_ct hq_be hq_du hq_my hq_he hq_tr (by first | assumption | omega) hea) ?_
  rintro r ⟨L2, F2⟩ ⟨hsb, hfm, o2, mn2, i2, u2, n2, d2, y2, hm2, om2, sh2, x2, nro, nct, nse, nth, ncn, ndb, nbe, ndu, nhe, ntr, nfd, npo, ha_mm, ha_ro, ha_ct, ha_se, ha_th, ha_cn, ha_db, ha_be, ha_du, ha_he, ha_tr, ha_fd, ha_po, nq_ro, nq_ct, nq_be, nq_du, nq_he, nq_tr, hp⟩
  obtain rfl : L = L2 := hsb
  have hk : ∀ i : Nat, i < 29 → i ≠ 0 → i ≠ 13 → i ≠ 14 → i ≠ 15 → i ≠ 16 → i ≠ 17 → i ≠ 20 → i ≠ 18 → i ≠ 19 → i ≠ 25 → i ≠ 26 → i ≠ 27 → i ≠ 28 → F2 (bd i) = f (bd i) := fun i hi h0 h13 h14 h15 h16 h17 h20 h18 h19 h25 h26 h27 h28 => hfm _ (hm i hi) (fun h => h0 (hJ _ _ hi (by decide) h)) (fun h => h13 (hJ _ _ hi (by decide) h)) (fun h => h14 (hJ _ _ hi (by decide) h)) (fun h => h15 (hJ _ _ hi (by decide) h)) (fun h => h16 (hJ _ _ hi (by decide) h)) (fun h => h17 (hJ _ _ hi (by decide) h)) (fun h => h20 (hJ _ _ hi (by decide) h)) (fun h => h18 (hJ _ _ hi (by decide) h)) (fun h => h19 (hJ _ _ hi (by decide) h)) (fun h => h25 (hJ _ _ hi (by decide) h)) (fun h => h26 (hJ _ _ hi (by decide) h)) (fun h => h27 (hJ _ _ hi (by decide) h)) (fun h => h28 (hJ _ _ hi (by decide) h))
  refine ⟨rfl, fun b hb h => hfm b hb (h 0 (by decide)) (h 13 (by decide)) (h 14 (by decide)) (h 15 (by decide)) (h 16 (by decide)) (h 17 (by decide)) (h 20 (by decide)) (h 18 (by decide)) (h 19 (by decide)) (h 25 (by decide)) (h 26 (by decide)) (h 27 (by decide)) (h 28 (by decide)), ?_⟩
  exact ⟨hm, hJ, (⟨0, m6, m7, m8, m9, m10, m12, m13, m14, m15, m22, o2, mn2, i2, u2, n2, y2, d2, m40, m41, m42, hm2, om2, sh2, m11, x2, ha_mm, (by first | assumption | omega | decide), (by first | assumption | omega | decide), (by first | assumption | omega | decide), (by first | assumption | omega | decide)⟩), (y_H_fr hH_ (hk 7 (by decide) (by decide) (by decide) (by decide) (by decide) (by decide) (by decide) (by decide) (by decide) (by decide) (by decide) (by decide) (by decide) (by decide)) (hk 8 (by decide) (by decide) (by decide) (by decide) (by decide) (by decide) (by decide) (by decide) (by decide) (by decide) (by decide) (by decide) (by decide) (by decide))), ((hk 12 (by decide) (by decide) (by decide) (by decide) (by decide) (by decide) (by decide) (by decide) (by decide) (by decide) (by decide) (by decide) (by decide) (by decide)).trans hf_ik), ((hk 1 (by decide) (by decide) (by decide) (by decide) (by decide) (by decide) (by decide) (by decide) (by decide) (by decide) (by decide) (by decide) (by decide) (by decide)).trans hf_wd), ((hk 2 (by decide) (by decide) (by decide) (by decide) (by decide) (by decide) (by decide) (by decide) (by decide) (by decide) (by decide) (by decide) (by decide) (by decide)).trans hf_my), (hq_my), (y_J_fr hy_ce (hk 3 (by decide) (by decide) (by decide) (by decide) (by decide) (by decide) (by decide) (by decide) (by decide) (by decide) (by decide) (by decide) (by decide) (by decide))), (y_J_fr hy_mv (hk 4 (by decide) (by decide) (by decide) (by decide) (by decide) (by decide) (by decide) (by decide) (by decide) (by decide) (by decide) (by decide) (by decide) (by decide))), (y_A_fr hy_ta (hk 5 (by decide) (by decide) (by decide) (by decide) (by decide) (by decide) (by decide) (by decide) (by decide) (by decide) (by decide) (by decide) (by decide) (by decide))), (y_A_fr hy_li (hk 6 (by decide) (by decide) (by decide) (by decide) (by decide) (by decide) (by decide) (by decide) (by decide) (by decide) (by decide) (by decide) (by decide) (by decide))), (y_A_fr hy_st (hk 9 (by decide) (by decide) (by decide) (by decide) (by decide) (by decide) (by decide) (by decide) (by decide) (by decide) (by decide) (by decide) (by decide) (by decide))), (y_A_fr hy_fo (hk 10 (by decide) (by decide) (by decide) (by decide) (by decide) (by decide) (by decide) (by decide) (by decide) (by decide) (by decide) (by decide) (by decide) (by decide))), (y_A_fr hy_dr (hk 11 (by decide) (by decide) (by decide) (by decide) (by decide) (by decide) (by decide) (by decide) (by decide) (by decide) (by decide) (by decide) (by decide) (by decide))), (⟨_, ha_ro, nq_ro⟩), (⟨_, ha_ct, nq_ct⟩), (⟨_, ha_se, fun _ => trivial⟩), (⟨_, ha_th, fun _ => trivial⟩), (⟨_, ha_cn, fun _ => trivial⟩), (⟨_, ha_be, nq_be⟩), (⟨_, ha_du, nq_du⟩), (⟨_, ha_db, fun _ => trivial⟩), (y_A_fr hy_pn (hk 21 (by decide) (by decide) (by decide) (by decide) (by decide) (by decide) (by decide) (by decide) (by decide) (by decide) (by decide) (by decide) (by decide) (by decide))), (y_A_fr hy_wg (hk 22 (by decide) (by decide) (by decide) (by decide) (by decide) (by decide) (by decide) (by decide) (by decide) (by decide) (by decide) (by decide) (by decide) (by decide))), (y_A_fr hy_wh (hk 23 (by decide) (by decide) (by decide) (by decide) (by decide) (by decide) (by decide) (by decide) (by decide) (by decide) (by decide) (by decide) (by decide) (by decide))), (y_A_fr hy_tn (hk 24 (by decide) (by decide) (by decide) (by decide) (by decide) (by decide) (by decide) (by decide) (by decide) (by decide) (by decide) (by decide) (by decide) (by decide))), (⟨_, ha_he, nq_he⟩), (⟨_, ha_tr, nq_tr⟩), (⟨_, ha_fd, fun _ => trivial⟩), (⟨_, ha_po, fun _ => trivial⟩)⟩

set_option maxHeartbeats 4000000 in
set_option maxRecDepth 100000 in
theorem s_X10_wrong (l : Launch) {D : va_G} {cy : Nat → ClassId} {L : List Nat} {f : Nat → va_E} {sz : Nat} {adK adV : Nat → Nat} {bd : Nat → Nat} {gik gwd gmy : Nat → Int32} {sn : Int32} {dy : Int32} (hS : z_SM L f cy bd gik gwd gmy) : Met l yX10_wrong (z_ws yX10_wrong cX10_wrong 6 (some .int)) (z_R 7 0 0) (va_Pc [.ref (bd 0), .int sn, .int dy] (z_Pre D vwCl (z_KK D cy adK adV) L f sz)) (z_Qi D vwCl (fun r u => L = u.1 ∧ (∀ b ∈ L, (∀ i : Nat, i < 29 → b ≠ bd i) → u.2 b = f b) ∧ (z_SM L u.2 cy bd gik gwd gmy)) L sz) 0 0 (z_A L sz) := by
  obtain ⟨hm, hJ, h0_, hH_, hf_ik, hf_wd, hf_my, hq_my, hy_ce, hy_mv, hy_ta, hy_li, hy_st, hy_fo, hy_dr, hy_ro, hy_ct, hy_se, hy_th, hy_cn, hy_be, hy_du, hy_db, hy_pn, hy_wg, hy_wh, hy_tn, hy_he, hy_tr, hy_fd, hy_po⟩ := hS
  have h1_ := h0_
  obtain ⟨m0, m6, m7, m8, m9, m10, m12, m13, m14, m15, m22, m24, m25, m27, m28, m30, m36, m38, m40, m41, m42, m48, m52, m53, m11, m26, hf_mm, htp, hxx, hbg, hbh⟩ := h1_
  have h2_ := hH_
  obtain ⟨gha, glw, hf_ha, hf_lw, hq_ha, hq_lw, hea⟩ := h2_
  have h3_ := hy_dr
  obtain ⟨gdr, hf_dr, hq_dr⟩ := h3_
  have h3_ := hy_ro
  obtain ⟨gro, hf_ro, hq_ro⟩ := h3_
  have h3_ := hy_st
  obtain ⟨gst, hf_st, hq_st⟩ := h3_
  have h3_ := hy_ct
  obtain ⟨gct, hf_ct, hq_ct⟩ := h3_
  have h3_ := hy_se
  obtain ⟨gse, hf_se, hq_se⟩ := h3_
  have h3_ := hy_th
  obtain ⟨gth, hf_th, hq_th⟩ := h3_
  have h3_ := hy_cn
  obtain ⟨gcn, hf_cn, hq_cn⟩ := h3_
  have h3_ := hy_db
  obtain ⟨gdb, hf_db, hq_db⟩ := h3_
  have h3_ := hy_be
  obtain ⟨gbe, hf_be, hq_be⟩ := h3_
  have h3_ := hy_du
  obtain ⟨gdu, hf_du, hq_du⟩ := h3_
  have h3_ := hy_fo
  obtain ⟨gfo, hf_fo, hq_fo⟩ := h3_
  have h3_ := hy_ce
  obtain ⟨gce, hf_ce⟩ := h3_
  refine z_weak (c_X10_wrong l (hm 0 (by decide)) (hm 7 (by decide)) (hm 11 (by decide)) (hm 13 (by decide)) (hm 8 (by decide)) (hm 9 (by decide)) (hm 14 (by decide)) (hm 15 (by decide)) (hm 16 (by decide)) (hm 17 (by decide)) (hm 20 (by decide)) (hm 18 (by decide)) (hm 19 (by decide)) (hm 10 (by decide)) (hm 1 (by decide)) (hm 2 (by decide)) (hm 3 (by decide)) hf_mm hf_ha hf_dr hf_ro hf_lw hf_st hf_ct hf_se hf_th hf_cn hf_db hf_be hf_du hf_fo hf_wd hf_my hf_ce (fun h => absurd (hJ _ _ (by decide) (by decide) h) (by decide)) (fun h => absurd (hJ _ _ (by decide) (by decide) h) (by decide)) (fun h => absurd (hJ _ _ (by decide) (by decide) h) (by decide)) (fun h => absurd (hJ _ _ (by decide) (by decide) h) (by decide)) (fun h => absurd (hJ _ _ (by decide) (by decide) h) (by decide)) (fun h => absurd (hJ _ _ (by decide) (by decide) h) (by decide)) hq_ha hq_dr hq_ro hq_lw hq_st hq_ct hq_be hq_du hq_my (by first | assumption | omega) hea) ?_
  rintro r ⟨L2, F2⟩ ⟨hsb, hfm, o2, mn2, i2, u2, n2, d2, y2, x2, nro, nct, nse, nth, ncn, ndb, nbe, ndu, ha_mm, ha_ro, ha_ct, ha_se, ha_th, ha_cn, ha_db, ha_be, ha_du, nq_ro, nq_ct, nq_be, nq_du, hp⟩
  obtain rfl : L = L2 := hsb
  have hk : ∀ i : Nat, i < 29 → i ≠ 0 → i ≠ 13 → i ≠ 14 → i ≠ 15 → i ≠ 16 → i ≠ 17 → i ≠ 20 → i ≠ 18 → i ≠ 19 → F2 (bd i) = f (bd i) := fun i hi h0 h13 h14 h15 h16 h17 h20 h18 h19 => hfm _ (hm i hi) (fun h => h0 (hJ _ _ hi (by decide) h)) (fun h => h13 (hJ _ _ hi (by decide) h)) (fun h => h14 (hJ _ _ hi (by decide) h)) (fun h => h15 (hJ _ _ hi (by decide) h)) (fun h => h16 (hJ _ _ hi (by decide) h)) (fun h => h17 (hJ _ _ hi (by decide) h)) (fun h => h20 (hJ _ _ hi (by decide) h)) (fun h => h18 (hJ _ _ hi (by decide) h)) (fun h => h19 (hJ _ _ hi (by decide) h))
  refine ⟨rfl, fun b hb h => hfm b hb (h 0 (by decide)) (h 13 (by decide)) (h 14 (by decide)) (h 15 (by decide)) (h 16 (by decide)) (h 17 (by decide)) (h 20 (by decide)) (h 18 (by decide)) (h 19 (by decide)), ?_⟩
  exact ⟨hm, hJ, (⟨0, m6, m7, m8, m9, m10, m12, m13, m14, m15, m22, o2, mn2, i2, u2, n2, y2, d2, m40, m41, m42, m48, m52, m53, m11, x2, ha_mm, (by first | assumption | omega | decide), (by first | assumption | omega | decide), (by first | assumption | omega | decide), (by first | assumption | omega | decide)⟩), (y_H_fr hH_ (hk 7 (by decide) (by decide) (by decide) (by decide) (by decide) (by decide) (by decide) (by decide) (by decide) (by decide)) (hk 8 (by decide) (by decide) (by decide) (by decide) (by decide) (by decide) (by decide) (by decide) (by decide) (by decide))), ((hk 12 (by decide) (by decide) (by decide) (by decide) (by decide) (by decide) (by decide) (by decide) (by decide) (by decide)).trans hf_ik), ((hk 1 (by decide) (by decide) (by decide) (by decide) (by decide) (by decide) (by decide) (by decide) (by decide) (by decide)).trans hf_wd), ((hk 2 (by decide) (by decide) (by decide) (by decide) (by decide) (by decide) (by decide) (by decide) (by decide) (by decide)).trans hf_my), (hq_my), (y_J_fr hy_ce (hk 3 (by decide) (by decide) (by decide) (by decide) (by decide) (by decide) (by decide) (by decide) (by decide) (by decide))), (y_J_fr hy_mv (hk 4 (by decide) (by decide) (by decide) (by decide) (by decide) (by decide) (by decide) (by decide) (by decide) (by decide))), (y_A_fr hy_ta (hk 5 (by decide) (by decide) (by decide) (by decide) (by decide) (by decide) (by decide) (by decide) (by decide) (by decide))), (y_A_fr hy_li (hk 6 (by decide) (by decide) (by decide) (by decide) (by decide) (by decide) (by decide) (by decide) (by decide) (by decide))), (y_A_fr hy_st (hk 9 (by decide) (by decide) (by decide) (by decide) (by decide) (by decide) (by decide) (by decide) (by decide) (by decide))), (y_A_fr hy_fo (hk 10 (by decide) (by decide) (by decide) (by decide) (by decide) (by decide) (by decide) (by decide) (by decide) (by decide))), (y_A_fr hy_dr (hk 11 (by decide) (by decide) (by decide) (by decide) (by decide) (by decide) (by decide) (by decide) (by decide) (by decide))), (⟨_, ha_ro, nq_ro⟩), (⟨_, ha_ct, nq_ct⟩), (⟨_, ha_se, fun _ => trivial⟩), (⟨_, ha_th, fun _ => trivial⟩), (⟨_, ha_cn, fun _ => trivial⟩), (⟨_, ha_be, nq_be⟩), (⟨_, ha_du, nq_du⟩), (⟨_, ha_db, fun _ => trivial⟩), (y_A_fr hy_pn (hk 21 (by decide) (by decide) (by decide) (by decide) (by decide) (by decide) (by decide) (by decide) (by decide) (by decide))), (y_A_fr hy_wg (hk 22 (by decide) (by decide) (by decide) (by decide) (by decide) (by decide) (by decide) (by decide) (by decide) (by decide))), (y_A_fr hy_wh (hk 23 (by decide) (by decide) (by decide) (by decide) (by decide) (by decide) (by decide) (by decide) (by decide) (by decide))), (y_A_fr hy_tn (hk 24 (by decide) (by decide) (by decide) (by decide) (by decide) (by decide) (by decide) (by decide) (by decide) (by decide))), (y_A_fr hy_he (hk 25 (by decide) (by decide) (by decide) (by decide) (by decide) (by decide) (by decide) (by decide) (by decide) (by decide))), (y_A_fr hy_tr (hk 26 (by decide) (by decide) (by decide) (by decide) (by decide) (by decide) (by decide) (by decide) (by decide) (by decide))), (y_A_fr hy_fd (hk 27 (by decide) (by decide) (by decide) (by decide) (by decide) (by decide) (by decide) (by decide) (by decide) (by decide))), (y_A_fr hy_po (hk 28 (by decide) (by decide) (by decide) (by decide) (by decide) (by decide) (by decide) (by decide) (by decide) (by decide)))⟩

set_option maxHeartbeats 4000000 in
set_option maxRecDepth 100000 in
theorem s_X10_anew (l : Launch) {D : va_G} {cy : Nat → ClassId} {L : List Nat} {f : Nat → va_E} {sz : Nat} {adK adV : Nat → Nat} {bd : Nat → Nat} {gik gwd gmy : Nat → Int32} {sn : Int32} {dy : Int32} (hS : z_SM L f cy bd gik gwd gmy) : Met l yX10_anew (z_ws yX10_anew cX10_anew 7 (some .int)) (z_R 7 0 0) (va_Pc [.ref (bd 0), .int sn, .int dy] (z_Pre D vwCl (z_KK D cy adK adV) L f sz)) (z_Qi D vwCl (fun r u => L = u.1 ∧ (∀ b ∈ L, (∀ i : Nat, i < 29 → b ≠ bd i) → u.2 b = f b) ∧ (z_SM L u.2 cy bd gik gwd gmy)) L sz) 0 0 (z_A L sz) := by
  obtain ⟨hm, hJ, h0_, hH_, hf_ik, hf_wd, hf_my, hq_my, hy_ce, hy_mv, hy_ta, hy_li, hy_st, hy_fo, hy_dr, hy_ro, hy_ct, hy_se, hy_th, hy_cn, hy_be, hy_du, hy_db, hy_pn, hy_wg, hy_wh, hy_tn, hy_he, hy_tr, hy_fd, hy_po⟩ := hS
  have h1_ := h0_
  obtain ⟨m0, m6, m7, m8, m9, m10, m12, m13, m14, m15, m22, m24, m25, m27, m28, m30, m36, m38, m40, m41, m42, m48, m52, m53, m11, m26, hf_mm, htp, hxx, hbg, hbh⟩ := h1_
  have h2_ := hH_
  obtain ⟨gha, glw, hf_ha, hf_lw, hq_ha, hq_lw, hea⟩ := h2_
  have h3_ := hy_dr
  obtain ⟨gdr, hf_dr, hq_dr⟩ := h3_
  have h3_ := hy_ro
  obtain ⟨gro, hf_ro, hq_ro⟩ := h3_
  have h3_ := hy_st
  obtain ⟨gst, hf_st, hq_st⟩ := h3_
  have h3_ := hy_ct
  obtain ⟨gct, hf_ct, hq_ct⟩ := h3_
  have h3_ := hy_se
  obtain ⟨gse, hf_se, hq_se⟩ := h3_
  have h3_ := hy_th
  obtain ⟨gth, hf_th, hq_th⟩ := h3_
  have h3_ := hy_cn
  obtain ⟨gcn, hf_cn, hq_cn⟩ := h3_
  have h3_ := hy_db
  obtain ⟨gdb, hf_db, hq_db⟩ := h3_
  have h3_ := hy_be
  obtain ⟨gbe, hf_be, hq_be⟩ := h3_
  have h3_ := hy_du
  obtain ⟨gdu, hf_du, hq_du⟩ := h3_
  have h3_ := hy_fo
  obtain ⟨gfo, hf_fo, hq_fo⟩ := h3_
  have h3_ := hy_ce
  obtain ⟨gce, hf_ce⟩ := h3_
  refine z_weak (c_X10_anew l (hm 0 (by decide)) (hm 7 (by decide)) (hm 11 (by decide)) (hm 13 (by decide)) (hm 8 (by decide)) (hm 9 (by decide)) (hm 14 (by decide)) (hm 15 (by decide)) (hm 16 (by decide)) (hm 17 (by decide)) (hm 20 (by decide)) (hm 18 (by decide)) (hm 19 (by decide)) (hm 10 (by decide)) (hm 1 (by decide)) (hm 2 (by decide)) (hm 3 (by decide)) hf_mm hf_ha hf_dr hf_ro hf_lw hf_st hf_ct hf_se hf_th hf_cn hf_db hf_be hf_du hf_fo hf_wd hf_my hf_ce (fun h => absurd (hJ _ _ (by decide) (by decide) h) (by decide)) (fun h => absurd (hJ _ _ (by decide) (by decide) h) (by decide)) (fun h => absurd (hJ _ _ (by decide) (by decide) h) (by decide)) (fun h => absurd (hJ _ _ (by decide) (by decide) h) (by decide)) (fun h => absurd (hJ _ _ (by decide) (by decide) h) (by decide)) (fun h => absurd (hJ _ _ (by decide) (by decide) h) (by decide)) hq_ha hq_dr hq_ro hq_lw hq_st hq_ct hq_be hq_du hq_my (by first | assumption | omega) hea) ?_
  rintro r ⟨L2, F2⟩ ⟨hsb, hfm, o2, mn2, i2, u2, n2, d2, y2, x2, nro, nct, nse, nth, ncn, ndb, nbe, ndu, ha_mm, ha_ro, ha_ct, ha_se, ha_th, ha_cn, ha_db, ha_be, ha_du, nq_ro, nq_ct, nq_be, nq_du, hp⟩
  obtain rfl : L = L2 := hsb
  have hk : ∀ i : Nat, i < 29 → i ≠ 0 → i ≠ 13 → i ≠ 14 → i ≠ 15 → i ≠ 16 → i ≠ 17 → i ≠ 20 → i ≠ 18 → i ≠ 19 → F2 (bd i) = f (bd i) := fun i hi h0 h13 h14 h15 h16 h17 h20 h18 h19 => hfm _ (hm i hi) (fun h => h0 (hJ _ _ hi (by decide) h)) (fun h => h13 (hJ _ _ hi (by decide) h)) (fun h => h14 (hJ _ _ hi (by decide) h)) (fun h => h15 (hJ _ _ hi (by decide) h)) (fun h => h16 (hJ _ _ hi (by decide) h)) (fun h => h17 (hJ _ _ hi (by decide) h)) (fun h => h20 (hJ _ _ hi (by decide) h)) (fun h => h18 (hJ _ _ hi (by decide) h)) (fun h => h19 (hJ _ _ hi (by decide) h))
  refine ⟨rfl, fun b hb h => hfm b hb (h 0 (by decide)) (h 13 (by decide)) (h 14 (by decide)) (h 15 (by decide)) (h 16 (by decide)) (h 17 (by decide)) (h 20 (by decide)) (h 18 (by decide)) (h 19 (by decide)), ?_⟩
  exact ⟨hm, hJ, (⟨0, m6, m7, m8, m9, m10, m12, m13, m14, m15, m22, o2, mn2, i2, u2, n2, y2, d2, m40, m41, m42, m48, m52, m53, m11, x2, ha_mm, (by first | assumption | omega | decide), (by first | assumption | omega | decide), (by first | assumption | omega | decide), (by first | assumption | omega | decide)⟩), (y_H_fr hH_ (hk 7 (by decide) (by decide) (by decide) (by decide) (by decide) (by decide) (by decide) (by decide) (by decide) (by decide)) (hk 8 (by decide) (by decide) (by decide) (by decide) (by decide) (by decide) (by decide) (by decide) (by decide) (by decide))), ((hk 12 (by decide) (by decide) (by decide) (by decide) (by decide) (by decide) (by decide) (by decide) (by decide) (by decide)).trans hf_ik), ((hk 1 (by decide) (by decide) (by decide) (by decide) (by decide) (by decide) (by decide) (by decide) (by decide) (by decide)).trans hf_wd), ((hk 2 (by decide) (by decide) (by decide) (by decide) (by decide) (by decide) (by decide) (by decide) (by decide) (by decide)).trans hf_my), (hq_my), (y_J_fr hy_ce (hk 3 (by decide) (by decide) (by decide) (by decide) (by decide) (by decide) (by decide) (by decide) (by decide) (by decide))), (y_J_fr hy_mv (hk 4 (by decide) (by decide) (by decide) (by decide) (by decide) (by decide) (by decide) (by decide) (by decide) (by decide))), (y_A_fr hy_ta (hk 5 (by decide) (by decide) (by decide) (by decide) (by decide) (by decide) (by decide) (by decide) (by decide) (by decide))), (y_A_fr hy_li (hk 6 (by decide) (by decide) (by decide) (by decide) (by decide) (by decide) (by decide) (by decide) (by decide) (by decide))), (y_A_fr hy_st (hk 9 (by decide) (by decide) (by decide) (by decide) (by decide) (by decide) (by decide) (by decide) (by decide) (by decide))), (y_A_fr hy_fo (hk 10 (by decide) (by decide) (by decide) (by decide) (by decide) (by decide) (by decide) (by decide) (by decide) (by decide))), (y_A_fr hy_dr (hk 11 (by decide) (by decide) (by decide) (by decide) (by decide) (by decide) (by decide) (by decide) (by decide) (by decide))), (⟨_, ha_ro, nq_ro⟩), (⟨_, ha_ct, nq_ct⟩), (⟨_, ha_se, fun _ => trivial⟩), (⟨_, ha_th, fun _ => trivial⟩), (⟨_, ha_cn, fun _ => trivial⟩), (⟨_, ha_be, nq_be⟩), (⟨_, ha_du, nq_du⟩), (⟨_, ha_db, fun _ => trivial⟩), (y_A_fr hy_pn (hk 21 (by decide) (by decide) (by decide) (by decide) (by decide) (by decide) (by decide) (by decide) (by decide) (by decide))), (y_A_fr hy_wg (hk 22 (by decide) (by decide) (by decide) (by decide) (by decide) (by decide) (by decide) (by decide) (by decide) (by decide))), (y_A_fr hy_wh (hk 23 (by decide) (by decide) (by decide) (by decide) (by decide) (by decide) (by decide) (by decide) (by decide) (by decide))), (y_A_fr hy_tn (hk 24 (by decide) (by decide) (by decide) (by decide) (by decide) (by decide) (by decide) (by decide) (by decide) (by decide))), (y_A_fr hy_he (hk 25 (by decide) (by decide) (by decide) (by decide) (by decide) (by decide) (by decide) (by decide) (by decide) (by decide))), (y_A_fr hy_tr (hk 26 (by decide) (by decide) (by decide) (by decide) (by decide) (by decide) (by decide) (by decide) (by decide) (by decide))), (y_A_fr hy_fd (hk 27 (by decide) (by decide) (by decide) (by decide) (by decide) (by decide) (by decide) (by decide) (by decide) (by decide))), (y_A_fr hy_po (hk 28 (by decide) (by decide) (by decide) (by decide) (by decide) (by decide) (by decide) (by decide) (by decide) (by decide)))⟩

set_option maxHeartbeats 4000000 in
set_option maxRecDepth 100000 in
theorem s_X10_mixed (l : Launch) {D : va_G} {cy : Nat → ClassId} {L : List Nat} {f : Nat → va_E} {sz : Nat} {adK adV : Nat → Nat} {bd : Nat → Nat} {gik gwd gmy : Nat → Int32} {sd : Int32} {oo : Int32} (hS : z_SM L f cy bd gik gwd gmy) : Met l yX10_mixed (z_ws yX10_mixed cX10_mixed 3 (some .int)) (z_R 7 0 0) (va_Pc [.ref (bd 0), .int sd, .int oo] (z_Pre D vwCl (z_KK D cy adK adV) L f sz)) (z_Qi D vwCl (fun r u => L = u.1 ∧ (∀ b ∈ L, (∀ i : Nat, i < 29 → b ≠ bd i) → u.2 b = f b) ∧ (z_SM L u.2 cy bd gik gwd gmy)) L sz) 0 0 (z_A L sz) := by
  obtain ⟨hm, hJ, h0_, hH_, hf_ik, hf_wd, hf_my, hq_my, hy_ce, hy_mv, hy_ta, hy_li, hy_st, hy_fo, hy_dr, hy_ro, hy_ct, hy_se, hy_th, hy_cn, hy_be, hy_du, hy_db, hy_pn, hy_wg, hy_wh, hy_tn, hy_he, hy_tr, hy_fd, hy_po⟩ := hS
  have h1_ := h0_
  obtain ⟨m0, m6, m7, m8, m9, m10, m12, m13, m14, m15, m22, m24, m25, m27, m28, m30, m36, m38, m40, m41, m42, m48, m52, m53, m11, m26, hf_mm, htp, hxx, hbg, hbh⟩ := h1_
  have h2_ := hH_
  obtain ⟨gha, glw, hf_ha, hf_lw, hq_ha, hq_lw, hea⟩ := h2_
  have h3_ := hy_dr
  obtain ⟨gdr, hf_dr, hq_dr⟩ := h3_
  have h3_ := hy_ro
  obtain ⟨gro, hf_ro, hq_ro⟩ := h3_
  have h3_ := hy_st
  obtain ⟨gst, hf_st, hq_st⟩ := h3_
  have h3_ := hy_ct
  obtain ⟨gct, hf_ct, hq_ct⟩ := h3_
  have h3_ := hy_se
  obtain ⟨gse, hf_se, hq_se⟩ := h3_
  have h3_ := hy_th
  obtain ⟨gth, hf_th, hq_th⟩ := h3_
  have h3_ := hy_cn
  obtain ⟨gcn, hf_cn, hq_cn⟩ := h3_
  have h3_ := hy_db
  obtain ⟨gdb, hf_db, hq_db⟩ := h3_
  have h3_ := hy_be
  obtain ⟨gbe, hf_be, hq_be⟩ := h3_
  have h3_ := hy_du
  obtain ⟨gdu, hf_du, hq_du⟩ := h3_
  have h3_ := hy_fo
  obtain ⟨gfo, hf_fo, hq_fo⟩ := h3_
  have h3_ := hy_li
  obtain ⟨gli, hf_li, hq_li⟩ := h3_
  refine z_weak (c_X10_mixed l (hm 0 (by decide)) (hm 7 (by decide)) (hm 11 (by decide)) (hm 13 (by decide)) (hm 8 (by decide)) (hm 9 (by decide)) (hm 14 (by decide)) (hm 15 (by decide)) (hm 16 (by decide)) (hm 17 (by decide)) (hm 20 (by decide)) (hm 18 (by decide)) (hm 19 (by decide)) (hm 10 (by decide)) (hm 6 (by decide)) hf_mm hf_ha hf_dr hf_ro hf_lw hf_st hf_ct hf_se hf_th hf_cn hf_db hf_be hf_du hf_fo hf_li (fun h => absurd (hJ _ _ (by decide) (by decide) h) (by decide)) (fun h => absurd (hJ _ _ (by decide) (by decide) h) (by decide)) (fun h => absurd (hJ _ _ (by decide) (by decide) h) (by decide)) (fun h => absurd (hJ _ _ (by decide) (by decide) h) (by decide)) hq_ha hq_dr hq_ro hq_lw hq_st hq_ct hq_be hq_du (by first | assumption | omega) hea) ?_
  rintro r ⟨L2, F2⟩ ⟨hsb, hfm, o2, mn2, i2, u2, n2, d2, y2, x2, nro, nct, nse, nth, ncn, ndb, nbe, ndu, ha_mm, ha_ro, ha_ct, ha_se, ha_th, ha_cn, ha_db, ha_be, ha_du, nq_ro, nq_ct, nq_be, nq_du, hp⟩
  obtain rfl : L = L2 := hsb
  have hk : ∀ i : Nat, i < 29 → i ≠ 0 → i ≠ 13 → i ≠ 14 → i ≠ 15 → i ≠ 16 → i ≠ 17 → i ≠ 20 → i ≠ 18 → i ≠ 19 → F2 (bd i) = f (bd i) := fun i hi h0 h13 h14 h15 h16 h17 h20 h18 h19 => hfm _ (hm i hi) (fun h => h0 (hJ _ _ hi (by decide) h)) (fun h => h13 (hJ _ _ hi (by decide) h)) (fun h => h14 (hJ _ _ hi (by decide) h)) (fun h => h15 (hJ _ _ hi (by decide) h)) (fun h => h16 (hJ _ _ hi (by decide) h)) (fun h => h17 (hJ _ _ hi (by decide) h)) (fun h => h20 (hJ _ _ hi (by decide) h)) (fun h => h18 (hJ _ _ hi (by decide) h)) (fun h => h19 (hJ _ _ hi (by decide) h))
  refine ⟨rfl, fun b hb h => hfm b hb (h 0 (by decide)) (h 13 (by decide)) (h 14 (by decide)) (h 15 (by decide)) (h 16 (by decide)) (h 17 (by decide)) (h 20 (by decide)) (h 18 (by decide)) (h 19 (by decide)), ?_⟩
  exact ⟨hm, hJ, (⟨0, m6, m7, m8, m9, m10, m12, m13, m14, m15, m22, o2, mn2, i2, u2, n2, y2, d2, m40, m41, m42, m48, m52, m53, m11, x2, ha_mm, (by first | assumption | omega | decide), (by first | assumption | omega | decide), (by first | assumption | omega | decide), (by first | assumption | omega | decide)⟩), (y_H_fr hH_ (hk 7 (by decide) (by decide) (by decide) (by decide) (by decide) (by decide) (by decide) (by decide) (by decide) (by decide)) (hk 8 (by decide) (by decide) (by decide) (by decide) (by decide) (by decide) (by decide) (by decide) (by decide) (by decide))), ((hk 12 (by decide) (by decide) (by decide) (by decide) (by decide) (by decide) (by decide) (by decide) (by decide) (by decide)).trans hf_ik), ((hk 1 (by decide) (by decide) (by decide) (by decide) (by decide) (by decide) (by decide) (by decide) (by decide) (by decide)).trans hf_wd), ((hk 2 (by decide) (by decide) (by decide) (by decide) (by decide) (by decide) (by decide) (by decide) (by decide) (by decide)).trans hf_my), (hq_my), (y_J_fr hy_ce (hk 3 (by decide) (by decide) (by decide) (by decide) (by decide) (by decide) (by decide) (by decide) (by decide) (by decide))), (y_J_fr hy_mv (hk 4 (by decide) (by decide) (by decide) (by decide) (by decide) (by decide) (by decide) (by decide) (by decide) (by decide))), (y_A_fr hy_ta (hk 5 (by decide) (by decide) (by decide) (by decide) (by decide) (by decide) (by decide) (by decide) (by decide) (by decide))), (y_A_fr hy_li (hk 6 (by decide) (by decide) (by decide) (by decide) (by decide) (by decide) (by decide) (by decide) (by decide) (by decide))), (y_A_fr hy_st (hk 9 (by decide) (by decide) (by decide) (by decide) (by decide) (by decide) (by decide) (by decide) (by decide) (by decide))), (y_A_fr hy_fo (hk 10 (by decide) (by decide) (by decide) (by decide) (by decide) (by decide) (by decide) (by decide) (by decide) (by decide))), (y_A_fr hy_dr (hk 11 (by decide) (by decide) (by decide) (by decide) (by decide) (by decide) (by decide) (by decide) (by decide) (by decide))), (⟨_, ha_ro, nq_ro⟩), (⟨_, ha_ct, nq_ct⟩), (⟨_, ha_se, fun _ => trivial⟩), (⟨_, ha_th, fun _ => trivial⟩), (⟨_, ha_cn, fun _ => trivial⟩), (⟨_, ha_be, nq_be⟩), (⟨_, ha_du, nq_du⟩), (⟨_, ha_db, fun _ => trivial⟩), (y_A_fr hy_pn (hk 21 (by decide) (by decide) (by decide) (by decide) (by decide) (by decide) (by decide) (by decide) (by decide) (by decide))), (y_A_fr hy_wg (hk 22 (by decide) (by decide) (by decide) (by decide) (by decide) (by decide) (by decide) (by decide) (by decide) (by decide))), (y_A_fr hy_wh (hk 23 (by decide) (by decide) (by decide) (by decide) (by decide) (by decide) (by decide) (by decide) (by decide) (by decide))), (y_A_fr hy_tn (hk 24 (by decide) (by decide) (by decide) (by decide) (by decide) (by decide) (by decide) (by decide) (by decide) (by decide))), (y_A_fr hy_he (hk 25 (by decide) (by decide) (by decide) (by decide) (by decide) (by decide) (by decide) (by decide) (by decide) (by decide))), (y_A_fr hy_tr (hk 26 (by decide) (by decide) (by decide) (by decide) (by decide) (by decide) (by decide) (by decide) (by decide) (by decide))), (y_A_fr hy_fd (hk 27 (by decide) (by decide) (by decide) (by decide) (by decide) (by decide) (by decide) (by decide) (by decide) (by decide))), (y_A_fr hy_po (hk 28 (by decide) (by decide) (by decide) (by decide) (by decide) (by decide) (by decide) (by decide) (by decide) (by decide)))⟩

set_option maxHeartbeats 4000000 in
set_option maxRecDepth 100000 in
theorem s_X10_luck (l : Launch) {D : va_G} {cy : Nat → ClassId} {L : List Nat} {f : Nat → va_E} {sz : Nat} {adK adV : Nat → Nat} {bd : Nat → Nat} {gik gwd gmy : Nat → Int32} {sd : Int32} {nn : Int32} {oo : Int32} (hS : z_SM L f cy bd gik gwd gmy) : Met l yX10_luck (z_ws yX10_luck cX10_luck 7 (some .int)) (z_R 7 0 0) (va_Pc [.ref (bd 0), .int sd, .int nn, .int oo] (z_Pre D vwCl (z_KK D cy adK adV) L f sz)) (z_Qi D vwCl (fun r u => L = u.1 ∧ (∀ b ∈ L, (∀ i : Nat, i < 29 → b ≠ bd i) → u.2 b = f b) ∧ (z_SM L u.2 cy bd gik gwd gmy)) L sz) 0 0 (z_A L sz) := by
  obtain ⟨hm, hJ, h0_, hH_, hf_ik, hf_wd, hf_my, hq_my, hy_ce, hy_mv, hy_ta, hy_li, hy_st, hy_fo, hy_dr, hy_ro, hy_ct, hy_se, hy_th, hy_cn, hy_be, hy_du, hy_db, hy_pn, hy_wg, hy_wh, hy_tn, hy_he, hy_tr, hy_fd, hy_po⟩ := hS
  have h1_ := h0_
  obtain ⟨m0, m6, m7, m8, m9, m10, m12, m13, m14, m15, m22, m24, m25, m27, m28, m30, m36, m38, m40, m41, m42, m48, m52, m53, m11, m26, hf_mm, htp, hxx, hbg, hbh⟩ := h1_
  have h2_ := hH_
  obtain ⟨gha, glw, hf_ha, hf_lw, hq_ha, hq_lw, hea⟩ := h2_
  have h3_ := hy_dr
  obtain ⟨gdr, hf_dr, hq_dr⟩ := h3_
  have h3_ := hy_ro
  obtain ⟨gro, hf_ro, hq_ro⟩ := h3_
  have h3_ := hy_st
  obtain ⟨gst, hf_st, hq_st⟩ := h3_
  have h3_ := hy_ct
  obtain ⟨gct, hf_ct, hq_ct⟩ := h3_
  have h3_ := hy_se
  obtain ⟨gse, hf_se, hq_se⟩ := h3_
  have h3_ := hy_th
  obtain ⟨gth, hf_th, hq_th⟩ := h3_
  have h3_ := hy_cn
  obtain ⟨gcn, hf_cn, hq_cn⟩ := h3_
  have h3_ := hy_db
  obtain ⟨gdb, hf_db, hq_db⟩ := h3_
  have h3_ := hy_be
  obtain ⟨gbe, hf_be, hq_be⟩ := h3_
  have h3_ := hy_du
  obtain ⟨gdu, hf_du, hq_du⟩ := h3_
  have h3_ := hy_fo
  obtain ⟨gfo, hf_fo, hq_fo⟩ := h3_
  have h3_ := hy_li
  obtain ⟨gli, hf_li, hq_li⟩ := h3_
  refine z_weak (c_X10_luck l (hm 0 (by decide)) (hm 7 (by decide)) (hm 11 (by decide)) (hm 13 (by decide)) (hm 8 (by decide)) (hm 9 (by decide)) (hm 14 (by decide)) (hm 15 (by decide)) (hm 16 (by decide)) (hm 17 (by decide)) (hm 20 (by decide)) (hm 18 (by decide)) (hm 19 (by decide)) (hm 10 (by decide)) (hm 6 (by decide)) hf_mm hf_ha hf_dr hf_ro hf_lw hf_st hf_ct hf_se hf_th hf_cn hf_db hf_be hf_du hf_fo hf_li (fun h => absurd (hJ _ _ (by decide) (by decide) h) (by decide)) (fun h => absurd (hJ _ _ (by decide) (by decide) h) (by decide)) (fun h => absurd (hJ _ _ (by decide) (by decide) h) (by decide)) (fun h => absurd (hJ _ _ (by decide) (by decide) h) (by decide)) hq_ha hq_dr hq_ro hq_lw hq_st hq_ct hq_be hq_du (by first | assumption | omega) hea) ?_
  rintro r ⟨L2, F2⟩ ⟨hsb, hfm, o2, mn2, i2, u2, n2, d2, y2, x2, nro, nct, nse, nth, ncn, ndb, nbe, ndu, ha_mm, ha_ro, ha_ct, ha_se, ha_th, ha_cn, ha_db, ha_be, ha_du, nq_ro, nq_ct, nq_be, nq_du, hp⟩
  obtain rfl : L = L2 := hsb
  have hk : ∀ i : Nat, i < 29 → i ≠ 0 → i ≠ 13 → i ≠ 14 → i ≠ 15 → i ≠ 16 → i ≠ 17 → i ≠ 20 → i ≠ 18 → i ≠ 19 → F2 (bd i) = f (bd i) := fun i hi h0 h13 h14 h15 h16 h17 h20 h18 h19 => hfm _ (hm i hi) (fun h => h0 (hJ _ _ hi (by decide) h)) (fun h => h13 (hJ _ _ hi (by decide) h)) (fun h => h14 (hJ _ _ hi (by decide) h)) (fun h => h15 (hJ _ _ hi (by decide) h)) (fun h => h16 (hJ _ _ hi (by decide) h)) (fun h => h17 (hJ _ _ hi (by decide) h)) (fun h => h20 (hJ _ _ hi (by decide) h)) (fun h => h18 (hJ _ _ hi (by decide) h)) (fun h => h19 (hJ _ _ hi (by decide) h))
  refine ⟨rfl, fun b hb h => hfm b hb (h 0 (by decide)) (h 13 (by decide)) (h 14 (by decide)) (h 15 (by decide)) (h 16 (by decide)) (h 17 (by decide)) (h 20 (by decide)) (h 18 (by decide)) (h 19 (by decide)), ?_⟩
  exact ⟨hm, hJ, (⟨0, m6, m7, m8, m9, m10, m12, m13, m14, m15, m22, o2, mn2, i2, u2, n2, y2, d2, m40, m41, m42, m48, m52, m53, m11, x2, ha_mm, (by first | assumption | omega | decide), (by first | assumption | omega | decide), (by first | assumption | omega | decide), (by first | assumption | omega | decide)⟩), (y_H_fr hH_ (hk 7 (by decide) (by decide) (by decide) (by decide) (by decide) (by decide) (by decide) (by decide) (by decide) (by decide)) (hk 8 (by decide) (by decide) (by decide) (by decide) (by decide) (by decide) (by decide) (by decide) (by decide) (by decide))), ((hk 12 (by decide) (by decide) (by decide) (by decide) (by decide) (by decide) (by decide) (by decide) (by decide) (by decide)).trans hf_ik), ((hk 1 (by decide) (by decide) (by decide) (by decide) (by decide) (by decide) (by decide) (by decide) (by decide) (by decide)).trans hf_wd), ((hk 2 (by decide) (by decide) (by decide) (by decide) (by decide) (by decide) (by decide) (by decide) (by decide) (by decide)).trans hf_my), (hq_my), (y_J_fr hy_ce (hk 3 (by decide) (by decide) (by decide) (by decide) (by decide) (by decide) (by decide) (by decide) (by decide) (by decide))), (y_J_fr hy_mv (hk 4 (by decide) (by decide) (by decide) (by decide) (by decide) (by decide) (by decide) (by decide) (by decide) (by decide))), (y_A_fr hy_ta (hk 5 (by decide) (by decide) (by decide) (by decide) (by decide) (by decide) (by decide) (by decide) (by decide) (by decide))), (y_A_fr hy_li (hk 6 (by decide) (by decide) (by decide) (by decide) (by decide) (by decide) (by decide) (by decide) (by decide) (by decide))), (y_A_fr hy_st (hk 9 (by decide) (by decide) (by decide) (by decide) (by decide) (by decide) (by decide) (by decide) (by decide) (by decide))), (y_A_fr hy_fo (hk 10 (by decide) (by decide) (by decide) (by decide) (by decide) (by decide) (by decide) (by decide) (by decide) (by decide))), (y_A_fr hy_dr (hk 11 (by decide) (by decide) (by decide) (by decide) (by decide) (by decide) (by decide) (by decide) (by decide) (by decide))), (⟨_, ha_ro, nq_ro⟩), (⟨_, ha_ct, nq_ct⟩), (⟨_, ha_se, fun _ => trivial⟩), (⟨_, ha_th, fun _ => trivial⟩), (⟨_, ha_cn, fun _ => trivial⟩), (⟨_, ha_be, nq_be⟩), (⟨_, ha_du, nq_du⟩), (⟨_, ha_db, fun _ => trivial⟩), (y_A_fr hy_pn (hk 21 (by decide) (by decide) (by decide) (by decide) (by decide) (by decide) (by decide) (by decide) (by decide) (by decide))), (y_A_fr hy_wg (hk 22 (by decide) (by decide) (by decide) (by decide) (by decide) (by decide) (by decide) (by decide) (by decide) (by decide))), (y_A_fr hy_wh (hk 23 (by decide) (by decide) (by decide) (by decide) (by decide) (by decide) (by decide) (by decide) (by decide) (by decide))), (y_A_fr hy_tn (hk 24 (by decide) (by decide) (by decide) (by decide) (by decide) (by decide) (by decide) (by decide) (by decide) (by decide))), (y_A_fr hy_he (hk 25 (by decide) (by decide) (by decide) (by decide) (by decide) (by decide) (by decide) (by decide) (by decide) (by decide))), (y_A_fr hy_tr (hk 26 (by decide) (by decide) (by decide) (by decide) (by decide) (by decide) (by decide) (by decide) (by decide) (by decide))), (y_A_fr hy_fd (hk 27 (by decide) (by decide) (by decide) (by decide) (by decide) (by decide) (by decide) (by decide) (by decide) (by decide))), (y_A_fr hy_po (hk 28 (by decide) (by decide) (by decide) (by decide) (by decide) (by decide) (by decide) (by decide) (by decide) (by decide)))⟩

set_option maxHeartbeats 4000000 in
set_option maxRecDepth 100000 in
theorem s_X10_free (l : Launch) {D : va_G} {cy : Nat → ClassId} {L : List Nat} {f : Nat → va_E} {sz : Nat} {adK adV : Nat → Nat} {bd : Nat → Nat} {gik gwd gmy : Nat → Int32} {oo : Int32} (hS : z_SM L f cy bd gik gwd gmy) : Met l yX10_free (z_ws yX10_free cX10_free 5 (some .int)) (z_R 7 0 0) (va_Pc [.ref (bd 0), .int oo] (z_Pre D vwCl (z_KK D cy adK adV) L f sz)) (z_Qi D vwCl (fun r u => L = u.1 ∧ (∀ b ∈ L, (∀ i : Nat, i < 29 → b ≠ bd i) → u.2 b = f b) ∧ (z_SM L u.2 cy bd gik gwd gmy)) L sz) 0 0 (z_A L sz) := by
  obtain ⟨hm, hJ, h0_, hH_, hf_ik, hf_wd, hf_my, hq_my, hy_ce, hy_mv, hy_ta, hy_li, hy_st, hy_fo, hy_dr, hy_ro, hy_ct, hy_se, hy_th, hy_cn, hy_be, hy_du, hy_db, hy_pn, hy_wg, hy_wh, hy_tn, hy_he, hy_tr, hy_fd, hy_po⟩ := hS
  have h1_ := h0_
  obtain ⟨m0, m6, m7, m8, m9, m10, m12, m13, m14, m15, m22, m24, m25, m27, m28, m30, m36, m38, m40, m41, m42, m48, m52, m53, m11, m26, hf_mm, htp, hxx, hbg, hbh⟩ := h1_
  have h2_ := hH_
  obtain ⟨gha, glw, hf_ha, hf_lw, hq_ha, hq_lw, hea⟩ := h2_
  have h3_ := hy_dr
  obtain ⟨gdr, hf_dr, hq_dr⟩ := h3_
  have h3_ := hy_ro
  obtain ⟨gro, hf_ro, hq_ro⟩ := h3_
  have h3_ := hy_st
  obtain ⟨gst, hf_st, hq_st⟩ := h3_
  have h3_ := hy_ct
  obtain ⟨gct, hf_ct, hq_ct⟩ := h3_
  have h3_ := hy_se
  obtain ⟨gse, hf_se, hq_se⟩ := h3_
  have h3_ := hy_th
  obtain ⟨gth, hf_th, hq_th⟩ := h3_
  have h3_ := hy_cn
  obtain ⟨gcn, hf_cn, hq_cn⟩ := h3_
  have h3_ := hy_db
  obtain ⟨gdb, hf_db, hq_db⟩ := h3_
  have h3_ := hy_be
  obtain ⟨gbe, hf_be, hq_be⟩ := h3_
  have h3_ := hy_du
  obtain ⟨gdu, hf_du, hq_du⟩ := h3_
  have h3_ := hy_fo
  obtain ⟨gfo, hf_fo, hq_fo⟩ := h3_
  have h3_ := hy_li
  obtain ⟨gli, hf_li, hq_li⟩ := h3_
  refine z_weak (c_X10_free l (hm 0 (by decide)) (hm 7 (by decide)) (hm 11 (by decide)) (hm 13 (by decide)) (hm 8 (by decide)) (hm 9 (by decide)) (hm 14 (by decide)) (hm 15 (by decide)) (hm 16 (by decide)) (hm 17 (by decide)) (hm 20 (by decide)) (hm 18 (by decide)) (hm 19 (by decide)) (hm 10 (by decide)) (hm 6 (by decide)) hf_mm hf_ha hf_dr hf_ro hf_lw hf_st hf_ct hf_se hf_th hf_cn hf_db hf_be hf_du hf_fo hf_li (fun h => absurd (hJ _ _ (by decide) (by decide) h) (by decide)) (fun h => absurd (hJ _ _ (by decide) (by decide) h) (by decide)) (fun h => absurd (hJ _ _ (by decide) (by decide) h) (by decide)) (fun h => absurd (hJ _ _ (by decide) (by decide) h) (by decide)) hq_ha hq_dr hq_ro hq_lw hq_st hq_ct hq_be hq_du (by first | assumption | omega) hea) ?_
  rintro r ⟨L2, F2⟩ ⟨hsb, hfm, o2, mn2, i2, u2, n2, d2, y2, x2, nro, nct, nse, nth, ncn, ndb, nbe, ndu, nlw, ha_mm, ha_ro, ha_ct, ha_se, ha_th, ha_cn, ha_db, ha_be, ha_du, ha_lw, nq_ro, nq_ct, nq_be, nq_du, nq_lw, hp⟩
  obtain rfl : L = L2 := hsb
  have hk : ∀ i : Nat, i < 29 → i ≠ 0 → i ≠ 13 → i ≠ 14 → i ≠ 15 → i ≠ 16 → i ≠ 17 → i ≠ 20 → i ≠ 18 → i ≠ 19 → i ≠ 8 → F2 (bd i) = f (bd i) := fun i hi h0 h13 h14 h15 h16 h17 h20 h18 h19 h8 => hfm _ (hm i hi) (fun h => h0 (hJ _ _ hi (by decide) h)) (fun h => h13 (hJ _ _ hi (by decide) h)) (fun h => h14 (hJ _ _ hi (by decide) h)) (fun h => h15 (hJ _ _ hi (by decide) h)) (fun h => h16 (hJ _ _ hi (by decide) h)) (fun h => h17 (hJ _ _ hi (by decide) h)) (fun h => h20 (hJ _ _ hi (by decide) h)) (fun h => h18 (hJ _ _ hi (by decide) h)) (fun h => h19 (hJ _ _ hi (by decide) h)) (fun h => h8 (hJ _ _ hi (by decide) h))
  refine ⟨rfl, fun b hb h => hfm b hb (h 0 (by decide)) (h 13 (by decide)) (h 14 (by decide)) (h 15 (by decide)) (h 16 (by decide)) (h 17 (by decide)) (h 20 (by decide)) (h 18 (by decide)) (h 19 (by decide)) (h 8 (by decide)), ?_⟩
  exact ⟨hm, hJ, (⟨0, m6, m7, m8, m9, m10, m12, m13, m14, m15, m22, o2, mn2, i2, u2, n2, y2, d2, m40, m41, m42, m48, m52, m53, m11, x2, ha_mm, (by first | assumption | omega | decide), (by first | assumption | omega | decide), (by first | assumption | omega | decide), (by first | assumption | omega | decide)⟩), (⟨gha, nlw, (hk 7 (by decide) (by decide) (by decide) (by decide) (by decide) (by decide) (by decide) (by decide) (by decide) (by decide) (by decide)).trans hf_ha, ha_lw, hq_ha, nq_lw, (by first | exact hp | exact hp.1 | exact hp.2)⟩), ((hk 12 (by decide) (by decide) (by decide) (by decide) (by decide) (by decide) (by decide) (by decide) (by decide) (by decide) (by decide)).trans hf_ik), ((hk 1 (by decide) (by decide) (by decide) (by decide) (by decide) (by decide) (by decide) (by decide) (by decide) (by decide) (by decide)).trans hf_wd), ((hk 2 (by decide) (by decide) (by decide) (by decide) (by decide) (by decide) (by decide) (by decide) (by decide) (by decide) (by decide)).trans hf_my), (hq_my), (y_J_fr hy_ce (hk 3 (by decide) (by decide) (by decide) (by decide) (by decide) (by decide) (by decide) (by decide) (by decide) (by decide) (by decide))), (y_J_fr hy_mv (hk 4 (by decide) (by decide) (by decide) (by decide) (by decide) (by decide) (by decide) (by decide) (by decide) (by decide) (by decide))), (y_A_fr hy_ta (hk 5 (by decide) (by decide) (by decide) (by decide) (by decide) (by decide) (by decide) (by decide) (by decide) (by decide) (by decide))), (y_A_fr hy_li (hk 6 (by decide) (by decide) (by decide) (by decide) (by decide) (by decide) (by decide) (by decide) (by decide) (by decide) (by decide))), (y_A_fr hy_st (hk 9 (by decide) (by decide) (by decide) (by decide) (by decide) (by decide) (by decide) (by decide) (by decide) (by decide) (by decide))), (y_A_fr hy_fo (hk 10 (by decide) (by decide) (by decide) (by decide) (by decide) (by decide) (by decide) (by decide) (by decide) (by decide) (by decide))), (y_A_fr hy_dr (hk 11 (by decide) (by decide) (by decide) (by decide) (by decide) (by decide) (by decide) (by decide) (by decide) (by decide) (by decide))), (⟨_, ha_ro, nq_ro⟩), (⟨_, ha_ct, nq_ct⟩), (⟨_, ha_se, fun _ => trivial⟩), (⟨_, ha_th, fun _ => trivial⟩), (⟨_, ha_cn, fun _ => trivial⟩), (⟨_, ha_be, nq_be⟩), (⟨_, ha_du, nq_du⟩), (⟨_, ha_db, fun _ => trivial⟩), (y_A_fr hy_pn (hk 21 (by decide) (by decide) (by decide) (by decide) (by decide) (by decide) (by decide) (by decide) (by decide) (by decide) (by decide))), (y_A_fr hy_wg (hk 22 (by decide) (by decide) (by decide) (by decide) (by decide) (by decide) (by decide) (by decide) (by decide) (by decide) (by decide))), (y_A_fr hy_wh (hk 23 (by decide) (by decide) (by decide) (by decide) (by decide) (by decide) (by decide) (by decide) (by decide) (by decide) (by decide))), (y_A_fr hy_tn (hk 24 (by decide) (by decide) (by decide) (by decide) (by decide) (by decide) (by decide) (by decide) (by decide) (by decide) (by decide))), (y_A_fr hy_he (hk 25 (by decide) (by decide) (by decide) (by decide) (by decide) (by decide) (by decide) (by decide) (by decide) (by decide) (by decide))), (y_A_fr hy_tr (hk 26 (by decide) (by decide) (by decide) (by decide) (by decide) (by decide) (by decide) (by decide) (by decide) (by decide) (by decide))), (y_A_fr hy_fd (hk 27 (by decide) (by decide) (by decide) (by decide) (by decide) (by decide) (by decide) (by decide) (by decide) (by decide) (by decide))), (y_A_fr hy_po (hk 28 (by decide) (by decide) (by decide) (by decide) (by decide) (by decide) (by decide) (by decide) (by decide) (by decide) (by decide)))⟩

set_option maxHeartbeats 4000000 in
set_option maxRecDepth 100000 in
theorem s_X10_all (l : Launch) {D : va_G} {cy : Nat → ClassId} {L : List Nat} {f : Nat → va_E} {sz : Nat} {adK adV : Nat → Nat} {bd : Nat → Nat} {gik gwd gmy : Nat → Int32} {wt : Int32} (hS : z_SM L f cy bd gik gwd gmy) : Met l yX10_all (z_ws yX10_all cX10_all 4 (some .int)) (z_R 7 0 0) (va_Pc [.ref (bd 0), .int wt] (z_Pre D vwCl (z_KK D cy adK adV) L f sz)) (z_Qi D vwCl (fun r u => L = u.1 ∧ (∀ b ∈ L, (∀ i : Nat, i < 29 → b ≠ bd i) → u.2 b = f b) ∧ (z_SM L u.2 cy bd gik gwd gmy)) L sz) 0 0 (z_A L sz) := by
  obtain ⟨hm, hJ, h0_, hH_, hf_ik, hf_wd, hf_my, hq_my, hy_ce, hy_mv, hy_ta, hy_li, hy_st, hy_fo, hy_dr, hy_ro, hy_ct, hy_se, hy_th, hy_cn, hy_be, hy_du, hy_db, hy_pn, hy_wg, hy_wh, hy_tn, hy_he, hy_tr, hy_fd, hy_po⟩ := hS
  have h1_ := h0_
  obtain ⟨m0, m6, m7, m8, m9, m10, m12, m13, m14, m15, m22, m24, m25, m27, m28, m30, m36, m38, m40, m41, m42, m48, m52, m53, m11, m26, hf_mm, htp, hxx, hbg, hbh⟩ := h1_
  have h2_ := hH_
  obtain ⟨gha, glw, hf_ha, hf_lw, hq_ha, hq_lw, hea⟩ := h2_
  have h3_ := hy_dr
  obtain ⟨gdr, hf_dr, hq_dr⟩ := h3_
  have h3_ := hy_ro
  obtain ⟨gro, hf_ro, hq_ro⟩ := h3_
  have h3_ := hy_st
  obtain ⟨gst, hf_st, hq_st⟩ := h3_
  have h3_ := hy_ct
  obtain ⟨gct, hf_ct, hq_ct⟩ := h3_
  have h3_ := hy_se
  obtain ⟨gse, hf_se, hq_se⟩ := h3_
  have h3_ := hy_th
  obtain ⟨gth, hf_th, hq_th⟩ := h3_
  have h3_ := hy_cn
  obtain ⟨gcn, hf_cn, hq_cn⟩ := h3_
  have h3_ := hy_db
  obtain ⟨gdb, hf_db, hq_db⟩ := h3_
  have h3_ := hy_be
  obtain ⟨gbe, hf_be, hq_be⟩ := h3_
  have h3_ := hy_du
  obtain ⟨gdu, hf_du, hq_du⟩ := h3_
  have h3_ := hy_fo
  obtain ⟨gfo, hf_fo, hq_fo⟩ := h3_
  have h3_ := hy_li
  obtain ⟨gli, hf_li, hq_li⟩ := h3_
  refine z_weak (c_X10_all l (hm 0 (by decide)) (hm 7 (by decide)) (hm 11 (by decide)) (hm 13 (by decide)) (hm 8 (by decide)) (hm 9 (by decide)) (hm 14 (by decide)) (hm 15 (by decide)) (hm 16 (by decide)) (hm 17 (by decide)) (hm 20 (by decide)) (hm 18 (by decide)) (hm 19 (by decide)) (hm 10 (by decide)) (hm 6 (by decide)) hf_mm hf_ha hf_dr hf_ro hf_lw hf_st hf_ct hf_se hf_th hf_cn hf_db hf_be hf_du hf_fo hf_li (fun h => absurd (hJ _ _ (by decide) (by decide) h) (by decide)) (fun h => absurd (hJ _ _ (by decide) (by decide) h) (by decide)) (fun h => absurd (hJ _ _ (by decide) (by decide) h) (by decide)) (fun h => absurd (hJ _ _ (by decide) (by decide) h) (by decide)) hq_ha hq_dr hq_ro hq_lw hq_st hq_ct hq_be hq_du (by first | assumption | omega) hea) ?_
  rintro r ⟨L2, F2⟩ ⟨hsb, hfm, o2, mn2, i2, u2, n2, d2, y2, x2, nro, nct, nse, nth, ncn, ndb, nbe, ndu, nlw, ha_mm, ha_ro, ha_ct, ha_se, ha_th, ha_cn, ha_db, ha_be, ha_du, ha_lw, nq_ro, nq_ct, nq_be, nq_du, nq_lw, hp⟩
  obtain rfl : L = L2 := hsb
  have hk : ∀ i : Nat, i < 29 → i ≠ 0 → i ≠ 13 → i ≠ 14 → i ≠ 15 → i ≠ 16 → i ≠ 17 → i ≠ 20 → i ≠ 18 → i ≠ 19 → i ≠ 8 → F2 (bd i) = f (bd i) := fun i hi h0 h13 h14 h15 h16 h17 h20 h18 h19 h8 => hfm _ (hm i hi) (fun h => h0 (hJ _ _ hi (by decide) h)) (fun h => h13 (hJ _ _ hi (by decide) h)) (fun h => h14 (hJ _ _ hi (by decide) h)) (fun h => h15 (hJ _ _ hi (by decide) h)) (fun h => h16 (hJ _ _ hi (by decide) h)) (fun h => h17 (hJ _ _ hi (by decide) h)) (fun h => h20 (hJ _ _ hi (by decide) h)) (fun h => h18 (hJ _ _ hi (by decide) h)) (fun h => h19 (hJ _ _ hi (by decide) h)) (fun h => h8 (hJ _ _ hi (by decide) h))
  refine ⟨rfl, fun b hb h => hfm b hb (h 0 (by decide)) (h 13 (by decide)) (h 14 (by decide)) (h 15 (by decide)) (h 16 (by decide)) (h 17 (by decide)) (h 20 (by decide)) (h 18 (by decide)) (h 19 (by decide)) (h 8 (by decide)), ?_⟩
  exact ⟨hm, hJ, (⟨0, m6, m7, m8, m9, m10, m12, m13, m14, m15, m22, o2, mn2, i2, u2, n2, y2, d2, m40, m41, m42, m48, m52, m53, m11, x2, ha_mm, (by first | assumption | omega | decide), (by first | assumption | omega | decide), (by first | assumption | omega | decide), (by first | assumption | omega | decide)⟩), (⟨gha, nlw, (hk 7 (by decide) (by decide) (by decide) (by decide) (by decide) (by decide) (by decide) (by decide) (by decide) (by decide) (by decide)).trans hf_ha, ha_lw, hq_ha, nq_lw, (by first | exact hp | exact hp.1 | exact hp.2)⟩), ((hk 12 (by decide) (by decide) (by decide) (by decide) (by decide) (by decide) (by decide) (by decide) (by decide) (by decide) (by decide)).trans hf_ik), ((hk 1 (by decide) (by decide) (by decide) (by decide) (by decide) (by decide) (by decide) (by decide) (by decide) (by decide) (by decide)).trans hf_wd), ((hk 2 (by decide) (by decide) (by decide) (by decide) (by decide) (by decide) (by decide) (by decide) (by decide) (by decide) (by decide)).trans hf_my), (hq_my), (y_J_fr hy_ce (hk 3 (by decide) (by decide) (by decide) (by decide) (by decide) (by decide) (by decide) (by decide) (by decide) (by decide) (by decide))), (y_J_fr hy_mv (hk 4 (by decide) (by decide) (by decide) (by decide) (by decide) (by decide) (by decide) (by decide) (by decide) (by decide) (by decide))), (y_A_fr hy_ta (hk 5 (by decide) (by decide) (by decide) (by decide) (by decide) (by decide) (by decide) (by decide) (by decide) (by decide) (by decide))), (y_A_fr hy_li (hk 6 (by decide) (by decide) (by decide) (by decide) (by decide) (by decide) (by decide) (by decide) (by decide) (by decide) (by decide))), (y_A_fr hy_st (hk 9 (by decide) (by decide) (by decide) (by decide) (by decide) (by decide) (by decide) (by decide) (by decide) (by decide) (by decide))), (y_A_fr hy_fo (hk 10 (by decide) (by decide) (by decide) (by decide) (by decide) (by decide) (by decide) (by decide) (by decide) (by decide) (by decide))), (y_A_fr hy_dr (hk 11 (by decide) (by decide) (by decide) (by decide) (by decide) (by decide) (by decide) (by decide) (by decide) (by decide) (by decide))), (⟨_, ha_ro, nq_ro⟩), (⟨_, ha_ct, nq_ct⟩), (⟨_, ha_se, fun _ => trivial⟩), (⟨_, ha_th, fun _ => trivial⟩), (⟨_, ha_cn, fun _ => trivial⟩), (⟨_, ha_be, nq_be⟩), (⟨_, ha_du, nq_du⟩), (⟨_, ha_db, fun _ => trivial⟩), (y_A_fr hy_pn (hk 21 (by decide) (by decide) (by decide) (by decide) (by decide) (by decide) (by decide) (by decide) (by decide) (by decide) (by decide))), (y_A_fr hy_wg (hk 22 (by decide) (by decide) (by decide) (by decide) (by decide) (by decide) (by decide) (by decide) (by decide) (by decide) (by decide))), (y_A_fr hy_wh (hk 23 (by decide) (by decide) (by decide) (by decide) (by decide) (by decide) (by decide) (by decide) (by decide) (by decide) (by decide))), (y_A_fr hy_tn (hk 24 (by decide) (by decide) (by decide) (by decide) (by decide) (by decide) (by decide) (by decide) (by decide) (by decide) (by decide))), (y_A_fr hy_he (hk 25 (by decide) (by decide) (by decide) (by decide) (by decide) (by decide) (by decide) (by decide) (by decide) (by decide) (by decide))), (y_A_fr hy_tr (hk 26 (by decide) (by decide) (by decide) (by decide) (by decide) (by decide) (by decide) (by decide) (by decide) (by decide) (by decide))), (y_A_fr hy_fd (hk 27 (by decide) (by decide) (by decide) (by decide) (by decide) (by decide) (by decide) (by decide) (by decide) (by decide) (by decide))), (y_A_fr hy_po (hk 28 (by decide) (by decide) (by decide) (by decide) (by decide) (by decide) (by decide) (by decide) (by decide) (by decide) (by decide)))⟩

set_option maxHeartbeats 4000000 in
set_option maxRecDepth 100000 in
theorem s_X10_count (l : Launch) {D : va_G} {cy : Nat → ClassId} {L : List Nat} {f : Nat → va_E} {sz : Nat} {adK adV : Nat → Nat} {bd : Nat → Nat} {gik gwd gmy : Nat → Int32} {wt : Int32} (hS : z_SM L f cy bd gik gwd gmy) : Met l yX10_count (z_ws yX10_count cX10_count 4 (some .int)) (z_R 1 0 0) (va_Pc [.ref (bd 0), .int wt] (z_Pre D vwCl (z_KK D cy adK adV) L f sz)) (z_Qi D vwCl (fun r u => L = u.1 ∧ (∀ b ∈ L, (∀ i : Nat, i < 29 → b ≠ bd i) → u.2 b = f b) ∧ (z_SM L u.2 cy bd gik gwd gmy)) L sz) 0 0 (z_A L sz) := by
  obtain ⟨hm, hJ, h0_, hH_, hf_ik, hf_wd, hf_my, hq_my, hy_ce, hy_mv, hy_ta, hy_li, hy_st, hy_fo, hy_dr, hy_ro, hy_ct, hy_se, hy_th, hy_cn, hy_be, hy_du, hy_db, hy_pn, hy_wg, hy_wh, hy_tn, hy_he, hy_tr, hy_fd, hy_po⟩ := hS
  have h1_ := h0_
  obtain ⟨m0, m6, m7, m8, m9, m10, m12, m13, m14, m15, m22, m24, m25, m27, m28, m30, m36, m38, m40, m41, m42, m48, m52, m53, m11, m26, hf_mm, htp, hxx, hbg, hbh⟩ := h1_
  have h2_ := hH_
  obtain ⟨gha, glw, hf_ha, hf_lw, hq_ha, hq_lw, hea⟩ := h2_
  have h3_ := hy_li
  obtain ⟨gli, hf_li, hq_li⟩ := h3_
  refine z_weak (c_X10_count l (hm 0 (by decide)) (hm 7 (by decide)) (hm 6 (by decide)) (hm 1 (by decide)) hf_mm hf_ha hf_li hf_wd hq_ha) ?_
  rintro r ⟨L2, F2⟩ ⟨hsb, hfm, ha_mm, hp⟩
  obtain rfl : L = L2 := hsb
  have hk : ∀ i : Nat, i < 29 → i ≠ 0 → F2 (bd i) = f (bd i) := fun i hi h0 => hfm _ (hm i hi) (fun h => h0 (hJ _ _ hi (by decide) h))
  refine ⟨rfl, fun b hb h => hfm b hb (h 0 (by decide)), ?_⟩
  exact ⟨hm, hJ, (⟨0, m6, m7, m8, m9, m10, m12, m13, m14, m15, m22, m24, m25, m27, m28, m30, m36, m38, m40, m41, m42, m48, m52, m53, m11, m26, ha_mm, (by first | assumption | omega | decide), (by first | assumption | omega | decide), (by first | assumption | omega | decide), (by first | assumption | omega | decide)⟩), (y_H_fr hH_ (hk 7 (by decide) (by decide)) (hk 8 (by decide) (by decide))), ((hk 12 (by decide) (by decide)).trans hf_ik), ((hk 1 (by decide) (by decide)).trans hf_wd), ((hk 2 (by decide) (by decide)).trans hf_my), (hq_my), (y_J_fr hy_ce (hk 3 (by decide) (by decide))), (y_J_fr hy_mv (hk 4 (by decide) (by decide))), (y_A_fr hy_ta (hk 5 (by decide) (by decide))), (y_A_fr hy_li (hk 6 (by decide) (by decide))), (y_A_fr hy_st (hk 9 (by decide) (by decide))), (y_A_fr hy_fo (hk 10 (by decide) (by decide))), (y_A_fr hy_dr (hk 11 (by decide) (by decide))), (y_A_fr hy_ro (hk 13 (by decide) (by decide))), (y_A_fr hy_ct (hk 14 (by decide) (by decide))), (y_A_fr hy_se (hk 15 (by decide) (by decide))), (y_A_fr hy_th (hk 16 (by decide) (by decide))), (y_A_fr hy_cn (hk 17 (by decide) (by decide))), (y_A_fr hy_be (hk 18 (by decide) (by decide))), (y_A_fr hy_du (hk 19 (by decide) (by decide))), (y_A_fr hy_db (hk 20 (by decide) (by decide))), (y_A_fr hy_pn (hk 21 (by decide) (by decide))), (y_A_fr hy_wg (hk 22 (by decide) (by decide))), (y_A_fr hy_wh (hk 23 (by decide) (by decide))), (y_A_fr hy_tn (hk 24 (by decide) (by decide))), (y_A_fr hy_he (hk 25 (by decide) (by decide))), (y_A_fr hy_tr (hk 26 (by decide) (by decide))), (y_A_fr hy_fd (hk 27 (by decide) (by decide))), (y_A_fr hy_po (hk 28 (by decide) (by decide)))⟩

set_option maxHeartbeats 4000000 in
set_option maxRecDepth 100000 in
theorem s_X10_keep (l : Launch) {D : va_G} {cy : Nat → ClassId} {L : List Nat} {f : Nat → va_E} {sz : Nat} {adK adV : Nat → Nat} {bd : Nat → Nat} {gik gwd gmy : Nat → Int32} {kk : Int32} (hS : z_SM L f cy bd gik gwd gmy) : Met l yX10_keep (z_ws yX10_keep cX10_keep 2 (some .int)) (z_R 3 0 0) (va_Pc [.ref (bd 0), .int kk] (z_Pre D vwCl (z_KK D cy adK adV) L f sz)) (z_Qi D vwCl (fun r u => L = u.1 ∧ (∀ b ∈ L, (∀ i : Nat, i < 29 → b ≠ bd i) → u.2 b = f b) ∧ (∃ (nik : Nat → Int32), z_SM L u.2 cy bd nik gwd gmy ∧ (((r = 0 ∧ (0 ≤ kk.toInt ∧ kk.toInt < 3) ∧ nik = upd gik kk.toNatClampNeg 1) ∨ (r = -2 ∧ ¬ (0 ≤ kk.toInt ∧ kk.toInt < 3) ∧ nik = gik))))) L sz) 0 0 (z_A L sz) := by
  obtain ⟨hm, hJ, h0_, hH_, hf_ik, hf_wd, hf_my, hq_my, hy_ce, hy_mv, hy_ta, hy_li, hy_st, hy_fo, hy_dr, hy_ro, hy_ct, hy_se, hy_th, hy_cn, hy_be, hy_du, hy_db, hy_pn, hy_wg, hy_wh, hy_tn, hy_he, hy_tr, hy_fd, hy_po⟩ := hS
  have h1_ := h0_
  obtain ⟨m0, m6, m7, m8, m9, m10, m12, m13, m14, m15, m22, m24, m25, m27, m28, m30, m36, m38, m40, m41, m42, m48, m52, m53, m11, m26, hf_mm, htp, hxx, hbg, hbh⟩ := h1_
  have h2_ := hH_
  obtain ⟨gha, glw, hf_ha, hf_lw, hq_ha, hq_lw, hea⟩ := h2_
  have h3_ := hy_li
  obtain ⟨gli, hf_li, hq_li⟩ := h3_
  have h3_ := hy_st
  obtain ⟨gst, hf_st, hq_st⟩ := h3_
  have h3_ := hy_fo
  obtain ⟨gfo, hf_fo, hq_fo⟩ := h3_
  have h3_ := hy_dr
  obtain ⟨gdr, hf_dr, hq_dr⟩ := h3_
  refine z_weak (c_X10_keep l (hm 0 (by decide)) (hm 6 (by decide)) (hm 7 (by decide)) (hm 8 (by decide)) (hm 9 (by decide)) (hm 10 (by decide)) (hm 11 (by decide)) (hm 12 (by decide)) hf_mm hf_li hf_ha hf_lw hf_st hf_fo hf_dr hf_ik hq_ha hq_lw hq_st hq_dr hea) ?_
  rintro r ⟨L2, F2⟩ ⟨hsb, hfm, nli, nha, nlw, nst, nfo, ndr, nik, ha_mm, ha_li, ha_ha, ha_lw, ha_st, ha_fo, ha_dr, ha_ik, nq_ha, nq_lw, nq_st, nq_dr, hp⟩
  obtain rfl : L = L2 := hsb
  have hk : ∀ i : Nat, i < 29 → i ≠ 0 → i ≠ 6 → i ≠ 7 → i ≠ 8 → i ≠ 9 → i ≠ 10 → i ≠ 11 → i ≠ 12 → F2 (bd i) = f (bd i) := fun i hi h0 h6 h7 h8 h9 h10 h11 h12 => hfm _ (hm i hi) (fun h => h0 (hJ _ _ hi (by decide) h)) (fun h => h6 (hJ _ _ hi (by decide) h)) (fun h => h7 (hJ _ _ hi (by decide) h)) (fun h => h8 (hJ _ _ hi (by decide) h)) (fun h => h9 (hJ _ _ hi (by decide) h)) (fun h => h10 (hJ _ _ hi (by decide) h)) (fun h => h11 (hJ _ _ hi (by decide) h)) (fun h => h12 (hJ _ _ hi (by decide) h))
  refine ⟨rfl, fun b hb h => hfm b hb (h 0 (by decide)) (h 6 (by decide)) (h 7 (by decide)) (h 8 (by decide)) (h 9 (by decide)) (h 10 (by decide)) (h 11 (by decide)) (h 12 (by decide)), ?_⟩
  exact ⟨nik, ⟨hm, hJ, (⟨0, m6, m7, m8, m9, m10, m12, m13, m14, m15, m22, m24, m25, m27, m28, m30, m36, m38, m40, m41, m42, m48, m52, m53, m11, m26, ha_mm, (by first | assumption | omega | decide), (by first | assumption | omega | decide), (by first | assumption | omega | decide), (by first | assumption | omega | decide)⟩), (⟨nha, nlw, ha_ha, ha_lw, nq_ha, nq_lw, (by first | exact hp | exact hp.1 | exact hp.2)⟩), (ha_ik), ((hk 1 (by decide) (by decide) (by decide) (by decide) (by decide) (by decide) (by decide) (by decide) (by decide)).trans hf_wd), ((hk 2 (by decide) (by decide) (by decide) (by decide) (by decide) (by decide) (by decide) (by decide) (by decide)).trans hf_my), (hq_my), (y_J_fr hy_ce (hk 3 (by decide) (by decide) (by decide) (by decide) (by decide) (by decide) (by decide) (by decide) (by decide))), (y_J_fr hy_mv (hk 4 (by decide) (by decide) (by decide) (by decide) (by decide) (by decide) (by decide) (by decide) (by decide))), (y_A_fr hy_ta (hk 5 (by decide) (by decide) (by decide) (by decide) (by decide) (by decide) (by decide) (by decide) (by decide))), (⟨_, ha_li, fun _ => trivial⟩), (⟨_, ha_st, nq_st⟩), (⟨_, ha_fo, fun _ => trivial⟩), (⟨_, ha_dr, nq_dr⟩), (y_A_fr hy_ro (hk 13 (by decide) (by decide) (by decide) (by decide) (by decide) (by decide) (by decide) (by decide) (by decide))), (y_A_fr hy_ct (hk 14 (by decide) (by decide) (by decide) (by decide) (by decide) (by decide) (by decide) (by decide) (by decide))), (y_A_fr hy_se (hk 15 (by decide) (by decide) (by decide) (by decide) (by decide) (by decide) (by decide) (by decide) (by decide))), (y_A_fr hy_th (hk 16 (by decide) (by decide) (by decide) (by decide) (by decide) (by decide) (by decide) (by decide) (by decide))), (y_A_fr hy_cn (hk 17 (by decide) (by decide) (by decide) (by decide) (by decide) (by decide) (by decide) (by decide) (by decide))), (y_A_fr hy_be (hk 18 (by decide) (by decide) (by decide) (by decide) (by decide) (by decide) (by decide) (by decide) (by decide))), (y_A_fr hy_du (hk 19 (by decide) (by decide) (by decide) (by decide) (by decide) (by decide) (by decide) (by decide) (by decide))), (y_A_fr hy_db (hk 20 (by decide) (by decide) (by decide) (by decide) (by decide) (by decide) (by decide) (by decide) (by decide))), (y_A_fr hy_pn (hk 21 (by decide) (by decide) (by decide) (by decide) (by decide) (by decide) (by decide) (by decide) (by decide))), (y_A_fr hy_wg (hk 22 (by decide) (by decide) (by decide) (by decide) (by decide) (by decide) (by decide) (by decide) (by decide))), (y_A_fr hy_wh (hk 23 (by decide) (by decide) (by decide) (by decide) (by decide) (by decide) (by decide) (by decide) (by decide))), (y_A_fr hy_tn (hk 24 (by decide) (by decide) (by decide) (by decide) (by decide) (by decide) (by decide) (by decide) (by decide))), (y_A_fr hy_he (hk 25 (by decide) (by decide) (by decide) (by decide) (by decide) (by decide) (by decide) (by decide) (by decide))), (y_A_fr hy_tr (hk 26 (by decide) (by decide) (by decide) (by decide) (by decide) (by decide) (by decide) (by decide) (by decide))), (y_A_fr hy_fd (hk 27 (by decide) (by decide) (by decide) (by decide) (by decide) (by decide) (by decide) (by decide) (by decide))), (y_A_fr hy_po (hk 28 (by decide) (by decide) (by decide) (by decide) (by decide) (by decide) (by decide) (by decide) (by decide)))⟩, hp.2⟩

set_option maxHeartbeats 4000000 in
set_option maxRecDepth 100000 in
theorem s_X10_back (l : Launch) {D : va_G} {cy : Nat → ClassId} {L : List Nat} {f : Nat → va_E} {sz : Nat} {adK adV : Nat → Nat} {bd : Nat → Nat} {gik gwd gmy : Nat → Int32} {kk : Int32} (hS : z_SM L f cy bd gik gwd gmy) : Met l yX10_back (z_ws yX10_back cX10_back 2 (some .int)) (z_R 3 0 0) (va_Pc [.ref (bd 0), .int kk] (z_Pre D vwCl (z_KK D cy adK adV) L f sz)) (z_Qi D vwCl (fun r u => L = u.1 ∧ (∀ b ∈ L, (∀ i : Nat, i < 29 → b ≠ bd i) → u.2 b = f b) ∧ (z_SM L u.2 cy bd gik gwd gmy ∧ (((r = 0 ∧ (0 ≤ kk.toInt ∧ kk.toInt < 3) ∧ (gik kk.toNatClampNeg).toInt ≠ 0) ∨ (r = -6 ∧ (0 ≤ kk.toInt ∧ kk.toInt < 3) ∧ (gik kk.toNatClampNeg).toInt = 0) ∨ (r = -2 ∧ ¬ (0 ≤ kk.toInt ∧ kk.toInt < 3)))))) L sz) 0 0 (z_A L sz) := by
  obtain ⟨hm, hJ, h0_, hH_, hf_ik, hf_wd, hf_my, hq_my, hy_ce, hy_mv, hy_ta, hy_li, hy_st, hy_fo, hy_dr, hy_ro, hy_ct, hy_se, hy_th, hy_cn, hy_be, hy_du, hy_db, hy_pn, hy_wg, hy_wh, hy_tn, hy_he, hy_tr, hy_fd, hy_po⟩ := hS
  have h1_ := h0_
  obtain ⟨m0, m6, m7, m8, m9, m10, m12, m13, m14, m15, m22, m24, m25, m27, m28, m30, m36, m38, m40, m41, m42, m48, m52, m53, m11, m26, hf_mm, htp, hxx, hbg, hbh⟩ := h1_
  have h2_ := hH_
  obtain ⟨gha, glw, hf_ha, hf_lw, hq_ha, hq_lw, hea⟩ := h2_
  have h3_ := hy_li
  obtain ⟨gli, hf_li, hq_li⟩ := h3_
  have h3_ := hy_st
  obtain ⟨gst, hf_st, hq_st⟩ := h3_
  have h3_ := hy_fo
  obtain ⟨gfo, hf_fo, hq_fo⟩ := h3_
  have h3_ := hy_dr
  obtain ⟨gdr, hf_dr, hq_dr⟩ := h3_
  refine z_weak (c_X10_back l (hm 0 (by decide)) (hm 6 (by decide)) (hm 7 (by decide)) (hm 8 (by decide)) (hm 9 (by decide)) (hm 10 (by decide)) (hm 11 (by decide)) (hm 12 (by decide)) hf_mm hf_li hf_ha hf_lw hf_st hf_fo hf_dr hf_ik hq_ha hq_lw hq_st hq_dr hea) ?_
  rintro r ⟨L2, F2⟩ ⟨hsb, hfm, nli, nha, nlw, nst, nfo, ndr, ha_mm, ha_li, ha_ha, ha_lw, ha_st, ha_fo, ha_dr, nq_ha, nq_lw, nq_st, nq_dr, hp⟩
  obtain rfl : L = L2 := hsb
  have hk : ∀ i : Nat, i < 29 → i ≠ 0 → i ≠ 6 → i ≠ 7 → i ≠ 8 → i ≠ 9 → i ≠ 10 → i ≠ 11 → F2 (bd i) = f (bd i) := fun i hi h0 h6 h7 h8 h9 h10 h11 => hfm _ (hm i hi) (fun h => h0 (hJ _ _ hi (by decide) h)) (fun h => h6 (hJ _ _ hi (by decide) h)) (fun h => h7 (hJ _ _ hi (by decide) h)) (fun h => h8 (hJ _ _ hi (by decide) h)) (fun h => h9 (hJ _ _ hi (by decide) h)) (fun h => h10 (hJ _ _ hi (by decide) h)) (fun h => h11 (hJ _ _ hi (by decide) h))
  refine ⟨rfl, fun b hb h => hfm b hb (h 0 (by decide)) (h 6 (by decide)) (h 7 (by decide)) (h 8 (by decide)) (h 9 (by decide)) (h 10 (by decide)) (h 11 (by decide)), ?_⟩
  exact ⟨⟨hm, hJ, (⟨0, m6, m7, m8, m9, m10, m12, m13, m14, m15, m22, m24, m25, m27, m28, m30, m36, m38, m40, m41, m42, m48, m52, m53, m11, m26, ha_mm, (by first | assumption | omega | decide), (by first | assumption | omega | decide), (by first | assumption | omega | decide), (by first | assumption | omega | decide)⟩), (⟨nha, nlw, ha_ha, ha_lw, nq_ha, nq_lw, (by first | exact hp | exact hp.1 | exact hp.2)⟩), ((hk 12 (by decide) (by decide) (by decide) (by decide) (by decide) (by decide) (by decide) (by decide)).trans hf_ik), ((hk 1 (by decide) (by decide) (by decide) (by decide) (by decide) (by decide) (by decide) (by decide)).trans hf_wd), ((hk 2 (by decide) (by decide) (by decide) (by decide) (by decide) (by decide) (by decide) (by decide)).trans hf_my), (hq_my), (y_J_fr hy_ce (hk 3 (by decide) (by decide) (by decide) (by decide) (by decide) (by decide) (by decide) (by decide))), (y_J_fr hy_mv (hk 4 (by decide) (by decide) (by decide) (by decide) (by decide) (by decide) (by decide) (by decide))), (y_A_fr hy_ta (hk 5 (by decide) (by decide) (by decide) (by decide) (by decide) (by decide) (by decide) (by decide))), (⟨_, ha_li, fun _ => trivial⟩), (⟨_, ha_st, nq_st⟩), (⟨_, ha_fo, fun _ => trivial⟩), (⟨_, ha_dr, nq_dr⟩), (y_A_fr hy_ro (hk 13 (by decide) (by decide) (by decide) (by decide) (by decide) (by decide) (by decide) (by decide))), (y_A_fr hy_ct (hk 14 (by decide) (by decide) (by decide) (by decide) (by decide) (by decide) (by decide) (by decide))), (y_A_fr hy_se (hk 15 (by decide) (by decide) (by decide) (by decide) (by decide) (by decide) (by decide) (by decide))), (y_A_fr hy_th (hk 16 (by decide) (by decide) (by decide) (by decide) (by decide) (by decide) (by decide) (by decide))), (y_A_fr hy_cn (hk 17 (by decide) (by decide) (by decide) (by decide) (by decide) (by decide) (by decide) (by decide))), (y_A_fr hy_be (hk 18 (by decide) (by decide) (by decide) (by decide) (by decide) (by decide) (by decide) (by decide))), (y_A_fr hy_du (hk 19 (by decide) (by decide) (by decide) (by decide) (by decide) (by decide) (by decide) (by decide))), (y_A_fr hy_db (hk 20 (by decide) (by decide) (by decide) (by decide) (by decide) (by decide) (by decide) (by decide))), (y_A_fr hy_pn (hk 21 (by decide) (by decide) (by decide) (by decide) (by decide) (by decide) (by decide) (by decide))), (y_A_fr hy_wg (hk 22 (by decide) (by decide) (by decide) (by decide) (by decide) (by decide) (by decide) (by decide))), (y_A_fr hy_wh (hk 23 (by decide) (by decide) (by decide) (by decide) (by decide) (by decide) (by decide) (by decide))), (y_A_fr hy_tn (hk 24 (by decide) (by decide) (by decide) (by decide) (by decide) (by decide) (by decide) (by decide))), (y_A_fr hy_he (hk 25 (by decide) (by decide) (by decide) (by decide) (by decide) (by decide) (by decide) (by decide))), (y_A_fr hy_tr (hk 26 (by decide) (by decide) (by decide) (by decide) (by decide) (by decide) (by decide) (by decide))), (y_A_fr hy_fd (hk 27 (by decide) (by decide) (by decide) (by decide) (by decide) (by decide) (by decide) (by decide))), (y_A_fr hy_po (hk 28 (by decide) (by decide) (by decide) (by decide) (by decide) (by decide) (by decide) (by decide)))⟩, hp.2⟩

set_option maxHeartbeats 4000000 in
set_option maxRecDepth 100000 in
theorem s_X10_row (l : Launch) {D : va_G} {cy : Nat → ClassId} {L : List Nat} {f : Nat → va_E} {sz : Nat} {adK adV : Nat → Nat} {bd : Nat → Nat} {gik gwd gmy : Nat → Int32} {sn : Int32} {ow : Int32} {nn : Int32} (hS : z_SM L f cy bd gik gwd gmy) : Met l yX10_row (z_ws yX10_row cX10_row 5 (some .int)) (z_R 3 0 0) (va_Pc [.ref (bd 0), .int sn, .int ow, .int nn] (z_Pre D vwCl (z_KK D cy adK adV) L f sz)) (z_Qi D vwCl (fun r u => L = u.1 ∧ (∀ b ∈ L, (∀ i : Nat, i < 29 → b ≠ bd i) → u.2 b = f b) ∧ (∃ (nwd nmy : Nat → Int32), z_SM L u.2 cy bd gik nwd nmy ∧ ((r = 0 ∧ ((0 ≤ sn.toInt ∧ sn.toInt ≤ 3) ∧ (0 ≤ ow.toInt ∧ ow.toInt ≤ 3) ∧ nn.toInt ≤ 60) ∧ 0 ≤ nn.toInt ∧ nwd = upd gwd sn.toNatClampNeg ow ∧ nmy = upd gmy sn.toNatClampNeg nn) ∨ (r = -2 ∧ ¬ ((0 ≤ sn.toInt ∧ sn.toInt ≤ 3) ∧ (0 ≤ ow.toInt ∧ ow.toInt ≤ 3) ∧ nn.toInt ≤ 60) ∧ nwd = gwd ∧ nmy = gmy) ∨ (r = -3 ∧ ((0 ≤ sn.toInt ∧ sn.toInt ≤ 3) ∧ (0 ≤ ow.toInt ∧ ow.toInt ≤ 3) ∧ nn.toInt ≤ 60) ∧ nn.toInt < 0 ∧ nwd = gwd ∧ nmy = gmy)))) L sz) 0 0 (z_A L sz) := by
  obtain ⟨hm, hJ, h0_, hH_, hf_ik, hf_wd, hf_my, hq_my, hy_ce, hy_mv, hy_ta, hy_li, hy_st, hy_fo, hy_dr, hy_ro, hy_ct, hy_se, hy_th, hy_cn, hy_be, hy_du, hy_db, hy_pn, hy_wg, hy_wh, hy_tn, hy_he, hy_tr, hy_fd, hy_po⟩ := hS
  have h1_ := h0_
  obtain ⟨m0, m6, m7, m8, m9, m10, m12, m13, m14, m15, m22, m24, m25, m27, m28, m30, m36, m38, m40, m41, m42, m48, m52, m53, m11, m26, hf_mm, htp, hxx, hbg, hbh⟩ := h1_
  have h3_ := hy_ce
  obtain ⟨gce, hf_ce⟩ := h3_
  refine z_weak (c_X10_row l (hm 0 (by decide)) (hm 1 (by decide)) (hm 2 (by decide)) (hm 3 (by decide)) hf_mm hf_wd hf_my hf_ce (fun h => absurd (hJ _ _ (by decide) (by decide) h) (by decide)) hq_my) ?_
  rintro r ⟨L2, F2⟩ ⟨hsb, hfm, nwd, nmy, nce, ha_mm, ha_wd, ha_my, ha_ce, nq_my, hp⟩
  obtain rfl : L = L2 := hsb
  have hk : ∀ i : Nat, i < 29 → i ≠ 0 → i ≠ 1 → i ≠ 2 → i ≠ 3 → F2 (bd i) = f (bd i) := fun i hi h0 h1 h2 h3 => hfm _ (hm i hi) (fun h => h0 (hJ _ _ hi (by decide) h)) (fun h => h1 (hJ _ _ hi (by decide) h)) (fun h => h2 (hJ _ _ hi (by decide) h)) (fun h => h3 (hJ _ _ hi (by decide) h))
  refine ⟨rfl, fun b hb h => hfm b hb (h 0 (by decide)) (h 1 (by decide)) (h 2 (by decide)) (h 3 (by decide)), ?_⟩
  exact ⟨nwd, nmy, ⟨hm, hJ, (⟨0, m6, m7, m8, m9, m10, m12, m13, m14, m15, m22, m24, m25, m27, m28, m30, m36, m38, m40, m41, m42, m48, m52, m53, m11, m26, ha_mm, (by first | assumption | omega | decide), (by first | assumption | omega | decide), (by first | assumption | omega | decide), (by first | assumption | omega | decide)⟩), (y_H_fr hH_ (hk 7 (by decide) (by decide) (by decide) (by decide) (by decide)) (hk 8 (by decide) (by decide) (by decide) (by decide) (by decide))), ((hk 12 (by decide) (by decide) (by decide) (by decide) (by decide)).trans hf_ik), (ha_wd), (ha_my), (nq_my), (⟨_, ha_ce⟩), (y_J_fr hy_mv (hk 4 (by decide) (by decide) (by decide) (by decide) (by decide))), (y_A_fr hy_ta (hk 5 (by decide) (by decide) (by decide) (by decide) (by decide))), (y_A_fr hy_li (hk 6 (by decide) (by decide) (by decide) (by decide) (by decide))), (y_A_fr hy_st (hk 9 (by decide) (by decide) (by decide) (by decide) (by decide))), (y_A_fr hy_fo (hk 10 (by decide) (by decide) (by decide) (by decide) (by decide))), (y_A_fr hy_dr (hk 11 (by decide) (by decide) (by decide) (by decide) (by decide))), (y_A_fr hy_ro (hk 13 (by decide) (by decide) (by decide) (by decide) (by decide))), (y_A_fr hy_ct (hk 14 (by decide) (by decide) (by decide) (by decide) (by decide))), (y_A_fr hy_se (hk 15 (by decide) (by decide) (by decide) (by decide) (by decide))), (y_A_fr hy_th (hk 16 (by decide) (by decide) (by decide) (by decide) (by decide))), (y_A_fr hy_cn (hk 17 (by decide) (by decide) (by decide) (by decide) (by decide))), (y_A_fr hy_be (hk 18 (by decide) (by decide) (by decide) (by decide) (by decide))), (y_A_fr hy_du (hk 19 (by decide) (by decide) (by decide) (by decide) (by decide))), (y_A_fr hy_db (hk 20 (by decide) (by decide) (by decide) (by decide) (by decide))), (y_A_fr hy_pn (hk 21 (by decide) (by decide) (by decide) (by decide) (by decide))), (y_A_fr hy_wg (hk 22 (by decide) (by decide) (by decide) (by decide) (by decide))), (y_A_fr hy_wh (hk 23 (by decide) (by decide) (by decide) (by decide) (by decide))), (y_A_fr hy_tn (hk 24 (by decide) (by decide) (by decide) (by decide) (by decide))), (y_A_fr hy_he (hk 25 (by decide) (by decide) (by decide) (by decide) (by decide))), (y_A_fr hy_tr (hk 26 (by decide) (by decide) (by decide) (by decide) (by decide))), (y_A_fr hy_fd (hk 27 (by decide) (by decide) (by decide) (by decide) (by decide))), (y_A_fr hy_po (hk 28 (by decide) (by decide) (by decide) (by decide) (by decide)))⟩, hp⟩

set_option maxHeartbeats 4000000 in
set_option maxRecDepth 100000 in
theorem s_X10_write (l : Launch) {D : va_G} {cy : Nat → ClassId} {L : List Nat} {f : Nat → va_E} {sz : Nat} {adK adV : Nat → Nat} {bd : Nat → Nat} {gik gwd gmy : Nat → Int32} {sn : Int32} {ii : Int32} {va : Int64} (hS : z_SM L f cy bd gik gwd gmy) : Met l yX10_write (z_ws yX10_write cX10_write 5 (some .int)) (z_R 3 0 0) (va_Pc [.ref (bd 0), .int sn, .int ii, .long va] (z_Pre D vwCl (z_KK D cy adK adV) L f sz)) (z_Qi D vwCl (fun r u => L = u.1 ∧ (∀ b ∈ L, (∀ i : Nat, i < 29 → b ≠ bd i) → u.2 b = f b) ∧ (z_SM L u.2 cy bd gik gwd gmy ∧ ((r = -2 ∧ ¬ (0 ≤ sn.toInt ∧ sn.toInt ≤ 3)) ∨ (r = -6 ∧ (0 ≤ sn.toInt ∧ sn.toInt ≤ 3) ∧ (gwd sn.toNatClampNeg).toInt = -1) ∨ (r = -7 ∧ (0 ≤ sn.toInt ∧ sn.toInt ≤ 3) ∧ (gwd sn.toNatClampNeg).toInt ≠ -1 ∧ ¬ (0 ≤ ii.toInt ∧ ii.toInt < (gmy sn.toNatClampNeg).toInt)) ∨ (r = 0 ∧ (0 ≤ sn.toInt ∧ sn.toInt ≤ 3) ∧ (gwd sn.toNatClampNeg).toInt ≠ -1 ∧ (0 ≤ ii.toInt ∧ ii.toInt < (gmy sn.toNatClampNeg).toInt))))) L sz) 0 0 (z_A L sz) := by
  obtain ⟨hm, hJ, h0_, hH_, hf_ik, hf_wd, hf_my, hq_my, hy_ce, hy_mv, hy_ta, hy_li, hy_st, hy_fo, hy_dr, hy_ro, hy_ct, hy_se, hy_th, hy_cn, hy_be, hy_du, hy_db, hy_pn, hy_wg, hy_wh, hy_tn, hy_he, hy_tr, hy_fd, hy_po⟩ := hS
  have h1_ := h0_
  obtain ⟨m0, m6, m7, m8, m9, m10, m12, m13, m14, m15, m22, m24, m25, m27, m28, m30, m36, m38, m40, m41, m42, m48, m52, m53, m11, m26, hf_mm, htp, hxx, hbg, hbh⟩ := h1_
  have h3_ := hy_ce
  obtain ⟨gce, hf_ce⟩ := h3_
  refine z_weak (c_X10_write l (hm 0 (by decide)) (hm 1 (by decide)) (hm 2 (by decide)) (hm 3 (by decide)) hf_mm hf_wd hf_my hf_ce (fun h => absurd (hJ _ _ (by decide) (by decide) h) (by decide)) hq_my) ?_
  rintro r ⟨L2, F2⟩ ⟨hsb, hfm, nce, ha_mm, ha_ce, hp⟩
  obtain rfl : L = L2 := hsb
  have hk : ∀ i : Nat, i < 29 → i ≠ 0 → i ≠ 3 → F2 (bd i) = f (bd i) := fun i hi h0 h3 => hfm _ (hm i hi) (fun h => h0 (hJ _ _ hi (by decide) h)) (fun h => h3 (hJ _ _ hi (by decide) h))
  refine ⟨rfl, fun b hb h => hfm b hb (h 0 (by decide)) (h 3 (by decide)), ?_⟩
  exact ⟨⟨hm, hJ, (⟨0, m6, m7, m8, m9, m10, m12, m13, m14, m15, m22, m24, m25, m27, m28, m30, m36, m38, m40, m41, m42, m48, m52, m53, m11, m26, ha_mm, (by first | assumption | omega | decide), (by first | assumption | omega | decide), (by first | assumption | omega | decide), (by first | assumption | omega | decide)⟩), (y_H_fr hH_ (hk 7 (by decide) (by decide) (by decide)) (hk 8 (by decide) (by decide) (by decide))), ((hk 12 (by decide) (by decide) (by decide)).trans hf_ik), ((hk 1 (by decide) (by decide) (by decide)).trans hf_wd), ((hk 2 (by decide) (by decide) (by decide)).trans hf_my), (hq_my), (⟨_, ha_ce⟩), (y_J_fr hy_mv (hk 4 (by decide) (by decide) (by decide))), (y_A_fr hy_ta (hk 5 (by decide) (by decide) (by decide))), (y_A_fr hy_li (hk 6 (by decide) (by decide) (by decide))), (y_A_fr hy_st (hk 9 (by decide) (by decide) (by decide))), (y_A_fr hy_fo (hk 10 (by decide) (by decide) (by decide))), (y_A_fr hy_dr (hk 11 (by decide) (by decide) (by decide))), (y_A_fr hy_ro (hk 13 (by decide) (by decide) (by decide))), (y_A_fr hy_ct (hk 14 (by decide) (by decide) (by decide))), (y_A_fr hy_se (hk 15 (by decide) (by decide) (by decide))), (y_A_fr hy_th (hk 16 (by decide) (by decide) (by decide))), (y_A_fr hy_cn (hk 17 (by decide) (by decide) (by decide))), (y_A_fr hy_be (hk 18 (by decide) (by decide) (by decide))), (y_A_fr hy_du (hk 19 (by decide) (by decide) (by decide))), (y_A_fr hy_db (hk 20 (by decide) (by decide) (by decide))), (y_A_fr hy_pn (hk 21 (by decide) (by decide) (by decide))), (y_A_fr hy_wg (hk 22 (by decide) (by decide) (by decide))), (y_A_fr hy_wh (hk 23 (by decide) (by decide) (by decide))), (y_A_fr hy_tn (hk 24 (by decide) (by decide) (by decide))), (y_A_fr hy_he (hk 25 (by decide) (by decide) (by decide))), (y_A_fr hy_tr (hk 26 (by decide) (by decide) (by decide))), (y_A_fr hy_fd (hk 27 (by decide) (by decide) (by decide))), (y_A_fr hy_po (hk 28 (by decide) (by decide) (by decide)))⟩, hp⟩

set_option maxHeartbeats 4000000 in
set_option maxRecDepth 100000 in
theorem s_X10_paste (l : Launch) {D : va_G} {cy : Nat → ClassId} {L : List Nat} {f : Nat → va_E} {sz : Nat} {adK adV : Nat → Nat} {bd : Nat → Nat} {gik gwd gmy : Nat → Int32} {sn : Int32} {ii : Int32} {to_ : Int32} {ki : Int32} {nn : Int32} (hS : z_SM L f cy bd gik gwd gmy) : Met l yX10_paste (z_ws yX10_paste cX10_paste 7 (some .int)) (z_R 3 0 0) (va_Pc [.ref (bd 0), .int sn, .int ii, .int to_, .int ki, .int nn] (z_Pre D vwCl (z_KK D cy adK adV) L f sz)) (z_Qi D vwCl (fun r u => L = u.1 ∧ (∀ b ∈ L, (∀ i : Nat, i < 29 → b ≠ bd i) → u.2 b = f b) ∧ (z_SM L u.2 cy bd gik gwd gmy ∧ ((r = -2 ∧ ¬ ((0 ≤ sn.toInt ∧ sn.toInt ≤ 3) ∧ (0 ≤ to_.toInt ∧ to_.toInt ≤ 3))) ∨ (r = -6 ∧ ((0 ≤ sn.toInt ∧ sn.toInt ≤ 3) ∧ (0 ≤ to_.toInt ∧ to_.toInt ≤ 3)) ∧ ((gwd sn.toNatClampNeg).toInt = -1 ∨ (gwd to_.toNatClampNeg).toInt = -1)) ∨ (r = -8 ∧ ((0 ≤ sn.toInt ∧ sn.toInt ≤ 3) ∧ (0 ≤ to_.toInt ∧ to_.toInt ≤ 3)) ∧ (gwd sn.toNatClampNeg).toInt ≠ -1 ∧ (gwd to_.toNatClampNeg).toInt ≠ -1 ∧ (gwd sn.toNatClampNeg).toInt ≠ (gwd to_.toNatClampNeg).toInt) ∨ (r = -7 ∧ ((0 ≤ sn.toInt ∧ sn.toInt ≤ 3) ∧ (0 ≤ to_.toInt ∧ to_.toInt ≤ 3)) ∧ (gwd sn.toNatClampNeg).toInt ≠ -1 ∧ (gwd to_.toNatClampNeg).toInt ≠ -1 ∧ (gwd sn.toNatClampNeg).toInt = (gwd to_.toNatClampNeg).toInt ∧ ¬ ((0 ≤ ii.toInt ∧ 0 ≤ nn.toInt ∧ ii.toInt + nn.toInt ≤ (gmy sn.toNatClampNeg).toInt) ∧ (0 ≤ ki.toInt ∧ 0 ≤ nn.toInt ∧ ki.toInt + nn.toInt ≤ (gmy to_.toNatClampNeg).toInt))) ∨ (r = 0 ∧ ((0 ≤ sn.toInt ∧ sn.toInt ≤ 3) ∧ (0 ≤ to_.toInt ∧ to_.toInt ≤ 3)) ∧ (gwd sn.toNatClampNeg).toInt ≠ -1 ∧ (gwd to_.toNatClampNeg).toInt ≠ -1 ∧ (gwd sn.toNatClampNeg).toInt = (gwd to_.toNatClampNeg).toInt ∧ ((0 ≤ ii.toInt ∧ 0 ≤ nn.toInt ∧ ii.toInt + nn.toInt ≤ (gmy sn.toNatClampNeg).toInt) ∧ (0 ≤ ki.toInt ∧ 0 ≤ nn.toInt ∧ ki.toInt + nn.toInt ≤ (gmy to_.toNatClampNeg).toInt)))))) L sz) 0 0 (z_A L sz) := by
  obtain ⟨hm, hJ, h0_, hH_, hf_ik, hf_wd, hf_my, hq_my, hy_ce, hy_mv, hy_ta, hy_li, hy_st, hy_fo, hy_dr, hy_ro, hy_ct, hy_se, hy_th, hy_cn, hy_be, hy_du, hy_db, hy_pn, hy_wg, hy_wh, hy_tn, hy_he, hy_tr, hy_fd, hy_po⟩ := hS
  have h1_ := h0_
  obtain ⟨m0, m6, m7, m8, m9, m10, m12, m13, m14, m15, m22, m24, m25, m27, m28, m30, m36, m38, m40, m41, m42, m48, m52, m53, m11, m26, hf_mm, htp, hxx, hbg, hbh⟩ := h1_
  have h3_ := hy_ce
  obtain ⟨gce, hf_ce⟩ := h3_
  have h3_ := hy_mv
  obtain ⟨gmv, hf_mv⟩ := h3_
  refine z_weak (c_X10_paste l (hm 0 (by decide)) (hm 1 (by decide)) (hm 2 (by decide)) (hm 3 (by decide)) (hm 4 (by decide)) hf_mm hf_wd hf_my hf_ce hf_mv (fun h => absurd (hJ _ _ (by decide) (by decide) h) (by decide)) hq_my) ?_
  rintro r ⟨L2, F2⟩ ⟨hsb, hfm, nce, nmv, ha_mm, ha_ce, ha_mv, hp⟩
  obtain rfl : L = L2 := hsb
  have hk : ∀ i : Nat, i < 29 → i ≠ 0 → i ≠ 3 → i ≠ 4 → F2 (bd i) = f (bd i) := fun i hi h0 h3 h4 => hfm _ (hm i hi) (fun h => h0 (hJ _ _ hi (by decide) h)) (fun h => h3 (hJ _ _ hi (by decide) h)) (fun h => h4 (hJ _ _ hi (by decide) h))
  refine ⟨rfl, fun b hb h => hfm b hb (h 0 (by decide)) (h 3 (by decide)) (h 4 (by decide)), ?_⟩
  exact ⟨⟨hm, hJ, (⟨0, m6, m7, m8, m9, m10, m12, m13, m14, m15, m22, m24, m25, m27, m28, m30, m36, m38, m40, m41, m42, m48, m52, m53, m11, m26, ha_mm, (by first | assumption | omega | decide), (by first | assumption | omega | decide), (by first | assumption | omega | decide), (by first | assumption | omega | decide)⟩), (y_H_fr hH_ (hk 7 (by decide) (by decide) (by decide) (by decide)) (hk 8 (by decide) (by decide) (by decide) (by decide))), ((hk 12 (by decide) (by decide) (by decide) (by decide)).trans hf_ik), ((hk 1 (by decide) (by decide) (by decide) (by decide)).trans hf_wd), ((hk 2 (by decide) (by decide) (by decide) (by decide)).trans hf_my), (hq_my), (⟨_, ha_ce⟩), (⟨_, ha_mv⟩), (y_A_fr hy_ta (hk 5 (by decide) (by decide) (by decide) (by decide))), (y_A_fr hy_li (hk 6 (by decide) (by decide) (by decide) (by decide))), (y_A_fr hy_st (hk 9 (by decide) (by decide) (by decide) (by decide))), (y_A_fr hy_fo (hk 10 (by decide) (by decide) (by decide) (by decide))), (y_A_fr hy_dr (hk 11 (by decide) (by decide) (by decide) (by decide))), (y_A_fr hy_ro (hk 13 (by decide) (by decide) (by decide) (by decide))), (y_A_fr hy_ct (hk 14 (by decide) (by decide) (by decide) (by decide))), (y_A_fr hy_se (hk 15 (by decide) (by decide) (by decide) (by decide))), (y_A_fr hy_th (hk 16 (by decide) (by decide) (by decide) (by decide))), (y_A_fr hy_cn (hk 17 (by decide) (by decide) (by decide) (by decide))), (y_A_fr hy_be (hk 18 (by decide) (by decide) (by decide) (by decide))), (y_A_fr hy_du (hk 19 (by decide) (by decide) (by decide) (by decide))), (y_A_fr hy_db (hk 20 (by decide) (by decide) (by decide) (by decide))), (y_A_fr hy_pn (hk 21 (by decide) (by decide) (by decide) (by decide))), (y_A_fr hy_wg (hk 22 (by decide) (by decide) (by decide) (by decide))), (y_A_fr hy_wh (hk 23 (by decide) (by decide) (by decide) (by decide))), (y_A_fr hy_tn (hk 24 (by decide) (by decide) (by decide) (by decide))), (y_A_fr hy_he (hk 25 (by decide) (by decide) (by decide) (by decide))), (y_A_fr hy_tr (hk 26 (by decide) (by decide) (by decide) (by decide))), (y_A_fr hy_fd (hk 27 (by decide) (by decide) (by decide) (by decide))), (y_A_fr hy_po (hk 28 (by decide) (by decide) (by decide) (by decide)))⟩, hp⟩
