/-! the systems kept where nothing of theirs changes -/
section ZFR
variable {L L2 : List Nat} {f f2 : Nat → va_E} {cy : Nat → ClassId} {ad bd : Nat → Nat} {gkp gw gz gik gwd gmy : Nat → Int32} {b : Nat}
theorem x_D_L (h : x_D L f cy ad b) (hs : ∀ a ∈ L, a ∈ L2) : x_D L2 f cy ad b := by
  obtain ⟨v0, v1, v2, v3, v4, v5, v6, gl, gs, gm, gd, h0, h1, h2, h3, h4, hg, hd, hr⟩ := h
  exact ⟨v0, v1, v2, v3, v4, v5, v6, gl, gs, gm, gd, h0, h1, h2, h3, h4, hg, fun i hi => ⟨hs _ (hd i hi).1, (hd i hi).2⟩, hr⟩
theorem x_H_L (h : x_H L f cy ad b) (hs : ∀ a ∈ L, a ∈ L2) : x_H L2 f cy ad b := by
  obtain ⟨v0, v1, v2, v3, v4, v5, v6, gl, gs, gm, gd, h0, h1, h2, h3, h4, hg, hd, hr⟩ := h
  exact ⟨v0, v1, v2, v3, v4, v5, v6, gl, gs, gm, gd, h0, h1, h2, h3, h4, hg, fun i hi => ⟨hs _ (hd i hi).1, (hd i hi).2⟩, hr⟩
theorem x_F_L (h : x_F L f cy ad b) (hs : ∀ a ∈ L, a ∈ L2) : x_F L2 f cy ad b := by
  obtain ⟨v0, v1, v2, v3, v4, v5, v6, gl, gs, gm, gd, h0, h1, h2, h3, h4, hg, hd⟩ := h
  exact ⟨v0, v1, v2, v3, v4, v5, v6, gl, gs, gm, gd, h0, h1, h2, h3, h4, hg, fun i hi => ⟨hs _ (hd i hi).1, (hd i hi).2⟩⟩
theorem z_SX_frL (h : z_SX L f cy ad gkp gw gz) (hs : ∀ a ∈ L, a ∈ L2) (hk : ∀ i : Nat, i < 135 → f2 (ad i) = f (ad i)) : z_SX L2 f2 cy ad gkp gw gz := by
  obtain ⟨hm, hJ, hXO, hT, hR, hI, hK, hS, hW, hP, hO, hM, hD, hF, hG, hH⟩ := h
  exact ⟨fun i hi => hs _ (hm i hi), hJ, (hk 0 (by decide)).trans hXO, x_T_fr hT (fun i h1 h2 => hk i (by omega)), x_R_fr hR (fun i h1 h2 => hk i (by omega)), x_I_fr hI (fun i h1 h2 => hk i (by omega)), x_K_fr hK (fun i h1 h2 => hk i (by omega)), x_S_fr hS (fun i h1 h2 => hk i (by omega)), x_W_fr hW (fun i h1 h2 => hk i (by omega)), x_P_fr hP (fun i h1 h2 => hk i (by omega)), x_O_fr hO (fun i h1 h2 => hk i (by omega)), x_M_fr hM (fun i h1 h2 => hk i (by omega)),
    x_D_fr (x_D_L hD hs) (fun i h1 h2 => hk i (by omega)), x_F_fr (x_F_L hF hs) (fun i h1 h2 => hk i (by omega)), fun k hk3 => x_D_fr (x_D_L (hG k hk3) hs) (fun i h1 h2 => hk i (by omega)), x_H_fr (x_H_L hH hs) (fun i h1 h2 => hk i (by omega))⟩
theorem z_SX_mem (h : z_SX L f cy ad gkp gw gz) {i : Nat} (hi : i < 135) : ad i ∈ L := h.1 i hi
theorem z_SX_xo (h : z_SX L f cy ad gkp gw gz) : ∃ fs : List Value, f (ad 0) = .inr (9, fs) := ⟨_, h.2.2.1⟩
theorem z_SM_mem (h : z_SM L f cy bd gik gwd gmy) {i : Nat} (hi : i < 29) : bd i ∈ L := h.1 i hi
theorem z_SM_xo (h : z_SM L f cy bd gik gwd gmy) : ∃ fs : List Value, f (bd 0) = .inr (10, fs) := by
  obtain ⟨hm, hJ, h0, hr⟩ := h
  obtain ⟨m0, m6, m7, m8, m9, m10, m12, m13, m14, m15, m22, m24, m25, m27, m28, m30, m36, m38, m40, m41, m42, m48, m52, m53, m11, m26, h1, h2⟩ := h0
  exact ⟨_, h1⟩
theorem z_SM_fr (h : z_SM L f cy bd gik gwd gmy) (hk : ∀ i : Nat, i < 29 → f2 (bd i) = f (bd i)) : z_SM L f2 cy bd gik gwd gmy := by
  obtain ⟨hm, hJ, h0_, hH_, hf_ik, hf_wd, hf_my, hq_my, hy_ce, hy_mv, hy_ta, hy_li, hy_st, hy_fo, hy_dr, hy_ro, hy_ct, hy_se, hy_th, hy_cn, hy_be, hy_du, hy_db, hy_pn, hy_wg, hy_wh, hy_tn, hy_he, hy_tr, hy_fd, hy_po⟩ := h
  exact ⟨hm, hJ, (y_0_fr h0_ (hk 0 (by decide))), (y_H_fr hH_ (hk 7 (by decide)) (hk 8 (by decide))), ((hk 12 (by decide)).trans hf_ik), ((hk 1 (by decide)).trans hf_wd), ((hk 2 (by decide)).trans hf_my), (hq_my), (y_J_fr hy_ce (hk 3 (by decide))), (y_J_fr hy_mv (hk 4 (by decide))), (y_A_fr hy_ta (hk 5 (by decide))), (y_A_fr hy_li (hk 6 (by decide))), (y_A_fr hy_st (hk 9 (by decide))), (y_A_fr hy_fo (hk 10 (by decide))), (y_A_fr hy_dr (hk 11 (by decide))), (y_A_fr hy_ro (hk 13 (by decide))), (y_A_fr hy_ct (hk 14 (by decide))), (y_A_fr hy_se (hk 15 (by decide))), (y_A_fr hy_th (hk 16 (by decide))), (y_A_fr hy_cn (hk 17 (by decide))), (y_A_fr hy_be (hk 18 (by decide))), (y_A_fr hy_du (hk 19 (by decide))), (y_A_fr hy_db (hk 20 (by decide))), (y_A_fr hy_pn (hk 21 (by decide))), (y_A_fr hy_wg (hk 22 (by decide))), (y_A_fr hy_wh (hk 23 (by decide))), (y_A_fr hy_tn (hk 24 (by decide))), (y_A_fr hy_he (hk 25 (by decide))), (y_A_fr hy_tr (hk 26 (by decide))), (y_A_fr hy_fd (hk 27 (by decide))), (y_A_fr hy_po (hk 28 (by decide)))⟩
end ZFR
/-- what class and model hold alike -/
def z_rel (gkp gw gz gik gwd gmy : Nat → Int32) : Prop := (∀ k : Nat, k < 3 → (gkp k).toInt = (gik k).toInt) ∧ ∀ k : Nat, k < 4 → ((gz k).toInt = -1 ∧ (gwd k).toInt = -1) ∨ ((gz k).toInt ≠ -1 ∧ (gwd k).toInt ≠ -1 ∧ (gz k).toInt = (gmy k).toInt ∧ (gw k).toInt = (gwd k).toInt)
theorem z_rel_keep {gkp gw gz gik gwd gmy kp2 nik : Nat → Int32} {kk r1 r2 : Int32} (h : z_rel gkp gw gz gik gwd gmy) (hx : (r1 = 0 ∧ (0 ≤ kk.toInt ∧ kk.toInt < 3) ∧ kp2 = upd gkp kk.toNatClampNeg 1) ∨ (r1 = -2 ∧ ¬ (0 ≤ kk.toInt ∧ kk.toInt < 3) ∧ kp2 = gkp)) (hm : (r2 = 0 ∧ (0 ≤ kk.toInt ∧ kk.toInt < 3) ∧ nik = upd gik kk.toNatClampNeg 1) ∨ (r2 = -2 ∧ ¬ (0 ≤ kk.toInt ∧ kk.toInt < 3) ∧ nik = gik)) : z_rel kp2 gw gz nik gwd gmy := by
  refine ⟨fun k hk => ?_, h.2⟩
  rcases hx with ⟨-, h1, e1⟩ | ⟨-, h1, e1⟩ <;> rcases hm with ⟨-, h2, e2⟩ | ⟨-, h2, e2⟩
  · by_cases q : k = kk.toNatClampNeg
    · rw [e1, e2]; unfold upd; rw [if_pos q, if_pos q]
    · rw [z_upd_ne e1 q, z_upd_ne e2 q]; exact h.1 k hk
  · exact absurd h1 h2
  · exact absurd h2 h1
  · rw [e1, e2]; exact h.1 k hk
theorem z_rel_row {gkp gw gz gik gwd gmy w2 z2 nwd nmy : Nat → Int32} {sn ow nn r1 r2 : Int32} (h : z_rel gkp gw gz gik gwd gmy) (hx : (r1 = 0 ∧ ((0 ≤ sn.toInt ∧ sn.toInt ≤ 3) ∧ (0 ≤ ow.toInt ∧ ow.toInt ≤ 3) ∧ nn.toInt ≤ 60) ∧ 0 ≤ nn.toInt ∧ w2 = upd gw sn.toNatClampNeg ow ∧ z2 = upd gz sn.toNatClampNeg nn) ∨ (r1 = -2 ∧ ¬ ((0 ≤ sn.toInt ∧ sn.toInt ≤ 3) ∧ (0 ≤ ow.toInt ∧ ow.toInt ≤ 3) ∧ nn.toInt ≤ 60) ∧ w2 = gw ∧ z2 = gz) ∨ (r1 = -3 ∧ ((0 ≤ sn.toInt ∧ sn.toInt ≤ 3) ∧ (0 ≤ ow.toInt ∧ ow.toInt ≤ 3) ∧ nn.toInt ≤ 60) ∧ nn.toInt < 0 ∧ w2 = gw ∧ z2 = gz))
    (hm : (r2 = 0 ∧ ((0 ≤ sn.toInt ∧ sn.toInt ≤ 3) ∧ (0 ≤ ow.toInt ∧ ow.toInt ≤ 3) ∧ nn.toInt ≤ 60) ∧ 0 ≤ nn.toInt ∧ nwd = upd gwd sn.toNatClampNeg ow ∧ nmy = upd gmy sn.toNatClampNeg nn) ∨ (r2 = -2 ∧ ¬ ((0 ≤ sn.toInt ∧ sn.toInt ≤ 3) ∧ (0 ≤ ow.toInt ∧ ow.toInt ≤ 3) ∧ nn.toInt ≤ 60) ∧ nwd = gwd ∧ nmy = gmy) ∨ (r2 = -3 ∧ ((0 ≤ sn.toInt ∧ sn.toInt ≤ 3) ∧ (0 ≤ ow.toInt ∧ ow.toInt ≤ 3) ∧ nn.toInt ≤ 60) ∧ nn.toInt < 0 ∧ nwd = gwd ∧ nmy = gmy)) : z_rel gkp w2 z2 gik nwd nmy := by
  refine ⟨h.1, fun k hk => ?_⟩
  rcases hx with ⟨-, h1, h3, e1, e2⟩ | ⟨-, h1, e1, e2⟩ | ⟨-, h1, h3, e1, e2⟩ <;> rcases hm with ⟨-, h2, h4, e3, e4⟩ | ⟨-, h2, e3, e4⟩ | ⟨-, h2, h4, e3, e4⟩
  · by_cases q : k = sn.toNatClampNeg
    · subst q
      rw [z_upd_at e1, z_upd_at e2, z_upd_at e3, z_upd_at e4]
      right; omega
    · rw [z_upd_ne e1 q, z_upd_ne e2 q, z_upd_ne e3 q, z_upd_ne e4 q]; exact h.2 k hk
  · exact absurd h1 h2
  · omega
  · exact absurd h2 h1
  · rw [e1, e2, e3, e4]; exact h.2 k hk
  · exact absurd h2 h1
  · omega
  · exact absurd h1 h2
  · rw [e1, e2, e3, e4]; exact h.2 k hk
theorem z_ixK {K w : Int32} {W : Int} {k : Nat} (hW : w.toInt = W) (h : W = K.toInt + k ∧ 0 ≤ K.toInt) : w.toNatClampNeg = K.toNatClampNeg + k := by
  show w.toInt.toNat = K.toInt.toNat + k
  omega
