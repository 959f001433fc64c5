set_option maxHeartbeats 4000000 in
set_option maxRecDepth 100000 in
theorem c_X9_init (l : Launch) {D : va_G} {cy : Nat → ClassId} {L : List Nat} {f : Nat → va_E} {sz : Nat} {adK adV : Nat → Nat} {hs : Nat} (hm_hs : hs ∈ L) (hf_hs : f hs = .inr (9, [.null, .null, .null, .null, .null, .null, .null, .null, .null, .null, .null])) : Met l yX9_init (z_ws yX9_init cX9_init 2 none) (z_R 4 134 5582) (va_Pc [.ref hs] (z_Pre D vwCl (z_KK D cy adK adV) L f sz)) (z_Qv D vwCl (fun u => (∀ b ∈ L, b ∈ u.1) ∧ (∀ b ∈ L, b ≠ hs → u.2 b = f b) ∧ (∃ (ad : Nat → Nat) (gkp gw gz : Nat → Int32), (ad 0 = hs ∧ (∀ i : Nat, i < 135 → i ≠ 0 → ad i ∉ L) ∧ z_SX u.1 u.2 cy ad gkp gw gz ∧ (∀ k : Nat, k < 3 → (gkp k).toInt = 0) ∧ ∀ k : Nat, k < 4 → (gz k).toInt = -1))) L sz) 134 5582 (z_A L sz) := by
  refine z_met (cc := cX9_init) (maxL := 2) (ret := none) (lv := [(0, .ref hs)]) (by decide) rfl (Nat.le_of_ble_eq_true rfl) rfl ?_
  intro p e s m below meth c ls hx hb hr hlk hml hown hnm hts hKK hA hw hl
  have hK := hKK.1.1
  have hown : s.vm.findClass RX9 = some m.cls := hown
  have hT : ∀ w ∈ lw_all, w.before ([.ref hs] : List Value).toArray s = true := fun w h => hts w (z_cons w h)
  have hsub : ∀ b ∈ L, b ∈ L := fun _ h => h
  have hfr : ∀ b ∈ L, b ≠ hs → f b = f b := fun _ _ _ => rfl
  have hm0_hs := hm_hs
  refine lv_aload_n hx hb dX9_init_0 rfl (lv_at hl 0 rfl) ?_
  refine W.objInit hx hb hown (hT _ ko_RX9) (hT _ ko_i) (hT _ ko_c) rfl (by rw [hml]; exact hl.1) rfl dX9_init_1 (Nat.le_of_ble_eq_true rfl) (Nat.le_of_ble_eq_true rfl) ?_
  refine W.eq (g2 := F0 m 4 ls []) rfl ?_
  refine lv_aload_n hx hb dX9_init_4 rfl (lv_at hl 0 rfl) ?_
  refine z_new (C := RX7) (T := TX7) (N := 2) (ci := 7) (fs := [.null, .int 0]) (cells := 0) (slots := 0) hx hb hT zin_X7 tyX7_ok hown (hT _ kw_111) (hT _ kw_112) (hT _ kw_86) hK hw hA rfl (fun j hj => by rcases (show j = 0 ∨ j = 1 by omega) with rfl | rfl <;> rfl) (by decide) (by decide) dX9_init_5 (fun qtp H hq_qtp hw => ?_)
  refine W.widen (k := 1) (n := 2) (by decide) (by decide) ?_
  have ne_hs_qtp : hs ≠ qtp := z_ne hm_hs hq_qtp
  have hn_qtp : qtp ∉ L := fun h => hq_qtp (hsub _ h)
  obtain ⟨f2, e_f2⟩ : ∃ z, z = va_up f qtp (.inr (7, [.null, .int 0])) := ⟨_, rfl⟩
  obtain ⟨L1, e_L1⟩ : ∃ z, z = L ++ [qtp] := ⟨_, rfl⟩
  rw [← e_f2, ← e_L1] at hw
  have hm_hs : hs ∈ L1 := by rw [e_L1]; exact List.mem_append_left _ hm_hs
  have hf_hs : f2 hs = .inr (9, [.null, .null, .null, .null, .null, .null, .null, .null, .null, .null, .null]) := (congrFun e_f2 hs).trans (z_up_ne ne_hs_qtp hf_hs)
  have hm_qtp : qtp ∈ L1 := by rw [e_L1]; exact List.mem_append_right _ (List.mem_singleton.mpr rfl)
  have hf_qtp : f2 qtp = .inr (7, [.null, .int 0]) := (congrFun e_f2 qtp).trans z_up_self
  have hsub : ∀ b ∈ L, b ∈ L1 := fun b h => by rw [e_L1]; exact List.mem_append_left _ (hsub b h)
  have hfr : ∀ b ∈ L, b ≠ hs → f2 b = f b := fun b hb h0 => (congrFun e_f2 b).trans (z_up_ne (z_ne hb hn_qtp) (hfr b hb h0))
  refine lv_dup hx hb dX9_init_8 rfl ?_
  refine z_callvIN (cells := 1) (slots := 2) (b := qtp) (As := []) (rest := [.ref qtp, .ref hs]) ⟨hx, hb, hml, hown, hT⟩ (c_X7_init l hm_qtp hf_qtp) ⟨va_cnB 0 hT (z_goodI (fun _ h => h) kw_115) rfl rfl rfl hKK.1.2.2.2.2.2.1 (hT _ kw_86) (by decide +kernel) ⟨by decide, by decide⟩, rfl, hT _ kw_114⟩ z_mv hKK hw hA rfl hl.1 rfl (Nat.le_of_ble_eq_true rfl) dX9_init_9 ⟨by decide, by decide⟩ (fun u H locs hp hw => ?_)
  refine W.widen (k := 2) (n := 1602) (by decide) (by decide) ?_
  obtain ⟨L3, f4⟩ := u
  obtain ⟨hsb, hfm, qba, ha_0, ⟨hq_qba, hm_qba, hf_qba⟩, hp⟩ := hp
  have hw : z_H D vwCl (z_A L sz) s.heap L3 f4 H locs := hw
  have ne_hs_qba : hs ≠ qba := z_ne hm_hs hq_qba
  have ne_qtp_qba : qtp ≠ qba := z_ne hm_qtp hq_qba
  have hfr : ∀ b ∈ L, b ≠ hs → f4 b = f b := fun b hb h0 => (hfm b (hsub b hb) (z_ne hb hn_qtp)).trans (hfr b hb h0)
  have hn_qba : qba ∉ L := fun h => hq_qba (hsub _ h)
  have hsub : ∀ b ∈ L, b ∈ L3 := fun b h => hsb b (hsub b h)
  have hf_hs : f4 hs = .inr (9, [.null, .null, .null, .null, .null, .null, .null, .null, .null, .null, .null]) := (hfm hs hm_hs ne_hs_qtp).trans hf_hs
  have hm_hs : hs ∈ L3 := hsb _ hm_hs
  have hm_qtp : qtp ∈ L3 := hsb _ hm_qtp
  have hf_qtp : f4 qtp = .inr (7, [.ref qba, .int 0]) := ha_0
  have hf_qba : f4 qba = .inl (cy 0, 1600, .inl (fun _ => 0)) := hf_qba
  have hm_qba : qba ∈ L3 := hm_qba
  have e_L3 : L3 = L1 ++ [qba] := hp
  refine z_putF (C := RX9) (T := TX9) (N := 11) (ci := 9) (v := .ref qtp) (fs' := [.ref qtp, .null, .null, .null, .null, .null, .null, .null, .null, .null, .null]) hx hb hT zin_X9 tyX9_ok nmX9 hown hK hw hm_hs hf_hs rfl 0 (by decide) (hT _ kw_477) rfl hnm rfl rfl rfl (Nat.le_of_ble_eq_true rfl) rfl dX9_init_12 (fun H locs hw => ?_)
  obtain ⟨f5, e_f5⟩ : ∃ z, z = va_up f4 hs (.inr (9, [.ref qtp, .null, .null, .null, .null, .null, .null, .null, .null, .null, .null])) := ⟨_, rfl⟩
  rw [← e_f5] at hw
  have hf_qtp : f5 qtp = .inr (7, [.ref qba, .int 0]) := (congrFun e_f5 qtp).trans (z_up_ne (Ne.symm ne_hs_qtp) hf_qtp)
  have hf_qba : f5 qba = .inl (cy 0, 1600, .inl (fun _ => 0)) := (congrFun e_f5 qba).trans (z_up_ne (Ne.symm ne_hs_qba) hf_qba)
  have hf_hs : f5 hs = .inr (9, [.ref qtp, .null, .null, .null, .null, .null, .null, .null, .null, .null, .null]) := (congrFun e_f5 hs).trans z_up_self
  have hfr : ∀ b ∈ L, b ≠ hs → f5 b = f b := fun b hb h0 => (congrFun e_f5 b).trans (z_up_ne h0 (hfr b hb h0))
  have h0_qtp := hf_qtp
  have m0_qtp := hm_qtp
  have h0_qba := hf_qba
  have m0_qba := hm_qba
  have hck_T : ∀ b ∈ L3, b ≠ hs → f5 b = f5 b := fun _ _ _ => rfl
  have hcs_T : ∀ b ∈ L3, b ∈ L3 := fun _ h => h
  refine lv_aload_n hx hb dX9_init_15 rfl (lv_at hl 0 rfl) ?_
  refine z_new (C := RX2) (T := TX2) (N := 11) (ci := 2) (fs := [.int 0, .int 0, .int 0, .int 0, .int 0, .int 0, .int 0, .null, .null, .null, .null]) (cells := 2) (slots := 1602) hx hb hT zin_X2 tyX2_ok hown (hT _ kw_128) (hT _ kw_129) (hT _ kw_87) hK hw hA rfl (fun j hj => by rcases (show j = 0 ∨ j = 1 ∨ j = 2 ∨ j = 3 ∨ j = 4 ∨ j = 5 ∨ j = 6 ∨ j = 7 ∨ j = 8 ∨ j = 9 ∨ j = 10 by omega) with rfl | rfl | rfl | rfl | rfl | rfl | rfl | rfl | rfl | rfl | rfl <;> rfl) (by decide) (by decide) dX9_init_16 (fun qmmo H hq_qmmo hw => ?_)
  refine W.widen (k := 3) (n := 1613) (by decide) (by decide) ?_
  have ne_hs_qmmo : hs ≠ qmmo := z_ne hm_hs hq_qmmo
  have hn_qmmo : qmmo ∉ L := fun h => hq_qmmo (hsub _ h)
  obtain ⟨f7, e_f7⟩ : ∃ z, z = va_up f5 qmmo (.inr (2, [.int 0, .int 0, .int 0, .int 0, .int 0, .int 0, .int 0, .null, .null, .null, .null])) := ⟨_, rfl⟩
  obtain ⟨L6, e_L6⟩ : ∃ z, z = L3 ++ [qmmo] := ⟨_, rfl⟩
  rw [← e_f7, ← e_L6] at hw
  have hm_hs : hs ∈ L6 := by rw [e_L6]; exact List.mem_append_left _ hm_hs
  have hf_hs : f7 hs = .inr (9, [.ref qtp, .null, .null, .null, .null, .null, .null, .null, .null, .null, .null]) := (congrFun e_f7 hs).trans (z_up_ne ne_hs_qmmo hf_hs)
  have hm_qmmo : qmmo ∈ L6 := by rw [e_L6]; exact List.mem_append_right _ (List.mem_singleton.mpr rfl)
  have hf_qmmo : f7 qmmo = .inr (2, [.int 0, .int 0, .int 0, .int 0, .int 0, .int 0, .int 0, .null, .null, .null, .null]) := (congrFun e_f7 qmmo).trans z_up_self
  have hsub : ∀ b ∈ L, b ∈ L6 := fun b h => by rw [e_L6]; exact List.mem_append_left _ (hsub b h)
  have hfr : ∀ b ∈ L, b ≠ hs → f7 b = f b := fun b hb h0 => (congrFun e_f7 b).trans (z_up_ne (z_ne hb hn_qmmo) (hfr b hb h0))
  have hnk_T_qmmo : qmmo ∉ L3 := fun h => hq_qmmo (hcs_T _ h)
  have hcs_T : ∀ b ∈ L3, b ∈ L6 := fun b h => by rw [e_L6]; exact List.mem_append_left _ (hcs_T b h)
  have hck_T : ∀ b ∈ L3, b ≠ hs → f7 b = f5 b := fun b hb h_hs => (congrFun e_f7 b).trans (z_up_ne (z_ne hb hnk_T_qmmo) (hck_T b hb h_hs))
  refine lv_dup hx hb dX9_init_19 rfl ?_
  refine z_callvI (cells := 3) (slots := 1613) (b := qmmo) (As := []) (rest := [.ref qmmo, .ref hs]) ⟨hx, hb, hml, hown, hT⟩ (c_X2_init l hm_qmmo hf_qmmo) (cwI 0 hT (z_goodI (fun _ h => h) kw_132) rfl rfl rfl (hT _ kw_87) (hT _ kw_130) (hT _ kw_131) rfl (by decide +kernel) ⟨by decide, by decide⟩) z_mv hKK hw hA rfl hl.1 rfl (Nat.le_of_ble_eq_true rfl) dX9_init_20 ⟨by decide, by decide⟩ (fun u H locs hp hw => ?_)
  refine W.widen (k := 20) (n := 1775) (by decide) (by decide) ?_
  obtain ⟨L8, f9⟩ := u
  obtain ⟨hsb, hfm, qmla, qmsa, qmmi, qmda, qmd0, qmd1, qmd2, qmd3, qmd4, qmd5, qmd6, qmd7, qmd8, qmd9, qmd10, qmd11, qmd12, qmgd, ha_0, ⟨hq_qmla, hm_qmla, hf_qmla⟩, ⟨hq_qmsa, hm_qmsa, hf_qmsa⟩, ⟨hq_qmmi, hm_qmmi, hf_qmmi⟩, ⟨hq_qmda, hm_qmda, hf_qmda⟩, ⟨hq_qmd0, hm_qmd0, hf_qmd0⟩, ⟨hq_qmd1, hm_qmd1, hf_qmd1⟩, ⟨hq_qmd2, hm_qmd2, hf_qmd2⟩, ⟨hq_qmd3, hm_qmd3, hf_qmd3⟩, ⟨hq_qmd4, hm_qmd4, hf_qmd4⟩, ⟨hq_qmd5, hm_qmd5, hf_qmd5⟩, ⟨hq_qmd6, hm_qmd6, hf_qmd6⟩, ⟨hq_qmd7, hm_qmd7, hf_qmd7⟩, ⟨hq_qmd8, hm_qmd8, hf_qmd8⟩, ⟨hq_qmd9, hm_qmd9, hf_qmd9⟩, ⟨hq_qmd10, hm_qmd10, hf_qmd10⟩, ⟨hq_qmd11, hm_qmd11, hf_qmd11⟩, ⟨hq_qmd12, hm_qmd12, hf_qmd12⟩, hp⟩ := hp
  have hw : z_H D vwCl (z_A L sz) s.heap L8 f9 H locs := hw
  have ne_hs_qmla : hs ≠ qmla := z_ne hm_hs hq_qmla
  have ne_qmmo_qmla : qmmo ≠ qmla := z_ne hm_qmmo hq_qmla
  have ne_hs_qmsa : hs ≠ qmsa := z_ne hm_hs hq_qmsa
  have ne_qmmo_qmsa : qmmo ≠ qmsa := z_ne hm_qmmo hq_qmsa
  have ne_hs_qmmi : hs ≠ qmmi := z_ne hm_hs hq_qmmi
  have ne_qmmo_qmmi : qmmo ≠ qmmi := z_ne hm_qmmo hq_qmmi
  have ne_hs_qmda : hs ≠ qmda := z_ne hm_hs hq_qmda
  have ne_qmmo_qmda : qmmo ≠ qmda := z_ne hm_qmmo hq_qmda
  have ne_hs_qmd0 : hs ≠ qmd0 := z_ne hm_hs hq_qmd0
  have ne_qmmo_qmd0 : qmmo ≠ qmd0 := z_ne hm_qmmo hq_qmd0
  have ne_hs_qmd1 : hs ≠ qmd1 := z_ne hm_hs hq_qmd1
  have ne_qmmo_qmd1 : qmmo ≠ qmd1 := z_ne hm_qmmo hq_qmd1
  have ne_hs_qmd2 : hs ≠ qmd2 := z_ne hm_hs hq_qmd2
  have ne_qmmo_qmd2 : qmmo ≠ qmd2 := z_ne hm_qmmo hq_qmd2
  have ne_hs_qmd3 : hs ≠ qmd3 := z_ne hm_hs hq_qmd3
  have ne_qmmo_qmd3 : qmmo ≠ qmd3 := z_ne hm_qmmo hq_qmd3
  have ne_hs_qmd4 : hs ≠ qmd4 := z_ne hm_hs hq_qmd4
  have ne_qmmo_qmd4 : qmmo ≠ qmd4 := z_ne hm_qmmo hq_qmd4
  have ne_hs_qmd5 : hs ≠ qmd5 := z_ne hm_hs hq_qmd5
  have ne_qmmo_qmd5 : qmmo ≠ qmd5 := z_ne hm_qmmo hq_qmd5
  have ne_hs_qmd6 : hs ≠ qmd6 := z_ne hm_hs hq_qmd6
  have ne_qmmo_qmd6 : qmmo ≠ qmd6 := z_ne hm_qmmo hq_qmd6
  have ne_hs_qmd7 : hs ≠ qmd7 := z_ne hm_hs hq_qmd7
  have ne_qmmo_qmd7 : qmmo ≠ qmd7 := z_ne hm_qmmo hq_qmd7
  have ne_hs_qmd8 : hs ≠ qmd8 := z_ne hm_hs hq_qmd8
  have ne_qmmo_qmd8 : qmmo ≠ qmd8 := z_ne hm_qmmo hq_qmd8
  have ne_hs_qmd9 : hs ≠ qmd9 := z_ne hm_hs hq_qmd9
  have ne_qmmo_qmd9 : qmmo ≠ qmd9 := z_ne hm_qmmo hq_qmd9
  have ne_hs_qmd10 : hs ≠ qmd10 := z_ne hm_hs hq_qmd10
  have ne_qmmo_qmd10 : qmmo ≠ qmd10 := z_ne hm_qmmo hq_qmd10
  have ne_hs_qmd11 : hs ≠ qmd11 := z_ne hm_hs hq_qmd11
  have ne_qmmo_qmd11 : qmmo ≠ qmd11 := z_ne hm_qmmo hq_qmd11
  have ne_hs_qmd12 : hs ≠ qmd12 := z_ne hm_hs hq_qmd12
  have ne_qmmo_qmd12 : qmmo ≠ qmd12 := z_ne hm_qmmo hq_qmd12
  have hfr : ∀ b ∈ L, b ≠ hs → f9 b = f b := fun b hb h0 => (hfm b (hsub b hb) (z_ne hb hn_qmmo)).trans (hfr b hb h0)
  have hn_qmla : qmla ∉ L := fun h => hq_qmla (hsub _ h)
  have hn_qmsa : qmsa ∉ L := fun h => hq_qmsa (hsub _ h)
  have hn_qmmi : qmmi ∉ L := fun h => hq_qmmi (hsub _ h)
  have hn_qmda : qmda ∉ L := fun h => hq_qmda (hsub _ h)
  have hn_qmd0 : qmd0 ∉ L := fun h => hq_qmd0 (hsub _ h)
  have hn_qmd1 : qmd1 ∉ L := fun h => hq_qmd1 (hsub _ h)
  have hn_qmd2 : qmd2 ∉ L := fun h => hq_qmd2 (hsub _ h)
  have hn_qmd3 : qmd3 ∉ L := fun h => hq_qmd3 (hsub _ h)
  have hn_qmd4 : qmd4 ∉ L := fun h => hq_qmd4 (hsub _ h)
  have hn_qmd5 : qmd5 ∉ L := fun h => hq_qmd5 (hsub _ h)
  have hn_qmd6 : qmd6 ∉ L := fun h => hq_qmd6 (hsub _ h)
  have hn_qmd7 : qmd7 ∉ L := fun h => hq_qmd7 (hsub _ h)
  have hn_qmd8 : qmd8 ∉ L := fun h => hq_qmd8 (hsub _ h)
  have hn_qmd9 : qmd9 ∉ L := fun h => hq_qmd9 (hsub _ h)
  have hn_qmd10 : qmd10 ∉ L := fun h => hq_qmd10 (hsub _ h)
  have hn_qmd11 : qmd11 ∉ L := fun h => hq_qmd11 (hsub _ h)
  have hn_qmd12 : qmd12 ∉ L := fun h => hq_qmd12 (hsub _ h)
  have hsub : ∀ b ∈ L, b ∈ L8 := fun b h => hsb b (hsub b h)
  have hck_T : ∀ b ∈ L3, b ≠ hs → f9 b = f5 b := fun b hb h_hs => (hfm b (hcs_T b hb) (z_ne hb hnk_T_qmmo)).trans (hck_T b hb h_hs)
  have hcs_T : ∀ b ∈ L3, b ∈ L8 := fun b h => hsb b (hcs_T b h)
  have hf_hs : f9 hs = .inr (9, [.ref qtp, .null, .null, .null, .null, .null, .null, .null, .null, .null, .null]) := (hfm hs hm_hs ne_hs_qmmo).trans hf_hs
  have hm_hs : hs ∈ L8 := hsb _ hm_hs
  have hm_qmmo : qmmo ∈ L8 := hsb _ hm_qmmo
  have hf_qmmo : f9 qmmo = .inr (2, [.int 0, .int 0, .int 0, .int 0, .int 0, .int 0, .int 0, .ref qmla, .ref qmsa, .ref qmmi, .ref qmda]) := ha_0
  have hf_qmla : f9 qmla = .inl (cy 1, 5, .inl (fun _ => 0)) := hf_qmla
  have hm_qmla : qmla ∈ L8 := hm_qmla
  have hf_qmsa : f9 qmsa = .inl (cy 1, 4, .inl (fun _ => 0)) := hf_qmsa
  have hm_qmsa : qmsa ∈ L8 := hm_qmsa
  have hf_qmmi : f9 qmmi = .inl (cy 1, 36, .inl (fun _ => 0)) := hf_qmmi
  have hm_qmmi : qmmi ∈ L8 := hm_qmmi
  have hf_qmda : f9 qmda = .inl (cy 4, 13, .inr (.inr (.inr (.inr qmgd)))) := hf_qmda
  have hm_qmda : qmda ∈ L8 := hm_qmda
  have hf_qmd0 : f9 qmd0 = .inr (0, [.int 0, .int 0, .int 0, .int 0, .int 0, .int 0, .int 0, .int 0]) := hf_qmd0
  have hm_qmd0 : qmd0 ∈ L8 := hm_qmd0
  have hf_qmd1 : f9 qmd1 = .inr (0, [.int 0, .int 0, .int 0, .int 0, .int 0, .int 0, .int 0, .int 0]) := hf_qmd1
  have hm_qmd1 : qmd1 ∈ L8 := hm_qmd1
  have hf_qmd2 : f9 qmd2 = .inr (0, [.int 0, .int 0, .int 0, .int 0, .int 0, .int 0, .int 0, .int 0]) := hf_qmd2
  have hm_qmd2 : qmd2 ∈ L8 := hm_qmd2
  have hf_qmd3 : f9 qmd3 = .inr (0, [.int 0, .int 0, .int 0, .int 0, .int 0, .int 0, .int 0, .int 0]) := hf_qmd3
  have hm_qmd3 : qmd3 ∈ L8 := hm_qmd3
  have hf_qmd4 : f9 qmd4 = .inr (0, [.int 0, .int 0, .int 0, .int 0, .int 0, .int 0, .int 0, .int 0]) := hf_qmd4
  have hm_qmd4 : qmd4 ∈ L8 := hm_qmd4
  have hf_qmd5 : f9 qmd5 = .inr (0, [.int 0, .int 0, .int 0, .int 0, .int 0, .int 0, .int 0, .int 0]) := hf_qmd5
  have hm_qmd5 : qmd5 ∈ L8 := hm_qmd5
  have hf_qmd6 : f9 qmd6 = .inr (0, [.int 0, .int 0, .int 0, .int 0, .int 0, .int 0, .int 0, .int 0]) := hf_qmd6
  have hm_qmd6 : qmd6 ∈ L8 := hm_qmd6
  have hf_qmd7 : f9 qmd7 = .inr (0, [.int 0, .int 0, .int 0, .int 0, .int 0, .int 0, .int 0, .int 0]) := hf_qmd7
  have hm_qmd7 : qmd7 ∈ L8 := hm_qmd7
  have hf_qmd8 : f9 qmd8 = .inr (0, [.int 0, .int 0, .int 0, .int 0, .int 0, .int 0, .int 0, .int 0]) := hf_qmd8
  have hm_qmd8 : qmd8 ∈ L8 := hm_qmd8
  have hf_qmd9 : f9 qmd9 = .inr (0, [.int 0, .int 0, .int 0, .int 0, .int 0, .int 0, .int 0, .int 0]) := hf_qmd9
  have hm_qmd9 : qmd9 ∈ L8 := hm_qmd9
  have hf_qmd10 : f9 qmd10 = .inr (0, [.int 0, .int 0, .int 0, .int 0, .int 0, .int 0, .int 0, .int 0]) := hf_qmd10
  have hm_qmd10 : qmd10 ∈ L8 := hm_qmd10
  have hf_qmd11 : f9 qmd11 = .inr (0, [.int 0, .int 0, .int 0, .int 0, .int 0, .int 0, .int 0, .int 0]) := hf_qmd11
  have hm_qmd11 : qmd11 ∈ L8 := hm_qmd11
  have hf_qmd12 : f9 qmd12 = .inr (0, [.int 0, .int 0, .int 0, .int 0, .int 0, .int 0, .int 0, .int 0]) := hf_qmd12
  have hm_qmd12 : qmd12 ∈ L8 := hm_qmd12
  have e_L8 : L8 = L6 ++ [qmla, qmsa, qmmi, qmda, qmd0, qmd1, qmd2, qmd3, qmd4, qmd5, qmd6, qmd7, qmd8, qmd9, qmd10, qmd11, qmd12] := hp.1
  have hgd_m := hp.2
  refine z_putF (C := RX9) (T := TX9) (N := 11) (ci := 9) (v := .ref qmmo) (fs' := [.ref qtp, .null, .ref qmmo, .null, .null, .null, .null, .null, .null, .null, .null]) hx hb hT zin_X9 tyX9_ok nmX9 hown hK hw hm_hs hf_hs rfl 2 (by decide) (hT _ kw_479) rfl hnm rfl rfl rfl (Nat.le_of_ble_eq_true rfl) rfl dX9_init_23 (fun H locs hw => ?_)
  obtain ⟨f10, e_f10⟩ : ∃ z, z = va_up f9 hs (.inr (9, [.ref qtp, .null, .ref qmmo, .null, .null, .null, .null, .null, .null, .null, .null])) := ⟨_, rfl⟩
  rw [← e_f10] at hw
  have hf_qmmo : f10 qmmo = .inr (2, [.int 0, .int 0, .int 0, .int 0, .int 0, .int 0, .int 0, .ref qmla, .ref qmsa, .ref qmmi, .ref qmda]) := (congrFun e_f10 qmmo).trans (z_up_ne (Ne.symm ne_hs_qmmo) hf_qmmo)
  have hf_qmla : f10 qmla = .inl (cy 1, 5, .inl (fun _ => 0)) := (congrFun e_f10 qmla).trans (z_up_ne (Ne.symm ne_hs_qmla) hf_qmla)
  have hf_qmsa : f10 qmsa = .inl (cy 1, 4, .inl (fun _ => 0)) := (congrFun e_f10 qmsa).trans (z_up_ne (Ne.symm ne_hs_qmsa) hf_qmsa)
  have hf_qmmi : f10 qmmi = .inl (cy 1, 36, .inl (fun _ => 0)) := (congrFun e_f10 qmmi).trans (z_up_ne (Ne.symm ne_hs_qmmi) hf_qmmi)
  have hf_qmda : f10 qmda = .inl (cy 4, 13, .inr (.inr (.inr (.inr qmgd)))) := (congrFun e_f10 qmda).trans (z_up_ne (Ne.symm ne_hs_qmda) hf_qmda)
  have hf_qmd0 : f10 qmd0 = .inr (0, [.int 0, .int 0, .int 0, .int 0, .int 0, .int 0, .int 0, .int 0]) := (congrFun e_f10 qmd0).trans (z_up_ne (Ne.symm ne_hs_qmd0) hf_qmd0)
  have hf_qmd1 : f10 qmd1 = .inr (0, [.int 0, .int 0, .int 0, .int 0, .int 0, .int 0, .int 0, .int 0]) := (congrFun e_f10 qmd1).trans (z_up_ne (Ne.symm ne_hs_qmd1) hf_qmd1)
  have hf_qmd2 : f10 qmd2 = .inr (0, [.int 0, .int 0, .int 0, .int 0, .int 0, .int 0, .int 0, .int 0]) := (congrFun e_f10 qmd2).trans (z_up_ne (Ne.symm ne_hs_qmd2) hf_qmd2)
  have hf_qmd3 : f10 qmd3 = .inr (0, [.int 0, .int 0, .int 0, .int 0, .int 0, .int 0, .int 0, .int 0]) := (congrFun e_f10 qmd3).trans (z_up_ne (Ne.symm ne_hs_qmd3) hf_qmd3)
  have hf_qmd4 : f10 qmd4 = .inr (0, [.int 0, .int 0, .int 0, .int 0, .int 0, .int 0, .int 0, .int 0]) := (congrFun e_f10 qmd4).trans (z_up_ne (Ne.symm ne_hs_qmd4) hf_qmd4)
  have hf_qmd5 : f10 qmd5 = .inr (0, [.int 0, .int 0, .int 0, .int 0, .int 0, .int 0, .int 0, .int 0]) := (congrFun e_f10 qmd5).trans (z_up_ne (Ne.symm ne_hs_qmd5) hf_qmd5)
  have hf_qmd6 : f10 qmd6 = .inr (0, [.int 0, .int 0, .int 0, .int 0, .int 0, .int 0, .int 0, .int 0]) := (congrFun e_f10 qmd6).trans (z_up_ne (Ne.symm ne_hs_qmd6) hf_qmd6)
  have hf_qmd7 : f10 qmd7 = .inr (0, [.int 0, .int 0, .int 0, .int 0, .int 0, .int 0, .int 0, .int 0]) := (congrFun e_f10 qmd7).trans (z_up_ne (Ne.symm ne_hs_qmd7) hf_qmd7)
  have hf_qmd8 : f10 qmd8 = .inr (0, [.int 0, .int 0, .int 0, .int 0, .int 0, .int 0, .int 0, .int 0]) := (congrFun e_f10 qmd8).trans (z_up_ne (Ne.symm ne_hs_qmd8) hf_qmd8)
  have hf_qmd9 : f10 qmd9 = .inr (0, [.int 0, .int 0, .int 0, .int 0, .int 0, .int 0, .int 0, .int 0]) := (congrFun e_f10 qmd9).trans (z_up_ne (Ne.symm ne_hs_qmd9) hf_qmd9)
  have hf_qmd10 : f10 qmd10 = .inr (0, [.int 0, .int 0, .int 0, .int 0, .int 0, .int 0, .int 0, .int 0]) := (congrFun e_f10 qmd10).trans (z_up_ne (Ne.symm ne_hs_qmd10) hf_qmd10)
  have hf_qmd11 : f10 qmd11 = .inr (0, [.int 0, .int 0, .int 0, .int 0, .int 0, .int 0, .int 0, .int 0]) := (congrFun e_f10 qmd11).trans (z_up_ne (Ne.symm ne_hs_qmd11) hf_qmd11)
  have hf_qmd12 : f10 qmd12 = .inr (0, [.int 0, .int 0, .int 0, .int 0, .int 0, .int 0, .int 0, .int 0]) := (congrFun e_f10 qmd12).trans (z_up_ne (Ne.symm ne_hs_qmd12) hf_qmd12)
  have hf_hs : f10 hs = .inr (9, [.ref qtp, .null, .ref qmmo, .null, .null, .null, .null, .null, .null, .null, .null]) := (congrFun e_f10 hs).trans z_up_self
  have hck_T : ∀ b ∈ L3, b ≠ hs → f10 b = f5 b := fun b hb h_hs => (congrFun e_f10 b).trans (z_up_ne h_hs (hck_T b hb h_hs))
  have hfr : ∀ b ∈ L, b ≠ hs → f10 b = f b := fun b hb h0 => (congrFun e_f10 b).trans (z_up_ne h0 (hfr b hb h0))
  have h0_qmmo := hf_qmmo
  have m0_qmmo := hm_qmmo
  have h0_qmla := hf_qmla
  have m0_qmla := hm_qmla
  have h0_qmsa := hf_qmsa
  have m0_qmsa := hm_qmsa
  have h0_qmmi := hf_qmmi
  have m0_qmmi := hm_qmmi
  have h0_qmda := hf_qmda
  have m0_qmda := hm_qmda
  have h0_qmd0 := hf_qmd0
  have m0_qmd0 := hm_qmd0
  have h0_qmd1 := hf_qmd1
  have m0_qmd1 := hm_qmd1
  have h0_qmd2 := hf_qmd2
  have m0_qmd2 := hm_qmd2
  have h0_qmd3 := hf_qmd3
  have m0_qmd3 := hm_qmd3
  have h0_qmd4 := hf_qmd4
  have m0_qmd4 := hm_qmd4
  have h0_qmd5 := hf_qmd5
  have m0_qmd5 := hm_qmd5
  have h0_qmd6 := hf_qmd6
  have m0_qmd6 := hm_qmd6
  have h0_qmd7 := hf_qmd7
  have m0_qmd7 := hm_qmd7
  have h0_qmd8 := hf_qmd8
  have m0_qmd8 := hm_qmd8
  have h0_qmd9 := hf_qmd9
  have m0_qmd9 := hm_qmd9
  have h0_qmd10 := hf_qmd10
  have m0_qmd10 := hm_qmd10
  have h0_qmd11 := hf_qmd11
  have m0_qmd11 := hm_qmd11
  have h0_qmd12 := hf_qmd12
  have m0_qmd12 := hm_qmd12
  have hck_M : ∀ b ∈ L8, b ≠ hs → f10 b = f10 b := fun _ _ _ => rfl
  have hcs_M : ∀ b ∈ L8, b ∈ L8 := fun _ h => h
  refine lv_aload_n hx hb dX9_init_26 rfl (lv_at hl 0 rfl) ?_
  refine z_new (C := RX2) (T := TX2) (N := 11) (ci := 2) (fs := [.int 0, .int 0, .int 0, .int 0, .int 0, .int 0, .int 0, .null, .null, .null, .null]) (cells := 20) (slots := 1775) hx hb hT zin_X2 tyX2_ok hown (hT _ kw_128) (hT _ kw_129) (hT _ kw_87) hK hw hA rfl (fun j hj => by rcases (show j = 0 ∨ j = 1 ∨ j = 2 ∨ j = 3 ∨ j = 4 ∨ j = 5 ∨ j = 6 ∨ j = 7 ∨ j = 8 ∨ j = 9 ∨ j = 10 by omega) with rfl | rfl | rfl | rfl | rfl | rfl | rfl | rfl | rfl | rfl | rfl <;> rfl) (by decide) (by decide) dX9_init_27 (fun qxmo H hq_qxmo hw => ?_)
  refine W.widen (k := 21) (n := 1786) (by decide) (by decide) ?_
  have ne_hs_qxmo : hs ≠ qxmo := z_ne hm_hs hq_qxmo
  have hn_qxmo : qxmo ∉ L := fun h => hq_qxmo (hsub _ h)
  obtain ⟨f12, e_f12⟩ : ∃ z, z = va_up f10 qxmo (.inr (2, [.int 0, .int 0, .int 0, .int 0, .int 0, .int 0, .int 0, .null, .null, .null, .null])) := ⟨_, rfl⟩
  obtain ⟨L11, e_L11⟩ : ∃ z, z = L8 ++ [qxmo] := ⟨_, rfl⟩
  rw [← e_f12, ← e_L11] at hw
  have hm_hs : hs ∈ L11 := by rw [e_L11]; exact List.mem_append_left _ hm_hs
  have hf_hs : f12 hs = .inr (9, [.ref qtp, .null, .ref qmmo, .null, .null, .null, .null, .null, .null, .null, .null]) := (congrFun e_f12 hs).trans (z_up_ne ne_hs_qxmo hf_hs)
  have hm_qxmo : qxmo ∈ L11 := by rw [e_L11]; exact List.mem_append_right _ (List.mem_singleton.mpr rfl)
  have hf_qxmo : f12 qxmo = .inr (2, [.int 0, .int 0, .int 0, .int 0, .int 0, .int 0, .int 0, .null, .null, .null, .null]) := (congrFun e_f12 qxmo).trans z_up_self
  have hsub : ∀ b ∈ L, b ∈ L11 := fun b h => by rw [e_L11]; exact List.mem_append_left _ (hsub b h)
  have hfr : ∀ b ∈ L, b ≠ hs → f12 b = f b := fun b hb h0 => (congrFun e_f12 b).trans (z_up_ne (z_ne hb hn_qxmo) (hfr b hb h0))
  have hnk_T_qxmo : qxmo ∉ L3 := fun h => hq_qxmo (hcs_T _ h)
  have hcs_T : ∀ b ∈ L3, b ∈ L11 := fun b h => by rw [e_L11]; exact List.mem_append_left _ (hcs_T b h)
  have hck_T : ∀ b ∈ L3, b ≠ hs → f12 b = f5 b := fun b hb h_hs => (congrFun e_f12 b).trans (z_up_ne (z_ne hb hnk_T_qxmo) (hck_T b hb h_hs))
  have hnk_M_qxmo : qxmo ∉ L8 := fun h => hq_qxmo (hcs_M _ h)
  have hcs_M : ∀ b ∈ L8, b ∈ L11 := fun b h => by rw [e_L11]; exact List.mem_append_left _ (hcs_M b h)
  have hck_M : ∀ b ∈ L8, b ≠ hs → f12 b = f10 b := fun b hb h_hs => (congrFun e_f12 b).trans (z_up_ne (z_ne hb hnk_M_qxmo) (hck_M b hb h_hs))
  refine lv_dup hx hb dX9_init_30 rfl ?_
  refine z_callvI (cells := 21) (slots := 1786) (b := qxmo) (As := []) (rest := [.ref qxmo, .ref hs]) ⟨hx, hb, hml, hown, hT⟩ (c_X2_init l hm_qxmo hf_qxmo) (cwI 0 hT (z_goodI (fun _ h => h) kw_132) rfl rfl rfl (hT _ kw_87) (hT _ kw_130) (hT _ kw_131) rfl (by decide +kernel) ⟨by decide, by decide⟩) z_mv hKK hw hA rfl hl.1 rfl (Nat.le_of_ble_eq_true rfl) dX9_init_31 ⟨by decide, by decide⟩ (fun u H locs hp hw => ?_)
  refine W.widen (k := 38) (n := 1948) (by decide) (by decide) ?_
  obtain ⟨L13, f14⟩ := u
  obtain ⟨hsb, hfm, qxla, qxsa, qxmi, qxda, qxd0, qxd1, qxd2, qxd3, qxd4, qxd5, qxd6, qxd7, qxd8, qxd9, qxd10, qxd11, qxd12, qxgd, ha_0, ⟨hq_qxla, hm_qxla, hf_qxla⟩, ⟨hq_qxsa, hm_qxsa, hf_qxsa⟩, ⟨hq_qxmi, hm_qxmi, hf_qxmi⟩, ⟨hq_qxda, hm_qxda, hf_qxda⟩, ⟨hq_qxd0, hm_qxd0, hf_qxd0⟩, ⟨hq_qxd1, hm_qxd1, hf_qxd1⟩, ⟨hq_qxd2, hm_qxd2, hf_qxd2⟩, ⟨hq_qxd3, hm_qxd3, hf_qxd3⟩, ⟨hq_qxd4, hm_qxd4, hf_qxd4⟩, ⟨hq_qxd5, hm_qxd5, hf_qxd5⟩, ⟨hq_qxd6, hm_qxd6, hf_qxd6⟩, ⟨hq_qxd7, hm_qxd7, hf_qxd7⟩, ⟨hq_qxd8, hm_qxd8, hf_qxd8⟩, ⟨hq_qxd9, hm_qxd9, hf_qxd9⟩, ⟨hq_qxd10, hm_qxd10, hf_qxd10⟩, ⟨hq_qxd11, hm_qxd11, hf_qxd11⟩, ⟨hq_qxd12, hm_qxd12, hf_qxd12⟩, hp⟩ := hp
  have hw : z_H D vwCl (z_A L sz) s.heap L13 f14 H locs := hw
  have ne_hs_qxla : hs ≠ qxla := z_ne hm_hs hq_qxla
  have ne_qxmo_qxla : qxmo ≠ qxla := z_ne hm_qxmo hq_qxla
  have ne_hs_qxsa : hs ≠ qxsa := z_ne hm_hs hq_qxsa
  have ne_qxmo_qxsa : qxmo ≠ qxsa := z_ne hm_qxmo hq_qxsa
  have ne_hs_qxmi : hs ≠ qxmi := z_ne hm_hs hq_qxmi
  have ne_qxmo_qxmi : qxmo ≠ qxmi := z_ne hm_qxmo hq_qxmi
  have ne_hs_qxda : hs ≠ qxda := z_ne hm_hs hq_qxda
  have ne_qxmo_qxda : qxmo ≠ qxda := z_ne hm_qxmo hq_qxda
  have ne_hs_qxd0 : hs ≠ qxd0 := z_ne hm_hs hq_qxd0
  have ne_qxmo_qxd0 : qxmo ≠ qxd0 := z_ne hm_qxmo hq_qxd0
  have ne_hs_qxd1 : hs ≠ qxd1 := z_ne hm_hs hq_qxd1
  have ne_qxmo_qxd1 : qxmo ≠ qxd1 := z_ne hm_qxmo hq_qxd1
  have ne_hs_qxd2 : hs ≠ qxd2 := z_ne hm_hs hq_qxd2
  have ne_qxmo_qxd2 : qxmo ≠ qxd2 := z_ne hm_qxmo hq_qxd2
  have ne_hs_qxd3 : hs ≠ qxd3 := z_ne hm_hs hq_qxd3
  have ne_qxmo_qxd3 : qxmo ≠ qxd3 := z_ne hm_qxmo hq_qxd3
  have ne_hs_qxd4 : hs ≠ qxd4 := z_ne hm_hs hq_qxd4
  have ne_qxmo_qxd4 : qxmo ≠ qxd4 := z_ne hm_qxmo hq_qxd4
  have ne_hs_qxd5 : hs ≠ qxd5 := z_ne hm_hs hq_qxd5
  have ne_qxmo_qxd5 : qxmo ≠ qxd5 := z_ne hm_qxmo hq_qxd5
  have ne_hs_qxd6 : hs ≠ qxd6 := z_ne hm_hs hq_qxd6
  have ne_qxmo_qxd6 : qxmo ≠ qxd6 := z_ne hm_qxmo hq_qxd6
  have ne_hs_qxd7 : hs ≠ qxd7 := z_ne hm_hs hq_qxd7
  have ne_qxmo_qxd7 : qxmo ≠ qxd7 := z_ne hm_qxmo hq_qxd7
  have ne_hs_qxd8 : hs ≠ qxd8 := z_ne hm_hs hq_qxd8
  have ne_qxmo_qxd8 : qxmo ≠ qxd8 := z_ne hm_qxmo hq_qxd8
  have ne_hs_qxd9 : hs ≠ qxd9 := z_ne hm_hs hq_qxd9
  have ne_qxmo_qxd9 : qxmo ≠ qxd9 := z_ne hm_qxmo hq_qxd9
  have ne_hs_qxd10 : hs ≠ qxd10 := z_ne hm_hs hq_qxd10
  have ne_qxmo_qxd10 : qxmo ≠ qxd10 := z_ne hm_qxmo hq_qxd10
  have ne_hs_qxd11 : hs ≠ qxd11 := z_ne hm_hs hq_qxd11
  have ne_qxmo_qxd11 : qxmo ≠ qxd11 := z_ne hm_qxmo hq_qxd11
  have ne_hs_qxd12 : hs ≠ qxd12 := z_ne hm_hs hq_qxd12
  have ne_qxmo_qxd12 : qxmo ≠ qxd12 := z_ne hm_qxmo hq_qxd12
  have hfr : ∀ b ∈ L, b ≠ hs → f14 b = f b := fun b hb h0 => (hfm b (hsub b hb) (z_ne hb hn_qxmo)).trans (hfr b hb h0)
  have hn_qxla : qxla ∉ L := fun h => hq_qxla (hsub _ h)
  have hn_qxsa : qxsa ∉ L := fun h => hq_qxsa (hsub _ h)
  have hn_qxmi : qxmi ∉ L := fun h => hq_qxmi (hsub _ h)
  have hn_qxda : qxda ∉ L := fun h => hq_qxda (hsub _ h)
  have hn_qxd0 : qxd0 ∉ L := fun h => hq_qxd0 (hsub _ h)
  have hn_qxd1 : qxd1 ∉ L := fun h => hq_qxd1 (hsub _ h)
  have hn_qxd2 : qxd2 ∉ L := fun h => hq_qxd2 (hsub _ h)
  have hn_qxd3 : qxd3 ∉ L := fun h => hq_qxd3 (hsub _ h)
  have hn_qxd4 : qxd4 ∉ L := fun h => hq_qxd4 (hsub _ h)
  have hn_qxd5 : qxd5 ∉ L := fun h => hq_qxd5 (hsub _ h)
  have hn_qxd6 : qxd6 ∉ L := fun h => hq_qxd6 (hsub _ h)
  have hn_qxd7 : qxd7 ∉ L := fun h => hq_qxd7 (hsub _ h)
  have hn_qxd8 : qxd8 ∉ L := fun h => hq_qxd8 (hsub _ h)
  have hn_qxd9 : qxd9 ∉ L := fun h => hq_qxd9 (hsub _ h)
  have hn_qxd10 : qxd10 ∉ L := fun h => hq_qxd10 (hsub _ h)
  have hn_qxd11 : qxd11 ∉ L := fun h => hq_qxd11 (hsub _ h)
  have hn_qxd12 : qxd12 ∉ L := fun h => hq_qxd12 (hsub _ h)
  have hsub : ∀ b ∈ L, b ∈ L13 := fun b h => hsb b (hsub b h)
  have hck_T : ∀ b ∈ L3, b ≠ hs → f14 b = f5 b := fun b hb h_hs => (hfm b (hcs_T b hb) (z_ne hb hnk_T_qxmo)).trans (hck_T b hb h_hs)
  have hcs_T : ∀ b ∈ L3, b ∈ L13 := fun b h => hsb b (hcs_T b h)
  have hck_M : ∀ b ∈ L8, b ≠ hs → f14 b = f10 b := fun b hb h_hs => (hfm b (hcs_M b hb) (z_ne hb hnk_M_qxmo)).trans (hck_M b hb h_hs)
  have hcs_M : ∀ b ∈ L8, b ∈ L13 := fun b h => hsb b (hcs_M b h)
  have hf_hs : f14 hs = .inr (9, [.ref qtp, .null, .ref qmmo, .null, .null, .null, .null, .null, .null, .null, .null]) := (hfm hs hm_hs ne_hs_qxmo).trans hf_hs
  have hm_hs : hs ∈ L13 := hsb _ hm_hs
  have hm_qxmo : qxmo ∈ L13 := hsb _ hm_qxmo
  have hf_qxmo : f14 qxmo = .inr (2, [.int 0, .int 0, .int 0, .int 0, .int 0, .int 0, .int 0, .ref qxla, .ref qxsa, .ref qxmi, .ref qxda]) := ha_0
  have hf_qxla : f14 qxla = .inl (cy 1, 5, .inl (fun _ => 0)) := hf_qxla
  have hm_qxla : qxla ∈ L13 := hm_qxla
  have hf_qxsa : f14 qxsa = .inl (cy 1, 4, .inl (fun _ => 0)) := hf_qxsa
  have hm_qxsa : qxsa ∈ L13 := hm_qxsa
  have hf_qxmi : f14 qxmi = .inl (cy 1, 36, .inl (fun _ => 0)) := hf_qxmi
  have hm_qxmi : qxmi ∈ L13 := hm_qxmi
  have hf_qxda : f14 qxda = .inl (cy 4, 13, .inr (.inr (.inr (.inr qxgd)))) := hf_qxda
  have hm_qxda : qxda ∈ L13 := hm_qxda
  have hf_qxd0 : f14 qxd0 = .inr (0, [.int 0, .int 0, .int 0, .int 0, .int 0, .int 0, .int 0, .int 0]) := hf_qxd0
  have hm_qxd0 : qxd0 ∈ L13 := hm_qxd0
  have hf_qxd1 : f14 qxd1 = .inr (0, [.int 0, .int 0, .int 0, .int 0, .int 0, .int 0, .int 0, .int 0]) := hf_qxd1
  have hm_qxd1 : qxd1 ∈ L13 := hm_qxd1
  have hf_qxd2 : f14 qxd2 = .inr (0, [.int 0, .int 0, .int 0, .int 0, .int 0, .int 0, .int 0, .int 0]) := hf_qxd2
  have hm_qxd2 : qxd2 ∈ L13 := hm_qxd2
  have hf_qxd3 : f14 qxd3 = .inr (0, [.int 0, .int 0, .int 0, .int 0, .int 0, .int 0, .int 0, .int 0]) := hf_qxd3
  have hm_qxd3 : qxd3 ∈ L13 := hm_qxd3
  have hf_qxd4 : f14 qxd4 = .inr (0, [.int 0, .int 0, .int 0, .int 0, .int 0, .int 0, .int 0, .int 0]) := hf_qxd4
  have hm_qxd4 : qxd4 ∈ L13 := hm_qxd4
  have hf_qxd5 : f14 qxd5 = .inr (0, [.int 0, .int 0, .int 0, .int 0, .int 0, .int 0, .int 0, .int 0]) := hf_qxd5
  have hm_qxd5 : qxd5 ∈ L13 := hm_qxd5
  have hf_qxd6 : f14 qxd6 = .inr (0, [.int 0, .int 0, .int 0, .int 0, .int 0, .int 0, .int 0, .int 0]) := hf_qxd6
  have hm_qxd6 : qxd6 ∈ L13 := hm_qxd6
  have hf_qxd7 : f14 qxd7 = .inr (0, [.int 0, .int 0, .int 0, .int 0, .int 0, .int 0, .int 0, .int 0]) := hf_qxd7
  have hm_qxd7 : qxd7 ∈ L13 := hm_qxd7
  have hf_qxd8 : f14 qxd8 = .inr (0, [.int 0, .int 0, .int 0, .int 0, .int 0, .int 0, .int 0, .int 0]) := hf_qxd8
  have hm_qxd8 : qxd8 ∈ L13 := hm_qxd8
  have hf_qxd9 : f14 qxd9 = .inr (0, [.int 0, .int 0, .int 0, .int 0, .int 0, .int 0, .int 0, .int 0]) := hf_qxd9
  have hm_qxd9 : qxd9 ∈ L13 := hm_qxd9
  have hf_qxd10 : f14 qxd10 = .inr (0, [.int 0, .int 0, .int 0, .int 0, .int 0, .int 0, .int 0, .int 0]) := hf_qxd10
  have hm_qxd10 : qxd10 ∈ L13 := hm_qxd10
  have hf_qxd11 : f14 qxd11 = .inr (0, [.int 0, .int 0, .int 0, .int 0, .int 0, .int 0, .int 0, .int 0]) := hf_qxd11
  have hm_qxd11 : qxd11 ∈ L13 := hm_qxd11
  have hf_qxd12 : f14 qxd12 = .inr (0, [.int 0, .int 0, .int 0, .int 0, .int 0, .int 0, .int 0, .int 0]) := hf_qxd12
  have hm_qxd12 : qxd12 ∈ L13 := hm_qxd12
  have e_L13 : L13 = L11 ++ [qxla, qxsa, qxmi, qxda, qxd0, qxd1, qxd2, qxd3, qxd4, qxd5, qxd6, qxd7, qxd8, qxd9, qxd10, qxd11, qxd12] := hp.1
  have hgd_x := hp.2
  refine z_putF (C := RX9) (T := TX9) (N := 11) (ci := 9) (v := .ref qxmo) (fs' := [.ref qtp, .null, .ref qmmo, .ref qxmo, .null, .null, .null, .null, .null, .null, .null]) hx hb hT zin_X9 tyX9_ok nmX9 hown hK hw hm_hs hf_hs rfl 3 (by decide) (hT _ kw_480) rfl hnm rfl rfl rfl (Nat.le_of_ble_eq_true rfl) rfl dX9_init_34 (fun H locs hw => ?_)
  obtain ⟨f15, e_f15⟩ : ∃ z, z = va_up f14 hs (.inr (9, [.ref qtp, .null, .ref qmmo, .ref qxmo, .null, .null, .null, .null, .null, .null, .null])) := ⟨_, rfl⟩
  rw [← e_f15] at hw
  have hf_qxmo : f15 qxmo = .inr (2, [.int 0, .int 0, .int 0, .int 0, .int 0, .int 0, .int 0, .ref qxla, .ref qxsa, .ref qxmi, .ref qxda]) := (congrFun e_f15 qxmo).trans (z_up_ne (Ne.symm ne_hs_qxmo) hf_qxmo)
  have hf_qxla : f15 qxla = .inl (cy 1, 5, .inl (fun _ => 0)) := (congrFun e_f15 qxla).trans (z_up_ne (Ne.symm ne_hs_qxla) hf_qxla)
  have hf_qxsa : f15 qxsa = .inl (cy 1, 4, .inl (fun _ => 0)) := (congrFun e_f15 qxsa).trans (z_up_ne (Ne.symm ne_hs_qxsa) hf_qxsa)
  have hf_qxmi : f15 qxmi = .inl (cy 1, 36, .inl (fun _ => 0)) := (congrFun e_f15 qxmi).trans (z_up_ne (Ne.symm ne_hs_qxmi) hf_qxmi)
  have hf_qxda : f15 qxda = .inl (cy 4, 13, .inr (.inr (.inr (.inr qxgd)))) := (congrFun e_f15 qxda).trans (z_up_ne (Ne.symm ne_hs_qxda) hf_qxda)
  have hf_qxd0 : f15 qxd0 = .inr (0, [.int 0, .int 0, .int 0, .int 0, .int 0, .int 0, .int 0, .int 0]) := (congrFun e_f15 qxd0).trans (z_up_ne (Ne.symm ne_hs_qxd0) hf_qxd0)
  have hf_qxd1 : f15 qxd1 = .inr (0, [.int 0, .int 0, .int 0, .int 0, .int 0, .int 0, .int 0, .int 0]) := (congrFun e_f15 qxd1).trans (z_up_ne (Ne.symm ne_hs_qxd1) hf_qxd1)
  have hf_qxd2 : f15 qxd2 = .inr (0, [.int 0, .int 0, .int 0, .int 0, .int 0, .int 0, .int 0, .int 0]) := (congrFun e_f15 qxd2).trans (z_up_ne (Ne.symm ne_hs_qxd2) hf_qxd2)
  have hf_qxd3 : f15 qxd3 = .inr (0, [.int 0, .int 0, .int 0, .int 0, .int 0, .int 0, .int 0, .int 0]) := (congrFun e_f15 qxd3).trans (z_up_ne (Ne.symm ne_hs_qxd3) hf_qxd3)
  have hf_qxd4 : f15 qxd4 = .inr (0, [.int 0, .int 0, .int 0, .int 0, .int 0, .int 0, .int 0, .int 0]) := (congrFun e_f15 qxd4).trans (z_up_ne (Ne.symm ne_hs_qxd4) hf_qxd4)
  have hf_qxd5 : f15 qxd5 = .inr (0, [.int 0, .int 0, .int 0, .int 0, .int 0, .int 0, .int 0, .int 0]) := (congrFun e_f15 qxd5).trans (z_up_ne (Ne.symm ne_hs_qxd5) hf_qxd5)
  have hf_qxd6 : f15 qxd6 = .inr (0, [.int 0, .int 0, .int 0, .int 0, .int 0, .int 0, .int 0, .int 0]) := (congrFun e_f15 qxd6).trans (z_up_ne (Ne.symm ne_hs_qxd6) hf_qxd6)
  have hf_qxd7 : f15 qxd7 = .inr (0, [.int 0, .int 0, .int 0, .int 0, .int 0, .int 0, .int 0, .int 0]) := (congrFun e_f15 qxd7).trans (z_up_ne (Ne.symm ne_hs_qxd7) hf_qxd7)
  have hf_qxd8 : f15 qxd8 = .inr (0, [.int 0, .int 0, .int 0, .int 0, .int 0, .int 0, .int 0, .int 0]) := (congrFun e_f15 qxd8).trans (z_up_ne (Ne.symm ne_hs_qxd8) hf_qxd8)
  have hf_qxd9 : f15 qxd9 = .inr (0, [.int 0, .int 0, .int 0, .int 0, .int 0, .int 0, .int 0, .int 0]) := (congrFun e_f15 qxd9).trans (z_up_ne (Ne.symm ne_hs_qxd9) hf_qxd9)
  have hf_qxd10 : f15 qxd10 = .inr (0, [.int 0, .int 0, .int 0, .int 0, .int 0, .int 0, .int 0, .int 0]) := (congrFun e_f15 qxd10).trans (z_up_ne (Ne.symm ne_hs_qxd10) hf_qxd10)
  have hf_qxd11 : f15 qxd11 = .inr (0, [.int 0, .int 0, .int 0, .int 0, .int 0, .int 0, .int 0, .int 0]) := (congrFun e_f15 qxd11).trans (z_up_ne (Ne.symm ne_hs_qxd11) hf_qxd11)
  have hf_qxd12 : f15 qxd12 = .inr (0, [.int 0, .int 0, .int 0, .int 0, .int 0, .int 0, .int 0, .int 0]) := (congrFun e_f15 qxd12).trans (z_up_ne (Ne.symm ne_hs_qxd12) hf_qxd12)
  have hf_hs : f15 hs = .inr (9, [.ref qtp, .null, .ref qmmo, .ref qxmo, .null, .null, .null, .null, .null, .null, .null]) := (congrFun e_f15 hs).trans z_up_self
  have hck_T : ∀ b ∈ L3, b ≠ hs → f15 b = f5 b := fun b hb h_hs => (congrFun e_f15 b).trans (z_up_ne h_hs (hck_T b hb h_hs))
  have hck_M : ∀ b ∈ L8, b ≠ hs → f15 b = f10 b := fun b hb h_hs => (congrFun e_f15 b).trans (z_up_ne h_hs (hck_M b hb h_hs))
  have hfr : ∀ b ∈ L, b ≠ hs → f15 b = f b := fun b hb h0 => (congrFun e_f15 b).trans (z_up_ne h0 (hfr b hb h0))
  have h0_qxmo := hf_qxmo
  have m0_qxmo := hm_qxmo
  have h0_qxla := hf_qxla
  have m0_qxla := hm_qxla
  have h0_qxsa := hf_qxsa
  have m0_qxsa := hm_qxsa
  have h0_qxmi := hf_qxmi
  have m0_qxmi := hm_qxmi
  have h0_qxda := hf_qxda
  have m0_qxda := hm_qxda
  have h0_qxd0 := hf_qxd0
  have m0_qxd0 := hm_qxd0
  have h0_qxd1 := hf_qxd1
  have m0_qxd1 := hm_qxd1
  have h0_qxd2 := hf_qxd2
  have m0_qxd2 := hm_qxd2
  have h0_qxd3 := hf_qxd3
  have m0_qxd3 := hm_qxd3
  have h0_qxd4 := hf_qxd4
  have m0_qxd4 := hm_qxd4
  have h0_qxd5 := hf_qxd5
  have m0_qxd5 := hm_qxd5
  have h0_qxd6 := hf_qxd6
  have m0_qxd6 := hm_qxd6
  have h0_qxd7 := hf_qxd7
  have m0_qxd7 := hm_qxd7
  have h0_qxd8 := hf_qxd8
  have m0_qxd8 := hm_qxd8
  have h0_qxd9 := hf_qxd9
  have m0_qxd9 := hm_qxd9
  have h0_qxd10 := hf_qxd10
  have m0_qxd10 := hm_qxd10
  have h0_qxd11 := hf_qxd11
  have m0_qxd11 := hm_qxd11
  have h0_qxd12 := hf_qxd12
  have m0_qxd12 := hm_qxd12
  have hck_F : ∀ b ∈ L13, b ≠ hs → f15 b = f15 b := fun _ _ _ => rfl
  have hcs_F : ∀ b ∈ L13, b ∈ L13 := fun _ h => h
  refine lv_aload_n hx hb dX9_init_37 rfl (lv_at hl 0 rfl) ?_
  refine z_new (C := RX5) (T := TX5) (N := 9) (ci := 5) (fs := [.int 0, .int 0, .null, .null, .int 0, .int 0, .int 0, .int 0, .int 0]) (cells := 38) (slots := 1948) hx hb hT zin_X5 tyX5_ok hown (hT _ kw_271) (hT _ kw_272) (hT _ kw_89) hK hw hA rfl (fun j hj => by rcases (show j = 0 ∨ j = 1 ∨ j = 2 ∨ j = 3 ∨ j = 4 ∨ j = 5 ∨ j = 6 ∨ j = 7 ∨ j = 8 by omega) with rfl | rfl | rfl | rfl | rfl | rfl | rfl | rfl | rfl <;> rfl) (by decide) (by decide) dX9_init_38 (fun qrd H hq_qrd hw => ?_)
  refine W.widen (k := 39) (n := 1957) (by decide) (by decide) ?_
  have ne_hs_qrd : hs ≠ qrd := z_ne hm_hs hq_qrd
  have hn_qrd : qrd ∉ L := fun h => hq_qrd (hsub _ h)
  obtain ⟨f17, e_f17⟩ : ∃ z, z = va_up f15 qrd (.inr (5, [.int 0, .int 0, .null, .null, .int 0, .int 0, .int 0, .int 0, .int 0])) := ⟨_, rfl⟩
  obtain ⟨L16, e_L16⟩ : ∃ z, z = L13 ++ [qrd] := ⟨_, rfl⟩
  rw [← e_f17, ← e_L16] at hw
  have hm_hs : hs ∈ L16 := by rw [e_L16]; exact List.mem_append_left _ hm_hs
  have hf_hs : f17 hs = .inr (9, [.ref qtp, .null, .ref qmmo, .ref qxmo, .null, .null, .null, .null, .null, .null, .null]) := (congrFun e_f17 hs).trans (z_up_ne ne_hs_qrd hf_hs)
  have hm_qrd : qrd ∈ L16 := by rw [e_L16]; exact List.mem_append_right _ (List.mem_singleton.mpr rfl)
  have hf_qrd : f17 qrd = .inr (5, [.int 0, .int 0, .null, .null, .int 0, .int 0, .int 0, .int 0, .int 0]) := (congrFun e_f17 qrd).trans z_up_self
  have hsub : ∀ b ∈ L, b ∈ L16 := fun b h => by rw [e_L16]; exact List.mem_append_left _ (hsub b h)
  have hfr : ∀ b ∈ L, b ≠ hs → f17 b = f b := fun b hb h0 => (congrFun e_f17 b).trans (z_up_ne (z_ne hb hn_qrd) (hfr b hb h0))
  have hnk_T_qrd : qrd ∉ L3 := fun h => hq_qrd (hcs_T _ h)
  have hcs_T : ∀ b ∈ L3, b ∈ L16 := fun b h => by rw [e_L16]; exact List.mem_append_left _ (hcs_T b h)
  have hck_T : ∀ b ∈ L3, b ≠ hs → f17 b = f5 b := fun b hb h_hs => (congrFun e_f17 b).trans (z_up_ne (z_ne hb hnk_T_qrd) (hck_T b hb h_hs))
  have hnk_M_qrd : qrd ∉ L8 := fun h => hq_qrd (hcs_M _ h)
  have hcs_M : ∀ b ∈ L8, b ∈ L16 := fun b h => by rw [e_L16]; exact List.mem_append_left _ (hcs_M b h)
  have hck_M : ∀ b ∈ L8, b ≠ hs → f17 b = f10 b := fun b hb h_hs => (congrFun e_f17 b).trans (z_up_ne (z_ne hb hnk_M_qrd) (hck_M b hb h_hs))
  have hnk_F_qrd : qrd ∉ L13 := fun h => hq_qrd (hcs_F _ h)
  have hcs_F : ∀ b ∈ L13, b ∈ L16 := fun b h => by rw [e_L16]; exact List.mem_append_left _ (hcs_F b h)
  have hck_F : ∀ b ∈ L13, b ≠ hs → f17 b = f15 b := fun b hb h_hs => (congrFun e_f17 b).trans (z_up_ne (z_ne hb hnk_F_qrd) (hck_F b hb h_hs))
  refine lv_dup hx hb dX9_init_41 rfl ?_
  refine lv_aload_n hx hb dX9_init_42 rfl (lv_at hl 0 rfl) ?_
  refine z_get (C := RX9) (T := TX9) (N := 11) (ci := 9) (v := .ref qtp) hx hb hT zin_X9 hown hK hw hm_hs hf_hs rfl 0 (by decide) (hT _ kw_477) rfl dX9_init_43 ?_
  refine lv_aload_n hx hb dX9_init_46 rfl (lv_at hl 0 rfl) ?_
  refine z_get (C := RX9) (T := TX9) (N := 11) (ci := 9) (v := .ref qxmo) hx hb hT zin_X9 hown hK hw hm_hs hf_hs rfl 3 (by decide) (hT _ kw_480) rfl dX9_init_47 ?_
  refine z_callvI (cells := 39) (slots := 1957) (b := qrd) (As := [.ref qtp, .ref qxmo]) (rest := [.ref qrd, .ref hs]) ⟨hx, hb, hml, hown, hT⟩ (c_X5_init l hm_qrd hf_qrd) (cwI 2 hT (z_goodI (fun _ h => h) kw_275) rfl rfl rfl (hT _ kw_89) (hT _ kw_273) (hT _ kw_274) rfl (by decide +kernel) ⟨by decide, by decide⟩) z_mv hKK hw hA rfl hl.1 rfl (Nat.le_of_ble_eq_true rfl) dX9_init_50 ⟨by decide, by decide⟩ (fun u H locs hp hw => ?_)
  obtain ⟨L18, f19⟩ := u
  obtain ⟨hsb, hfm, ha_0, hp⟩ := hp
  have hsb : L16 = L18 := hsb
  subst hsb
  have hsb : ∀ b ∈ L16, b ∈ L16 := fun _ h => h
  have hw : z_H D vwCl (z_A L sz) s.heap L16 f19 H locs := hw
  have hfr : ∀ b ∈ L, b ≠ hs → f19 b = f b := fun b hb h0 => (hfm b (hsub b hb) (z_ne hb hn_qrd)).trans (hfr b hb h0)
  have hck_T : ∀ b ∈ L3, b ≠ hs → f19 b = f5 b := fun b hb h_hs => (hfm b (hcs_T b hb) (z_ne hb hnk_T_qrd)).trans (hck_T b hb h_hs)
  have hck_M : ∀ b ∈ L8, b ≠ hs → f19 b = f10 b := fun b hb h_hs => (hfm b (hcs_M b hb) (z_ne hb hnk_M_qrd)).trans (hck_M b hb h_hs)
  have hck_F : ∀ b ∈ L13, b ≠ hs → f19 b = f15 b := fun b hb h_hs => (hfm b (hcs_F b hb) (z_ne hb hnk_F_qrd)).trans (hck_F b hb h_hs)
  have hf_hs : f19 hs = .inr (9, [.ref qtp, .null, .ref qmmo, .ref qxmo, .null, .null, .null, .null, .null, .null, .null]) := (hfm hs hm_hs ne_hs_qrd).trans hf_hs
  have hf_qrd : f19 qrd = .inr (5, [.int 0, .int (-1), .ref qtp, .ref qxmo, .int 0, .int 0, .int 0, .int 0, .int 0]) := ha_0
  refine z_putF (C := RX9) (T := TX9) (N := 11) (ci := 9) (v := .ref qrd) (fs' := [.ref qtp, .ref qrd, .ref qmmo, .ref qxmo, .null, .null, .null, .null, .null, .null, .null]) hx hb hT zin_X9 tyX9_ok nmX9 hown hK hw hm_hs hf_hs rfl 1 (by decide) (hT _ kw_478) rfl hnm rfl rfl rfl (Nat.le_of_ble_eq_true rfl) rfl dX9_init_53 (fun H locs hw => ?_)
  obtain ⟨f20, e_f20⟩ : ∃ z, z = va_up f19 hs (.inr (9, [.ref qtp, .ref qrd, .ref qmmo, .ref qxmo, .null, .null, .null, .null, .null, .null, .null])) := ⟨_, rfl⟩
  rw [← e_f20] at hw
  have hf_qrd : f20 qrd = .inr (5, [.int 0, .int (-1), .ref qtp, .ref qxmo, .int 0, .int 0, .int 0, .int 0, .int 0]) := (congrFun e_f20 qrd).trans (z_up_ne (Ne.symm ne_hs_qrd) hf_qrd)
  have hf_hs : f20 hs = .inr (9, [.ref qtp, .ref qrd, .ref qmmo, .ref qxmo, .null, .null, .null, .null, .null, .null, .null]) := (congrFun e_f20 hs).trans z_up_self
  have hck_T : ∀ b ∈ L3, b ≠ hs → f20 b = f5 b := fun b hb h_hs => (congrFun e_f20 b).trans (z_up_ne h_hs (hck_T b hb h_hs))
  have hck_M : ∀ b ∈ L8, b ≠ hs → f20 b = f10 b := fun b hb h_hs => (congrFun e_f20 b).trans (z_up_ne h_hs (hck_M b hb h_hs))
  have hck_F : ∀ b ∈ L13, b ≠ hs → f20 b = f15 b := fun b hb h_hs => (congrFun e_f20 b).trans (z_up_ne h_hs (hck_F b hb h_hs))
  have hfr : ∀ b ∈ L, b ≠ hs → f20 b = f b := fun b hb h0 => (congrFun e_f20 b).trans (z_up_ne h0 (hfr b hb h0))
  have h0_qrd := hf_qrd
  have m0_qrd := hm_qrd
  have hck_R : ∀ b ∈ L16, b ≠ hs → f20 b = f20 b := fun _ _ _ => rfl
  have hcs_R : ∀ b ∈ L16, b ∈ L16 := fun _ h => h
  refine lv_aload_n hx hb dX9_init_56 rfl (lv_at hl 0 rfl) ?_
  refine lv_iconst (v := 3) hx hb dX9_init_57 (by decide) ?_
  refine z_newq (n := 3) (N' := 3) (C := RX2) (cells := 39) (slots := 1957) hx hb hown (hT _ kw_128) hKK.1.2.2.1 5 rfl hK hw hA (by decide) (by decide) (by decide) (by decide) (by decide) dX9_init_58 (fun qim H hq_qim hw => ?_)
  refine W.widen (k := 40) (n := 1960) (by decide) (by decide) ?_
  have ne_hs_qim : hs ≠ qim := z_ne hm_hs hq_qim
  have hn_qim : qim ∉ L := fun h => hq_qim (hsub _ h)
  obtain ⟨f22, e_f22⟩ : ∃ z, z = va_up f20 qim (.inl (cy 5, 3, .inr (.inr (.inr (.inr (fun _ => none)))))) := ⟨_, rfl⟩
  obtain ⟨L21, e_L21⟩ : ∃ z, z = L16 ++ [qim] := ⟨_, rfl⟩
  rw [← e_f22, ← e_L21] at hw
  have hm_hs : hs ∈ L21 := by rw [e_L21]; exact List.mem_append_left _ hm_hs
  have hf_hs : f22 hs = .inr (9, [.ref qtp, .ref qrd, .ref qmmo, .ref qxmo, .null, .null, .null, .null, .null, .null, .null]) := (congrFun e_f22 hs).trans (z_up_ne ne_hs_qim hf_hs)
  have hm_qim : qim ∈ L21 := by rw [e_L21]; exact List.mem_append_right _ (List.mem_singleton.mpr rfl)
  have hf_qim : f22 qim = .inl (cy 5, 3, .inr (.inr (.inr (.inr (fun _ => none))))) := (congrFun e_f22 qim).trans z_up_self
  have hsub : ∀ b ∈ L, b ∈ L21 := fun b h => by rw [e_L21]; exact List.mem_append_left _ (hsub b h)
  have hfr : ∀ b ∈ L, b ≠ hs → f22 b = f b := fun b hb h0 => (congrFun e_f22 b).trans (z_up_ne (z_ne hb hn_qim) (hfr b hb h0))
  have hnk_T_qim : qim ∉ L3 := fun h => hq_qim (hcs_T _ h)
  have hcs_T : ∀ b ∈ L3, b ∈ L21 := fun b h => by rw [e_L21]; exact List.mem_append_left _ (hcs_T b h)
  have hck_T : ∀ b ∈ L3, b ≠ hs → f22 b = f5 b := fun b hb h_hs => (congrFun e_f22 b).trans (z_up_ne (z_ne hb hnk_T_qim) (hck_T b hb h_hs))
  have hnk_M_qim : qim ∉ L8 := fun h => hq_qim (hcs_M _ h)
  have hcs_M : ∀ b ∈ L8, b ∈ L21 := fun b h => by rw [e_L21]; exact List.mem_append_left _ (hcs_M b h)
  have hck_M : ∀ b ∈ L8, b ≠ hs → f22 b = f10 b := fun b hb h_hs => (congrFun e_f22 b).trans (z_up_ne (z_ne hb hnk_M_qim) (hck_M b hb h_hs))
  have hnk_F_qim : qim ∉ L13 := fun h => hq_qim (hcs_F _ h)
  have hcs_F : ∀ b ∈ L13, b ∈ L21 := fun b h => by rw [e_L21]; exact List.mem_append_left _ (hcs_F b h)
  have hck_F : ∀ b ∈ L13, b ≠ hs → f22 b = f15 b := fun b hb h_hs => (congrFun e_f22 b).trans (z_up_ne (z_ne hb hnk_F_qim) (hck_F b hb h_hs))
  have hnk_R_qim : qim ∉ L16 := fun h => hq_qim (hcs_R _ h)
  have hcs_R : ∀ b ∈ L16, b ∈ L21 := fun b h => by rw [e_L21]; exact List.mem_append_left _ (hcs_R b h)
  have hck_R : ∀ b ∈ L16, b ≠ hs → f22 b = f20 b := fun b hb h_hs => (congrFun e_f22 b).trans (z_up_ne (z_ne hb hnk_R_qim) (hck_R b hb h_hs))
  refine z_putF (C := RX9) (T := TX9) (N := 11) (ci := 9) (v := .ref qim) (fs' := [.ref qtp, .ref qrd, .ref qmmo, .ref qxmo, .ref qim, .null, .null, .null, .null, .null, .null]) hx hb hT zin_X9 tyX9_ok nmX9 hown hK hw hm_hs hf_hs rfl 4 (by decide) (hT _ kw_481) rfl hnm rfl rfl rfl (Nat.le_of_ble_eq_true rfl) rfl dX9_init_61 (fun H locs hw => ?_)
  obtain ⟨f23, e_f23⟩ : ∃ z, z = va_up f22 hs (.inr (9, [.ref qtp, .ref qrd, .ref qmmo, .ref qxmo, .ref qim, .null, .null, .null, .null, .null, .null])) := ⟨_, rfl⟩
  rw [← e_f23] at hw
  have hf_qim : f23 qim = .inl (cy 5, 3, .inr (.inr (.inr (.inr (fun _ => none))))) := (congrFun e_f23 qim).trans (z_up_ne (Ne.symm ne_hs_qim) hf_qim)
  have hf_hs : f23 hs = .inr (9, [.ref qtp, .ref qrd, .ref qmmo, .ref qxmo, .ref qim, .null, .null, .null, .null, .null, .null]) := (congrFun e_f23 hs).trans z_up_self
  have hck_T : ∀ b ∈ L3, b ≠ hs → f23 b = f5 b := fun b hb h_hs => (congrFun e_f23 b).trans (z_up_ne h_hs (hck_T b hb h_hs))
  have hck_M : ∀ b ∈ L8, b ≠ hs → f23 b = f10 b := fun b hb h_hs => (congrFun e_f23 b).trans (z_up_ne h_hs (hck_M b hb h_hs))
  have hck_F : ∀ b ∈ L13, b ≠ hs → f23 b = f15 b := fun b hb h_hs => (congrFun e_f23 b).trans (z_up_ne h_hs (hck_F b hb h_hs))
  have hck_R : ∀ b ∈ L16, b ≠ hs → f23 b = f20 b := fun b hb h_hs => (congrFun e_f23 b).trans (z_up_ne h_hs (hck_R b hb h_hs))
  have hfr : ∀ b ∈ L, b ≠ hs → f23 b = f b := fun b hb h0 => (congrFun e_f23 b).trans (z_up_ne h0 (hfr b hb h0))
  refine lv_iconst (v := 0) hx hb dX9_init_64 (by decide) ?_
  refine lv_istore_n (lv' := [(1, .int 0), (0, .ref hs)]) hx hb dX9_init_65 rfl hl (by decide) rfl (fun ls hl => ?_)
  refine lv_iload_n hx hb dX9_init_66 rfl (lv_at hl 0 rfl) ?_
  refine lv_iconst (v := 3) hx hb dX9_init_67 (by decide) ?_
  refine z_icmp_ge (tgt := 90) hx hb (show (0 : Int32).toInt = 0 by decide) (show (3 : Int32).toInt = 3 by decide) dX9_init_68 (by decide) (fun h => absurd h (by decide)) (fun _ => ?_)
  refine lv_aload_n hx hb dX9_init_71 rfl (lv_at hl 1 rfl) ?_
  refine z_get (C := RX9) (T := TX9) (N := 11) (ci := 9) (v := .ref qim) hx hb hT zin_X9 hown hK hw hm_hs hf_hs rfl 4 (by decide) (hT _ kw_481) rfl dX9_init_72 ?_
  refine lv_iload_n hx hb dX9_init_75 rfl (lv_at hl 0 rfl) ?_
  refine z_new (C := RX2) (T := TX2) (N := 11) (ci := 2) (fs := [.int 0, .int 0, .int 0, .int 0, .int 0, .int 0, .int 0, .null, .null, .null, .null]) (cells := 40) (slots := 1960) hx hb hT zin_X2 tyX2_ok hown (hT _ kw_128) (hT _ kw_129) (hT _ kw_87) hK hw hA rfl (fun j hj => by rcases (show j = 0 ∨ j = 1 ∨ j = 2 ∨ j = 3 ∨ j = 4 ∨ j = 5 ∨ j = 6 ∨ j = 7 ∨ j = 8 ∨ j = 9 ∨ j = 10 by omega) with rfl | rfl | rfl | rfl | rfl | rfl | rfl | rfl | rfl | rfl | rfl <;> rfl) (by decide) (by decide) dX9_init_76 (fun qi0mo H hq_qi0mo hw => ?_)
  refine W.widen (k := 41) (n := 1971) (by decide) (by decide) ?_
  have ne_hs_qi0mo : hs ≠ qi0mo := z_ne hm_hs hq_qi0mo
  have ne_qim_qi0mo : qim ≠ qi0mo := z_ne hm_qim hq_qi0mo
  have hn_qi0mo : qi0mo ∉ L := fun h => hq_qi0mo (hsub _ h)
  obtain ⟨f25, e_f25⟩ : ∃ z, z = va_up f23 qi0mo (.inr (2, [.int 0, .int 0, .int 0, .int 0, .int 0, .int 0, .int 0, .null, .null, .null, .null])) := ⟨_, rfl⟩
  obtain ⟨L24, e_L24⟩ : ∃ z, z = L21 ++ [qi0mo] := ⟨_, rfl⟩
  rw [← e_f25, ← e_L24] at hw
  have hm_hs : hs ∈ L24 := by rw [e_L24]; exact List.mem_append_left _ hm_hs
  have hf_hs : f25 hs = .inr (9, [.ref qtp, .ref qrd, .ref qmmo, .ref qxmo, .ref qim, .null, .null, .null, .null, .null, .null]) := (congrFun e_f25 hs).trans (z_up_ne ne_hs_qi0mo hf_hs)
  have hm_qim : qim ∈ L24 := by rw [e_L24]; exact List.mem_append_left _ hm_qim
  have hf_qim : f25 qim = .inl (cy 5, 3, .inr (.inr (.inr (.inr (fun _ => none))))) := (congrFun e_f25 qim).trans (z_up_ne ne_qim_qi0mo hf_qim)
  have hm_qi0mo : qi0mo ∈ L24 := by rw [e_L24]; exact List.mem_append_right _ (List.mem_singleton.mpr rfl)
  have hf_qi0mo : f25 qi0mo = .inr (2, [.int 0, .int 0, .int 0, .int 0, .int 0, .int 0, .int 0, .null, .null, .null, .null]) := (congrFun e_f25 qi0mo).trans z_up_self
  have hsub : ∀ b ∈ L, b ∈ L24 := fun b h => by rw [e_L24]; exact List.mem_append_left _ (hsub b h)
  have hfr : ∀ b ∈ L, b ≠ hs → f25 b = f b := fun b hb h0 => (congrFun e_f25 b).trans (z_up_ne (z_ne hb hn_qi0mo) (hfr b hb h0))
  have hnk_T_qi0mo : qi0mo ∉ L3 := fun h => hq_qi0mo (hcs_T _ h)
  have hcs_T : ∀ b ∈ L3, b ∈ L24 := fun b h => by rw [e_L24]; exact List.mem_append_left _ (hcs_T b h)
  have hck_T : ∀ b ∈ L3, b ≠ hs → f25 b = f5 b := fun b hb h_hs => (congrFun e_f25 b).trans (z_up_ne (z_ne hb hnk_T_qi0mo) (hck_T b hb h_hs))
  have hnk_M_qi0mo : qi0mo ∉ L8 := fun h => hq_qi0mo (hcs_M _ h)
  have hcs_M : ∀ b ∈ L8, b ∈ L24 := fun b h => by rw [e_L24]; exact List.mem_append_left _ (hcs_M b h)
  have hck_M : ∀ b ∈ L8, b ≠ hs → f25 b = f10 b := fun b hb h_hs => (congrFun e_f25 b).trans (z_up_ne (z_ne hb hnk_M_qi0mo) (hck_M b hb h_hs))
  have hnk_F_qi0mo : qi0mo ∉ L13 := fun h => hq_qi0mo (hcs_F _ h)
  have hcs_F : ∀ b ∈ L13, b ∈ L24 := fun b h => by rw [e_L24]; exact List.mem_append_left _ (hcs_F b h)
  have hck_F : ∀ b ∈ L13, b ≠ hs → f25 b = f15 b := fun b hb h_hs => (congrFun e_f25 b).trans (z_up_ne (z_ne hb hnk_F_qi0mo) (hck_F b hb h_hs))
  have hnk_R_qi0mo : qi0mo ∉ L16 := fun h => hq_qi0mo (hcs_R _ h)
  have hcs_R : ∀ b ∈ L16, b ∈ L24 := fun b h => by rw [e_L24]; exact List.mem_append_left _ (hcs_R b h)
  have hck_R : ∀ b ∈ L16, b ≠ hs → f25 b = f20 b := fun b hb h_hs => (congrFun e_f25 b).trans (z_up_ne (z_ne hb hnk_R_qi0mo) (hck_R b hb h_hs))
  refine lv_dup hx hb dX9_init_79 rfl ?_
  refine z_callvI (cells := 41) (slots := 1971) (b := qi0mo) (As := []) (rest := [.ref qi0mo, .int 0, .ref qim]) ⟨hx, hb, hml, hown, hT⟩ (c_X2_init l hm_qi0mo hf_qi0mo) (cwI 0 hT (z_goodI (fun _ h => h) kw_132) rfl rfl rfl (hT _ kw_87) (hT _ kw_130) (hT _ kw_131) rfl (by decide +kernel) ⟨by decide, by decide⟩) z_mv hKK hw hA rfl hl.1 rfl (Nat.le_of_ble_eq_true rfl) dX9_init_80 ⟨by decide, by decide⟩ (fun u H locs hp hw => ?_)
  refine W.widen (k := 58) (n := 2133) (by decide) (by decide) ?_
  obtain ⟨L26, f27⟩ := u
  obtain ⟨hsb, hfm, qi0la, qi0sa, qi0mi, qi0da, qi0d0, qi0d1, qi0d2, qi0d3, qi0d4, qi0d5, qi0d6, qi0d7, qi0d8, qi0d9, qi0d10, qi0d11, qi0d12, qi0gd, ha_0, ⟨hq_qi0la, hm_qi0la, hf_qi0la⟩, ⟨hq_qi0sa, hm_qi0sa, hf_qi0sa⟩, ⟨hq_qi0mi, hm_qi0mi, hf_qi0mi⟩, ⟨hq_qi0da, hm_qi0da, hf_qi0da⟩, ⟨hq_qi0d0, hm_qi0d0, hf_qi0d0⟩, ⟨hq_qi0d1, hm_qi0d1, hf_qi0d1⟩, ⟨hq_qi0d2, hm_qi0d2, hf_qi0d2⟩, ⟨hq_qi0d3, hm_qi0d3, hf_qi0d3⟩, ⟨hq_qi0d4, hm_qi0d4, hf_qi0d4⟩, ⟨hq_qi0d5, hm_qi0d5, hf_qi0d5⟩, ⟨hq_qi0d6, hm_qi0d6, hf_qi0d6⟩, ⟨hq_qi0d7, hm_qi0d7, hf_qi0d7⟩, ⟨hq_qi0d8, hm_qi0d8, hf_qi0d8⟩, ⟨hq_qi0d9, hm_qi0d9, hf_qi0d9⟩, ⟨hq_qi0d10, hm_qi0d10, hf_qi0d10⟩, ⟨hq_qi0d11, hm_qi0d11, hf_qi0d11⟩, ⟨hq_qi0d12, hm_qi0d12, hf_qi0d12⟩, hp⟩ := hp
  have hw : z_H D vwCl (z_A L sz) s.heap L26 f27 H locs := hw
  have ne_hs_qi0la : hs ≠ qi0la := z_ne hm_hs hq_qi0la
  have ne_qim_qi0la : qim ≠ qi0la := z_ne hm_qim hq_qi0la
  have ne_qi0mo_qi0la : qi0mo ≠ qi0la := z_ne hm_qi0mo hq_qi0la
  have ne_hs_qi0sa : hs ≠ qi0sa := z_ne hm_hs hq_qi0sa
  have ne_qim_qi0sa : qim ≠ qi0sa := z_ne hm_qim hq_qi0sa
  have ne_qi0mo_qi0sa : qi0mo ≠ qi0sa := z_ne hm_qi0mo hq_qi0sa
  have ne_hs_qi0mi : hs ≠ qi0mi := z_ne hm_hs hq_qi0mi
  have ne_qim_qi0mi : qim ≠ qi0mi := z_ne hm_qim hq_qi0mi
  have ne_qi0mo_qi0mi : qi0mo ≠ qi0mi := z_ne hm_qi0mo hq_qi0mi
  have ne_hs_qi0da : hs ≠ qi0da := z_ne hm_hs hq_qi0da
  have ne_qim_qi0da : qim ≠ qi0da := z_ne hm_qim hq_qi0da
  have ne_qi0mo_qi0da : qi0mo ≠ qi0da := z_ne hm_qi0mo hq_qi0da
  have ne_hs_qi0d0 : hs ≠ qi0d0 := z_ne hm_hs hq_qi0d0
  have ne_qim_qi0d0 : qim ≠ qi0d0 := z_ne hm_qim hq_qi0d0
  have ne_qi0mo_qi0d0 : qi0mo ≠ qi0d0 := z_ne hm_qi0mo hq_qi0d0
  have ne_hs_qi0d1 : hs ≠ qi0d1 := z_ne hm_hs hq_qi0d1
  have ne_qim_qi0d1 : qim ≠ qi0d1 := z_ne hm_qim hq_qi0d1
  have ne_qi0mo_qi0d1 : qi0mo ≠ qi0d1 := z_ne hm_qi0mo hq_qi0d1
  have ne_hs_qi0d2 : hs ≠ qi0d2 := z_ne hm_hs hq_qi0d2
  have ne_qim_qi0d2 : qim ≠ qi0d2 := z_ne hm_qim hq_qi0d2
  have ne_qi0mo_qi0d2 : qi0mo ≠ qi0d2 := z_ne hm_qi0mo hq_qi0d2
  have ne_hs_qi0d3 : hs ≠ qi0d3 := z_ne hm_hs hq_qi0d3
  have ne_qim_qi0d3 : qim ≠ qi0d3 := z_ne hm_qim hq_qi0d3
  have ne_qi0mo_qi0d3 : qi0mo ≠ qi0d3 := z_ne hm_qi0mo hq_qi0d3
  have ne_hs_qi0d4 : hs ≠ qi0d4 := z_ne hm_hs hq_qi0d4
  have ne_qim_qi0d4 : qim ≠ qi0d4 := z_ne hm_qim hq_qi0d4
  have ne_qi0mo_qi0d4 : qi0mo ≠ qi0d4 := z_ne hm_qi0mo hq_qi0d4
  have ne_hs_qi0d5 : hs ≠ qi0d5 := z_ne hm_hs hq_qi0d5
  have ne_qim_qi0d5 : qim ≠ qi0d5 := z_ne hm_qim hq_qi0d5
  have ne_qi0mo_qi0d5 : qi0mo ≠ qi0d5 := z_ne hm_qi0mo hq_qi0d5
  have ne_hs_qi0d6 : hs ≠ qi0d6 := z_ne hm_hs hq_qi0d6
  have ne_qim_qi0d6 : qim ≠ qi0d6 := z_ne hm_qim hq_qi0d6
  have ne_qi0mo_qi0d6 : qi0mo ≠ qi0d6 := z_ne hm_qi0mo hq_qi0d6
  have ne_hs_qi0d7 : hs ≠ qi0d7 := z_ne hm_hs hq_qi0d7
  have ne_qim_qi0d7 : qim ≠ qi0d7 := z_ne hm_qim hq_qi0d7
  have ne_qi0mo_qi0d7 : qi0mo ≠ qi0d7 := z_ne hm_qi0mo hq_qi0d7
  have ne_hs_qi0d8 : hs ≠ qi0d8 := z_ne hm_hs hq_qi0d8
  have ne_qim_qi0d8 : qim ≠ qi0d8 := z_ne hm_qim hq_qi0d8
  have ne_qi0mo_qi0d8 : qi0mo ≠ qi0d8 := z_ne hm_qi0mo hq_qi0d8
  have ne_hs_qi0d9 : hs ≠ qi0d9 := z_ne hm_hs hq_qi0d9
  have ne_qim_qi0d9 : qim ≠ qi0d9 := z_ne hm_qim hq_qi0d9
  have ne_qi0mo_qi0d9 : qi0mo ≠ qi0d9 := z_ne hm_qi0mo hq_qi0d9
  have ne_hs_qi0d10 : hs ≠ qi0d10 := z_ne hm_hs hq_qi0d10
  have ne_qim_qi0d10 : qim ≠ qi0d10 := z_ne hm_qim hq_qi0d10
  have ne_qi0mo_qi0d10 : qi0mo ≠ qi0d10 := z_ne hm_qi0mo hq_qi0d10
  have ne_hs_qi0d11 : hs ≠ qi0d11 := z_ne hm_hs hq_qi0d11
  have ne_qim_qi0d11 : qim ≠ qi0d11 := z_ne hm_qim hq_qi0d11
  have ne_qi0mo_qi0d11 : qi0mo ≠ qi0d11 := z_ne hm_qi0mo hq_qi0d11
  have ne_hs_qi0d12 : hs ≠ qi0d12 := z_ne hm_hs hq_qi0d12
  have ne_qim_qi0d12 : qim ≠ qi0d12 := z_ne hm_qim hq_qi0d12
  have ne_qi0mo_qi0d12 : qi0mo ≠ qi0d12 := z_ne hm_qi0mo hq_qi0d12
  have hfr : ∀ b ∈ L, b ≠ hs → f27 b = f b := fun b hb h0 => (hfm b (hsub b hb) (z_ne hb hn_qi0mo)).trans (hfr b hb h0)
  have hn_qi0la : qi0la ∉ L := fun h => hq_qi0la (hsub _ h)
  have hn_qi0sa : qi0sa ∉ L := fun h => hq_qi0sa (hsub _ h)
  have hn_qi0mi : qi0mi ∉ L := fun h => hq_qi0mi (hsub _ h)
  have hn_qi0da : qi0da ∉ L := fun h => hq_qi0da (hsub _ h)
  have hn_qi0d0 : qi0d0 ∉ L := fun h => hq_qi0d0 (hsub _ h)
  have hn_qi0d1 : qi0d1 ∉ L := fun h => hq_qi0d1 (hsub _ h)
  have hn_qi0d2 : qi0d2 ∉ L := fun h => hq_qi0d2 (hsub _ h)
  have hn_qi0d3 : qi0d3 ∉ L := fun h => hq_qi0d3 (hsub _ h)
  have hn_qi0d4 : qi0d4 ∉ L := fun h => hq_qi0d4 (hsub _ h)
  have hn_qi0d5 : qi0d5 ∉ L := fun h => hq_qi0d5 (hsub _ h)
  have hn_qi0d6 : qi0d6 ∉ L := fun h => hq_qi0d6 (hsub _ h)
  have hn_qi0d7 : qi0d7 ∉ L := fun h => hq_qi0d7 (hsub _ h)
  have hn_qi0d8 : qi0d8 ∉ L := fun h => hq_qi0d8 (hsub _ h)
  have hn_qi0d9 : qi0d9 ∉ L := fun h => hq_qi0d9 (hsub _ h)
  have hn_qi0d10 : qi0d10 ∉ L := fun h => hq_qi0d10 (hsub _ h)
  have hn_qi0d11 : qi0d11 ∉ L := fun h => hq_qi0d11 (hsub _ h)
  have hn_qi0d12 : qi0d12 ∉ L := fun h => hq_qi0d12 (hsub _ h)
  have hsub : ∀ b ∈ L, b ∈ L26 := fun b h => hsb b (hsub b h)
  have hck_T : ∀ b ∈ L3, b ≠ hs → f27 b = f5 b := fun b hb h_hs => (hfm b (hcs_T b hb) (z_ne hb hnk_T_qi0mo)).trans (hck_T b hb h_hs)
  have hcs_T : ∀ b ∈ L3, b ∈ L26 := fun b h => hsb b (hcs_T b h)
  have hck_M : ∀ b ∈ L8, b ≠ hs → f27 b = f10 b := fun b hb h_hs => (hfm b (hcs_M b hb) (z_ne hb hnk_M_qi0mo)).trans (hck_M b hb h_hs)
  have hcs_M : ∀ b ∈ L8, b ∈ L26 := fun b h => hsb b (hcs_M b h)
  have hck_F : ∀ b ∈ L13, b ≠ hs → f27 b = f15 b := fun b hb h_hs => (hfm b (hcs_F b hb) (z_ne hb hnk_F_qi0mo)).trans (hck_F b hb h_hs)
  have hcs_F : ∀ b ∈ L13, b ∈ L26 := fun b h => hsb b (hcs_F b h)
  have hck_R : ∀ b ∈ L16, b ≠ hs → f27 b = f20 b := fun b hb h_hs => (hfm b (hcs_R b hb) (z_ne hb hnk_R_qi0mo)).trans (hck_R b hb h_hs)
  have hcs_R : ∀ b ∈ L16, b ∈ L26 := fun b h => hsb b (hcs_R b h)
  have hf_hs : f27 hs = .inr (9, [.ref qtp, .ref qrd, .ref qmmo, .ref qxmo, .ref qim, .null, .null, .null, .null, .null, .null]) := (hfm hs hm_hs ne_hs_qi0mo).trans hf_hs
  have hf_qim : f27 qim = .inl (cy 5, 3, .inr (.inr (.inr (.inr (fun _ => none))))) := (hfm qim hm_qim ne_qim_qi0mo).trans hf_qim
  have hm_hs : hs ∈ L26 := hsb _ hm_hs
  have hm_qim : qim ∈ L26 := hsb _ hm_qim
  have hm_qi0mo : qi0mo ∈ L26 := hsb _ hm_qi0mo
  have hf_qi0mo : f27 qi0mo = .inr (2, [.int 0, .int 0, .int 0, .int 0, .int 0, .int 0, .int 0, .ref qi0la, .ref qi0sa, .ref qi0mi, .ref qi0da]) := ha_0
  have hf_qi0la : f27 qi0la = .inl (cy 1, 5, .inl (fun _ => 0)) := hf_qi0la
  have hm_qi0la : qi0la ∈ L26 := hm_qi0la
  have hf_qi0sa : f27 qi0sa = .inl (cy 1, 4, .inl (fun _ => 0)) := hf_qi0sa
  have hm_qi0sa : qi0sa ∈ L26 := hm_qi0sa
  have hf_qi0mi : f27 qi0mi = .inl (cy 1, 36, .inl (fun _ => 0)) := hf_qi0mi
  have hm_qi0mi : qi0mi ∈ L26 := hm_qi0mi
  have hf_qi0da : f27 qi0da = .inl (cy 4, 13, .inr (.inr (.inr (.inr qi0gd)))) := hf_qi0da
  have hm_qi0da : qi0da ∈ L26 := hm_qi0da
  have hf_qi0d0 : f27 qi0d0 = .inr (0, [.int 0, .int 0, .int 0, .int 0, .int 0, .int 0, .int 0, .int 0]) := hf_qi0d0
  have hm_qi0d0 : qi0d0 ∈ L26 := hm_qi0d0
  have hf_qi0d1 : f27 qi0d1 = .inr (0, [.int 0, .int 0, .int 0, .int 0, .int 0, .int 0, .int 0, .int 0]) := hf_qi0d1
  have hm_qi0d1 : qi0d1 ∈ L26 := hm_qi0d1
  have hf_qi0d2 : f27 qi0d2 = .inr (0, [.int 0, .int 0, .int 0, .int 0, .int 0, .int 0, .int 0, .int 0]) := hf_qi0d2
  have hm_qi0d2 : qi0d2 ∈ L26 := hm_qi0d2
  have hf_qi0d3 : f27 qi0d3 = .inr (0, [.int 0, .int 0, .int 0, .int 0, .int 0, .int 0, .int 0, .int 0]) := hf_qi0d3
  have hm_qi0d3 : qi0d3 ∈ L26 := hm_qi0d3
  have hf_qi0d4 : f27 qi0d4 = .inr (0, [.int 0, .int 0, .int 0, .int 0, .int 0, .int 0, .int 0, .int 0]) := hf_qi0d4
  have hm_qi0d4 : qi0d4 ∈ L26 := hm_qi0d4
  have hf_qi0d5 : f27 qi0d5 = .inr (0, [.int 0, .int 0, .int 0, .int 0, .int 0, .int 0, .int 0, .int 0]) := hf_qi0d5
  have hm_qi0d5 : qi0d5 ∈ L26 := hm_qi0d5
  have hf_qi0d6 : f27 qi0d6 = .inr (0, [.int 0, .int 0, .int 0, .int 0, .int 0, .int 0, .int 0, .int 0]) := hf_qi0d6
  have hm_qi0d6 : qi0d6 ∈ L26 := hm_qi0d6
  have hf_qi0d7 : f27 qi0d7 = .inr (0, [.int 0, .int 0, .int 0, .int 0, .int 0, .int 0, .int 0, .int 0]) := hf_qi0d7
  have hm_qi0d7 : qi0d7 ∈ L26 := hm_qi0d7
  have hf_qi0d8 : f27 qi0d8 = .inr (0, [.int 0, .int 0, .int 0, .int 0, .int 0, .int 0, .int 0, .int 0]) := hf_qi0d8
  have hm_qi0d8 : qi0d8 ∈ L26 := hm_qi0d8
  have hf_qi0d9 : f27 qi0d9 = .inr (0, [.int 0, .int 0, .int 0, .int 0, .int 0, .int 0, .int 0, .int 0]) := hf_qi0d9
  have hm_qi0d9 : qi0d9 ∈ L26 := hm_qi0d9
  have hf_qi0d10 : f27 qi0d10 = .inr (0, [.int 0, .int 0, .int 0, .int 0, .int 0, .int 0, .int 0, .int 0]) := hf_qi0d10
  have hm_qi0d10 : qi0d10 ∈ L26 := hm_qi0d10
  have hf_qi0d11 : f27 qi0d11 = .inr (0, [.int 0, .int 0, .int 0, .int 0, .int 0, .int 0, .int 0, .int 0]) := hf_qi0d11
  have hm_qi0d11 : qi0d11 ∈ L26 := hm_qi0d11
  have hf_qi0d12 : f27 qi0d12 = .inr (0, [.int 0, .int 0, .int 0, .int 0, .int 0, .int 0, .int 0, .int 0]) := hf_qi0d12
  have hm_qi0d12 : qi0d12 ∈ L26 := hm_qi0d12
  have e_L26 : L26 = L24 ++ [qi0la, qi0sa, qi0mi, qi0da, qi0d0, qi0d1, qi0d2, qi0d3, qi0d4, qi0d5, qi0d6, qi0d7, qi0d8, qi0d9, qi0d10, qi0d11, qi0d12] := hp.1
  have hgd_i0 := hp.2
  refine z_aast (r := (RX2, TX2, 11)) hx hb hK hw 5 2 hm_qim hf_qim rfl hm_qi0mo hf_qi0mo rfl (z_ix (show (0 : Int32).toInt = 0 by decide) (by decide)) dX9_init_83 (fun H locs hw => ?_)
  obtain ⟨f29, e_f29⟩ : ∃ z, z = va_up f27 qim (.inl (cy 5, 3, .inr (.inr (.inr (.inr (va_up (fun _ => none) (0 : Int32).toNatClampNeg (some qi0mo))))))) := ⟨_, rfl⟩
  rw [← e_f29] at hw
  have hf_hs : f29 hs = .inr (9, [.ref qtp, .ref qrd, .ref qmmo, .ref qxmo, .ref qim, .null, .null, .null, .null, .null, .null]) := (congrFun e_f29 hs).trans (z_up_ne ne_hs_qim hf_hs)
  have hf_qi0mo : f29 qi0mo = .inr (2, [.int 0, .int 0, .int 0, .int 0, .int 0, .int 0, .int 0, .ref qi0la, .ref qi0sa, .ref qi0mi, .ref qi0da]) := (congrFun e_f29 qi0mo).trans (z_up_ne (Ne.symm ne_qim_qi0mo) hf_qi0mo)
  have hf_qi0la : f29 qi0la = .inl (cy 1, 5, .inl (fun _ => 0)) := (congrFun e_f29 qi0la).trans (z_up_ne (Ne.symm ne_qim_qi0la) hf_qi0la)
  have hf_qi0sa : f29 qi0sa = .inl (cy 1, 4, .inl (fun _ => 0)) := (congrFun e_f29 qi0sa).trans (z_up_ne (Ne.symm ne_qim_qi0sa) hf_qi0sa)
  have hf_qi0mi : f29 qi0mi = .inl (cy 1, 36, .inl (fun _ => 0)) := (congrFun e_f29 qi0mi).trans (z_up_ne (Ne.symm ne_qim_qi0mi) hf_qi0mi)
  have hf_qi0da : f29 qi0da = .inl (cy 4, 13, .inr (.inr (.inr (.inr qi0gd)))) := (congrFun e_f29 qi0da).trans (z_up_ne (Ne.symm ne_qim_qi0da) hf_qi0da)
  have hf_qi0d0 : f29 qi0d0 = .inr (0, [.int 0, .int 0, .int 0, .int 0, .int 0, .int 0, .int 0, .int 0]) := (congrFun e_f29 qi0d0).trans (z_up_ne (Ne.symm ne_qim_qi0d0) hf_qi0d0)
  have hf_qi0d1 : f29 qi0d1 = .inr (0, [.int 0, .int 0, .int 0, .int 0, .int 0, .int 0, .int 0, .int 0]) := (congrFun e_f29 qi0d1).trans (z_up_ne (Ne.symm ne_qim_qi0d1) hf_qi0d1)
  have hf_qi0d2 : f29 qi0d2 = .inr (0, [.int 0, .int 0, .int 0, .int 0, .int 0, .int 0, .int 0, .int 0]) := (congrFun e_f29 qi0d2).trans (z_up_ne (Ne.symm ne_qim_qi0d2) hf_qi0d2)
  have hf_qi0d3 : f29 qi0d3 = .inr (0, [.int 0, .int 0, .int 0, .int 0, .int 0, .int 0, .int 0, .int 0]) := (congrFun e_f29 qi0d3).trans (z_up_ne (Ne.symm ne_qim_qi0d3) hf_qi0d3)
  have hf_qi0d4 : f29 qi0d4 = .inr (0, [.int 0, .int 0, .int 0, .int 0, .int 0, .int 0, .int 0, .int 0]) := (congrFun e_f29 qi0d4).trans (z_up_ne (Ne.symm ne_qim_qi0d4) hf_qi0d4)
  have hf_qi0d5 : f29 qi0d5 = .inr (0, [.int 0, .int 0, .int 0, .int 0, .int 0, .int 0, .int 0, .int 0]) := (congrFun e_f29 qi0d5).trans (z_up_ne (Ne.symm ne_qim_qi0d5) hf_qi0d5)
  have hf_qi0d6 : f29 qi0d6 = .inr (0, [.int 0, .int 0, .int 0, .int 0, .int 0, .int 0, .int 0, .int 0]) := (congrFun e_f29 qi0d6).trans (z_up_ne (Ne.symm ne_qim_qi0d6) hf_qi0d6)
  have hf_qi0d7 : f29 qi0d7 = .inr (0, [.int 0, .int 0, .int 0, .int 0, .int 0, .int 0, .int 0, .int 0]) := (congrFun e_f29 qi0d7).trans (z_up_ne (Ne.symm ne_qim_qi0d7) hf_qi0d7)
  have hf_qi0d8 : f29 qi0d8 = .inr (0, [.int 0, .int 0, .int 0, .int 0, .int 0, .int 0, .int 0, .int 0]) := (congrFun e_f29 qi0d8).trans (z_up_ne (Ne.symm ne_qim_qi0d8) hf_qi0d8)
  have hf_qi0d9 : f29 qi0d9 = .inr (0, [.int 0, .int 0, .int 0, .int 0, .int 0, .int 0, .int 0, .int 0]) := (congrFun e_f29 qi0d9).trans (z_up_ne (Ne.symm ne_qim_qi0d9) hf_qi0d9)
  have hf_qi0d10 : f29 qi0d10 = .inr (0, [.int 0, .int 0, .int 0, .int 0, .int 0, .int 0, .int 0, .int 0]) := (congrFun e_f29 qi0d10).trans (z_up_ne (Ne.symm ne_qim_qi0d10) hf_qi0d10)
  have hf_qi0d11 : f29 qi0d11 = .inr (0, [.int 0, .int 0, .int 0, .int 0, .int 0, .int 0, .int 0, .int 0]) := (congrFun e_f29 qi0d11).trans (z_up_ne (Ne.symm ne_qim_qi0d11) hf_qi0d11)
  have hf_qi0d12 : f29 qi0d12 = .inr (0, [.int 0, .int 0, .int 0, .int 0, .int 0, .int 0, .int 0, .int 0]) := (congrFun e_f29 qi0d12).trans (z_up_ne (Ne.symm ne_qim_qi0d12) hf_qi0d12)
  have hf_qim : f29 qim = .inl (cy 5, 3, .inr (.inr (.inr (.inr (va_up (fun _ => none) (0 : Int32).toNatClampNeg (some qi0mo)))))) := (congrFun e_f29 qim).trans z_up_self
  have hck_T : ∀ b ∈ L3, b ≠ hs → f29 b = f5 b := fun b hb h_hs => (congrFun e_f29 b).trans (z_up_ne (z_ne hb hnk_T_qim) (hck_T b hb h_hs))
  have hck_M : ∀ b ∈ L8, b ≠ hs → f29 b = f10 b := fun b hb h_hs => (congrFun e_f29 b).trans (z_up_ne (z_ne hb hnk_M_qim) (hck_M b hb h_hs))
  have hck_F : ∀ b ∈ L13, b ≠ hs → f29 b = f15 b := fun b hb h_hs => (congrFun e_f29 b).trans (z_up_ne (z_ne hb hnk_F_qim) (hck_F b hb h_hs))
  have hck_R : ∀ b ∈ L16, b ≠ hs → f29 b = f20 b := fun b hb h_hs => (congrFun e_f29 b).trans (z_up_ne (z_ne hb hnk_R_qim) (hck_R b hb h_hs))
  have hfr : ∀ b ∈ L, b ≠ hs → f29 b = f b := fun b hb h0 => (congrFun e_f29 b).trans (z_up_ne (z_ne hb hn_qim) (hfr b hb h0))
  obtain ⟨g28, e_g28⟩ : ∃ z, z = (va_up (fun _ => none) (0 : Int32).toNatClampNeg (some qi0mo)) := ⟨_, rfl⟩
  rw [← e_g28] at hf_qim
  have h0_qi0mo := hf_qi0mo
  have m0_qi0mo := hm_qi0mo
  have h0_qi0la := hf_qi0la
  have m0_qi0la := hm_qi0la
  have h0_qi0sa := hf_qi0sa
  have m0_qi0sa := hm_qi0sa
  have h0_qi0mi := hf_qi0mi
  have m0_qi0mi := hm_qi0mi
  have h0_qi0da := hf_qi0da
  have m0_qi0da := hm_qi0da
  have h0_qi0d0 := hf_qi0d0
  have m0_qi0d0 := hm_qi0d0
  have h0_qi0d1 := hf_qi0d1
  have m0_qi0d1 := hm_qi0d1
  have h0_qi0d2 := hf_qi0d2
  have m0_qi0d2 := hm_qi0d2
  have h0_qi0d3 := hf_qi0d3
  have m0_qi0d3 := hm_qi0d3
  have h0_qi0d4 := hf_qi0d4
  have m0_qi0d4 := hm_qi0d4
  have h0_qi0d5 := hf_qi0d5
  have m0_qi0d5 := hm_qi0d5
  have h0_qi0d6 := hf_qi0d6
  have m0_qi0d6 := hm_qi0d6
  have h0_qi0d7 := hf_qi0d7
  have m0_qi0d7 := hm_qi0d7
  have h0_qi0d8 := hf_qi0d8
  have m0_qi0d8 := hm_qi0d8
  have h0_qi0d9 := hf_qi0d9
  have m0_qi0d9 := hm_qi0d9
  have h0_qi0d10 := hf_qi0d10
  have m0_qi0d10 := hm_qi0d10
  have h0_qi0d11 := hf_qi0d11
  have m0_qi0d11 := hm_qi0d11
  have h0_qi0d12 := hf_qi0d12
  have m0_qi0d12 := hm_qi0d12
  have hck_I0 : ∀ b ∈ L26, b ≠ hs → b ≠ qim → f29 b = f29 b := fun _ _ _ _ => rfl
  have hcs_I0 : ∀ b ∈ L26, b ∈ L26 := fun _ h => h
  refine lv_iinc (v := 1) (lv' := [(1, .int 1), (0, .ref hs)]) hx hb dX9_init_84 hl (k := 0) rfl (by decide) (by decide) rfl (fun ls hl => ?_)
  refine lv_goto (tgt := 66) hx hb dX9_init_87 (by decide) ?_
  refine lv_iload_n hx hb dX9_init_66 rfl (lv_at hl 0 rfl) ?_
  refine lv_iconst (v := 3) hx hb dX9_init_67 (by decide) ?_
  refine z_icmp_ge (tgt := 90) hx hb (show (1 : Int32).toInt = 1 by decide) (show (3 : Int32).toInt = 3 by decide) dX9_init_68 (by decide) (fun h => absurd h (by decide)) (fun _ => ?_)
  refine lv_aload_n hx hb dX9_init_71 rfl (lv_at hl 1 rfl) ?_
  refine z_get (C := RX9) (T := TX9) (N := 11) (ci := 9) (v := .ref qim) hx hb hT zin_X9 hown hK hw hm_hs hf_hs rfl 4 (by decide) (hT _ kw_481) rfl dX9_init_72 ?_
  refine lv_iload_n hx hb dX9_init_75 rfl (lv_at hl 0 rfl) ?_
  refine z_new (C := RX2) (T := TX2) (N := 11) (ci := 2) (fs := [.int 0, .int 0, .int 0, .int 0, .int 0, .int 0, .int 0, .null, .null, .null, .null]) (cells := 58) (slots := 2133) hx hb hT zin_X2 tyX2_ok hown (hT _ kw_128) (hT _ kw_129) (hT _ kw_87) hK hw hA rfl (fun j hj => by rcases (show j = 0 ∨ j = 1 ∨ j = 2 ∨ j = 3 ∨ j = 4 ∨ j = 5 ∨ j = 6 ∨ j = 7 ∨ j = 8 ∨ j = 9 ∨ j = 10 by omega) with rfl | rfl | rfl | rfl | rfl | rfl | rfl | rfl | rfl | rfl | rfl <;> rfl) (by decide) (by decide) dX9_init_76 (fun qi1mo H hq_qi1mo hw => ?_)
  refine W.widen (k := 59) (n := 2144) (by decide) (by decide) ?_
  have ne_hs_qi1mo : hs ≠ qi1mo := z_ne hm_hs hq_qi1mo
  have ne_qim_qi1mo : qim ≠ qi1mo := z_ne hm_qim hq_qi1mo
  have hn_qi1mo : qi1mo ∉ L := fun h => hq_qi1mo (hsub _ h)
  obtain ⟨f31, e_f31⟩ : ∃ z, z = va_up f29 qi1mo (.inr (2, [.int 0, .int 0, .int 0, .int 0, .int 0, .int 0, .int 0, .null, .null, .null, .null])) := ⟨_, rfl⟩
  obtain ⟨L30, e_L30⟩ : ∃ z, z = L26 ++ [qi1mo] := ⟨_, rfl⟩
  rw [← e_f31, ← e_L30] at hw
  have hm_hs : hs ∈ L30 := by rw [e_L30]; exact List.mem_append_left _ hm_hs
  have hf_hs : f31 hs = .inr (9, [.ref qtp, .ref qrd, .ref qmmo, .ref qxmo, .ref qim, .null, .null, .null, .null, .null, .null]) := (congrFun e_f31 hs).trans (z_up_ne ne_hs_qi1mo hf_hs)
  have hm_qim : qim ∈ L30 := by rw [e_L30]; exact List.mem_append_left _ hm_qim
  have hf_qim : f31 qim = .inl (cy 5, 3, .inr (.inr (.inr (.inr g28)))) := (congrFun e_f31 qim).trans (z_up_ne ne_qim_qi1mo hf_qim)
  have hm_qi1mo : qi1mo ∈ L30 := by rw [e_L30]; exact List.mem_append_right _ (List.mem_singleton.mpr rfl)
  have hf_qi1mo : f31 qi1mo = .inr (2, [.int 0, .int 0, .int 0, .int 0, .int 0, .int 0, .int 0, .null, .null, .null, .null]) := (congrFun e_f31 qi1mo).trans z_up_self
  have hsub : ∀ b ∈ L, b ∈ L30 := fun b h => by rw [e_L30]; exact List.mem_append_left _ (hsub b h)
  have hfr : ∀ b ∈ L, b ≠ hs → f31 b = f b := fun b hb h0 => (congrFun e_f31 b).trans (z_up_ne (z_ne hb hn_qi1mo) (hfr b hb h0))
  have hnk_T_qi1mo : qi1mo ∉ L3 := fun h => hq_qi1mo (hcs_T _ h)
  have hcs_T : ∀ b ∈ L3, b ∈ L30 := fun b h => by rw [e_L30]; exact List.mem_append_left _ (hcs_T b h)
  have hck_T : ∀ b ∈ L3, b ≠ hs → f31 b = f5 b := fun b hb h_hs => (congrFun e_f31 b).trans (z_up_ne (z_ne hb hnk_T_qi1mo) (hck_T b hb h_hs))
  have hnk_M_qi1mo : qi1mo ∉ L8 := fun h => hq_qi1mo (hcs_M _ h)
  have hcs_M : ∀ b ∈ L8, b ∈ L30 := fun b h => by rw [e_L30]; exact List.mem_append_left _ (hcs_M b h)
  have hck_M : ∀ b ∈ L8, b ≠ hs → f31 b = f10 b := fun b hb h_hs => (congrFun e_f31 b).trans (z_up_ne (z_ne hb hnk_M_qi1mo) (hck_M b hb h_hs))
  have hnk_F_qi1mo : qi1mo ∉ L13 := fun h => hq_qi1mo (hcs_F _ h)
  have hcs_F : ∀ b ∈ L13, b ∈ L30 := fun b h => by rw [e_L30]; exact List.mem_append_left _ (hcs_F b h)
  have hck_F : ∀ b ∈ L13, b ≠ hs → f31 b = f15 b := fun b hb h_hs => (congrFun e_f31 b).trans (z_up_ne (z_ne hb hnk_F_qi1mo) (hck_F b hb h_hs))
  have hnk_R_qi1mo : qi1mo ∉ L16 := fun h => hq_qi1mo (hcs_R _ h)
  have hcs_R : ∀ b ∈ L16, b ∈ L30 := fun b h => by rw [e_L30]; exact List.mem_append_left _ (hcs_R b h)
  have hck_R : ∀ b ∈ L16, b ≠ hs → f31 b = f20 b := fun b hb h_hs => (congrFun e_f31 b).trans (z_up_ne (z_ne hb hnk_R_qi1mo) (hck_R b hb h_hs))
  have hnk_I0_qi1mo : qi1mo ∉ L26 := fun h => hq_qi1mo (hcs_I0 _ h)
  have hcs_I0 : ∀ b ∈ L26, b ∈ L30 := fun b h => by rw [e_L30]; exact List.mem_append_left _ (hcs_I0 b h)
  have hck_I0 : ∀ b ∈ L26, b ≠ hs → b ≠ qim → f31 b = f29 b := fun b hb h_hs h_qim => (congrFun e_f31 b).trans (z_up_ne (z_ne hb hnk_I0_qi1mo) (hck_I0 b hb h_hs h_qim))
  refine lv_dup hx hb dX9_init_79 rfl ?_
  refine z_callvI (cells := 59) (slots := 2144) (b := qi1mo) (As := []) (rest := [.ref qi1mo, .int 1, .ref qim]) ⟨hx, hb, hml, hown, hT⟩ (c_X2_init l hm_qi1mo hf_qi1mo) (cwI 0 hT (z_goodI (fun _ h => h) kw_132) rfl rfl rfl (hT _ kw_87) (hT _ kw_130) (hT _ kw_131) rfl (by decide +kernel) ⟨by decide, by decide⟩) z_mv hKK hw hA rfl hl.1 rfl (Nat.le_of_ble_eq_true rfl) dX9_init_80 ⟨by decide, by decide⟩ (fun u H locs hp hw => ?_)
  refine W.widen (k := 76) (n := 2306) (by decide) (by decide) ?_
  obtain ⟨L32, f33⟩ := u
  obtain ⟨hsb, hfm, qi1la, qi1sa, qi1mi, qi1da, qi1d0, qi1d1, qi1d2, qi1d3, qi1d4, qi1d5, qi1d6, qi1d7, qi1d8, qi1d9, qi1d10, qi1d11, qi1d12, qi1gd, ha_0, ⟨hq_qi1la, hm_qi1la, hf_qi1la⟩, ⟨hq_qi1sa, hm_qi1sa, hf_qi1sa⟩, ⟨hq_qi1mi, hm_qi1mi, hf_qi1mi⟩, ⟨hq_qi1da, hm_qi1da, hf_qi1da⟩, ⟨hq_qi1d0, hm_qi1d0, hf_qi1d0⟩, ⟨hq_qi1d1, hm_qi1d1, hf_qi1d1⟩, ⟨hq_qi1d2, hm_qi1d2, hf_qi1d2⟩, ⟨hq_qi1d3, hm_qi1d3, hf_qi1d3⟩, ⟨hq_qi1d4, hm_qi1d4, hf_qi1d4⟩, ⟨hq_qi1d5, hm_qi1d5, hf_qi1d5⟩, ⟨hq_qi1d6, hm_qi1d6, hf_qi1d6⟩, ⟨hq_qi1d7, hm_qi1d7, hf_qi1d7⟩, ⟨hq_qi1d8, hm_qi1d8, hf_qi1d8⟩, ⟨hq_qi1d9, hm_qi1d9, hf_qi1d9⟩, ⟨hq_qi1d10, hm_qi1d10, hf_qi1d10⟩, ⟨hq_qi1d11, hm_qi1d11, hf_qi1d11⟩, ⟨hq_qi1d12, hm_qi1d12, hf_qi1d12⟩, hp⟩ := hp
  have hw : z_H D vwCl (z_A L sz) s.heap L32 f33 H locs := hw
  have ne_hs_qi1la : hs ≠ qi1la := z_ne hm_hs hq_qi1la
  have ne_qim_qi1la : qim ≠ qi1la := z_ne hm_qim hq_qi1la
  have ne_qi1mo_qi1la : qi1mo ≠ qi1la := z_ne hm_qi1mo hq_qi1la
  have ne_hs_qi1sa : hs ≠ qi1sa := z_ne hm_hs hq_qi1sa
  have ne_qim_qi1sa : qim ≠ qi1sa := z_ne hm_qim hq_qi1sa
  have ne_qi1mo_qi1sa : qi1mo ≠ qi1sa := z_ne hm_qi1mo hq_qi1sa
  have ne_hs_qi1mi : hs ≠ qi1mi := z_ne hm_hs hq_qi1mi
  have ne_qim_qi1mi : qim ≠ qi1mi := z_ne hm_qim hq_qi1mi
  have ne_qi1mo_qi1mi : qi1mo ≠ qi1mi := z_ne hm_qi1mo hq_qi1mi
  have ne_hs_qi1da : hs ≠ qi1da := z_ne hm_hs hq_qi1da
  have ne_qim_qi1da : qim ≠ qi1da := z_ne hm_qim hq_qi1da
  have ne_qi1mo_qi1da : qi1mo ≠ qi1da := z_ne hm_qi1mo hq_qi1da
  have ne_hs_qi1d0 : hs ≠ qi1d0 := z_ne hm_hs hq_qi1d0
  have ne_qim_qi1d0 : qim ≠ qi1d0 := z_ne hm_qim hq_qi1d0
  have ne_qi1mo_qi1d0 : qi1mo ≠ qi1d0 := z_ne hm_qi1mo hq_qi1d0
  have ne_hs_qi1d1 : hs ≠ qi1d1 := z_ne hm_hs hq_qi1d1
  have ne_qim_qi1d1 : qim ≠ qi1d1 := z_ne hm_qim hq_qi1d1
  have ne_qi1mo_qi1d1 : qi1mo ≠ qi1d1 := z_ne hm_qi1mo hq_qi1d1
  have ne_hs_qi1d2 : hs ≠ qi1d2 := z_ne hm_hs hq_qi1d2
  have ne_qim_qi1d2 : qim ≠ qi1d2 := z_ne hm_qim hq_qi1d2
  have ne_qi1mo_qi1d2 : qi1mo ≠ qi1d2 := z_ne hm_qi1mo hq_qi1d2
  have ne_hs_qi1d3 : hs ≠ qi1d3 := z_ne hm_hs hq_qi1d3
  have ne_qim_qi1d3 : qim ≠ qi1d3 := z_ne hm_qim hq_qi1d3
  have ne_qi1mo_qi1d3 : qi1mo ≠ qi1d3 := z_ne hm_qi1mo hq_qi1d3
  have ne_hs_qi1d4 : hs ≠ qi1d4 := z_ne hm_hs hq_qi1d4
  have ne_qim_qi1d4 : qim ≠ qi1d4 := z_ne hm_qim hq_qi1d4
  have ne_qi1mo_qi1d4 : qi1mo ≠ qi1d4 := z_ne hm_qi1mo hq_qi1d4
  have ne_hs_qi1d5 : hs ≠ qi1d5 := z_ne hm_hs hq_qi1d5
  have ne_qim_qi1d5 : qim ≠ qi1d5 := z_ne hm_qim hq_qi1d5
  have ne_qi1mo_qi1d5 : qi1mo ≠ qi1d5 := z_ne hm_qi1mo hq_qi1d5
  have ne_hs_qi1d6 : hs ≠ qi1d6 := z_ne hm_hs hq_qi1d6
  have ne_qim_qi1d6 : qim ≠ qi1d6 := z_ne hm_qim hq_qi1d6
  have ne_qi1mo_qi1d6 : qi1mo ≠ qi1d6 := z_ne hm_qi1mo hq_qi1d6
  have ne_hs_qi1d7 : hs ≠ qi1d7 := z_ne hm_hs hq_qi1d7
  have ne_qim_qi1d7 : qim ≠ qi1d7 := z_ne hm_qim hq_qi1d7
  have ne_qi1mo_qi1d7 : qi1mo ≠ qi1d7 := z_ne hm_qi1mo hq_qi1d7
  have ne_hs_qi1d8 : hs ≠ qi1d8 := z_ne hm_hs hq_qi1d8
  have ne_qim_qi1d8 : qim ≠ qi1d8 := z_ne hm_qim hq_qi1d8
  have ne_qi1mo_qi1d8 : qi1mo ≠ qi1d8 := z_ne hm_qi1mo hq_qi1d8
  have ne_hs_qi1d9 : hs ≠ qi1d9 := z_ne hm_hs hq_qi1d9
  have ne_qim_qi1d9 : qim ≠ qi1d9 := z_ne hm_qim hq_qi1d9
  have ne_qi1mo_qi1d9 : qi1mo ≠ qi1d9 := z_ne hm_qi1mo hq_qi1d9
  have ne_hs_qi1d10 : hs ≠ qi1d10 := z_ne hm_hs hq_qi1d10
  have ne_qim_qi1d10 : qim ≠ qi1d10 := z_ne hm_qim hq_qi1d10
  have ne_qi1mo_qi1d10 : qi1mo ≠ qi1d10 := z_ne hm_qi1mo hq_qi1d10
  have ne_hs_qi1d11 : hs ≠ qi1d11 := z_ne hm_hs hq_qi1d11
  have ne_qim_qi1d11 : qim ≠ qi1d11 := z_ne hm_qim hq_qi1d11
  have ne_qi1mo_qi1d11 : qi1mo ≠ qi1d11 := z_ne hm_qi1mo hq_qi1d11
  have ne_hs_qi1d12 : hs ≠ qi1d12 := z_ne hm_hs hq_qi1d12
  have ne_qim_qi1d12 : qim ≠ qi1d12 := z_ne hm_qim hq_qi1d12
  have ne_qi1mo_qi1d12 : qi1mo ≠ qi1d12 := z_ne hm_qi1mo hq_qi1d12
  have hfr : ∀ b ∈ L, b ≠ hs → f33 b = f b := fun b hb h0 => (hfm b (hsub b hb) (z_ne hb hn_qi1mo)).trans (hfr b hb h0)
  have hn_qi1la : qi1la ∉ L := fun h => hq_qi1la (hsub _ h)
  have hn_qi1sa : qi1sa ∉ L := fun h => hq_qi1sa (hsub _ h)
  have hn_qi1mi : qi1mi ∉ L := fun h => hq_qi1mi (hsub _ h)
  have hn_qi1da : qi1da ∉ L := fun h => hq_qi1da (hsub _ h)
  have hn_qi1d0 : qi1d0 ∉ L := fun h => hq_qi1d0 (hsub _ h)
  have hn_qi1d1 : qi1d1 ∉ L := fun h => hq_qi1d1 (hsub _ h)
  have hn_qi1d2 : qi1d2 ∉ L := fun h => hq_qi1d2 (hsub _ h)
  have hn_qi1d3 : qi1d3 ∉ L := fun h => hq_qi1d3 (hsub _ h)
  have hn_qi1d4 : qi1d4 ∉ L := fun h => hq_qi1d4 (hsub _ h)
  have hn_qi1d5 : qi1d5 ∉ L := fun h => hq_qi1d5 (hsub _ h)
  have hn_qi1d6 : qi1d6 ∉ L := fun h => hq_qi1d6 (hsub _ h)
  have hn_qi1d7 : qi1d7 ∉ L := fun h => hq_qi1d7 (hsub _ h)
  have hn_qi1d8 : qi1d8 ∉ L := fun h => hq_qi1d8 (hsub _ h)
  have hn_qi1d9 : qi1d9 ∉ L := fun h => hq_qi1d9 (hsub _ h)
  have hn_qi1d10 : qi1d10 ∉ L := fun h => hq_qi1d10 (hsub _ h)
  have hn_qi1d11 : qi1d11 ∉ L := fun h => hq_qi1d11 (hsub _ h)
  have hn_qi1d12 : qi1d12 ∉ L := fun h => hq_qi1d12 (hsub _ h)
  have hsub : ∀ b ∈ L, b ∈ L32 := fun b h => hsb b (hsub b h)
  have hck_T : ∀ b ∈ L3, b ≠ hs → f33 b = f5 b := fun b hb h_hs => (hfm b (hcs_T b hb) (z_ne hb hnk_T_qi1mo)).trans (hck_T b hb h_hs)
  have hcs_T : ∀ b ∈ L3, b ∈ L32 := fun b h => hsb b (hcs_T b h)
  have hck_M : ∀ b ∈ L8, b ≠ hs → f33 b = f10 b := fun b hb h_hs => (hfm b (hcs_M b hb) (z_ne hb hnk_M_qi1mo)).trans (hck_M b hb h_hs)
  have hcs_M : ∀ b ∈ L8, b ∈ L32 := fun b h => hsb b (hcs_M b h)
  have hck_F : ∀ b ∈ L13, b ≠ hs → f33 b = f15 b := fun b hb h_hs => (hfm b (hcs_F b hb) (z_ne hb hnk_F_qi1mo)).trans (hck_F b hb h_hs)
  have hcs_F : ∀ b ∈ L13, b ∈ L32 := fun b h => hsb b (hcs_F b h)
  have hck_R : ∀ b ∈ L16, b ≠ hs → f33 b = f20 b := fun b hb h_hs => (hfm b (hcs_R b hb) (z_ne hb hnk_R_qi1mo)).trans (hck_R b hb h_hs)
  have hcs_R : ∀ b ∈ L16, b ∈ L32 := fun b h => hsb b (hcs_R b h)
  have hck_I0 : ∀ b ∈ L26, b ≠ hs → b ≠ qim → f33 b = f29 b := fun b hb h_hs h_qim => (hfm b (hcs_I0 b hb) (z_ne hb hnk_I0_qi1mo)).trans (hck_I0 b hb h_hs h_qim)
  have hcs_I0 : ∀ b ∈ L26, b ∈ L32 := fun b h => hsb b (hcs_I0 b h)
  have hf_hs : f33 hs = .inr (9, [.ref qtp, .ref qrd, .ref qmmo, .ref qxmo, .ref qim, .null, .null, .null, .null, .null, .null]) := (hfm hs hm_hs ne_hs_qi1mo).trans hf_hs
  have hf_qim : f33 qim = .inl (cy 5, 3, .inr (.inr (.inr (.inr g28)))) := (hfm qim hm_qim ne_qim_qi1mo).trans hf_qim
  have hm_hs : hs ∈ L32 := hsb _ hm_hs
  have hm_qim : qim ∈ L32 := hsb _ hm_qim
  have hm_qi1mo : qi1mo ∈ L32 := hsb _ hm_qi1mo
  have hf_qi1mo : f33 qi1mo = .inr (2, [.int 0, .int 0, .int 0, .int 0, .int 0, .int 0, .int 0, .ref qi1la, .ref qi1sa, .ref qi1mi, .ref qi1da]) := ha_0
  have hf_qi1la : f33 qi1la = .inl (cy 1, 5, .inl (fun _ => 0)) := hf_qi1la
  have hm_qi1la : qi1la ∈ L32 := hm_qi1la
  have hf_qi1sa : f33 qi1sa = .inl (cy 1, 4, .inl (fun _ => 0)) := hf_qi1sa
  have hm_qi1sa : qi1sa ∈ L32 := hm_qi1sa
  have hf_qi1mi : f33 qi1mi = .inl (cy 1, 36, .inl (fun _ => 0)) := hf_qi1mi
  have hm_qi1mi : qi1mi ∈ L32 := hm_qi1mi
  have hf_qi1da : f33 qi1da = .inl (cy 4, 13, .inr (.inr (.inr (.inr qi1gd)))) := hf_qi1da
  have hm_qi1da : qi1da ∈ L32 := hm_qi1da
  have hf_qi1d0 : f33 qi1d0 = .inr (0, [.int 0, .int 0, .int 0, .int 0, .int 0, .int 0, .int 0, .int 0]) := hf_qi1d0
  have hm_qi1d0 : qi1d0 ∈ L32 := hm_qi1d0
  have hf_qi1d1 : f33 qi1d1 = .inr (0, [.int 0, .int 0, .int 0, .int 0, .int 0, .int 0, .int 0, .int 0]) := hf_qi1d1
  have hm_qi1d1 : qi1d1 ∈ L32 := hm_qi1d1
  have hf_qi1d2 : f33 qi1d2 = .inr (0, [.int 0, .int 0, .int 0, .int 0, .int 0, .int 0, .int 0, .int 0]) := hf_qi1d2
  have hm_qi1d2 : qi1d2 ∈ L32 := hm_qi1d2
  have hf_qi1d3 : f33 qi1d3 = .inr (0, [.int 0, .int 0, .int 0, .int 0, .int 0, .int 0, .int 0, .int 0]) := hf_qi1d3
  have hm_qi1d3 : qi1d3 ∈ L32 := hm_qi1d3
  have hf_qi1d4 : f33 qi1d4 = .inr (0, [.int 0, .int 0, .int 0, .int 0, .int 0, .int 0, .int 0, .int 0]) := hf_qi1d4
  have hm_qi1d4 : qi1d4 ∈ L32 := hm_qi1d4
  have hf_qi1d5 : f33 qi1d5 = .inr (0, [.int 0, .int 0, .int 0, .int 0, .int 0, .int 0, .int 0, .int 0]) := hf_qi1d5
  have hm_qi1d5 : qi1d5 ∈ L32 := hm_qi1d5
  have hf_qi1d6 : f33 qi1d6 = .inr (0, [.int 0, .int 0, .int 0, .int 0, .int 0, .int 0, .int 0, .int 0]) := hf_qi1d6
  have hm_qi1d6 : qi1d6 ∈ L32 := hm_qi1d6
  have hf_qi1d7 : f33 qi1d7 = .inr (0, [.int 0, .int 0, .int 0, .int 0, .int 0, .int 0, .int 0, .int 0]) := hf_qi1d7
  have hm_qi1d7 : qi1d7 ∈ L32 := hm_qi1d7
  have hf_qi1d8 : f33 qi1d8 = .inr (0, [.int 0, .int 0, .int 0, .int 0, .int 0, .int 0, .int 0, .int 0]) := hf_qi1d8
  have hm_qi1d8 : qi1d8 ∈ L32 := hm_qi1d8
  have hf_qi1d9 : f33 qi1d9 = .inr (0, [.int 0, .int 0, .int 0, .int 0, .int 0, .int 0, .int 0, .int 0]) := hf_qi1d9
  have hm_qi1d9 : qi1d9 ∈ L32 := hm_qi1d9
  have hf_qi1d10 : f33 qi1d10 = .inr (0, [.int 0, .int 0, .int 0, .int 0, .int 0, .int 0, .int 0, .int 0]) := hf_qi1d10
  have hm_qi1d10 : qi1d10 ∈ L32 := hm_qi1d10
  have hf_qi1d11 : f33 qi1d11 = .inr (0, [.int 0, .int 0, .int 0, .int 0, .int 0, .int 0, .int 0, .int 0]) := hf_qi1d11
  have hm_qi1d11 : qi1d11 ∈ L32 := hm_qi1d11
  have hf_qi1d12 : f33 qi1d12 = .inr (0, [.int 0, .int 0, .int 0, .int 0, .int 0, .int 0, .int 0, .int 0]) := hf_qi1d12
  have hm_qi1d12 : qi1d12 ∈ L32 := hm_qi1d12
  have e_L32 : L32 = L30 ++ [qi1la, qi1sa, qi1mi, qi1da, qi1d0, qi1d1, qi1d2, qi1d3, qi1d4, qi1d5, qi1d6, qi1d7, qi1d8, qi1d9, qi1d10, qi1d11, qi1d12] := hp.1
  have hgd_i1 := hp.2
  refine z_aast (r := (RX2, TX2, 11)) hx hb hK hw 5 2 hm_qim hf_qim rfl hm_qi1mo hf_qi1mo rfl (z_ix (show (1 : Int32).toInt = 1 by decide) (by decide)) dX9_init_83 (fun H locs hw => ?_)
  obtain ⟨f35, e_f35⟩ : ∃ z, z = va_up f33 qim (.inl (cy 5, 3, .inr (.inr (.inr (.inr (va_up g28 (1 : Int32).toNatClampNeg (some qi1mo))))))) := ⟨_, rfl⟩
  rw [← e_f35] at hw
  have hf_hs : f35 hs = .inr (9, [.ref qtp, .ref qrd, .ref qmmo, .ref qxmo, .ref qim, .null, .null, .null, .null, .null, .null]) := (congrFun e_f35 hs).trans (z_up_ne ne_hs_qim hf_hs)
  have hf_qi1mo : f35 qi1mo = .inr (2, [.int 0, .int 0, .int 0, .int 0, .int 0, .int 0, .int 0, .ref qi1la, .ref qi1sa, .ref qi1mi, .ref qi1da]) := (congrFun e_f35 qi1mo).trans (z_up_ne (Ne.symm ne_qim_qi1mo) hf_qi1mo)
  have hf_qi1la : f35 qi1la = .inl (cy 1, 5, .inl (fun _ => 0)) := (congrFun e_f35 qi1la).trans (z_up_ne (Ne.symm ne_qim_qi1la) hf_qi1la)
  have hf_qi1sa : f35 qi1sa = .inl (cy 1, 4, .inl (fun _ => 0)) := (congrFun e_f35 qi1sa).trans (z_up_ne (Ne.symm ne_qim_qi1sa) hf_qi1sa)
  have hf_qi1mi : f35 qi1mi = .inl (cy 1, 36, .inl (fun _ => 0)) := (congrFun e_f35 qi1mi).trans (z_up_ne (Ne.symm ne_qim_qi1mi) hf_qi1mi)
  have hf_qi1da : f35 qi1da = .inl (cy 4, 13, .inr (.inr (.inr (.inr qi1gd)))) := (congrFun e_f35 qi1da).trans (z_up_ne (Ne.symm ne_qim_qi1da) hf_qi1da)
  have hf_qi1d0 : f35 qi1d0 = .inr (0, [.int 0, .int 0, .int 0, .int 0, .int 0, .int 0, .int 0, .int 0]) := (congrFun e_f35 qi1d0).trans (z_up_ne (Ne.symm ne_qim_qi1d0) hf_qi1d0)
  have hf_qi1d1 : f35 qi1d1 = .inr (0, [.int 0, .int 0, .int 0, .int 0, .int 0, .int 0, .int 0, .int 0]) := (congrFun e_f35 qi1d1).trans (z_up_ne (Ne.symm ne_qim_qi1d1) hf_qi1d1)
  have hf_qi1d2 : f35 qi1d2 = .inr (0, [.int 0, .int 0, .int 0, .int 0, .int 0, .int 0, .int 0, .int 0]) := (congrFun e_f35 qi1d2).trans (z_up_ne (Ne.symm ne_qim_qi1d2) hf_qi1d2)
  have hf_qi1d3 : f35 qi1d3 = .inr (0, [.int 0, .int 0, .int 0, .int 0, .int 0, .int 0, .int 0, .int 0]) := (congrFun e_f35 qi1d3).trans (z_up_ne (Ne.symm ne_qim_qi1d3) hf_qi1d3)
  have hf_qi1d4 : f35 qi1d4 = .inr (0, [.int 0, .int 0, .int 0, .int 0, .int 0, .int 0, .int 0, .int 0]) := (congrFun e_f35 qi1d4).trans (z_up_ne (Ne.symm ne_qim_qi1d4) hf_qi1d4)
  have hf_qi1d5 : f35 qi1d5 = .inr (0, [.int 0, .int 0, .int 0, .int 0, .int 0, .int 0, .int 0, .int 0]) := (congrFun e_f35 qi1d5).trans (z_up_ne (Ne.symm ne_qim_qi1d5) hf_qi1d5)
  have hf_qi1d6 : f35 qi1d6 = .inr (0, [.int 0, .int 0, .int 0, .int 0, .int 0, .int 0, .int 0, .int 0]) := (congrFun e_f35 qi1d6).trans (z_up_ne (Ne.symm ne_qim_qi1d6) hf_qi1d6)
  have hf_qi1d7 : f35 qi1d7 = .inr (0, [.int 0, .int 0, .int 0, .int 0, .int 0, .int 0, .int 0, .int 0]) := (congrFun e_f35 qi1d7).trans (z_up_ne (Ne.symm ne_qim_qi1d7) hf_qi1d7)
  have hf_qi1d8 : f35 qi1d8 = .inr (0, [.int 0, .int 0, .int 0, .int 0, .int 0, .int 0, .int 0, .int 0]) := (congrFun e_f35 qi1d8).trans (z_up_ne (Ne.symm ne_qim_qi1d8) hf_qi1d8)
  have hf_qi1d9 : f35 qi1d9 = .inr (0, [.int 0, .int 0, .int 0, .int 0, .int 0, .int 0, .int 0, .int 0]) := (congrFun e_f35 qi1d9).trans (z_up_ne (Ne.symm ne_qim_qi1d9) hf_qi1d9)
  have hf_qi1d10 : f35 qi1d10 = .inr (0, [.int 0, .int 0, .int 0, .int 0, .int 0, .int 0, .int 0, .int 0]) := (congrFun e_f35 qi1d10).trans (z_up_ne (Ne.symm ne_qim_qi1d10) hf_qi1d10)
  have hf_qi1d11 : f35 qi1d11 = .inr (0, [.int 0, .int 0, .int 0, .int 0, .int 0, .int 0, .int 0, .int 0]) := (congrFun e_f35 qi1d11).trans (z_up_ne (Ne.symm ne_qim_qi1d11) hf_qi1d11)
  have hf_qi1d12 : f35 qi1d12 = .inr (0, [.int 0, .int 0, .int 0, .int 0, .int 0, .int 0, .int 0, .int 0]) := (congrFun e_f35 qi1d12).trans (z_up_ne (Ne.symm ne_qim_qi1d12) hf_qi1d12)
  have hf_qim : f35 qim = .inl (cy 5, 3, .inr (.inr (.inr (.inr (va_up g28 (1 : Int32).toNatClampNeg (some qi1mo)))))) := (congrFun e_f35 qim).trans z_up_self
  have hck_T : ∀ b ∈ L3, b ≠ hs → f35 b = f5 b := fun b hb h_hs => (congrFun e_f35 b).trans (z_up_ne (z_ne hb hnk_T_qim) (hck_T b hb h_hs))
  have hck_M : ∀ b ∈ L8, b ≠ hs → f35 b = f10 b := fun b hb h_hs => (congrFun e_f35 b).trans (z_up_ne (z_ne hb hnk_M_qim) (hck_M b hb h_hs))
  have hck_F : ∀ b ∈ L13, b ≠ hs → f35 b = f15 b := fun b hb h_hs => (congrFun e_f35 b).trans (z_up_ne (z_ne hb hnk_F_qim) (hck_F b hb h_hs))
  have hck_R : ∀ b ∈ L16, b ≠ hs → f35 b = f20 b := fun b hb h_hs => (congrFun e_f35 b).trans (z_up_ne (z_ne hb hnk_R_qim) (hck_R b hb h_hs))
  have hck_I0 : ∀ b ∈ L26, b ≠ hs → b ≠ qim → f35 b = f29 b := fun b hb h_hs h_qim => (congrFun e_f35 b).trans (z_up_ne h_qim (hck_I0 b hb h_hs h_qim))
  have hfr : ∀ b ∈ L, b ≠ hs → f35 b = f b := fun b hb h0 => (congrFun e_f35 b).trans (z_up_ne (z_ne hb hn_qim) (hfr b hb h0))
  obtain ⟨g34, e_g34⟩ : ∃ z, z = (va_up g28 (1 : Int32).toNatClampNeg (some qi1mo)) := ⟨_, rfl⟩
  rw [← e_g34] at hf_qim
  have h0_qi1mo := hf_qi1mo
  have m0_qi1mo := hm_qi1mo
  have h0_qi1la := hf_qi1la
  have m0_qi1la := hm_qi1la
  have h0_qi1sa := hf_qi1sa
  have m0_qi1sa := hm_qi1sa
  have h0_qi1mi := hf_qi1mi
  have m0_qi1mi := hm_qi1mi
  have h0_qi1da := hf_qi1da
  have m0_qi1da := hm_qi1da
  have h0_qi1d0 := hf_qi1d0
  have m0_qi1d0 := hm_qi1d0
  have h0_qi1d1 := hf_qi1d1
  have m0_qi1d1 := hm_qi1d1
  have h0_qi1d2 := hf_qi1d2
  have m0_qi1d2 := hm_qi1d2
  have h0_qi1d3 := hf_qi1d3
  have m0_qi1d3 := hm_qi1d3
  have h0_qi1d4 := hf_qi1d4
  have m0_qi1d4 := hm_qi1d4
  have h0_qi1d5 := hf_qi1d5
  have m0_qi1d5 := hm_qi1d5
  have h0_qi1d6 := hf_qi1d6
  have m0_qi1d6 := hm_qi1d6
  have h0_qi1d7 := hf_qi1d7
  have m0_qi1d7 := hm_qi1d7
  have h0_qi1d8 := hf_qi1d8
  have m0_qi1d8 := hm_qi1d8
  have h0_qi1d9 := hf_qi1d9
  have m0_qi1d9 := hm_qi1d9
  have h0_qi1d10 := hf_qi1d10
  have m0_qi1d10 := hm_qi1d10
  have h0_qi1d11 := hf_qi1d11
  have m0_qi1d11 := hm_qi1d11
  have h0_qi1d12 := hf_qi1d12
  have m0_qi1d12 := hm_qi1d12
  have hck_I1 : ∀ b ∈ L32, b ≠ hs → b ≠ qim → f35 b = f35 b := fun _ _ _ _ => rfl
  have hcs_I1 : ∀ b ∈ L32, b ∈ L32 := fun _ h => h
  refine lv_iinc (v := 2) (lv' := [(1, .int 2), (0, .ref hs)]) hx hb dX9_init_84 hl (k := 0) rfl (by decide) (by decide) rfl (fun ls hl => ?_)
  refine lv_goto (tgt := 66) hx hb dX9_init_87 (by decide) ?_
  refine lv_iload_n hx hb dX9_init_66 rfl (lv_at hl 0 rfl) ?_
  refine lv_iconst (v := 3) hx hb dX9_init_67 (by decide) ?_
  refine z_icmp_ge (tgt := 90) hx hb (show (2 : Int32).toInt = 2 by decide) (show (3 : Int32).toInt = 3 by decide) dX9_init_68 (by decide) (fun h => absurd h (by decide)) (fun _ => ?_)
  refine lv_aload_n hx hb dX9_init_71 rfl (lv_at hl 1 rfl) ?_
  refine z_get (C := RX9) (T := TX9) (N := 11) (ci := 9) (v := .ref qim) hx hb hT zin_X9 hown hK hw hm_hs hf_hs rfl 4 (by decide) (hT _ kw_481) rfl dX9_init_72 ?_
  refine lv_iload_n hx hb dX9_init_75 rfl (lv_at hl 0 rfl) ?_
  refine z_new (C := RX2) (T := TX2) (N := 11) (ci := 2) (fs := [.int 0, .int 0, .int 0, .int 0, .int 0, .int 0, .int 0, .null, .null, .null, .null]) (cells := 76) (slots := 2306) hx hb hT zin_X2 tyX2_ok hown (hT _ kw_128) (hT _ kw_129) (hT _ kw_87) hK hw hA rfl (fun j hj => by rcases (show j = 0 ∨ j = 1 ∨ j = 2 ∨ j = 3 ∨ j = 4 ∨ j = 5 ∨ j = 6 ∨ j = 7 ∨ j = 8 ∨ j = 9 ∨ j = 10 by omega) with rfl | rfl | rfl | rfl | rfl | rfl | rfl | rfl | rfl | rfl | rfl <;> rfl) (by decide) (by decide) dX9_init_76 (fun qi2mo H hq_qi2mo hw => ?_)
  refine W.widen (k := 77) (n := 2317) (by decide) (by decide) ?_
  have ne_hs_qi2mo : hs ≠ qi2mo := z_ne hm_hs hq_qi2mo
  have ne_qim_qi2mo : qim ≠ qi2mo := z_ne hm_qim hq_qi2mo
  have hn_qi2mo : qi2mo ∉ L := fun h => hq_qi2mo (hsub _ h)
  obtain ⟨f37, e_f37⟩ : ∃ z, z = va_up f35 qi2mo (.inr (2, [.int 0, .int 0, .int 0, .int 0, .int 0, .int 0, .int 0, .null, .null, .null, .null])) := ⟨_, rfl⟩
  obtain ⟨L36, e_L36⟩ : ∃ z, z = L32 ++ [qi2mo] := ⟨_, rfl⟩
  rw [← e_f37, ← e_L36] at hw
  have hm_hs : hs ∈ L36 := by rw [e_L36]; exact List.mem_append_left _ hm_hs
  have hf_hs : f37 hs = .inr (9, [.ref qtp, .ref qrd, .ref qmmo, .ref qxmo, .ref qim, .null, .null, .null, .null, .null, .null]) := (congrFun e_f37 hs).trans (z_up_ne ne_hs_qi2mo hf_hs)
  have hm_qim : qim ∈ L36 := by rw [e_L36]; exact List.mem_append_left _ hm_qim
  have hf_qim : f37 qim = .inl (cy 5, 3, .inr (.inr (.inr (.inr g34)))) := (congrFun e_f37 qim).trans (z_up_ne ne_qim_qi2mo hf_qim)
  have hm_qi2mo : qi2mo ∈ L36 := by rw [e_L36]; exact List.mem_append_right _ (List.mem_singleton.mpr rfl)
  have hf_qi2mo : f37 qi2mo = .inr (2, [.int 0, .int 0, .int 0, .int 0, .int 0, .int 0, .int 0, .null, .null, .null, .null]) := (congrFun e_f37 qi2mo).trans z_up_self
  have hsub : ∀ b ∈ L, b ∈ L36 := fun b h => by rw [e_L36]; exact List.mem_append_left _ (hsub b h)
  have hfr : ∀ b ∈ L, b ≠ hs → f37 b = f b := fun b hb h0 => (congrFun e_f37 b).trans (z_up_ne (z_ne hb hn_qi2mo) (hfr b hb h0))
  have hnk_T_qi2mo : qi2mo ∉ L3 := fun h => hq_qi2mo (hcs_T _ h)
  have hcs_T : ∀ b ∈ L3, b ∈ L36 := fun b h => by rw [e_L36]; exact List.mem_append_left _ (hcs_T b h)
  have hck_T : ∀ b ∈ L3, b ≠ hs → f37 b = f5 b := fun b hb h_hs => (congrFun e_f37 b).trans (z_up_ne (z_ne hb hnk_T_qi2mo) (hck_T b hb h_hs))
  have hnk_M_qi2mo : qi2mo ∉ L8 := fun h => hq_qi2mo (hcs_M _ h)
  have hcs_M : ∀ b ∈ L8, b ∈ L36 := fun b h => by rw [e_L36]; exact List.mem_append_left _ (hcs_M b h)
  have hck_M : ∀ b ∈ L8, b ≠ hs → f37 b = f10 b := fun b hb h_hs => (congrFun e_f37 b).trans (z_up_ne (z_ne hb hnk_M_qi2mo) (hck_M b hb h_hs))
  have hnk_F_qi2mo : qi2mo ∉ L13 := fun h => hq_qi2mo (hcs_F _ h)
  have hcs_F : ∀ b ∈ L13, b ∈ L36 := fun b h => by rw [e_L36]; exact List.mem_append_left _ (hcs_F b h)
  have hck_F : ∀ b ∈ L13, b ≠ hs → f37 b = f15 b := fun b hb h_hs => (congrFun e_f37 b).trans (z_up_ne (z_ne hb hnk_F_qi2mo) (hck_F b hb h_hs))
  have hnk_R_qi2mo : qi2mo ∉ L16 := fun h => hq_qi2mo (hcs_R _ h)
  have hcs_R : ∀ b ∈ L16, b ∈ L36 := fun b h => by rw [e_L36]; exact List.mem_append_left _ (hcs_R b h)
  have hck_R : ∀ b ∈ L16, b ≠ hs → f37 b = f20 b := fun b hb h_hs => (congrFun e_f37 b).trans (z_up_ne (z_ne hb hnk_R_qi2mo) (hck_R b hb h_hs))
  have hnk_I0_qi2mo : qi2mo ∉ L26 := fun h => hq_qi2mo (hcs_I0 _ h)
  have hcs_I0 : ∀ b ∈ L26, b ∈ L36 := fun b h => by rw [e_L36]; exact List.mem_append_left _ (hcs_I0 b h)
  have hck_I0 : ∀ b ∈ L26, b ≠ hs → b ≠ qim → f37 b = f29 b := fun b hb h_hs h_qim => (congrFun e_f37 b).trans (z_up_ne (z_ne hb hnk_I0_qi2mo) (hck_I0 b hb h_hs h_qim))
  have hnk_I1_qi2mo : qi2mo ∉ L32 := fun h => hq_qi2mo (hcs_I1 _ h)
  have hcs_I1 : ∀ b ∈ L32, b ∈ L36 := fun b h => by rw [e_L36]; exact List.mem_append_left _ (hcs_I1 b h)
  have hck_I1 : ∀ b ∈ L32, b ≠ hs → b ≠ qim → f37 b = f35 b := fun b hb h_hs h_qim => (congrFun e_f37 b).trans (z_up_ne (z_ne hb hnk_I1_qi2mo) (hck_I1 b hb h_hs h_qim))
  refine lv_dup hx hb dX9_init_79 rfl ?_
  refine z_callvI (cells := 77) (slots := 2317) (b := qi2mo) (As := []) (rest := [.ref qi2mo, .int 2, .ref qim]) ⟨hx, hb, hml, hown, hT⟩ (c_X2_init l hm_qi2mo hf_qi2mo) (cwI 0 hT (z_goodI (fun _ h => h) kw_132) rfl rfl rfl (hT _ kw_87) (hT _ kw_130) (hT _ kw_131) rfl (by decide +kernel) ⟨by decide, by decide⟩) z_mv hKK hw hA rfl hl.1 rfl (Nat.le_of_ble_eq_true rfl) dX9_init_80 ⟨by decide, by decide⟩ (fun u H locs hp hw => ?_)
  refine W.widen (k := 94) (n := 2479) (by decide) (by decide) ?_
  obtain ⟨L38, f39⟩ := u
  obtain ⟨hsb, hfm, qi2la, qi2sa, qi2mi, qi2da, qi2d0, qi2d1, qi2d2, qi2d3, qi2d4, qi2d5, qi2d6, qi2d7, qi2d8, qi2d9, qi2d10, qi2d11, qi2d12, qi2gd, ha_0, ⟨hq_qi2la, hm_qi2la, hf_qi2la⟩, ⟨hq_qi2sa, hm_qi2sa, hf_qi2sa⟩, ⟨hq_qi2mi, hm_qi2mi, hf_qi2mi⟩, ⟨hq_qi2da, hm_qi2da, hf_qi2da⟩, ⟨hq_qi2d0, hm_qi2d0, hf_qi2d0⟩, ⟨hq_qi2d1, hm_qi2d1, hf_qi2d1⟩, ⟨hq_qi2d2, hm_qi2d2, hf_qi2d2⟩, ⟨hq_qi2d3, hm_qi2d3, hf_qi2d3⟩, ⟨hq_qi2d4, hm_qi2d4, hf_qi2d4⟩, ⟨hq_qi2d5, hm_qi2d5, hf_qi2d5⟩, ⟨hq_qi2d6, hm_qi2d6, hf_qi2d6⟩, ⟨hq_qi2d7, hm_qi2d7, hf_qi2d7⟩, ⟨hq_qi2d8, hm_qi2d8, hf_qi2d8⟩, ⟨hq_qi2d9, hm_qi2d9, hf_qi2d9⟩, ⟨hq_qi2d10, hm_qi2d10, hf_qi2d10⟩, ⟨hq_qi2d11, hm_qi2d11, hf_qi2d11⟩, ⟨hq_qi2d12, hm_qi2d12, hf_qi2d12⟩, hp⟩ := hp
  have hw : z_H D vwCl (z_A L sz) s.heap L38 f39 H locs := hw
  have ne_hs_qi2la : hs ≠ qi2la := z_ne hm_hs hq_qi2la
  have ne_qim_qi2la : qim ≠ qi2la := z_ne hm_qim hq_qi2la
  have ne_qi2mo_qi2la : qi2mo ≠ qi2la := z_ne hm_qi2mo hq_qi2la
  have ne_hs_qi2sa : hs ≠ qi2sa := z_ne hm_hs hq_qi2sa
  have ne_qim_qi2sa : qim ≠ qi2sa := z_ne hm_qim hq_qi2sa
  have ne_qi2mo_qi2sa : qi2mo ≠ qi2sa := z_ne hm_qi2mo hq_qi2sa
  have ne_hs_qi2mi : hs ≠ qi2mi := z_ne hm_hs hq_qi2mi
  have ne_qim_qi2mi : qim ≠ qi2mi := z_ne hm_qim hq_qi2mi
  have ne_qi2mo_qi2mi : qi2mo ≠ qi2mi := z_ne hm_qi2mo hq_qi2mi
  have ne_hs_qi2da : hs ≠ qi2da := z_ne hm_hs hq_qi2da
  have ne_qim_qi2da : qim ≠ qi2da := z_ne hm_qim hq_qi2da
  have ne_qi2mo_qi2da : qi2mo ≠ qi2da := z_ne hm_qi2mo hq_qi2da
  have ne_hs_qi2d0 : hs ≠ qi2d0 := z_ne hm_hs hq_qi2d0
  have ne_qim_qi2d0 : qim ≠ qi2d0 := z_ne hm_qim hq_qi2d0
  have ne_qi2mo_qi2d0 : qi2mo ≠ qi2d0 := z_ne hm_qi2mo hq_qi2d0
  have ne_hs_qi2d1 : hs ≠ qi2d1 := z_ne hm_hs hq_qi2d1
  have ne_qim_qi2d1 : qim ≠ qi2d1 := z_ne hm_qim hq_qi2d1
  have ne_qi2mo_qi2d1 : qi2mo ≠ qi2d1 := z_ne hm_qi2mo hq_qi2d1
  have ne_hs_qi2d2 : hs ≠ qi2d2 := z_ne hm_hs hq_qi2d2
  have ne_qim_qi2d2 : qim ≠ qi2d2 := z_ne hm_qim hq_qi2d2
  have ne_qi2mo_qi2d2 : qi2mo ≠ qi2d2 := z_ne hm_qi2mo hq_qi2d2
  have ne_hs_qi2d3 : hs ≠ qi2d3 := z_ne hm_hs hq_qi2d3
  have ne_qim_qi2d3 : qim ≠ qi2d3 := z_ne hm_qim hq_qi2d3
  have ne_qi2mo_qi2d3 : qi2mo ≠ qi2d3 := z_ne hm_qi2mo hq_qi2d3
  have ne_hs_qi2d4 : hs ≠ qi2d4 := z_ne hm_hs hq_qi2d4
  have ne_qim_qi2d4 : qim ≠ qi2d4 := z_ne hm_qim hq_qi2d4
  have ne_qi2mo_qi2d4 : qi2mo ≠ qi2d4 := z_ne hm_qi2mo hq_qi2d4
  have ne_hs_qi2d5 : hs ≠ qi2d5 := z_ne hm_hs hq_qi2d5
  have ne_qim_qi2d5 : qim ≠ qi2d5 := z_ne hm_qim hq_qi2d5
  have ne_qi2mo_qi2d5 : qi2mo ≠ qi2d5 := z_ne hm_qi2mo hq_qi2d5
  have ne_hs_qi2d6 : hs ≠ qi2d6 := z_ne hm_hs hq_qi2d6
  have ne_qim_qi2d6 : qim ≠ qi2d6 := z_ne hm_qim hq_qi2d6
  have ne_qi2mo_qi2d6 : qi2mo ≠ qi2d6 := z_ne hm_qi2mo hq_qi2d6
  have ne_hs_qi2d7 : hs ≠ qi2d7 := z_ne hm_hs hq_qi2d7
  have ne_qim_qi2d7 : qim ≠ qi2d7 := z_ne hm_qim hq_qi2d7
  have ne_qi2mo_qi2d7 : qi2mo ≠ qi2d7 := z_ne hm_qi2mo hq_qi2d7
  have ne_hs_qi2d8 : hs ≠ qi2d8 := z_ne hm_hs hq_qi2d8
  have ne_qim_qi2d8 : qim ≠ qi2d8 := z_ne hm_qim hq_qi2d8
  have ne_qi2mo_qi2d8 : qi2mo ≠ qi2d8 := z_ne hm_qi2mo hq_qi2d8
  have ne_hs_qi2d9 : hs ≠ qi2d9 := z_ne hm_hs hq_qi2d9
  have ne_qim_qi2d9 : qim ≠ qi2d9 := z_ne hm_qim hq_qi2d9
  have ne_qi2mo_qi2d9 : qi2mo ≠ qi2d9 := z_ne hm_qi2mo hq_qi2d9
  have ne_hs_qi2d10 : hs ≠ qi2d10 := z_ne hm_hs hq_qi2d10
  have ne_qim_qi2d10 : qim ≠ qi2d10 := z_ne hm_qim hq_qi2d10
  have ne_qi2mo_qi2d10 : qi2mo ≠ qi2d10 := z_ne hm_qi2mo hq_qi2d10
  have ne_hs_qi2d11 : hs ≠ qi2d11 := z_ne hm_hs hq_qi2d11
  have ne_qim_qi2d11 : qim ≠ qi2d11 := z_ne hm_qim hq_qi2d11
  have ne_qi2mo_qi2d11 : qi2mo ≠ qi2d11 := z_ne hm_qi2mo hq_qi2d11
  have ne_hs_qi2d12 : hs ≠ qi2d12 := z_ne hm_hs hq_qi2d12
  have ne_qim_qi2d12 : qim ≠ qi2d12 := z_ne hm_qim hq_qi2d12
  have ne_qi2mo_qi2d12 : qi2mo ≠ qi2d12 := z_ne hm_qi2mo hq_qi2d12
  have hfr : ∀ b ∈ L, b ≠ hs → f39 b = f b := fun b hb h0 => (hfm b (hsub b hb) (z_ne hb hn_qi2mo)).trans (hfr b hb h0)
  have hn_qi2la : qi2la ∉ L := fun h => hq_qi2la (hsub _ h)
  have hn_qi2sa : qi2sa ∉ L := fun h => hq_qi2sa (hsub _ h)
  have hn_qi2mi : qi2mi ∉ L := fun h => hq_qi2mi (hsub _ h)
  have hn_qi2da : qi2da ∉ L := fun h => hq_qi2da (hsub _ h)
  have hn_qi2d0 : qi2d0 ∉ L := fun h => hq_qi2d0 (hsub _ h)
  have hn_qi2d1 : qi2d1 ∉ L := fun h => hq_qi2d1 (hsub _ h)
  have hn_qi2d2 : qi2d2 ∉ L := fun h => hq_qi2d2 (hsub _ h)
  have hn_qi2d3 : qi2d3 ∉ L := fun h => hq_qi2d3 (hsub _ h)
  have hn_qi2d4 : qi2d4 ∉ L := fun h => hq_qi2d4 (hsub _ h)
  have hn_qi2d5 : qi2d5 ∉ L := fun h => hq_qi2d5 (hsub _ h)
  have hn_qi2d6 : qi2d6 ∉ L := fun h => hq_qi2d6 (hsub _ h)
  have hn_qi2d7 : qi2d7 ∉ L := fun h => hq_qi2d7 (hsub _ h)
  have hn_qi2d8 : qi2d8 ∉ L := fun h => hq_qi2d8 (hsub _ h)
  have hn_qi2d9 : qi2d9 ∉ L := fun h => hq_qi2d9 (hsub _ h)
  have hn_qi2d10 : qi2d10 ∉ L := fun h => hq_qi2d10 (hsub _ h)
  have hn_qi2d11 : qi2d11 ∉ L := fun h => hq_qi2d11 (hsub _ h)
  have hn_qi2d12 : qi2d12 ∉ L := fun h => hq_qi2d12 (hsub _ h)
  have hsub : ∀ b ∈ L, b ∈ L38 := fun b h => hsb b (hsub b h)
  have hck_T : ∀ b ∈ L3, b ≠ hs → f39 b = f5 b := fun b hb h_hs => (hfm b (hcs_T b hb) (z_ne hb hnk_T_qi2mo)).trans (hck_T b hb h_hs)
  have hcs_T : ∀ b ∈ L3, b ∈ L38 := fun b h => hsb b (hcs_T b h)
  have hck_M : ∀ b ∈ L8, b ≠ hs → f39 b = f10 b := fun b hb h_hs => (hfm b (hcs_M b hb) (z_ne hb hnk_M_qi2mo)).trans (hck_M b hb h_hs)
  have hcs_M : ∀ b ∈ L8, b ∈ L38 := fun b h => hsb b (hcs_M b h)
  have hck_F : ∀ b ∈ L13, b ≠ hs → f39 b = f15 b := fun b hb h_hs => (hfm b (hcs_F b hb) (z_ne hb hnk_F_qi2mo)).trans (hck_F b hb h_hs)
  have hcs_F : ∀ b ∈ L13, b ∈ L38 := fun b h => hsb b (hcs_F b h)
  have hck_R : ∀ b ∈ L16, b ≠ hs → f39 b = f20 b := fun b hb h_hs => (hfm b (hcs_R b hb) (z_ne hb hnk_R_qi2mo)).trans (hck_R b hb h_hs)
  have hcs_R : ∀ b ∈ L16, b ∈ L38 := fun b h => hsb b (hcs_R b h)
  have hck_I0 : ∀ b ∈ L26, b ≠ hs → b ≠ qim → f39 b = f29 b := fun b hb h_hs h_qim => (hfm b (hcs_I0 b hb) (z_ne hb hnk_I0_qi2mo)).trans (hck_I0 b hb h_hs h_qim)
  have hcs_I0 : ∀ b ∈ L26, b ∈ L38 := fun b h => hsb b (hcs_I0 b h)
  have hck_I1 : ∀ b ∈ L32, b ≠ hs → b ≠ qim → f39 b = f35 b := fun b hb h_hs h_qim => (hfm b (hcs_I1 b hb) (z_ne hb hnk_I1_qi2mo)).trans (hck_I1 b hb h_hs h_qim)
  have hcs_I1 : ∀ b ∈ L32, b ∈ L38 := fun b h => hsb b (hcs_I1 b h)
  have hf_hs : f39 hs = .inr (9, [.ref qtp, .ref qrd, .ref qmmo, .ref qxmo, .ref qim, .null, .null, .null, .null, .null, .null]) := (hfm hs hm_hs ne_hs_qi2mo).trans hf_hs
  have hf_qim : f39 qim = .inl (cy 5, 3, .inr (.inr (.inr (.inr g34)))) := (hfm qim hm_qim ne_qim_qi2mo).trans hf_qim
  have hm_hs : hs ∈ L38 := hsb _ hm_hs
  have hm_qim : qim ∈ L38 := hsb _ hm_qim
  have hm_qi2mo : qi2mo ∈ L38 := hsb _ hm_qi2mo
  have hf_qi2mo : f39 qi2mo = .inr (2, [.int 0, .int 0, .int 0, .int 0, .int 0, .int 0, .int 0, .ref qi2la, .ref qi2sa, .ref qi2mi, .ref qi2da]) := ha_0
  have hf_qi2la : f39 qi2la = .inl (cy 1, 5, .inl (fun _ => 0)) := hf_qi2la
  have hm_qi2la : qi2la ∈ L38 := hm_qi2la
  have hf_qi2sa : f39 qi2sa = .inl (cy 1, 4, .inl (fun _ => 0)) := hf_qi2sa
  have hm_qi2sa : qi2sa ∈ L38 := hm_qi2sa
  have hf_qi2mi : f39 qi2mi = .inl (cy 1, 36, .inl (fun _ => 0)) := hf_qi2mi
  have hm_qi2mi : qi2mi ∈ L38 := hm_qi2mi
  have hf_qi2da : f39 qi2da = .inl (cy 4, 13, .inr (.inr (.inr (.inr qi2gd)))) := hf_qi2da
  have hm_qi2da : qi2da ∈ L38 := hm_qi2da
  have hf_qi2d0 : f39 qi2d0 = .inr (0, [.int 0, .int 0, .int 0, .int 0, .int 0, .int 0, .int 0, .int 0]) := hf_qi2d0
  have hm_qi2d0 : qi2d0 ∈ L38 := hm_qi2d0
  have hf_qi2d1 : f39 qi2d1 = .inr (0, [.int 0, .int 0, .int 0, .int 0, .int 0, .int 0, .int 0, .int 0]) := hf_qi2d1
  have hm_qi2d1 : qi2d1 ∈ L38 := hm_qi2d1
  have hf_qi2d2 : f39 qi2d2 = .inr (0, [.int 0, .int 0, .int 0, .int 0, .int 0, .int 0, .int 0, .int 0]) := hf_qi2d2
  have hm_qi2d2 : qi2d2 ∈ L38 := hm_qi2d2
  have hf_qi2d3 : f39 qi2d3 = .inr (0, [.int 0, .int 0, .int 0, .int 0, .int 0, .int 0, .int 0, .int 0]) := hf_qi2d3
  have hm_qi2d3 : qi2d3 ∈ L38 := hm_qi2d3
  have hf_qi2d4 : f39 qi2d4 = .inr (0, [.int 0, .int 0, .int 0, .int 0, .int 0, .int 0, .int 0, .int 0]) := hf_qi2d4
  have hm_qi2d4 : qi2d4 ∈ L38 := hm_qi2d4
  have hf_qi2d5 : f39 qi2d5 = .inr (0, [.int 0, .int 0, .int 0, .int 0, .int 0, .int 0, .int 0, .int 0]) := hf_qi2d5
  have hm_qi2d5 : qi2d5 ∈ L38 := hm_qi2d5
  have hf_qi2d6 : f39 qi2d6 = .inr (0, [.int 0, .int 0, .int 0, .int 0, .int 0, .int 0, .int 0, .int 0]) := hf_qi2d6
  have hm_qi2d6 : qi2d6 ∈ L38 := hm_qi2d6
  have hf_qi2d7 : f39 qi2d7 = .inr (0, [.int 0, .int 0, .int 0, .int 0, .int 0, .int 0, .int 0, .int 0]) := hf_qi2d7
  have hm_qi2d7 : qi2d7 ∈ L38 := hm_qi2d7
  have hf_qi2d8 : f39 qi2d8 = .inr (0, [.int 0, .int 0, .int 0, .int 0, .int 0, .int 0, .int 0, .int 0]) := hf_qi2d8
  have hm_qi2d8 : qi2d8 ∈ L38 := hm_qi2d8
  have hf_qi2d9 : f39 qi2d9 = .inr (0, [.int 0, .int 0, .int 0, .int 0, .int 0, .int 0, .int 0, .int 0]) := hf_qi2d9
  have hm_qi2d9 : qi2d9 ∈ L38 := hm_qi2d9
  have hf_qi2d10 : f39 qi2d10 = .inr (0, [.int 0, .int 0, .int 0, .int 0, .int 0, .int 0, .int 0, .int 0]) := hf_qi2d10
  have hm_qi2d10 : qi2d10 ∈ L38 := hm_qi2d10
  have hf_qi2d11 : f39 qi2d11 = .inr (0, [.int 0, .int 0, .int 0, .int 0, .int 0, .int 0, .int 0, .int 0]) := hf_qi2d11
  have hm_qi2d11 : qi2d11 ∈ L38 := hm_qi2d11
  have hf_qi2d12 : f39 qi2d12 = .inr (0, [.int 0, .int 0, .int 0, .int 0, .int 0, .int 0, .int 0, .int 0]) := hf_qi2d12
  have hm_qi2d12 : qi2d12 ∈ L38 := hm_qi2d12
  have e_L38 : L38 = L36 ++ [qi2la, qi2sa, qi2mi, qi2da, qi2d0, qi2d1, qi2d2, qi2d3, qi2d4, qi2d5, qi2d6, qi2d7, qi2d8, qi2d9, qi2d10, qi2d11, qi2d12] := hp.1
  have hgd_i2 := hp.2
  refine z_aast (r := (RX2, TX2, 11)) hx hb hK hw 5 2 hm_qim hf_qim rfl hm_qi2mo hf_qi2mo rfl (z_ix (show (2 : Int32).toInt = 2 by decide) (by decide)) dX9_init_83 (fun H locs hw => ?_)
  obtain ⟨f41, e_f41⟩ : ∃ z, z = va_up f39 qim (.inl (cy 5, 3, .inr (.inr (.inr (.inr (va_up g34 (2 : Int32).toNatClampNeg (some qi2mo))))))) := ⟨_, rfl⟩
  rw [← e_f41] at hw
  have hf_hs : f41 hs = .inr (9, [.ref qtp, .ref qrd, .ref qmmo, .ref qxmo, .ref qim, .null, .null, .null, .null, .null, .null]) := (congrFun e_f41 hs).trans (z_up_ne ne_hs_qim hf_hs)
  have hf_qi2mo : f41 qi2mo = .inr (2, [.int 0, .int 0, .int 0, .int 0, .int 0, .int 0, .int 0, .ref qi2la, .ref qi2sa, .ref qi2mi, .ref qi2da]) := (congrFun e_f41 qi2mo).trans (z_up_ne (Ne.symm ne_qim_qi2mo) hf_qi2mo)
  have hf_qi2la : f41 qi2la = .inl (cy 1, 5, .inl (fun _ => 0)) := (congrFun e_f41 qi2la).trans (z_up_ne (Ne.symm ne_qim_qi2la) hf_qi2la)
  have hf_qi2sa : f41 qi2sa = .inl (cy 1, 4, .inl (fun _ => 0)) := (congrFun e_f41 qi2sa).trans (z_up_ne (Ne.symm ne_qim_qi2sa) hf_qi2sa)
  have hf_qi2mi : f41 qi2mi = .inl (cy 1, 36, .inl (fun _ => 0)) := (congrFun e_f41 qi2mi).trans (z_up_ne (Ne.symm ne_qim_qi2mi) hf_qi2mi)
  have hf_qi2da : f41 qi2da = .inl (cy 4, 13, .inr (.inr (.inr (.inr qi2gd)))) := (congrFun e_f41 qi2da).trans (z_up_ne (Ne.symm ne_qim_qi2da) hf_qi2da)
  have hf_qi2d0 : f41 qi2d0 = .inr (0, [.int 0, .int 0, .int 0, .int 0, .int 0, .int 0, .int 0, .int 0]) := (congrFun e_f41 qi2d0).trans (z_up_ne (Ne.symm ne_qim_qi2d0) hf_qi2d0)
  have hf_qi2d1 : f41 qi2d1 = .inr (0, [.int 0, .int 0, .int 0, .int 0, .int 0, .int 0, .int 0, .int 0]) := (congrFun e_f41 qi2d1).trans (z_up_ne (Ne.symm ne_qim_qi2d1) hf_qi2d1)
  have hf_qi2d2 : f41 qi2d2 = .inr (0, [.int 0, .int 0, .int 0, .int 0, .int 0, .int 0, .int 0, .int 0]) := (congrFun e_f41 qi2d2).trans (z_up_ne (Ne.symm ne_qim_qi2d2) hf_qi2d2)
  have hf_qi2d3 : f41 qi2d3 = .inr (0, [.int 0, .int 0, .int 0, .int 0, .int 0, .int 0, .int 0, .int 0]) := (congrFun e_f41 qi2d3).trans (z_up_ne (Ne.symm ne_qim_qi2d3) hf_qi2d3)
  have hf_qi2d4 : f41 qi2d4 = .inr (0, [.int 0, .int 0, .int 0, .int 0, .int 0, .int 0, .int 0, .int 0]) := (congrFun e_f41 qi2d4).trans (z_up_ne (Ne.symm ne_qim_qi2d4) hf_qi2d4)
  have hf_qi2d5 : f41 qi2d5 = .inr (0, [.int 0, .int 0, .int 0, .int 0, .int 0, .int 0, .int 0, .int 0]) := (congrFun e_f41 qi2d5).trans (z_up_ne (Ne.symm ne_qim_qi2d5) hf_qi2d5)
  have hf_qi2d6 : f41 qi2d6 = .inr (0, [.int 0, .int 0, .int 0, .int 0, .int 0, .int 0, .int 0, .int 0]) := (congrFun e_f41 qi2d6).trans (z_up_ne (Ne.symm ne_qim_qi2d6) hf_qi2d6)
  have hf_qi2d7 : f41 qi2d7 = .inr (0, [.int 0, .int 0, .int 0, .int 0, .int 0, .int 0, .int 0, .int 0]) := (congrFun e_f41 qi2d7).trans (z_up_ne (Ne.symm ne_qim_qi2d7) hf_qi2d7)
  have hf_qi2d8 : f41 qi2d8 = .inr (0, [.int 0, .int 0, .int 0, .int 0, .int 0, .int 0, .int 0, .int 0]) := (congrFun e_f41 qi2d8).trans (z_up_ne (Ne.symm ne_qim_qi2d8) hf_qi2d8)
  have hf_qi2d9 : f41 qi2d9 = .inr (0, [.int 0, .int 0, .int 0, .int 0, .int 0, .int 0, .int 0, .int 0]) := (congrFun e_f41 qi2d9).trans (z_up_ne (Ne.symm ne_qim_qi2d9) hf_qi2d9)
  have hf_qi2d10 : f41 qi2d10 = .inr (0, [.int 0, .int 0, .int 0, .int 0, .int 0, .int 0, .int 0, .int 0]) := (congrFun e_f41 qi2d10).trans (z_up_ne (Ne.symm ne_qim_qi2d10) hf_qi2d10)
  have hf_qi2d11 : f41 qi2d11 = .inr (0, [.int 0, .int 0, .int 0, .int 0, .int 0, .int 0, .int 0, .int 0]) := (congrFun e_f41 qi2d11).trans (z_up_ne (Ne.symm ne_qim_qi2d11) hf_qi2d11)
  have hf_qi2d12 : f41 qi2d12 = .inr (0, [.int 0, .int 0, .int 0, .int 0, .int 0, .int 0, .int 0, .int 0]) := (congrFun e_f41 qi2d12).trans (z_up_ne (Ne.symm ne_qim_qi2d12) hf_qi2d12)
  have hf_qim : f41 qim = .inl (cy 5, 3, .inr (.inr (.inr (.inr (va_up g34 (2 : Int32).toNatClampNeg (some qi2mo)))))) := (congrFun e_f41 qim).trans z_up_self
  have hck_T : ∀ b ∈ L3, b ≠ hs → f41 b = f5 b := fun b hb h_hs => (congrFun e_f41 b).trans (z_up_ne (z_ne hb hnk_T_qim) (hck_T b hb h_hs))
  have hck_M : ∀ b ∈ L8, b ≠ hs → f41 b = f10 b := fun b hb h_hs => (congrFun e_f41 b).trans (z_up_ne (z_ne hb hnk_M_qim) (hck_M b hb h_hs))
  have hck_F : ∀ b ∈ L13, b ≠ hs → f41 b = f15 b := fun b hb h_hs => (congrFun e_f41 b).trans (z_up_ne (z_ne hb hnk_F_qim) (hck_F b hb h_hs))
  have hck_R : ∀ b ∈ L16, b ≠ hs → f41 b = f20 b := fun b hb h_hs => (congrFun e_f41 b).trans (z_up_ne (z_ne hb hnk_R_qim) (hck_R b hb h_hs))
  have hck_I0 : ∀ b ∈ L26, b ≠ hs → b ≠ qim → f41 b = f29 b := fun b hb h_hs h_qim => (congrFun e_f41 b).trans (z_up_ne h_qim (hck_I0 b hb h_hs h_qim))
  have hck_I1 : ∀ b ∈ L32, b ≠ hs → b ≠ qim → f41 b = f35 b := fun b hb h_hs h_qim => (congrFun e_f41 b).trans (z_up_ne h_qim (hck_I1 b hb h_hs h_qim))
  have hfr : ∀ b ∈ L, b ≠ hs → f41 b = f b := fun b hb h0 => (congrFun e_f41 b).trans (z_up_ne (z_ne hb hn_qim) (hfr b hb h0))
  obtain ⟨g40, e_g40⟩ : ∃ z, z = (va_up g34 (2 : Int32).toNatClampNeg (some qi2mo)) := ⟨_, rfl⟩
  rw [← e_g40] at hf_qim
  have h0_qi2mo := hf_qi2mo
  have m0_qi2mo := hm_qi2mo
  have h0_qi2la := hf_qi2la
  have m0_qi2la := hm_qi2la
  have h0_qi2sa := hf_qi2sa
  have m0_qi2sa := hm_qi2sa
  have h0_qi2mi := hf_qi2mi
  have m0_qi2mi := hm_qi2mi
  have h0_qi2da := hf_qi2da
  have m0_qi2da := hm_qi2da
  have h0_qi2d0 := hf_qi2d0
  have m0_qi2d0 := hm_qi2d0
  have h0_qi2d1 := hf_qi2d1
  have m0_qi2d1 := hm_qi2d1
  have h0_qi2d2 := hf_qi2d2
  have m0_qi2d2 := hm_qi2d2
  have h0_qi2d3 := hf_qi2d3
  have m0_qi2d3 := hm_qi2d3
  have h0_qi2d4 := hf_qi2d4
  have m0_qi2d4 := hm_qi2d4
  have h0_qi2d5 := hf_qi2d5
  have m0_qi2d5 := hm_qi2d5
  have h0_qi2d6 := hf_qi2d6
  have m0_qi2d6 := hm_qi2d6
  have h0_qi2d7 := hf_qi2d7
  have m0_qi2d7 := hm_qi2d7
  have h0_qi2d8 := hf_qi2d8
  have m0_qi2d8 := hm_qi2d8
  have h0_qi2d9 := hf_qi2d9
  have m0_qi2d9 := hm_qi2d9
  have h0_qi2d10 := hf_qi2d10
  have m0_qi2d10 := hm_qi2d10
  have h0_qi2d11 := hf_qi2d11
  have m0_qi2d11 := hm_qi2d11
  have h0_qi2d12 := hf_qi2d12
  have m0_qi2d12 := hm_qi2d12
  have hck_I2 : ∀ b ∈ L38, b ≠ hs → b ≠ qim → f41 b = f41 b := fun _ _ _ _ => rfl
  have hcs_I2 : ∀ b ∈ L38, b ∈ L38 := fun _ h => h
  refine lv_iinc (v := 3) (lv' := [(1, .int 3), (0, .ref hs)]) hx hb dX9_init_84 hl (k := 0) rfl (by decide) (by decide) rfl (fun ls hl => ?_)
  refine lv_goto (tgt := 66) hx hb dX9_init_87 (by decide) ?_
  refine lv_iload_n hx hb dX9_init_66 rfl (lv_at hl 0 rfl) ?_
  refine lv_iconst (v := 3) hx hb dX9_init_67 (by decide) ?_
  refine z_icmp_ge (tgt := 90) hx hb (show (3 : Int32).toInt = 3 by decide) (show (3 : Int32).toInt = 3 by decide) dX9_init_68 (by decide) (fun _ => ?_) (fun h => absurd h (by decide))
  refine lv_aload_n hx hb dX9_init_90 rfl (lv_at hl 1 rfl) ?_
  refine lv_iconst (v := 3) hx hb dX9_init_91 (by decide) ?_
  refine z_newa (atype := .boolean) (n := 3) (N' := 3) (a0 := (3, .inl (fun _ => 0))) (cells := 94) (slots := 2479) hx hb (hT _ kw_334) rfl 3 rfl (fun _ h => by cases h) hK hw hA (fun _ => rfl) (by decide) (by decide) (by decide) (by decide) (by decide) dX9_init_92 (fun qkp H hq_qkp hw => ?_)
  refine W.widen (k := 95) (n := 2482) (by decide) (by decide) ?_
  have ne_hs_qkp : hs ≠ qkp := z_ne hm_hs hq_qkp
  have ne_qim_qkp : qim ≠ qkp := z_ne hm_qim hq_qkp
  have hn_qkp : qkp ∉ L := fun h => hq_qkp (hsub _ h)
  obtain ⟨f43, e_f43⟩ : ∃ z, z = va_up f41 qkp (.inl (cy 3, 3, .inl (fun _ => 0))) := ⟨_, rfl⟩
  obtain ⟨L42, e_L42⟩ : ∃ z, z = L38 ++ [qkp] := ⟨_, rfl⟩
  rw [← e_f43, ← e_L42] at hw
  have hm_hs : hs ∈ L42 := by rw [e_L42]; exact List.mem_append_left _ hm_hs
  have hf_hs : f43 hs = .inr (9, [.ref qtp, .ref qrd, .ref qmmo, .ref qxmo, .ref qim, .null, .null, .null, .null, .null, .null]) := (congrFun e_f43 hs).trans (z_up_ne ne_hs_qkp hf_hs)
  have hm_qim : qim ∈ L42 := by rw [e_L42]; exact List.mem_append_left _ hm_qim
  have hf_qim : f43 qim = .inl (cy 5, 3, .inr (.inr (.inr (.inr g40)))) := (congrFun e_f43 qim).trans (z_up_ne ne_qim_qkp hf_qim)
  have hm_qkp : qkp ∈ L42 := by rw [e_L42]; exact List.mem_append_right _ (List.mem_singleton.mpr rfl)
  have hf_qkp : f43 qkp = .inl (cy 3, 3, .inl (fun _ => 0)) := (congrFun e_f43 qkp).trans z_up_self
  have hsub : ∀ b ∈ L, b ∈ L42 := fun b h => by rw [e_L42]; exact List.mem_append_left _ (hsub b h)
  have hfr : ∀ b ∈ L, b ≠ hs → f43 b = f b := fun b hb h0 => (congrFun e_f43 b).trans (z_up_ne (z_ne hb hn_qkp) (hfr b hb h0))
  have hnk_T_qkp : qkp ∉ L3 := fun h => hq_qkp (hcs_T _ h)
  have hcs_T : ∀ b ∈ L3, b ∈ L42 := fun b h => by rw [e_L42]; exact List.mem_append_left _ (hcs_T b h)
  have hck_T : ∀ b ∈ L3, b ≠ hs → f43 b = f5 b := fun b hb h_hs => (congrFun e_f43 b).trans (z_up_ne (z_ne hb hnk_T_qkp) (hck_T b hb h_hs))
  have hnk_M_qkp : qkp ∉ L8 := fun h => hq_qkp (hcs_M _ h)
  have hcs_M : ∀ b ∈ L8, b ∈ L42 := fun b h => by rw [e_L42]; exact List.mem_append_left _ (hcs_M b h)
  have hck_M : ∀ b ∈ L8, b ≠ hs → f43 b = f10 b := fun b hb h_hs => (congrFun e_f43 b).trans (z_up_ne (z_ne hb hnk_M_qkp) (hck_M b hb h_hs))
  have hnk_F_qkp : qkp ∉ L13 := fun h => hq_qkp (hcs_F _ h)
  have hcs_F : ∀ b ∈ L13, b ∈ L42 := fun b h => by rw [e_L42]; exact List.mem_append_left _ (hcs_F b h)
  have hck_F : ∀ b ∈ L13, b ≠ hs → f43 b = f15 b := fun b hb h_hs => (congrFun e_f43 b).trans (z_up_ne (z_ne hb hnk_F_qkp) (hck_F b hb h_hs))
  have hnk_R_qkp : qkp ∉ L16 := fun h => hq_qkp (hcs_R _ h)
  have hcs_R : ∀ b ∈ L16, b ∈ L42 := fun b h => by rw [e_L42]; exact List.mem_append_left _ (hcs_R b h)
  have hck_R : ∀ b ∈ L16, b ≠ hs → f43 b = f20 b := fun b hb h_hs => (congrFun e_f43 b).trans (z_up_ne (z_ne hb hnk_R_qkp) (hck_R b hb h_hs))
  have hnk_I0_qkp : qkp ∉ L26 := fun h => hq_qkp (hcs_I0 _ h)
  have hcs_I0 : ∀ b ∈ L26, b ∈ L42 := fun b h => by rw [e_L42]; exact List.mem_append_left _ (hcs_I0 b h)
  have hck_I0 : ∀ b ∈ L26, b ≠ hs → b ≠ qim → f43 b = f29 b := fun b hb h_hs h_qim => (congrFun e_f43 b).trans (z_up_ne (z_ne hb hnk_I0_qkp) (hck_I0 b hb h_hs h_qim))
  have hnk_I1_qkp : qkp ∉ L32 := fun h => hq_qkp (hcs_I1 _ h)
  have hcs_I1 : ∀ b ∈ L32, b ∈ L42 := fun b h => by rw [e_L42]; exact List.mem_append_left _ (hcs_I1 b h)
  have hck_I1 : ∀ b ∈ L32, b ≠ hs → b ≠ qim → f43 b = f35 b := fun b hb h_hs h_qim => (congrFun e_f43 b).trans (z_up_ne (z_ne hb hnk_I1_qkp) (hck_I1 b hb h_hs h_qim))
  have hnk_I2_qkp : qkp ∉ L38 := fun h => hq_qkp (hcs_I2 _ h)
  have hcs_I2 : ∀ b ∈ L38, b ∈ L42 := fun b h => by rw [e_L42]; exact List.mem_append_left _ (hcs_I2 b h)
  have hck_I2 : ∀ b ∈ L38, b ≠ hs → b ≠ qim → f43 b = f41 b := fun b hb h_hs h_qim => (congrFun e_f43 b).trans (z_up_ne (z_ne hb hnk_I2_qkp) (hck_I2 b hb h_hs h_qim))
  refine z_putF (C := RX9) (T := TX9) (N := 11) (ci := 9) (v := .ref qkp) (fs' := [.ref qtp, .ref qrd, .ref qmmo, .ref qxmo, .ref qim, .ref qkp, .null, .null, .null, .null, .null]) hx hb hT zin_X9 tyX9_ok nmX9 hown hK hw hm_hs hf_hs rfl 5 (by decide) (hT _ kw_482) rfl hnm rfl rfl rfl (Nat.le_of_ble_eq_true rfl) rfl dX9_init_94 (fun H locs hw => ?_)
  obtain ⟨f44, e_f44⟩ : ∃ z, z = va_up f43 hs (.inr (9, [.ref qtp, .ref qrd, .ref qmmo, .ref qxmo, .ref qim, .ref qkp, .null, .null, .null, .null, .null])) := ⟨_, rfl⟩
  rw [← e_f44] at hw
  have hf_qim : f44 qim = .inl (cy 5, 3, .inr (.inr (.inr (.inr g40)))) := (congrFun e_f44 qim).trans (z_up_ne (Ne.symm ne_hs_qim) hf_qim)
  have hf_qkp : f44 qkp = .inl (cy 3, 3, .inl (fun _ => 0)) := (congrFun e_f44 qkp).trans (z_up_ne (Ne.symm ne_hs_qkp) hf_qkp)
  have hf_hs : f44 hs = .inr (9, [.ref qtp, .ref qrd, .ref qmmo, .ref qxmo, .ref qim, .ref qkp, .null, .null, .null, .null, .null]) := (congrFun e_f44 hs).trans z_up_self
  have hck_T : ∀ b ∈ L3, b ≠ hs → f44 b = f5 b := fun b hb h_hs => (congrFun e_f44 b).trans (z_up_ne h_hs (hck_T b hb h_hs))
  have hck_M : ∀ b ∈ L8, b ≠ hs → f44 b = f10 b := fun b hb h_hs => (congrFun e_f44 b).trans (z_up_ne h_hs (hck_M b hb h_hs))
  have hck_F : ∀ b ∈ L13, b ≠ hs → f44 b = f15 b := fun b hb h_hs => (congrFun e_f44 b).trans (z_up_ne h_hs (hck_F b hb h_hs))
  have hck_R : ∀ b ∈ L16, b ≠ hs → f44 b = f20 b := fun b hb h_hs => (congrFun e_f44 b).trans (z_up_ne h_hs (hck_R b hb h_hs))
  have hck_I0 : ∀ b ∈ L26, b ≠ hs → b ≠ qim → f44 b = f29 b := fun b hb h_hs h_qim => (congrFun e_f44 b).trans (z_up_ne h_hs (hck_I0 b hb h_hs h_qim))
  have hck_I1 : ∀ b ∈ L32, b ≠ hs → b ≠ qim → f44 b = f35 b := fun b hb h_hs h_qim => (congrFun e_f44 b).trans (z_up_ne h_hs (hck_I1 b hb h_hs h_qim))
  have hck_I2 : ∀ b ∈ L38, b ≠ hs → b ≠ qim → f44 b = f41 b := fun b hb h_hs h_qim => (congrFun e_f44 b).trans (z_up_ne h_hs (hck_I2 b hb h_hs h_qim))
  have hfr : ∀ b ∈ L, b ≠ hs → f44 b = f b := fun b hb h0 => (congrFun e_f44 b).trans (z_up_ne h0 (hfr b hb h0))
  have h0_qim := hf_qim
  have m0_qim := hm_qim
  have h0_qkp := hf_qkp
  have m0_qkp := hm_qkp
  have hck_K : ∀ b ∈ L42, b ≠ hs → f44 b = f44 b := fun _ _ _ => rfl
  have hcs_K : ∀ b ∈ L42, b ∈ L42 := fun _ h => h
  refine lv_aload_n hx hb dX9_init_97 rfl (lv_at hl 1 rfl) ?_
  refine z_new (C := RX6) (T := TX6) (N := 3) (ci := 6) (fs := [.null, .null, .null]) (cells := 95) (slots := 2482) hx hb hT zin_X6 tyX6_ok hown (hT _ kw_308) (hT _ kw_309) (hT _ kw_90) hK hw hA rfl (fun j hj => by rcases (show j = 0 ∨ j = 1 ∨ j = 2 by omega) with rfl | rfl | rfl <;> rfl) (by decide) (by decide) dX9_init_98 (fun qsl H hq_qsl hw => ?_)
  refine W.widen (k := 96) (n := 2485) (by decide) (by decide) ?_
  have ne_hs_qsl : hs ≠ qsl := z_ne hm_hs hq_qsl
  have hn_qsl : qsl ∉ L := fun h => hq_qsl (hsub _ h)
  obtain ⟨f46, e_f46⟩ : ∃ z, z = va_up f44 qsl (.inr (6, [.null, .null, .null])) := ⟨_, rfl⟩
  obtain ⟨L45, e_L45⟩ : ∃ z, z = L42 ++ [qsl] := ⟨_, rfl⟩
  rw [← e_f46, ← e_L45] at hw
  have hm_hs : hs ∈ L45 := by rw [e_L45]; exact List.mem_append_left _ hm_hs
  have hf_hs : f46 hs = .inr (9, [.ref qtp, .ref qrd, .ref qmmo, .ref qxmo, .ref qim, .ref qkp, .null, .null, .null, .null, .null]) := (congrFun e_f46 hs).trans (z_up_ne ne_hs_qsl hf_hs)
  have hm_qsl : qsl ∈ L45 := by rw [e_L45]; exact List.mem_append_right _ (List.mem_singleton.mpr rfl)
  have hf_qsl : f46 qsl = .inr (6, [.null, .null, .null]) := (congrFun e_f46 qsl).trans z_up_self
  have hsub : ∀ b ∈ L, b ∈ L45 := fun b h => by rw [e_L45]; exact List.mem_append_left _ (hsub b h)
  have hfr : ∀ b ∈ L, b ≠ hs → f46 b = f b := fun b hb h0 => (congrFun e_f46 b).trans (z_up_ne (z_ne hb hn_qsl) (hfr b hb h0))
  have hnk_T_qsl : qsl ∉ L3 := fun h => hq_qsl (hcs_T _ h)
  have hcs_T : ∀ b ∈ L3, b ∈ L45 := fun b h => by rw [e_L45]; exact List.mem_append_left _ (hcs_T b h)
  have hck_T : ∀ b ∈ L3, b ≠ hs → f46 b = f5 b := fun b hb h_hs => (congrFun e_f46 b).trans (z_up_ne (z_ne hb hnk_T_qsl) (hck_T b hb h_hs))
  have hnk_M_qsl : qsl ∉ L8 := fun h => hq_qsl (hcs_M _ h)
  have hcs_M : ∀ b ∈ L8, b ∈ L45 := fun b h => by rw [e_L45]; exact List.mem_append_left _ (hcs_M b h)
  have hck_M : ∀ b ∈ L8, b ≠ hs → f46 b = f10 b := fun b hb h_hs => (congrFun e_f46 b).trans (z_up_ne (z_ne hb hnk_M_qsl) (hck_M b hb h_hs))
  have hnk_F_qsl : qsl ∉ L13 := fun h => hq_qsl (hcs_F _ h)
  have hcs_F : ∀ b ∈ L13, b ∈ L45 := fun b h => by rw [e_L45]; exact List.mem_append_left _ (hcs_F b h)
  have hck_F : ∀ b ∈ L13, b ≠ hs → f46 b = f15 b := fun b hb h_hs => (congrFun e_f46 b).trans (z_up_ne (z_ne hb hnk_F_qsl) (hck_F b hb h_hs))
  have hnk_R_qsl : qsl ∉ L16 := fun h => hq_qsl (hcs_R _ h)
  have hcs_R : ∀ b ∈ L16, b ∈ L45 := fun b h => by rw [e_L45]; exact List.mem_append_left _ (hcs_R b h)
  have hck_R : ∀ b ∈ L16, b ≠ hs → f46 b = f20 b := fun b hb h_hs => (congrFun e_f46 b).trans (z_up_ne (z_ne hb hnk_R_qsl) (hck_R b hb h_hs))
  have hnk_I0_qsl : qsl ∉ L26 := fun h => hq_qsl (hcs_I0 _ h)
  have hcs_I0 : ∀ b ∈ L26, b ∈ L45 := fun b h => by rw [e_L45]; exact List.mem_append_left _ (hcs_I0 b h)
  have hck_I0 : ∀ b ∈ L26, b ≠ hs → b ≠ qim → f46 b = f29 b := fun b hb h_hs h_qim => (congrFun e_f46 b).trans (z_up_ne (z_ne hb hnk_I0_qsl) (hck_I0 b hb h_hs h_qim))
  have hnk_I1_qsl : qsl ∉ L32 := fun h => hq_qsl (hcs_I1 _ h)
  have hcs_I1 : ∀ b ∈ L32, b ∈ L45 := fun b h => by rw [e_L45]; exact List.mem_append_left _ (hcs_I1 b h)
  have hck_I1 : ∀ b ∈ L32, b ≠ hs → b ≠ qim → f46 b = f35 b := fun b hb h_hs h_qim => (congrFun e_f46 b).trans (z_up_ne (z_ne hb hnk_I1_qsl) (hck_I1 b hb h_hs h_qim))
  have hnk_I2_qsl : qsl ∉ L38 := fun h => hq_qsl (hcs_I2 _ h)
  have hcs_I2 : ∀ b ∈ L38, b ∈ L45 := fun b h => by rw [e_L45]; exact List.mem_append_left _ (hcs_I2 b h)
  have hck_I2 : ∀ b ∈ L38, b ≠ hs → b ≠ qim → f46 b = f41 b := fun b hb h_hs h_qim => (congrFun e_f46 b).trans (z_up_ne (z_ne hb hnk_I2_qsl) (hck_I2 b hb h_hs h_qim))
  have hnk_K_qsl : qsl ∉ L42 := fun h => hq_qsl (hcs_K _ h)
  have hcs_K : ∀ b ∈ L42, b ∈ L45 := fun b h => by rw [e_L45]; exact List.mem_append_left _ (hcs_K b h)
  have hck_K : ∀ b ∈ L42, b ≠ hs → f46 b = f44 b := fun b hb h_hs => (congrFun e_f46 b).trans (z_up_ne (z_ne hb hnk_K_qsl) (hck_K b hb h_hs))
  refine lv_dup hx hb dX9_init_101 rfl ?_
  refine z_callvI (cells := 96) (slots := 2485) (b := qsl) (As := []) (rest := [.ref qsl, .ref hs]) ⟨hx, hb, hml, hown, hT⟩ (c_X6_init l hm_qsl hf_qsl) (cwI 0 hT (z_goodI (fun _ h => h) kw_312) rfl rfl rfl (hT _ kw_90) (hT _ kw_310) (hT _ kw_311) rfl (by decide +kernel) ⟨by decide, by decide⟩) z_mv hKK hw hA rfl hl.1 rfl (Nat.le_of_ble_eq_true rfl) dX9_init_102 ⟨by decide, by decide⟩ (fun u H locs hp hw => ?_)
  refine W.widen (k := 103) (n := 2737) (by decide) (by decide) ?_
  obtain ⟨L47, f48⟩ := u
  obtain ⟨hsb, hfm, qnu, qr0, qr1, qr2, qr3, qwi, qsi, qgn, qgs, ha_0, ⟨hq_qnu, hm_qnu, hf_qnu⟩, ⟨hq_qr0, hm_qr0, hf_qr0⟩, ⟨hq_qr1, hm_qr1, hf_qr1⟩, ⟨hq_qr2, hm_qr2, hf_qr2⟩, ⟨hq_qr3, hm_qr3, hf_qr3⟩, ⟨hq_qwi, hm_qwi, hf_qwi⟩, ⟨hq_qsi, hm_qsi, hf_qsi⟩, hp⟩ := hp
  have hw : z_H D vwCl (z_A L sz) s.heap L47 f48 H locs := hw
  have ne_hs_qnu : hs ≠ qnu := z_ne hm_hs hq_qnu
  have ne_qsl_qnu : qsl ≠ qnu := z_ne hm_qsl hq_qnu
  have ne_hs_qr0 : hs ≠ qr0 := z_ne hm_hs hq_qr0
  have ne_qsl_qr0 : qsl ≠ qr0 := z_ne hm_qsl hq_qr0
  have ne_hs_qr1 : hs ≠ qr1 := z_ne hm_hs hq_qr1
  have ne_qsl_qr1 : qsl ≠ qr1 := z_ne hm_qsl hq_qr1
  have ne_hs_qr2 : hs ≠ qr2 := z_ne hm_hs hq_qr2
  have ne_qsl_qr2 : qsl ≠ qr2 := z_ne hm_qsl hq_qr2
  have ne_hs_qr3 : hs ≠ qr3 := z_ne hm_hs hq_qr3
  have ne_qsl_qr3 : qsl ≠ qr3 := z_ne hm_qsl hq_qr3
  have ne_hs_qwi : hs ≠ qwi := z_ne hm_hs hq_qwi
  have ne_qsl_qwi : qsl ≠ qwi := z_ne hm_qsl hq_qwi
  have ne_hs_qsi : hs ≠ qsi := z_ne hm_hs hq_qsi
  have ne_qsl_qsi : qsl ≠ qsi := z_ne hm_qsl hq_qsi
  have hfr : ∀ b ∈ L, b ≠ hs → f48 b = f b := fun b hb h0 => (hfm b (hsub b hb) (z_ne hb hn_qsl)).trans (hfr b hb h0)
  have hn_qnu : qnu ∉ L := fun h => hq_qnu (hsub _ h)
  have hn_qr0 : qr0 ∉ L := fun h => hq_qr0 (hsub _ h)
  have hn_qr1 : qr1 ∉ L := fun h => hq_qr1 (hsub _ h)
  have hn_qr2 : qr2 ∉ L := fun h => hq_qr2 (hsub _ h)
  have hn_qr3 : qr3 ∉ L := fun h => hq_qr3 (hsub _ h)
  have hn_qwi : qwi ∉ L := fun h => hq_qwi (hsub _ h)
  have hn_qsi : qsi ∉ L := fun h => hq_qsi (hsub _ h)
  have hsub : ∀ b ∈ L, b ∈ L47 := fun b h => hsb b (hsub b h)
  have hck_T : ∀ b ∈ L3, b ≠ hs → f48 b = f5 b := fun b hb h_hs => (hfm b (hcs_T b hb) (z_ne hb hnk_T_qsl)).trans (hck_T b hb h_hs)
  have hcs_T : ∀ b ∈ L3, b ∈ L47 := fun b h => hsb b (hcs_T b h)
  have hck_M : ∀ b ∈ L8, b ≠ hs → f48 b = f10 b := fun b hb h_hs => (hfm b (hcs_M b hb) (z_ne hb hnk_M_qsl)).trans (hck_M b hb h_hs)
  have hcs_M : ∀ b ∈ L8, b ∈ L47 := fun b h => hsb b (hcs_M b h)
  have hck_F : ∀ b ∈ L13, b ≠ hs → f48 b = f15 b := fun b hb h_hs => (hfm b (hcs_F b hb) (z_ne hb hnk_F_qsl)).trans (hck_F b hb h_hs)
  have hcs_F : ∀ b ∈ L13, b ∈ L47 := fun b h => hsb b (hcs_F b h)
  have hck_R : ∀ b ∈ L16, b ≠ hs → f48 b = f20 b := fun b hb h_hs => (hfm b (hcs_R b hb) (z_ne hb hnk_R_qsl)).trans (hck_R b hb h_hs)
  have hcs_R : ∀ b ∈ L16, b ∈ L47 := fun b h => hsb b (hcs_R b h)
  have hck_I0 : ∀ b ∈ L26, b ≠ hs → b ≠ qim → f48 b = f29 b := fun b hb h_hs h_qim => (hfm b (hcs_I0 b hb) (z_ne hb hnk_I0_qsl)).trans (hck_I0 b hb h_hs h_qim)
  have hcs_I0 : ∀ b ∈ L26, b ∈ L47 := fun b h => hsb b (hcs_I0 b h)
  have hck_I1 : ∀ b ∈ L32, b ≠ hs → b ≠ qim → f48 b = f35 b := fun b hb h_hs h_qim => (hfm b (hcs_I1 b hb) (z_ne hb hnk_I1_qsl)).trans (hck_I1 b hb h_hs h_qim)
  have hcs_I1 : ∀ b ∈ L32, b ∈ L47 := fun b h => hsb b (hcs_I1 b h)
  have hck_I2 : ∀ b ∈ L38, b ≠ hs → b ≠ qim → f48 b = f41 b := fun b hb h_hs h_qim => (hfm b (hcs_I2 b hb) (z_ne hb hnk_I2_qsl)).trans (hck_I2 b hb h_hs h_qim)
  have hcs_I2 : ∀ b ∈ L38, b ∈ L47 := fun b h => hsb b (hcs_I2 b h)
  have hck_K : ∀ b ∈ L42, b ≠ hs → f48 b = f44 b := fun b hb h_hs => (hfm b (hcs_K b hb) (z_ne hb hnk_K_qsl)).trans (hck_K b hb h_hs)
  have hcs_K : ∀ b ∈ L42, b ∈ L47 := fun b h => hsb b (hcs_K b h)
  have hf_hs : f48 hs = .inr (9, [.ref qtp, .ref qrd, .ref qmmo, .ref qxmo, .ref qim, .ref qkp, .null, .null, .null, .null, .null]) := (hfm hs hm_hs ne_hs_qsl).trans hf_hs
  have hm_hs : hs ∈ L47 := hsb _ hm_hs
  have hm_qsl : qsl ∈ L47 := hsb _ hm_qsl
  have hf_qsl : f48 qsl = .inr (6, [.ref qnu, .ref qwi, .ref qsi]) := ha_0
  have hf_qnu : f48 qnu = .inl (cy 6, 4, .inr (.inr (.inr (.inr qgn)))) := hf_qnu
  have hm_qnu : qnu ∈ L47 := hm_qnu
  have hf_qr0 : f48 qr0 = .inl (cy 2, 60, .inr (.inl (fun _ => 0))) := hf_qr0
  have hm_qr0 : qr0 ∈ L47 := hm_qr0
  have hf_qr1 : f48 qr1 = .inl (cy 2, 60, .inr (.inl (fun _ => 0))) := hf_qr1
  have hm_qr1 : qr1 ∈ L47 := hm_qr1
  have hf_qr2 : f48 qr2 = .inl (cy 2, 60, .inr (.inl (fun _ => 0))) := hf_qr2
  have hm_qr2 : qr2 ∈ L47 := hm_qr2
  have hf_qr3 : f48 qr3 = .inl (cy 2, 60, .inr (.inl (fun _ => 0))) := hf_qr3
  have hm_qr3 : qr3 ∈ L47 := hm_qr3
  have hf_qwi : f48 qwi = .inl (cy 1, 4, .inl (fun _ => 0)) := hf_qwi
  have hm_qwi : qwi ∈ L47 := hm_qwi
  have hf_qsi : f48 qsi = .inl (cy 1, 4, .inl qgs) := hf_qsi
  have hm_qsi : qsi ∈ L47 := hm_qsi
  have e_L47 : L47 = L45 ++ [qnu, qr0, qr1, qr2, qr3, qwi, qsi] := hp.1
  have hpS := hp.2
  refine z_putF (C := RX9) (T := TX9) (N := 11) (ci := 9) (v := .ref qsl) (fs' := [.ref qtp, .ref qrd, .ref qmmo, .ref qxmo, .ref qim, .ref qkp, .ref qsl, .null, .null, .null, .null]) hx hb hT zin_X9 tyX9_ok nmX9 hown hK hw hm_hs hf_hs rfl 6 (by decide) (hT _ kw_483) rfl hnm rfl rfl rfl (Nat.le_of_ble_eq_true rfl) rfl dX9_init_105 (fun H locs hw => ?_)
  obtain ⟨f49, e_f49⟩ : ∃ z, z = va_up f48 hs (.inr (9, [.ref qtp, .ref qrd, .ref qmmo, .ref qxmo, .ref qim, .ref qkp, .ref qsl, .null, .null, .null, .null])) := ⟨_, rfl⟩
  rw [← e_f49] at hw
  have hf_qsl : f49 qsl = .inr (6, [.ref qnu, .ref qwi, .ref qsi]) := (congrFun e_f49 qsl).trans (z_up_ne (Ne.symm ne_hs_qsl) hf_qsl)
  have hf_qnu : f49 qnu = .inl (cy 6, 4, .inr (.inr (.inr (.inr qgn)))) := (congrFun e_f49 qnu).trans (z_up_ne (Ne.symm ne_hs_qnu) hf_qnu)
  have hf_qr0 : f49 qr0 = .inl (cy 2, 60, .inr (.inl (fun _ => 0))) := (congrFun e_f49 qr0).trans (z_up_ne (Ne.symm ne_hs_qr0) hf_qr0)
  have hf_qr1 : f49 qr1 = .inl (cy 2, 60, .inr (.inl (fun _ => 0))) := (congrFun e_f49 qr1).trans (z_up_ne (Ne.symm ne_hs_qr1) hf_qr1)
  have hf_qr2 : f49 qr2 = .inl (cy 2, 60, .inr (.inl (fun _ => 0))) := (congrFun e_f49 qr2).trans (z_up_ne (Ne.symm ne_hs_qr2) hf_qr2)
  have hf_qr3 : f49 qr3 = .inl (cy 2, 60, .inr (.inl (fun _ => 0))) := (congrFun e_f49 qr3).trans (z_up_ne (Ne.symm ne_hs_qr3) hf_qr3)
  have hf_qwi : f49 qwi = .inl (cy 1, 4, .inl (fun _ => 0)) := (congrFun e_f49 qwi).trans (z_up_ne (Ne.symm ne_hs_qwi) hf_qwi)
  have hf_qsi : f49 qsi = .inl (cy 1, 4, .inl qgs) := (congrFun e_f49 qsi).trans (z_up_ne (Ne.symm ne_hs_qsi) hf_qsi)
  have hf_hs : f49 hs = .inr (9, [.ref qtp, .ref qrd, .ref qmmo, .ref qxmo, .ref qim, .ref qkp, .ref qsl, .null, .null, .null, .null]) := (congrFun e_f49 hs).trans z_up_self
  have hck_T : ∀ b ∈ L3, b ≠ hs → f49 b = f5 b := fun b hb h_hs => (congrFun e_f49 b).trans (z_up_ne h_hs (hck_T b hb h_hs))
  have hck_M : ∀ b ∈ L8, b ≠ hs → f49 b = f10 b := fun b hb h_hs => (congrFun e_f49 b).trans (z_up_ne h_hs (hck_M b hb h_hs))
  have hck_F : ∀ b ∈ L13, b ≠ hs → f49 b = f15 b := fun b hb h_hs => (congrFun e_f49 b).trans (z_up_ne h_hs (hck_F b hb h_hs))
  have hck_R : ∀ b ∈ L16, b ≠ hs → f49 b = f20 b := fun b hb h_hs => (congrFun e_f49 b).trans (z_up_ne h_hs (hck_R b hb h_hs))
  have hck_I0 : ∀ b ∈ L26, b ≠ hs → b ≠ qim → f49 b = f29 b := fun b hb h_hs h_qim => (congrFun e_f49 b).trans (z_up_ne h_hs (hck_I0 b hb h_hs h_qim))
  have hck_I1 : ∀ b ∈ L32, b ≠ hs → b ≠ qim → f49 b = f35 b := fun b hb h_hs h_qim => (congrFun e_f49 b).trans (z_up_ne h_hs (hck_I1 b hb h_hs h_qim))
  have hck_I2 : ∀ b ∈ L38, b ≠ hs → b ≠ qim → f49 b = f41 b := fun b hb h_hs h_qim => (congrFun e_f49 b).trans (z_up_ne h_hs (hck_I2 b hb h_hs h_qim))
  have hck_K : ∀ b ∈ L42, b ≠ hs → f49 b = f44 b := fun b hb h_hs => (congrFun e_f49 b).trans (z_up_ne h_hs (hck_K b hb h_hs))
  have hfr : ∀ b ∈ L, b ≠ hs → f49 b = f b := fun b hb h0 => (congrFun e_f49 b).trans (z_up_ne h0 (hfr b hb h0))
  have h0_qsl := hf_qsl
  have m0_qsl := hm_qsl
  have h0_qnu := hf_qnu
  have m0_qnu := hm_qnu
  have h0_qr0 := hf_qr0
  have m0_qr0 := hm_qr0
  have h0_qr1 := hf_qr1
  have m0_qr1 := hm_qr1
  have h0_qr2 := hf_qr2
  have m0_qr2 := hm_qr2
  have h0_qr3 := hf_qr3
  have m0_qr3 := hm_qr3
  have h0_qwi := hf_qwi
  have m0_qwi := hm_qwi
  have h0_qsi := hf_qsi
  have m0_qsi := hm_qsi
  have hck_S : ∀ b ∈ L47, b ≠ hs → f49 b = f49 b := fun _ _ _ => rfl
  have hcs_S : ∀ b ∈ L47, b ∈ L47 := fun _ h => h
  refine lv_aload_n hx hb dX9_init_108 rfl (lv_at hl 1 rfl) ?_
  refine z_new (C := RX8) (T := TX8) (N := 8) (ci := 8) (fs := [.null, .int 0, .null, .null, .null, .int 0, .int 0, .int 0]) (cells := 103) (slots := 2737) hx hb hT zin_X8 tyX8_ok hown (hT _ kw_336) (hT _ kw_337) (hT _ kw_92) hK hw hA rfl (fun j hj => by rcases (show j = 0 ∨ j = 1 ∨ j = 2 ∨ j = 3 ∨ j = 4 ∨ j = 5 ∨ j = 6 ∨ j = 7 by omega) with rfl | rfl | rfl | rfl | rfl | rfl | rfl | rfl <;> rfl) (by decide) (by decide) dX9_init_109 (fun qwk H hq_qwk hw => ?_)
  refine W.widen (k := 104) (n := 2745) (by decide) (by decide) ?_
  have ne_hs_qwk : hs ≠ qwk := z_ne hm_hs hq_qwk
  have hn_qwk : qwk ∉ L := fun h => hq_qwk (hsub _ h)
  obtain ⟨f51, e_f51⟩ : ∃ z, z = va_up f49 qwk (.inr (8, [.null, .int 0, .null, .null, .null, .int 0, .int 0, .int 0])) := ⟨_, rfl⟩
  obtain ⟨L50, e_L50⟩ : ∃ z, z = L47 ++ [qwk] := ⟨_, rfl⟩
  rw [← e_f51, ← e_L50] at hw
  have hm_hs : hs ∈ L50 := by rw [e_L50]; exact List.mem_append_left _ hm_hs
  have hf_hs : f51 hs = .inr (9, [.ref qtp, .ref qrd, .ref qmmo, .ref qxmo, .ref qim, .ref qkp, .ref qsl, .null, .null, .null, .null]) := (congrFun e_f51 hs).trans (z_up_ne ne_hs_qwk hf_hs)
  have hm_qwk : qwk ∈ L50 := by rw [e_L50]; exact List.mem_append_right _ (List.mem_singleton.mpr rfl)
  have hf_qwk : f51 qwk = .inr (8, [.null, .int 0, .null, .null, .null, .int 0, .int 0, .int 0]) := (congrFun e_f51 qwk).trans z_up_self
  have hsub : ∀ b ∈ L, b ∈ L50 := fun b h => by rw [e_L50]; exact List.mem_append_left _ (hsub b h)
  have hfr : ∀ b ∈ L, b ≠ hs → f51 b = f b := fun b hb h0 => (congrFun e_f51 b).trans (z_up_ne (z_ne hb hn_qwk) (hfr b hb h0))
  have hnk_T_qwk : qwk ∉ L3 := fun h => hq_qwk (hcs_T _ h)
  have hcs_T : ∀ b ∈ L3, b ∈ L50 := fun b h => by rw [e_L50]; exact List.mem_append_left _ (hcs_T b h)
  have hck_T : ∀ b ∈ L3, b ≠ hs → f51 b = f5 b := fun b hb h_hs => (congrFun e_f51 b).trans (z_up_ne (z_ne hb hnk_T_qwk) (hck_T b hb h_hs))
  have hnk_M_qwk : qwk ∉ L8 := fun h => hq_qwk (hcs_M _ h)
  have hcs_M : ∀ b ∈ L8, b ∈ L50 := fun b h => by rw [e_L50]; exact List.mem_append_left _ (hcs_M b h)
  have hck_M : ∀ b ∈ L8, b ≠ hs → f51 b = f10 b := fun b hb h_hs => (congrFun e_f51 b).trans (z_up_ne (z_ne hb hnk_M_qwk) (hck_M b hb h_hs))
  have hnk_F_qwk : qwk ∉ L13 := fun h => hq_qwk (hcs_F _ h)
  have hcs_F : ∀ b ∈ L13, b ∈ L50 := fun b h => by rw [e_L50]; exact List.mem_append_left _ (hcs_F b h)
  have hck_F : ∀ b ∈ L13, b ≠ hs → f51 b = f15 b := fun b hb h_hs => (congrFun e_f51 b).trans (z_up_ne (z_ne hb hnk_F_qwk) (hck_F b hb h_hs))
  have hnk_R_qwk : qwk ∉ L16 := fun h => hq_qwk (hcs_R _ h)
  have hcs_R : ∀ b ∈ L16, b ∈ L50 := fun b h => by rw [e_L50]; exact List.mem_append_left _ (hcs_R b h)
  have hck_R : ∀ b ∈ L16, b ≠ hs → f51 b = f20 b := fun b hb h_hs => (congrFun e_f51 b).trans (z_up_ne (z_ne hb hnk_R_qwk) (hck_R b hb h_hs))
  have hnk_I0_qwk : qwk ∉ L26 := fun h => hq_qwk (hcs_I0 _ h)
  have hcs_I0 : ∀ b ∈ L26, b ∈ L50 := fun b h => by rw [e_L50]; exact List.mem_append_left _ (hcs_I0 b h)
  have hck_I0 : ∀ b ∈ L26, b ≠ hs → b ≠ qim → f51 b = f29 b := fun b hb h_hs h_qim => (congrFun e_f51 b).trans (z_up_ne (z_ne hb hnk_I0_qwk) (hck_I0 b hb h_hs h_qim))
  have hnk_I1_qwk : qwk ∉ L32 := fun h => hq_qwk (hcs_I1 _ h)
  have hcs_I1 : ∀ b ∈ L32, b ∈ L50 := fun b h => by rw [e_L50]; exact List.mem_append_left _ (hcs_I1 b h)
  have hck_I1 : ∀ b ∈ L32, b ≠ hs → b ≠ qim → f51 b = f35 b := fun b hb h_hs h_qim => (congrFun e_f51 b).trans (z_up_ne (z_ne hb hnk_I1_qwk) (hck_I1 b hb h_hs h_qim))
  have hnk_I2_qwk : qwk ∉ L38 := fun h => hq_qwk (hcs_I2 _ h)
  have hcs_I2 : ∀ b ∈ L38, b ∈ L50 := fun b h => by rw [e_L50]; exact List.mem_append_left _ (hcs_I2 b h)
  have hck_I2 : ∀ b ∈ L38, b ≠ hs → b ≠ qim → f51 b = f41 b := fun b hb h_hs h_qim => (congrFun e_f51 b).trans (z_up_ne (z_ne hb hnk_I2_qwk) (hck_I2 b hb h_hs h_qim))
  have hnk_K_qwk : qwk ∉ L42 := fun h => hq_qwk (hcs_K _ h)
  have hcs_K : ∀ b ∈ L42, b ∈ L50 := fun b h => by rw [e_L50]; exact List.mem_append_left _ (hcs_K b h)
  have hck_K : ∀ b ∈ L42, b ≠ hs → f51 b = f44 b := fun b hb h_hs => (congrFun e_f51 b).trans (z_up_ne (z_ne hb hnk_K_qwk) (hck_K b hb h_hs))
  have hnk_S_qwk : qwk ∉ L47 := fun h => hq_qwk (hcs_S _ h)
  have hcs_S : ∀ b ∈ L47, b ∈ L50 := fun b h => by rw [e_L50]; exact List.mem_append_left _ (hcs_S b h)
  have hck_S : ∀ b ∈ L47, b ≠ hs → f51 b = f49 b := fun b hb h_hs => (congrFun e_f51 b).trans (z_up_ne (z_ne hb hnk_S_qwk) (hck_S b hb h_hs))
  refine lv_dup hx hb dX9_init_112 rfl ?_
  refine z_callvIN (cells := 104) (slots := 2745) (b := qwk) (As := []) (rest := [.ref qwk, .ref hs]) ⟨hx, hb, hml, hown, hT⟩ (c_X8_init l hm_qwk hf_qwk) ⟨va_cnB 0 hT (z_goodI (fun _ h => h) kw_340) rfl rfl rfl hKK.1.2.2.2.2.2.2 (hT _ kw_92) (by decide +kernel) ⟨by decide, by decide⟩, rfl, hT _ kw_339⟩ z_mv hKK hw hA rfl hl.1 rfl (Nat.le_of_ble_eq_true rfl) dX9_init_113 ⟨by decide, by decide⟩ (fun u H locs hp hw => ?_)
  refine W.widen (k := 108) (n := 2771) (by decide) (by decide) ?_
  obtain ⟨L52, f53⟩ := u
  obtain ⟨hsb, hfm, qks, qct, qse, qow, ha_0, ⟨hq_qks, hm_qks, hf_qks⟩, ⟨hq_qct, hm_qct, hf_qct⟩, ⟨hq_qse, hm_qse, hf_qse⟩, ⟨hq_qow, hm_qow, hf_qow⟩, hp⟩ := hp
  have hw : z_H D vwCl (z_A L sz) s.heap L52 f53 H locs := hw
  have ne_hs_qks : hs ≠ qks := z_ne hm_hs hq_qks
  have ne_qwk_qks : qwk ≠ qks := z_ne hm_qwk hq_qks
  have ne_hs_qct : hs ≠ qct := z_ne hm_hs hq_qct
  have ne_qwk_qct : qwk ≠ qct := z_ne hm_qwk hq_qct
  have ne_hs_qse : hs ≠ qse := z_ne hm_hs hq_qse
  have ne_qwk_qse : qwk ≠ qse := z_ne hm_qwk hq_qse
  have ne_hs_qow : hs ≠ qow := z_ne hm_hs hq_qow
  have ne_qwk_qow : qwk ≠ qow := z_ne hm_qwk hq_qow
  have hfr : ∀ b ∈ L, b ≠ hs → f53 b = f b := fun b hb h0 => (hfm b (hsub b hb) (z_ne hb hn_qwk)).trans (hfr b hb h0)
  have hn_qks : qks ∉ L := fun h => hq_qks (hsub _ h)
  have hn_qct : qct ∉ L := fun h => hq_qct (hsub _ h)
  have hn_qse : qse ∉ L := fun h => hq_qse (hsub _ h)
  have hn_qow : qow ∉ L := fun h => hq_qow (hsub _ h)
  have hsub : ∀ b ∈ L, b ∈ L52 := fun b h => hsb b (hsub b h)
  have hck_T : ∀ b ∈ L3, b ≠ hs → f53 b = f5 b := fun b hb h_hs => (hfm b (hcs_T b hb) (z_ne hb hnk_T_qwk)).trans (hck_T b hb h_hs)
  have hcs_T : ∀ b ∈ L3, b ∈ L52 := fun b h => hsb b (hcs_T b h)
  have hck_M : ∀ b ∈ L8, b ≠ hs → f53 b = f10 b := fun b hb h_hs => (hfm b (hcs_M b hb) (z_ne hb hnk_M_qwk)).trans (hck_M b hb h_hs)
  have hcs_M : ∀ b ∈ L8, b ∈ L52 := fun b h => hsb b (hcs_M b h)
  have hck_F : ∀ b ∈ L13, b ≠ hs → f53 b = f15 b := fun b hb h_hs => (hfm b (hcs_F b hb) (z_ne hb hnk_F_qwk)).trans (hck_F b hb h_hs)
  have hcs_F : ∀ b ∈ L13, b ∈ L52 := fun b h => hsb b (hcs_F b h)
  have hck_R : ∀ b ∈ L16, b ≠ hs → f53 b = f20 b := fun b hb h_hs => (hfm b (hcs_R b hb) (z_ne hb hnk_R_qwk)).trans (hck_R b hb h_hs)
  have hcs_R : ∀ b ∈ L16, b ∈ L52 := fun b h => hsb b (hcs_R b h)
  have hck_I0 : ∀ b ∈ L26, b ≠ hs → b ≠ qim → f53 b = f29 b := fun b hb h_hs h_qim => (hfm b (hcs_I0 b hb) (z_ne hb hnk_I0_qwk)).trans (hck_I0 b hb h_hs h_qim)
  have hcs_I0 : ∀ b ∈ L26, b ∈ L52 := fun b h => hsb b (hcs_I0 b h)
  have hck_I1 : ∀ b ∈ L32, b ≠ hs → b ≠ qim → f53 b = f35 b := fun b hb h_hs h_qim => (hfm b (hcs_I1 b hb) (z_ne hb hnk_I1_qwk)).trans (hck_I1 b hb h_hs h_qim)
  have hcs_I1 : ∀ b ∈ L32, b ∈ L52 := fun b h => hsb b (hcs_I1 b h)
  have hck_I2 : ∀ b ∈ L38, b ≠ hs → b ≠ qim → f53 b = f41 b := fun b hb h_hs h_qim => (hfm b (hcs_I2 b hb) (z_ne hb hnk_I2_qwk)).trans (hck_I2 b hb h_hs h_qim)
  have hcs_I2 : ∀ b ∈ L38, b ∈ L52 := fun b h => hsb b (hcs_I2 b h)
  have hck_K : ∀ b ∈ L42, b ≠ hs → f53 b = f44 b := fun b hb h_hs => (hfm b (hcs_K b hb) (z_ne hb hnk_K_qwk)).trans (hck_K b hb h_hs)
  have hcs_K : ∀ b ∈ L42, b ∈ L52 := fun b h => hsb b (hcs_K b h)
  have hck_S : ∀ b ∈ L47, b ≠ hs → f53 b = f49 b := fun b hb h_hs => (hfm b (hcs_S b hb) (z_ne hb hnk_S_qwk)).trans (hck_S b hb h_hs)
  have hcs_S : ∀ b ∈ L47, b ∈ L52 := fun b h => hsb b (hcs_S b h)
  have hf_hs : f53 hs = .inr (9, [.ref qtp, .ref qrd, .ref qmmo, .ref qxmo, .ref qim, .ref qkp, .ref qsl, .null, .null, .null, .null]) := (hfm hs hm_hs ne_hs_qwk).trans hf_hs
  have hm_hs : hs ∈ L52 := hsb _ hm_hs
  have hm_qwk : qwk ∈ L52 := hsb _ hm_qwk
  have hf_qwk : f53 qwk = .inr (8, [.ref qks, .int 0, .ref qct, .ref qse, .ref qow, .int 0, .int 0, .int 0]) := ha_0
  have hf_qks : f53 qks = .inl (cy 1, 13, .inl (fun _ => 0)) := hf_qks
  have hm_qks : qks ∈ L52 := hm_qks
  have hf_qct : f53 qct = .inl (cy 1, 4, .inl (fun _ => 0)) := hf_qct
  have hm_qct : qct ∈ L52 := hm_qct
  have hf_qse : f53 qse = .inl (cy 1, 4, .inl (fun _ => 0)) := hf_qse
  have hm_qse : qse ∈ L52 := hm_qse
  have hf_qow : f53 qow = .inl (cy 1, 5, .inl (fun _ => 0)) := hf_qow
  have hm_qow : qow ∈ L52 := hm_qow
  have e_L52 : L52 = L50 ++ [qks, qct, qse, qow] := hp
  refine z_putF (C := RX9) (T := TX9) (N := 11) (ci := 9) (v := .ref qwk) (fs' := [.ref qtp, .ref qrd, .ref qmmo, .ref qxmo, .ref qim, .ref qkp, .ref qsl, .ref qwk, .null, .null, .null]) hx hb hT zin_X9 tyX9_ok nmX9 hown hK hw hm_hs hf_hs rfl 7 (by decide) (hT _ kw_484) rfl hnm rfl rfl rfl (Nat.le_of_ble_eq_true rfl) rfl dX9_init_116 (fun H locs hw => ?_)
  obtain ⟨f54, e_f54⟩ : ∃ z, z = va_up f53 hs (.inr (9, [.ref qtp, .ref qrd, .ref qmmo, .ref qxmo, .ref qim, .ref qkp, .ref qsl, .ref qwk, .null, .null, .null])) := ⟨_, rfl⟩
  rw [← e_f54] at hw
  have hf_qwk : f54 qwk = .inr (8, [.ref qks, .int 0, .ref qct, .ref qse, .ref qow, .int 0, .int 0, .int 0]) := (congrFun e_f54 qwk).trans (z_up_ne (Ne.symm ne_hs_qwk) hf_qwk)
  have hf_qks : f54 qks = .inl (cy 1, 13, .inl (fun _ => 0)) := (congrFun e_f54 qks).trans (z_up_ne (Ne.symm ne_hs_qks) hf_qks)
  have hf_qct : f54 qct = .inl (cy 1, 4, .inl (fun _ => 0)) := (congrFun e_f54 qct).trans (z_up_ne (Ne.symm ne_hs_qct) hf_qct)
  have hf_qse : f54 qse = .inl (cy 1, 4, .inl (fun _ => 0)) := (congrFun e_f54 qse).trans (z_up_ne (Ne.symm ne_hs_qse) hf_qse)
  have hf_qow : f54 qow = .inl (cy 1, 5, .inl (fun _ => 0)) := (congrFun e_f54 qow).trans (z_up_ne (Ne.symm ne_hs_qow) hf_qow)
  have hf_hs : f54 hs = .inr (9, [.ref qtp, .ref qrd, .ref qmmo, .ref qxmo, .ref qim, .ref qkp, .ref qsl, .ref qwk, .null, .null, .null]) := (congrFun e_f54 hs).trans z_up_self
  have hck_T : ∀ b ∈ L3, b ≠ hs → f54 b = f5 b := fun b hb h_hs => (congrFun e_f54 b).trans (z_up_ne h_hs (hck_T b hb h_hs))
  have hck_M : ∀ b ∈ L8, b ≠ hs → f54 b = f10 b := fun b hb h_hs => (congrFun e_f54 b).trans (z_up_ne h_hs (hck_M b hb h_hs))
  have hck_F : ∀ b ∈ L13, b ≠ hs → f54 b = f15 b := fun b hb h_hs => (congrFun e_f54 b).trans (z_up_ne h_hs (hck_F b hb h_hs))
  have hck_R : ∀ b ∈ L16, b ≠ hs → f54 b = f20 b := fun b hb h_hs => (congrFun e_f54 b).trans (z_up_ne h_hs (hck_R b hb h_hs))
  have hck_I0 : ∀ b ∈ L26, b ≠ hs → b ≠ qim → f54 b = f29 b := fun b hb h_hs h_qim => (congrFun e_f54 b).trans (z_up_ne h_hs (hck_I0 b hb h_hs h_qim))
  have hck_I1 : ∀ b ∈ L32, b ≠ hs → b ≠ qim → f54 b = f35 b := fun b hb h_hs h_qim => (congrFun e_f54 b).trans (z_up_ne h_hs (hck_I1 b hb h_hs h_qim))
  have hck_I2 : ∀ b ∈ L38, b ≠ hs → b ≠ qim → f54 b = f41 b := fun b hb h_hs h_qim => (congrFun e_f54 b).trans (z_up_ne h_hs (hck_I2 b hb h_hs h_qim))
  have hck_K : ∀ b ∈ L42, b ≠ hs → f54 b = f44 b := fun b hb h_hs => (congrFun e_f54 b).trans (z_up_ne h_hs (hck_K b hb h_hs))
  have hck_S : ∀ b ∈ L47, b ≠ hs → f54 b = f49 b := fun b hb h_hs => (congrFun e_f54 b).trans (z_up_ne h_hs (hck_S b hb h_hs))
  have hfr : ∀ b ∈ L, b ≠ hs → f54 b = f b := fun b hb h0 => (congrFun e_f54 b).trans (z_up_ne h0 (hfr b hb h0))
  have h0_qwk := hf_qwk
  have m0_qwk := hm_qwk
  have h0_qks := hf_qks
  have m0_qks := hm_qks
  have h0_qct := hf_qct
  have m0_qct := hm_qct
  have h0_qse := hf_qse
  have m0_qse := hm_qse
  have h0_qow := hf_qow
  have m0_qow := hm_qow
  have hck_W : ∀ b ∈ L52, b ≠ hs → f54 b = f54 b := fun _ _ _ => rfl
  have hcs_W : ∀ b ∈ L52, b ∈ L52 := fun _ h => h
  refine lv_aload_n hx hb dX9_init_119 rfl (lv_at hl 1 rfl) ?_
  refine z_new (C := RX4) (T := TX4) (N := 12) (ci := 4) (fs := [.null, .null, .null, .int 0, .int 0, .int 0, .int 0, .int 0, .int 0, .int 0, .int 0, .int 0]) (cells := 108) (slots := 2771) hx hb hT zin_X4 tyX4_ok hown (hT _ kw_376) (hT _ kw_377) (hT _ kw_93) hK hw hA rfl (fun j hj => by rcases (show j = 0 ∨ j = 1 ∨ j = 2 ∨ j = 3 ∨ j = 4 ∨ j = 5 ∨ j = 6 ∨ j = 7 ∨ j = 8 ∨ j = 9 ∨ j = 10 ∨ j = 11 by omega) with rfl | rfl | rfl | rfl | rfl | rfl | rfl | rfl | rfl | rfl | rfl | rfl <;> rfl) (by decide) (by decide) dX9_init_120 (fun qpl H hq_qpl hw => ?_)
  refine W.widen (k := 109) (n := 2783) (by decide) (by decide) ?_
  have ne_hs_qpl : hs ≠ qpl := z_ne hm_hs hq_qpl
  have hn_qpl : qpl ∉ L := fun h => hq_qpl (hsub _ h)
  obtain ⟨f56, e_f56⟩ : ∃ z, z = va_up f54 qpl (.inr (4, [.null, .null, .null, .int 0, .int 0, .int 0, .int 0, .int 0, .int 0, .int 0, .int 0, .int 0])) := ⟨_, rfl⟩
  obtain ⟨L55, e_L55⟩ : ∃ z, z = L52 ++ [qpl] := ⟨_, rfl⟩
  rw [← e_f56, ← e_L55] at hw
  have hm_hs : hs ∈ L55 := by rw [e_L55]; exact List.mem_append_left _ hm_hs
  have hf_hs : f56 hs = .inr (9, [.ref qtp, .ref qrd, .ref qmmo, .ref qxmo, .ref qim, .ref qkp, .ref qsl, .ref qwk, .null, .null, .null]) := (congrFun e_f56 hs).trans (z_up_ne ne_hs_qpl hf_hs)
  have hm_qpl : qpl ∈ L55 := by rw [e_L55]; exact List.mem_append_right _ (List.mem_singleton.mpr rfl)
  have hf_qpl : f56 qpl = .inr (4, [.null, .null, .null, .int 0, .int 0, .int 0, .int 0, .int 0, .int 0, .int 0, .int 0, .int 0]) := (congrFun e_f56 qpl).trans z_up_self
  have hsub : ∀ b ∈ L, b ∈ L55 := fun b h => by rw [e_L55]; exact List.mem_append_left _ (hsub b h)
  have hfr : ∀ b ∈ L, b ≠ hs → f56 b = f b := fun b hb h0 => (congrFun e_f56 b).trans (z_up_ne (z_ne hb hn_qpl) (hfr b hb h0))
  have hnk_T_qpl : qpl ∉ L3 := fun h => hq_qpl (hcs_T _ h)
  have hcs_T : ∀ b ∈ L3, b ∈ L55 := fun b h => by rw [e_L55]; exact List.mem_append_left _ (hcs_T b h)
  have hck_T : ∀ b ∈ L3, b ≠ hs → f56 b = f5 b := fun b hb h_hs => (congrFun e_f56 b).trans (z_up_ne (z_ne hb hnk_T_qpl) (hck_T b hb h_hs))
  have hnk_M_qpl : qpl ∉ L8 := fun h => hq_qpl (hcs_M _ h)
  have hcs_M : ∀ b ∈ L8, b ∈ L55 := fun b h => by rw [e_L55]; exact List.mem_append_left _ (hcs_M b h)
  have hck_M : ∀ b ∈ L8, b ≠ hs → f56 b = f10 b := fun b hb h_hs => (congrFun e_f56 b).trans (z_up_ne (z_ne hb hnk_M_qpl) (hck_M b hb h_hs))
  have hnk_F_qpl : qpl ∉ L13 := fun h => hq_qpl (hcs_F _ h)
  have hcs_F : ∀ b ∈ L13, b ∈ L55 := fun b h => by rw [e_L55]; exact List.mem_append_left _ (hcs_F b h)
  have hck_F : ∀ b ∈ L13, b ≠ hs → f56 b = f15 b := fun b hb h_hs => (congrFun e_f56 b).trans (z_up_ne (z_ne hb hnk_F_qpl) (hck_F b hb h_hs))
  have hnk_R_qpl : qpl ∉ L16 := fun h => hq_qpl (hcs_R _ h)
  have hcs_R : ∀ b ∈ L16, b ∈ L55 := fun b h => by rw [e_L55]; exact List.mem_append_left _ (hcs_R b h)
  have hck_R : ∀ b ∈ L16, b ≠ hs → f56 b = f20 b := fun b hb h_hs => (congrFun e_f56 b).trans (z_up_ne (z_ne hb hnk_R_qpl) (hck_R b hb h_hs))
  have hnk_I0_qpl : qpl ∉ L26 := fun h => hq_qpl (hcs_I0 _ h)
  have hcs_I0 : ∀ b ∈ L26, b ∈ L55 := fun b h => by rw [e_L55]; exact List.mem_append_left _ (hcs_I0 b h)
  have hck_I0 : ∀ b ∈ L26, b ≠ hs → b ≠ qim → f56 b = f29 b := fun b hb h_hs h_qim => (congrFun e_f56 b).trans (z_up_ne (z_ne hb hnk_I0_qpl) (hck_I0 b hb h_hs h_qim))
  have hnk_I1_qpl : qpl ∉ L32 := fun h => hq_qpl (hcs_I1 _ h)
  have hcs_I1 : ∀ b ∈ L32, b ∈ L55 := fun b h => by rw [e_L55]; exact List.mem_append_left _ (hcs_I1 b h)
  have hck_I1 : ∀ b ∈ L32, b ≠ hs → b ≠ qim → f56 b = f35 b := fun b hb h_hs h_qim => (congrFun e_f56 b).trans (z_up_ne (z_ne hb hnk_I1_qpl) (hck_I1 b hb h_hs h_qim))
  have hnk_I2_qpl : qpl ∉ L38 := fun h => hq_qpl (hcs_I2 _ h)
  have hcs_I2 : ∀ b ∈ L38, b ∈ L55 := fun b h => by rw [e_L55]; exact List.mem_append_left _ (hcs_I2 b h)
  have hck_I2 : ∀ b ∈ L38, b ≠ hs → b ≠ qim → f56 b = f41 b := fun b hb h_hs h_qim => (congrFun e_f56 b).trans (z_up_ne (z_ne hb hnk_I2_qpl) (hck_I2 b hb h_hs h_qim))
  have hnk_K_qpl : qpl ∉ L42 := fun h => hq_qpl (hcs_K _ h)
  have hcs_K : ∀ b ∈ L42, b ∈ L55 := fun b h => by rw [e_L55]; exact List.mem_append_left _ (hcs_K b h)
  have hck_K : ∀ b ∈ L42, b ≠ hs → f56 b = f44 b := fun b hb h_hs => (congrFun e_f56 b).trans (z_up_ne (z_ne hb hnk_K_qpl) (hck_K b hb h_hs))
  have hnk_S_qpl : qpl ∉ L47 := fun h => hq_qpl (hcs_S _ h)
  have hcs_S : ∀ b ∈ L47, b ∈ L55 := fun b h => by rw [e_L55]; exact List.mem_append_left _ (hcs_S b h)
  have hck_S : ∀ b ∈ L47, b ≠ hs → f56 b = f49 b := fun b hb h_hs => (congrFun e_f56 b).trans (z_up_ne (z_ne hb hnk_S_qpl) (hck_S b hb h_hs))
  have hnk_W_qpl : qpl ∉ L52 := fun h => hq_qpl (hcs_W _ h)
  have hcs_W : ∀ b ∈ L52, b ∈ L55 := fun b h => by rw [e_L55]; exact List.mem_append_left _ (hcs_W b h)
  have hck_W : ∀ b ∈ L52, b ≠ hs → f56 b = f54 b := fun b hb h_hs => (congrFun e_f56 b).trans (z_up_ne (z_ne hb hnk_W_qpl) (hck_W b hb h_hs))
  refine lv_dup hx hb dX9_init_123 rfl ?_
  refine lv_aload_n hx hb dX9_init_124 rfl (lv_at hl 1 rfl) ?_
  refine z_get (C := RX9) (T := TX9) (N := 11) (ci := 9) (v := .ref qwk) hx hb hT zin_X9 hown hK hw hm_hs hf_hs rfl 7 (by decide) (hT _ kw_484) rfl dX9_init_125 ?_
  refine z_callvI (cells := 109) (slots := 2783) (b := qpl) (As := [.ref qwk]) (rest := [.ref qpl, .ref hs]) ⟨hx, hb, hml, hown, hT⟩ (c_X4_init l hm_qpl hf_qpl) (cwI 1 hT (z_goodI (fun _ h => h) kw_380) rfl rfl rfl (hT _ kw_93) (hT _ kw_378) (hT _ kw_379) rfl (by decide +kernel) ⟨by decide, by decide⟩) z_mv hKK hw hA rfl hl.1 rfl (Nat.le_of_ble_eq_true rfl) dX9_init_128 ⟨by decide, by decide⟩ (fun u H locs hp hw => ?_)
  refine W.widen (k := 128) (n := 3172) (by decide) (by decide) ?_
  obtain ⟨L57, f58⟩ := u
  obtain ⟨hsb, hfm, qtmo, qtla, qtsa, qtmi, qtda, qtd0, qtd1, qtd2, qtd3, qtd4, qtd5, qtd6, qtd7, qtd8, qtd9, qtd10, qtd11, qtd12, qtot, qtgd, ha_0, ⟨hq_qtmo, hm_qtmo, hf_qtmo⟩, ⟨hq_qtla, hm_qtla, hf_qtla⟩, ⟨hq_qtsa, hm_qtsa, hf_qtsa⟩, ⟨hq_qtmi, hm_qtmi, hf_qtmi⟩, ⟨hq_qtda, hm_qtda, hf_qtda⟩, ⟨hq_qtd0, hm_qtd0, hf_qtd0⟩, ⟨hq_qtd1, hm_qtd1, hf_qtd1⟩, ⟨hq_qtd2, hm_qtd2, hf_qtd2⟩, ⟨hq_qtd3, hm_qtd3, hf_qtd3⟩, ⟨hq_qtd4, hm_qtd4, hf_qtd4⟩, ⟨hq_qtd5, hm_qtd5, hf_qtd5⟩, ⟨hq_qtd6, hm_qtd6, hf_qtd6⟩, ⟨hq_qtd7, hm_qtd7, hf_qtd7⟩, ⟨hq_qtd8, hm_qtd8, hf_qtd8⟩, ⟨hq_qtd9, hm_qtd9, hf_qtd9⟩, ⟨hq_qtd10, hm_qtd10, hf_qtd10⟩, ⟨hq_qtd11, hm_qtd11, hf_qtd11⟩, ⟨hq_qtd12, hm_qtd12, hf_qtd12⟩, ⟨hq_qtot, hm_qtot, hf_qtot⟩, hp⟩ := hp
  have hw : z_H D vwCl (z_A L sz) s.heap L57 f58 H locs := hw
  have ne_hs_qtmo : hs ≠ qtmo := z_ne hm_hs hq_qtmo
  have ne_qpl_qtmo : qpl ≠ qtmo := z_ne hm_qpl hq_qtmo
  have ne_hs_qtla : hs ≠ qtla := z_ne hm_hs hq_qtla
  have ne_qpl_qtla : qpl ≠ qtla := z_ne hm_qpl hq_qtla
  have ne_hs_qtsa : hs ≠ qtsa := z_ne hm_hs hq_qtsa
  have ne_qpl_qtsa : qpl ≠ qtsa := z_ne hm_qpl hq_qtsa
  have ne_hs_qtmi : hs ≠ qtmi := z_ne hm_hs hq_qtmi
  have ne_qpl_qtmi : qpl ≠ qtmi := z_ne hm_qpl hq_qtmi
  have ne_hs_qtda : hs ≠ qtda := z_ne hm_hs hq_qtda
  have ne_qpl_qtda : qpl ≠ qtda := z_ne hm_qpl hq_qtda
  have ne_hs_qtd0 : hs ≠ qtd0 := z_ne hm_hs hq_qtd0
  have ne_qpl_qtd0 : qpl ≠ qtd0 := z_ne hm_qpl hq_qtd0
  have ne_hs_qtd1 : hs ≠ qtd1 := z_ne hm_hs hq_qtd1
  have ne_qpl_qtd1 : qpl ≠ qtd1 := z_ne hm_qpl hq_qtd1
  have ne_hs_qtd2 : hs ≠ qtd2 := z_ne hm_hs hq_qtd2
  have ne_qpl_qtd2 : qpl ≠ qtd2 := z_ne hm_qpl hq_qtd2
  have ne_hs_qtd3 : hs ≠ qtd3 := z_ne hm_hs hq_qtd3
  have ne_qpl_qtd3 : qpl ≠ qtd3 := z_ne hm_qpl hq_qtd3
  have ne_hs_qtd4 : hs ≠ qtd4 := z_ne hm_hs hq_qtd4
  have ne_qpl_qtd4 : qpl ≠ qtd4 := z_ne hm_qpl hq_qtd4
  have ne_hs_qtd5 : hs ≠ qtd5 := z_ne hm_hs hq_qtd5
  have ne_qpl_qtd5 : qpl ≠ qtd5 := z_ne hm_qpl hq_qtd5
  have ne_hs_qtd6 : hs ≠ qtd6 := z_ne hm_hs hq_qtd6
  have ne_qpl_qtd6 : qpl ≠ qtd6 := z_ne hm_qpl hq_qtd6
  have ne_hs_qtd7 : hs ≠ qtd7 := z_ne hm_hs hq_qtd7
  have ne_qpl_qtd7 : qpl ≠ qtd7 := z_ne hm_qpl hq_qtd7
  have ne_hs_qtd8 : hs ≠ qtd8 := z_ne hm_hs hq_qtd8
  have ne_qpl_qtd8 : qpl ≠ qtd8 := z_ne hm_qpl hq_qtd8
  have ne_hs_qtd9 : hs ≠ qtd9 := z_ne hm_hs hq_qtd9
  have ne_qpl_qtd9 : qpl ≠ qtd9 := z_ne hm_qpl hq_qtd9
  have ne_hs_qtd10 : hs ≠ qtd10 := z_ne hm_hs hq_qtd10
  have ne_qpl_qtd10 : qpl ≠ qtd10 := z_ne hm_qpl hq_qtd10
  have ne_hs_qtd11 : hs ≠ qtd11 := z_ne hm_hs hq_qtd11
  have ne_qpl_qtd11 : qpl ≠ qtd11 := z_ne hm_qpl hq_qtd11
  have ne_hs_qtd12 : hs ≠ qtd12 := z_ne hm_hs hq_qtd12
  have ne_qpl_qtd12 : qpl ≠ qtd12 := z_ne hm_qpl hq_qtd12
  have ne_hs_qtot : hs ≠ qtot := z_ne hm_hs hq_qtot
  have ne_qpl_qtot : qpl ≠ qtot := z_ne hm_qpl hq_qtot
  have hfr : ∀ b ∈ L, b ≠ hs → f58 b = f b := fun b hb h0 => (hfm b (hsub b hb) (z_ne hb hn_qpl)).trans (hfr b hb h0)
  have hn_qtmo : qtmo ∉ L := fun h => hq_qtmo (hsub _ h)
  have hn_qtla : qtla ∉ L := fun h => hq_qtla (hsub _ h)
  have hn_qtsa : qtsa ∉ L := fun h => hq_qtsa (hsub _ h)
  have hn_qtmi : qtmi ∉ L := fun h => hq_qtmi (hsub _ h)
  have hn_qtda : qtda ∉ L := fun h => hq_qtda (hsub _ h)
  have hn_qtd0 : qtd0 ∉ L := fun h => hq_qtd0 (hsub _ h)
  have hn_qtd1 : qtd1 ∉ L := fun h => hq_qtd1 (hsub _ h)
  have hn_qtd2 : qtd2 ∉ L := fun h => hq_qtd2 (hsub _ h)
  have hn_qtd3 : qtd3 ∉ L := fun h => hq_qtd3 (hsub _ h)
  have hn_qtd4 : qtd4 ∉ L := fun h => hq_qtd4 (hsub _ h)
  have hn_qtd5 : qtd5 ∉ L := fun h => hq_qtd5 (hsub _ h)
  have hn_qtd6 : qtd6 ∉ L := fun h => hq_qtd6 (hsub _ h)
  have hn_qtd7 : qtd7 ∉ L := fun h => hq_qtd7 (hsub _ h)
  have hn_qtd8 : qtd8 ∉ L := fun h => hq_qtd8 (hsub _ h)
  have hn_qtd9 : qtd9 ∉ L := fun h => hq_qtd9 (hsub _ h)
  have hn_qtd10 : qtd10 ∉ L := fun h => hq_qtd10 (hsub _ h)
  have hn_qtd11 : qtd11 ∉ L := fun h => hq_qtd11 (hsub _ h)
  have hn_qtd12 : qtd12 ∉ L := fun h => hq_qtd12 (hsub _ h)
  have hn_qtot : qtot ∉ L := fun h => hq_qtot (hsub _ h)
  have hsub : ∀ b ∈ L, b ∈ L57 := fun b h => hsb b (hsub b h)
  have hck_T : ∀ b ∈ L3, b ≠ hs → f58 b = f5 b := fun b hb h_hs => (hfm b (hcs_T b hb) (z_ne hb hnk_T_qpl)).trans (hck_T b hb h_hs)
  have hcs_T : ∀ b ∈ L3, b ∈ L57 := fun b h => hsb b (hcs_T b h)
  have hck_M : ∀ b ∈ L8, b ≠ hs → f58 b = f10 b := fun b hb h_hs => (hfm b (hcs_M b hb) (z_ne hb hnk_M_qpl)).trans (hck_M b hb h_hs)
  have hcs_M : ∀ b ∈ L8, b ∈ L57 := fun b h => hsb b (hcs_M b h)
  have hck_F : ∀ b ∈ L13, b ≠ hs → f58 b = f15 b := fun b hb h_hs => (hfm b (hcs_F b hb) (z_ne hb hnk_F_qpl)).trans (hck_F b hb h_hs)
  have hcs_F : ∀ b ∈ L13, b ∈ L57 := fun b h => hsb b (hcs_F b h)
  have hck_R : ∀ b ∈ L16, b ≠ hs → f58 b = f20 b := fun b hb h_hs => (hfm b (hcs_R b hb) (z_ne hb hnk_R_qpl)).trans (hck_R b hb h_hs)
  have hcs_R : ∀ b ∈ L16, b ∈ L57 := fun b h => hsb b (hcs_R b h)
  have hck_I0 : ∀ b ∈ L26, b ≠ hs → b ≠ qim → f58 b = f29 b := fun b hb h_hs h_qim => (hfm b (hcs_I0 b hb) (z_ne hb hnk_I0_qpl)).trans (hck_I0 b hb h_hs h_qim)
  have hcs_I0 : ∀ b ∈ L26, b ∈ L57 := fun b h => hsb b (hcs_I0 b h)
  have hck_I1 : ∀ b ∈ L32, b ≠ hs → b ≠ qim → f58 b = f35 b := fun b hb h_hs h_qim => (hfm b (hcs_I1 b hb) (z_ne hb hnk_I1_qpl)).trans (hck_I1 b hb h_hs h_qim)
  have hcs_I1 : ∀ b ∈ L32, b ∈ L57 := fun b h => hsb b (hcs_I1 b h)
  have hck_I2 : ∀ b ∈ L38, b ≠ hs → b ≠ qim → f58 b = f41 b := fun b hb h_hs h_qim => (hfm b (hcs_I2 b hb) (z_ne hb hnk_I2_qpl)).trans (hck_I2 b hb h_hs h_qim)
  have hcs_I2 : ∀ b ∈ L38, b ∈ L57 := fun b h => hsb b (hcs_I2 b h)
  have hck_K : ∀ b ∈ L42, b ≠ hs → f58 b = f44 b := fun b hb h_hs => (hfm b (hcs_K b hb) (z_ne hb hnk_K_qpl)).trans (hck_K b hb h_hs)
  have hcs_K : ∀ b ∈ L42, b ∈ L57 := fun b h => hsb b (hcs_K b h)
  have hck_S : ∀ b ∈ L47, b ≠ hs → f58 b = f49 b := fun b hb h_hs => (hfm b (hcs_S b hb) (z_ne hb hnk_S_qpl)).trans (hck_S b hb h_hs)
  have hcs_S : ∀ b ∈ L47, b ∈ L57 := fun b h => hsb b (hcs_S b h)
  have hck_W : ∀ b ∈ L52, b ≠ hs → f58 b = f54 b := fun b hb h_hs => (hfm b (hcs_W b hb) (z_ne hb hnk_W_qpl)).trans (hck_W b hb h_hs)
  have hcs_W : ∀ b ∈ L52, b ∈ L57 := fun b h => hsb b (hcs_W b h)
  have hf_hs : f58 hs = .inr (9, [.ref qtp, .ref qrd, .ref qmmo, .ref qxmo, .ref qim, .ref qkp, .ref qsl, .ref qwk, .null, .null, .null]) := (hfm hs hm_hs ne_hs_qpl).trans hf_hs
  have hm_hs : hs ∈ L57 := hsb _ hm_hs
  have hm_qpl : qpl ∈ L57 := hsb _ hm_qpl
  have hf_qpl : f58 qpl = .inr (4, [.ref qtmo, .ref qwk, .ref qtot, .int 0, .int 0, .int 0, .int 0, .int 0, .int 0, .int 0, .int 0, .int 0]) := ha_0
  have hf_qtmo : f58 qtmo = .inr (2, [.int 0, .int 0, .int 0, .int 0, .int 0, .int 0, .int 0, .ref qtla, .ref qtsa, .ref qtmi, .ref qtda]) := hf_qtmo
  have hm_qtmo : qtmo ∈ L57 := hm_qtmo
  have hf_qtla : f58 qtla = .inl (cy 1, 5, .inl (fun _ => 0)) := hf_qtla
  have hm_qtla : qtla ∈ L57 := hm_qtla
  have hf_qtsa : f58 qtsa = .inl (cy 1, 4, .inl (fun _ => 0)) := hf_qtsa
  have hm_qtsa : qtsa ∈ L57 := hm_qtsa
  have hf_qtmi : f58 qtmi = .inl (cy 1, 36, .inl (fun _ => 0)) := hf_qtmi
  have hm_qtmi : qtmi ∈ L57 := hm_qtmi
  have hf_qtda : f58 qtda = .inl (cy 4, 13, .inr (.inr (.inr (.inr qtgd)))) := hf_qtda
  have hm_qtda : qtda ∈ L57 := hm_qtda
  have hf_qtd0 : f58 qtd0 = .inr (0, [.int 0, .int 0, .int 0, .int 0, .int 0, .int 0, .int 0, .int 0]) := hf_qtd0
  have hm_qtd0 : qtd0 ∈ L57 := hm_qtd0
  have hf_qtd1 : f58 qtd1 = .inr (0, [.int 0, .int 0, .int 0, .int 0, .int 0, .int 0, .int 0, .int 0]) := hf_qtd1
  have hm_qtd1 : qtd1 ∈ L57 := hm_qtd1
  have hf_qtd2 : f58 qtd2 = .inr (0, [.int 0, .int 0, .int 0, .int 0, .int 0, .int 0, .int 0, .int 0]) := hf_qtd2
  have hm_qtd2 : qtd2 ∈ L57 := hm_qtd2
  have hf_qtd3 : f58 qtd3 = .inr (0, [.int 0, .int 0, .int 0, .int 0, .int 0, .int 0, .int 0, .int 0]) := hf_qtd3
  have hm_qtd3 : qtd3 ∈ L57 := hm_qtd3
  have hf_qtd4 : f58 qtd4 = .inr (0, [.int 0, .int 0, .int 0, .int 0, .int 0, .int 0, .int 0, .int 0]) := hf_qtd4
  have hm_qtd4 : qtd4 ∈ L57 := hm_qtd4
  have hf_qtd5 : f58 qtd5 = .inr (0, [.int 0, .int 0, .int 0, .int 0, .int 0, .int 0, .int 0, .int 0]) := hf_qtd5
  have hm_qtd5 : qtd5 ∈ L57 := hm_qtd5
  have hf_qtd6 : f58 qtd6 = .inr (0, [.int 0, .int 0, .int 0, .int 0, .int 0, .int 0, .int 0, .int 0]) := hf_qtd6
  have hm_qtd6 : qtd6 ∈ L57 := hm_qtd6
  have hf_qtd7 : f58 qtd7 = .inr (0, [.int 0, .int 0, .int 0, .int 0, .int 0, .int 0, .int 0, .int 0]) := hf_qtd7
  have hm_qtd7 : qtd7 ∈ L57 := hm_qtd7
  have hf_qtd8 : f58 qtd8 = .inr (0, [.int 0, .int 0, .int 0, .int 0, .int 0, .int 0, .int 0, .int 0]) := hf_qtd8
  have hm_qtd8 : qtd8 ∈ L57 := hm_qtd8
  have hf_qtd9 : f58 qtd9 = .inr (0, [.int 0, .int 0, .int 0, .int 0, .int 0, .int 0, .int 0, .int 0]) := hf_qtd9
  have hm_qtd9 : qtd9 ∈ L57 := hm_qtd9
  have hf_qtd10 : f58 qtd10 = .inr (0, [.int 0, .int 0, .int 0, .int 0, .int 0, .int 0, .int 0, .int 0]) := hf_qtd10
  have hm_qtd10 : qtd10 ∈ L57 := hm_qtd10
  have hf_qtd11 : f58 qtd11 = .inr (0, [.int 0, .int 0, .int 0, .int 0, .int 0, .int 0, .int 0, .int 0]) := hf_qtd11
  have hm_qtd11 : qtd11 ∈ L57 := hm_qtd11
  have hf_qtd12 : f58 qtd12 = .inr (0, [.int 0, .int 0, .int 0, .int 0, .int 0, .int 0, .int 0, .int 0]) := hf_qtd12
  have hm_qtd12 : qtd12 ∈ L57 := hm_qtd12
  have hf_qtot : f58 qtot = .inl (cy 1, 216, .inl (fun _ => 0)) := hf_qtot
  have hm_qtot : qtot ∈ L57 := hm_qtot
  have e_L57 : L57 = L55 ++ [qtmo, qtla, qtsa, qtmi, qtda, qtd0, qtd1, qtd2, qtd3, qtd4, qtd5, qtd6, qtd7, qtd8, qtd9, qtd10, qtd11, qtd12, qtot] := hp.1
  have hgd_t := hp.2
  refine z_putF (C := RX9) (T := TX9) (N := 11) (ci := 9) (v := .ref qpl) (fs' := [.ref qtp, .ref qrd, .ref qmmo, .ref qxmo, .ref qim, .ref qkp, .ref qsl, .ref qwk, .ref qpl, .null, .null]) hx hb hT zin_X9 tyX9_ok nmX9 hown hK hw hm_hs hf_hs rfl 8 (by decide) (hT _ kw_485) rfl hnm rfl rfl rfl (Nat.le_of_ble_eq_true rfl) rfl dX9_init_131 (fun H locs hw => ?_)
  obtain ⟨f59, e_f59⟩ : ∃ z, z = va_up f58 hs (.inr (9, [.ref qtp, .ref qrd, .ref qmmo, .ref qxmo, .ref qim, .ref qkp, .ref qsl, .ref qwk, .ref qpl, .null, .null])) := ⟨_, rfl⟩
  rw [← e_f59] at hw
  have hf_qpl : f59 qpl = .inr (4, [.ref qtmo, .ref qwk, .ref qtot, .int 0, .int 0, .int 0, .int 0, .int 0, .int 0, .int 0, .int 0, .int 0]) := (congrFun e_f59 qpl).trans (z_up_ne (Ne.symm ne_hs_qpl) hf_qpl)
  have hf_qtmo : f59 qtmo = .inr (2, [.int 0, .int 0, .int 0, .int 0, .int 0, .int 0, .int 0, .ref qtla, .ref qtsa, .ref qtmi, .ref qtda]) := (congrFun e_f59 qtmo).trans (z_up_ne (Ne.symm ne_hs_qtmo) hf_qtmo)
  have hf_qtla : f59 qtla = .inl (cy 1, 5, .inl (fun _ => 0)) := (congrFun e_f59 qtla).trans (z_up_ne (Ne.symm ne_hs_qtla) hf_qtla)
  have hf_qtsa : f59 qtsa = .inl (cy 1, 4, .inl (fun _ => 0)) := (congrFun e_f59 qtsa).trans (z_up_ne (Ne.symm ne_hs_qtsa) hf_qtsa)
  have hf_qtmi : f59 qtmi = .inl (cy 1, 36, .inl (fun _ => 0)) := (congrFun e_f59 qtmi).trans (z_up_ne (Ne.symm ne_hs_qtmi) hf_qtmi)
  have hf_qtda : f59 qtda = .inl (cy 4, 13, .inr (.inr (.inr (.inr qtgd)))) := (congrFun e_f59 qtda).trans (z_up_ne (Ne.symm ne_hs_qtda) hf_qtda)
  have hf_qtd0 : f59 qtd0 = .inr (0, [.int 0, .int 0, .int 0, .int 0, .int 0, .int 0, .int 0, .int 0]) := (congrFun e_f59 qtd0).trans (z_up_ne (Ne.symm ne_hs_qtd0) hf_qtd0)
  have hf_qtd1 : f59 qtd1 = .inr (0, [.int 0, .int 0, .int 0, .int 0, .int 0, .int 0, .int 0, .int 0]) := (congrFun e_f59 qtd1).trans (z_up_ne (Ne.symm ne_hs_qtd1) hf_qtd1)
  have hf_qtd2 : f59 qtd2 = .inr (0, [.int 0, .int 0, .int 0, .int 0, .int 0, .int 0, .int 0, .int 0]) := (congrFun e_f59 qtd2).trans (z_up_ne (Ne.symm ne_hs_qtd2) hf_qtd2)
  have hf_qtd3 : f59 qtd3 = .inr (0, [.int 0, .int 0, .int 0, .int 0, .int 0, .int 0, .int 0, .int 0]) := (congrFun e_f59 qtd3).trans (z_up_ne (Ne.symm ne_hs_qtd3) hf_qtd3)
  have hf_qtd4 : f59 qtd4 = .inr (0, [.int 0, .int 0, .int 0, .int 0, .int 0, .int 0, .int 0, .int 0]) := (congrFun e_f59 qtd4).trans (z_up_ne (Ne.symm ne_hs_qtd4) hf_qtd4)
  have hf_qtd5 : f59 qtd5 = .inr (0, [.int 0, .int 0, .int 0, .int 0, .int 0, .int 0, .int 0, .int 0]) := (congrFun e_f59 qtd5).trans (z_up_ne (Ne.symm ne_hs_qtd5) hf_qtd5)
  have hf_qtd6 : f59 qtd6 = .inr (0, [.int 0, .int 0, .int 0, .int 0, .int 0, .int 0, .int 0, .int 0]) := (congrFun e_f59 qtd6).trans (z_up_ne (Ne.symm ne_hs_qtd6) hf_qtd6)
  have hf_qtd7 : f59 qtd7 = .inr (0, [.int 0, .int 0, .int 0, .int 0, .int 0, .int 0, .int 0, .int 0]) := (congrFun e_f59 qtd7).trans (z_up_ne (Ne.symm ne_hs_qtd7) hf_qtd7)
  have hf_qtd8 : f59 qtd8 = .inr (0, [.int 0, .int 0, .int 0, .int 0, .int 0, .int 0, .int 0, .int 0]) := (congrFun e_f59 qtd8).trans (z_up_ne (Ne.symm ne_hs_qtd8) hf_qtd8)
  have hf_qtd9 : f59 qtd9 = .inr (0, [.int 0, .int 0, .int 0, .int 0, .int 0, .int 0, .int 0, .int 0]) := (congrFun e_f59 qtd9).trans (z_up_ne (Ne.symm ne_hs_qtd9) hf_qtd9)
  have hf_qtd10 : f59 qtd10 = .inr (0, [.int 0, .int 0, .int 0, .int 0, .int 0, .int 0, .int 0, .int 0]) := (congrFun e_f59 qtd10).trans (z_up_ne (Ne.symm ne_hs_qtd10) hf_qtd10)
  have hf_qtd11 : f59 qtd11 = .inr (0, [.int 0, .int 0, .int 0, .int 0, .int 0, .int 0, .int 0, .int 0]) := (congrFun e_f59 qtd11).trans (z_up_ne (Ne.symm ne_hs_qtd11) hf_qtd11)
  have hf_qtd12 : f59 qtd12 = .inr (0, [.int 0, .int 0, .int 0, .int 0, .int 0, .int 0, .int 0, .int 0]) := (congrFun e_f59 qtd12).trans (z_up_ne (Ne.symm ne_hs_qtd12) hf_qtd12)
  have hf_qtot : f59 qtot = .inl (cy 1, 216, .inl (fun _ => 0)) := (congrFun e_f59 qtot).trans (z_up_ne (Ne.symm ne_hs_qtot) hf_qtot)
  have hf_hs : f59 hs = .inr (9, [.ref qtp, .ref qrd, .ref qmmo, .ref qxmo, .ref qim, .ref qkp, .ref qsl, .ref qwk, .ref qpl, .null, .null]) := (congrFun e_f59 hs).trans z_up_self
  have hck_T : ∀ b ∈ L3, b ≠ hs → f59 b = f5 b := fun b hb h_hs => (congrFun e_f59 b).trans (z_up_ne h_hs (hck_T b hb h_hs))
  have hck_M : ∀ b ∈ L8, b ≠ hs → f59 b = f10 b := fun b hb h_hs => (congrFun e_f59 b).trans (z_up_ne h_hs (hck_M b hb h_hs))
  have hck_F : ∀ b ∈ L13, b ≠ hs → f59 b = f15 b := fun b hb h_hs => (congrFun e_f59 b).trans (z_up_ne h_hs (hck_F b hb h_hs))
  have hck_R : ∀ b ∈ L16, b ≠ hs → f59 b = f20 b := fun b hb h_hs => (congrFun e_f59 b).trans (z_up_ne h_hs (hck_R b hb h_hs))
  have hck_I0 : ∀ b ∈ L26, b ≠ hs → b ≠ qim → f59 b = f29 b := fun b hb h_hs h_qim => (congrFun e_f59 b).trans (z_up_ne h_hs (hck_I0 b hb h_hs h_qim))
  have hck_I1 : ∀ b ∈ L32, b ≠ hs → b ≠ qim → f59 b = f35 b := fun b hb h_hs h_qim => (congrFun e_f59 b).trans (z_up_ne h_hs (hck_I1 b hb h_hs h_qim))
  have hck_I2 : ∀ b ∈ L38, b ≠ hs → b ≠ qim → f59 b = f41 b := fun b hb h_hs h_qim => (congrFun e_f59 b).trans (z_up_ne h_hs (hck_I2 b hb h_hs h_qim))
  have hck_K : ∀ b ∈ L42, b ≠ hs → f59 b = f44 b := fun b hb h_hs => (congrFun e_f59 b).trans (z_up_ne h_hs (hck_K b hb h_hs))
  have hck_S : ∀ b ∈ L47, b ≠ hs → f59 b = f49 b := fun b hb h_hs => (congrFun e_f59 b).trans (z_up_ne h_hs (hck_S b hb h_hs))
  have hck_W : ∀ b ∈ L52, b ≠ hs → f59 b = f54 b := fun b hb h_hs => (congrFun e_f59 b).trans (z_up_ne h_hs (hck_W b hb h_hs))
  have hfr : ∀ b ∈ L, b ≠ hs → f59 b = f b := fun b hb h0 => (congrFun e_f59 b).trans (z_up_ne h0 (hfr b hb h0))
  have h0_qpl := hf_qpl
  have m0_qpl := hm_qpl
  have h0_qtmo := hf_qtmo
  have m0_qtmo := hm_qtmo
  have h0_qtla := hf_qtla
  have m0_qtla := hm_qtla
  have h0_qtsa := hf_qtsa
  have m0_qtsa := hm_qtsa
  have h0_qtmi := hf_qtmi
  have m0_qtmi := hm_qtmi
  have h0_qtda := hf_qtda
  have m0_qtda := hm_qtda
  have h0_qtd0 := hf_qtd0
  have m0_qtd0 := hm_qtd0
  have h0_qtd1 := hf_qtd1
  have m0_qtd1 := hm_qtd1
  have h0_qtd2 := hf_qtd2
  have m0_qtd2 := hm_qtd2
  have h0_qtd3 := hf_qtd3
  have m0_qtd3 := hm_qtd3
  have h0_qtd4 := hf_qtd4
  have m0_qtd4 := hm_qtd4
  have h0_qtd5 := hf_qtd5
  have m0_qtd5 := hm_qtd5
  have h0_qtd6 := hf_qtd6
  have m0_qtd6 := hm_qtd6
  have h0_qtd7 := hf_qtd7
  have m0_qtd7 := hm_qtd7
  have h0_qtd8 := hf_qtd8
  have m0_qtd8 := hm_qtd8
  have h0_qtd9 := hf_qtd9
  have m0_qtd9 := hm_qtd9
  have h0_qtd10 := hf_qtd10
  have m0_qtd10 := hm_qtd10
  have h0_qtd11 := hf_qtd11
  have m0_qtd11 := hm_qtd11
  have h0_qtd12 := hf_qtd12
  have m0_qtd12 := hm_qtd12
  have h0_qtot := hf_qtot
  have m0_qtot := hm_qtot
  have hck_P : ∀ b ∈ L57, b ≠ hs → f59 b = f59 b := fun _ _ _ => rfl
  have hcs_P : ∀ b ∈ L57, b ∈ L57 := fun _ h => h
  refine lv_aload_n hx hb dX9_init_134 rfl (lv_at hl 1 rfl) ?_
  refine z_new (C := RX3) (T := TX3) (N := 6) (ci := 3) (fs := [.null, .null, .null, .null, .int 0, .int 0]) (cells := 128) (slots := 3172) hx hb hT zin_X3 tyX3_ok hown (hT _ kw_429) (hT _ kw_430) (hT _ kw_94) hK hw hA rfl (fun j hj => by rcases (show j = 0 ∨ j = 1 ∨ j = 2 ∨ j = 3 ∨ j = 4 ∨ j = 5 by omega) with rfl | rfl | rfl | rfl | rfl | rfl <;> rfl) (by decide) (by decide) dX9_init_135 (fun qoo H hq_qoo hw => ?_)
  refine W.widen (k := 129) (n := 3178) (by decide) (by decide) ?_
  have ne_hs_qoo : hs ≠ qoo := z_ne hm_hs hq_qoo
  have hn_qoo : qoo ∉ L := fun h => hq_qoo (hsub _ h)
  obtain ⟨f61, e_f61⟩ : ∃ z, z = va_up f59 qoo (.inr (3, [.null, .null, .null, .null, .int 0, .int 0])) := ⟨_, rfl⟩
  obtain ⟨L60, e_L60⟩ : ∃ z, z = L57 ++ [qoo] := ⟨_, rfl⟩
  rw [← e_f61, ← e_L60] at hw
  have hm_hs : hs ∈ L60 := by rw [e_L60]; exact List.mem_append_left _ hm_hs
  have hf_hs : f61 hs = .inr (9, [.ref qtp, .ref qrd, .ref qmmo, .ref qxmo, .ref qim, .ref qkp, .ref qsl, .ref qwk, .ref qpl, .null, .null]) := (congrFun e_f61 hs).trans (z_up_ne ne_hs_qoo hf_hs)
  have hm_qoo : qoo ∈ L60 := by rw [e_L60]; exact List.mem_append_right _ (List.mem_singleton.mpr rfl)
  have hf_qoo : f61 qoo = .inr (3, [.null, .null, .null, .null, .int 0, .int 0]) := (congrFun e_f61 qoo).trans z_up_self
  have hsub : ∀ b ∈ L, b ∈ L60 := fun b h => by rw [e_L60]; exact List.mem_append_left _ (hsub b h)
  have hfr : ∀ b ∈ L, b ≠ hs → f61 b = f b := fun b hb h0 => (congrFun e_f61 b).trans (z_up_ne (z_ne hb hn_qoo) (hfr b hb h0))
  have hnk_T_qoo : qoo ∉ L3 := fun h => hq_qoo (hcs_T _ h)
  have hcs_T : ∀ b ∈ L3, b ∈ L60 := fun b h => by rw [e_L60]; exact List.mem_append_left _ (hcs_T b h)
  have hck_T : ∀ b ∈ L3, b ≠ hs → f61 b = f5 b := fun b hb h_hs => (congrFun e_f61 b).trans (z_up_ne (z_ne hb hnk_T_qoo) (hck_T b hb h_hs))
  have hnk_M_qoo : qoo ∉ L8 := fun h => hq_qoo (hcs_M _ h)
  have hcs_M : ∀ b ∈ L8, b ∈ L60 := fun b h => by rw [e_L60]; exact List.mem_append_left _ (hcs_M b h)
  have hck_M : ∀ b ∈ L8, b ≠ hs → f61 b = f10 b := fun b hb h_hs => (congrFun e_f61 b).trans (z_up_ne (z_ne hb hnk_M_qoo) (hck_M b hb h_hs))
  have hnk_F_qoo : qoo ∉ L13 := fun h => hq_qoo (hcs_F _ h)
  have hcs_F : ∀ b ∈ L13, b ∈ L60 := fun b h => by rw [e_L60]; exact List.mem_append_left _ (hcs_F b h)
  have hck_F : ∀ b ∈ L13, b ≠ hs → f61 b = f15 b := fun b hb h_hs => (congrFun e_f61 b).trans (z_up_ne (z_ne hb hnk_F_qoo) (hck_F b hb h_hs))
  have hnk_R_qoo : qoo ∉ L16 := fun h => hq_qoo (hcs_R _ h)
  have hcs_R : ∀ b ∈ L16, b ∈ L60 := fun b h => by rw [e_L60]; exact List.mem_append_left _ (hcs_R b h)
  have hck_R : ∀ b ∈ L16, b ≠ hs → f61 b = f20 b := fun b hb h_hs => (congrFun e_f61 b).trans (z_up_ne (z_ne hb hnk_R_qoo) (hck_R b hb h_hs))
  have hnk_I0_qoo : qoo ∉ L26 := fun h => hq_qoo (hcs_I0 _ h)
  have hcs_I0 : ∀ b ∈ L26, b ∈ L60 := fun b h => by rw [e_L60]; exact List.mem_append_left _ (hcs_I0 b h)
  have hck_I0 : ∀ b ∈ L26, b ≠ hs → b ≠ qim → f61 b = f29 b := fun b hb h_hs h_qim => (congrFun e_f61 b).trans (z_up_ne (z_ne hb hnk_I0_qoo) (hck_I0 b hb h_hs h_qim))
  have hnk_I1_qoo : qoo ∉ L32 := fun h => hq_qoo (hcs_I1 _ h)
  have hcs_I1 : ∀ b ∈ L32, b ∈ L60 := fun b h => by rw [e_L60]; exact List.mem_append_left _ (hcs_I1 b h)
  have hck_I1 : ∀ b ∈ L32, b ≠ hs → b ≠ qim → f61 b = f35 b := fun b hb h_hs h_qim => (congrFun e_f61 b).trans (z_up_ne (z_ne hb hnk_I1_qoo) (hck_I1 b hb h_hs h_qim))
  have hnk_I2_qoo : qoo ∉ L38 := fun h => hq_qoo (hcs_I2 _ h)
  have hcs_I2 : ∀ b ∈ L38, b ∈ L60 := fun b h => by rw [e_L60]; exact List.mem_append_left _ (hcs_I2 b h)
  have hck_I2 : ∀ b ∈ L38, b ≠ hs → b ≠ qim → f61 b = f41 b := fun b hb h_hs h_qim => (congrFun e_f61 b).trans (z_up_ne (z_ne hb hnk_I2_qoo) (hck_I2 b hb h_hs h_qim))
  have hnk_K_qoo : qoo ∉ L42 := fun h => hq_qoo (hcs_K _ h)
  have hcs_K : ∀ b ∈ L42, b ∈ L60 := fun b h => by rw [e_L60]; exact List.mem_append_left _ (hcs_K b h)
  have hck_K : ∀ b ∈ L42, b ≠ hs → f61 b = f44 b := fun b hb h_hs => (congrFun e_f61 b).trans (z_up_ne (z_ne hb hnk_K_qoo) (hck_K b hb h_hs))
  have hnk_S_qoo : qoo ∉ L47 := fun h => hq_qoo (hcs_S _ h)
  have hcs_S : ∀ b ∈ L47, b ∈ L60 := fun b h => by rw [e_L60]; exact List.mem_append_left _ (hcs_S b h)
  have hck_S : ∀ b ∈ L47, b ≠ hs → f61 b = f49 b := fun b hb h_hs => (congrFun e_f61 b).trans (z_up_ne (z_ne hb hnk_S_qoo) (hck_S b hb h_hs))
  have hnk_W_qoo : qoo ∉ L52 := fun h => hq_qoo (hcs_W _ h)
  have hcs_W : ∀ b ∈ L52, b ∈ L60 := fun b h => by rw [e_L60]; exact List.mem_append_left _ (hcs_W b h)
  have hck_W : ∀ b ∈ L52, b ≠ hs → f61 b = f54 b := fun b hb h_hs => (congrFun e_f61 b).trans (z_up_ne (z_ne hb hnk_W_qoo) (hck_W b hb h_hs))
  have hnk_P_qoo : qoo ∉ L57 := fun h => hq_qoo (hcs_P _ h)
  have hcs_P : ∀ b ∈ L57, b ∈ L60 := fun b h => by rw [e_L60]; exact List.mem_append_left _ (hcs_P b h)
  have hck_P : ∀ b ∈ L57, b ≠ hs → f61 b = f59 b := fun b hb h_hs => (congrFun e_f61 b).trans (z_up_ne (z_ne hb hnk_P_qoo) (hck_P b hb h_hs))
  refine lv_dup hx hb dX9_init_138 rfl ?_
  refine lv_aload_n hx hb dX9_init_139 rfl (lv_at hl 1 rfl) ?_
  refine z_get (C := RX9) (T := TX9) (N := 11) (ci := 9) (v := .ref qwk) hx hb hT zin_X9 hown hK hw hm_hs hf_hs rfl 7 (by decide) (hT _ kw_484) rfl dX9_init_140 ?_
  refine z_callvI (cells := 129) (slots := 3178) (b := qoo) (As := [.ref qwk]) (rest := [.ref qoo, .ref hs]) ⟨hx, hb, hml, hown, hT⟩ (c_X3_init l hm_qoo hf_qoo) (cwI 1 hT (z_goodI (fun _ h => h) kw_433) rfl rfl rfl (hT _ kw_94) (hT _ kw_431) (hT _ kw_432) rfl (by decide +kernel) ⟨by decide, by decide⟩) z_mv hKK hw hA rfl hl.1 rfl (Nat.le_of_ble_eq_true rfl) dX9_init_143 ⟨by decide, by decide⟩ (fun u H locs hp hw => ?_)
  refine W.widen (k := 132) (n := 3202) (by decide) (by decide) ?_
  obtain ⟨L62, f63⟩ := u
  obtain ⟨hsb, hfm, qln, qfi, qsp, ha_0, ⟨hq_qln, hm_qln, hf_qln⟩, ⟨hq_qfi, hm_qfi, hf_qfi⟩, ⟨hq_qsp, hm_qsp, hf_qsp⟩, hp⟩ := hp
  have hw : z_H D vwCl (z_A L sz) s.heap L62 f63 H locs := hw
  have ne_hs_qln : hs ≠ qln := z_ne hm_hs hq_qln
  have ne_qoo_qln : qoo ≠ qln := z_ne hm_qoo hq_qln
  have ne_hs_qfi : hs ≠ qfi := z_ne hm_hs hq_qfi
  have ne_qoo_qfi : qoo ≠ qfi := z_ne hm_qoo hq_qfi
  have ne_hs_qsp : hs ≠ qsp := z_ne hm_hs hq_qsp
  have ne_qoo_qsp : qoo ≠ qsp := z_ne hm_qoo hq_qsp
  have hfr : ∀ b ∈ L, b ≠ hs → f63 b = f b := fun b hb h0 => (hfm b (hsub b hb) (z_ne hb hn_qoo)).trans (hfr b hb h0)
  have hn_qln : qln ∉ L := fun h => hq_qln (hsub _ h)
  have hn_qfi : qfi ∉ L := fun h => hq_qfi (hsub _ h)
  have hn_qsp : qsp ∉ L := fun h => hq_qsp (hsub _ h)
  have hsub : ∀ b ∈ L, b ∈ L62 := fun b h => hsb b (hsub b h)
  have hck_T : ∀ b ∈ L3, b ≠ hs → f63 b = f5 b := fun b hb h_hs => (hfm b (hcs_T b hb) (z_ne hb hnk_T_qoo)).trans (hck_T b hb h_hs)
  have hcs_T : ∀ b ∈ L3, b ∈ L62 := fun b h => hsb b (hcs_T b h)
  have hck_M : ∀ b ∈ L8, b ≠ hs → f63 b = f10 b := fun b hb h_hs => (hfm b (hcs_M b hb) (z_ne hb hnk_M_qoo)).trans (hck_M b hb h_hs)
  have hcs_M : ∀ b ∈ L8, b ∈ L62 := fun b h => hsb b (hcs_M b h)
  have hck_F : ∀ b ∈ L13, b ≠ hs → f63 b = f15 b := fun b hb h_hs => (hfm b (hcs_F b hb) (z_ne hb hnk_F_qoo)).trans (hck_F b hb h_hs)
  have hcs_F : ∀ b ∈ L13, b ∈ L62 := fun b h => hsb b (hcs_F b h)
  have hck_R : ∀ b ∈ L16, b ≠ hs → f63 b = f20 b := fun b hb h_hs => (hfm b (hcs_R b hb) (z_ne hb hnk_R_qoo)).trans (hck_R b hb h_hs)
  have hcs_R : ∀ b ∈ L16, b ∈ L62 := fun b h => hsb b (hcs_R b h)
  have hck_I0 : ∀ b ∈ L26, b ≠ hs → b ≠ qim → f63 b = f29 b := fun b hb h_hs h_qim => (hfm b (hcs_I0 b hb) (z_ne hb hnk_I0_qoo)).trans (hck_I0 b hb h_hs h_qim)
  have hcs_I0 : ∀ b ∈ L26, b ∈ L62 := fun b h => hsb b (hcs_I0 b h)
  have hck_I1 : ∀ b ∈ L32, b ≠ hs → b ≠ qim → f63 b = f35 b := fun b hb h_hs h_qim => (hfm b (hcs_I1 b hb) (z_ne hb hnk_I1_qoo)).trans (hck_I1 b hb h_hs h_qim)
  have hcs_I1 : ∀ b ∈ L32, b ∈ L62 := fun b h => hsb b (hcs_I1 b h)
  have hck_I2 : ∀ b ∈ L38, b ≠ hs → b ≠ qim → f63 b = f41 b := fun b hb h_hs h_qim => (hfm b (hcs_I2 b hb) (z_ne hb hnk_I2_qoo)).trans (hck_I2 b hb h_hs h_qim)
  have hcs_I2 : ∀ b ∈ L38, b ∈ L62 := fun b h => hsb b (hcs_I2 b h)
  have hck_K : ∀ b ∈ L42, b ≠ hs → f63 b = f44 b := fun b hb h_hs => (hfm b (hcs_K b hb) (z_ne hb hnk_K_qoo)).trans (hck_K b hb h_hs)
  have hcs_K : ∀ b ∈ L42, b ∈ L62 := fun b h => hsb b (hcs_K b h)
  have hck_S : ∀ b ∈ L47, b ≠ hs → f63 b = f49 b := fun b hb h_hs => (hfm b (hcs_S b hb) (z_ne hb hnk_S_qoo)).trans (hck_S b hb h_hs)
  have hcs_S : ∀ b ∈ L47, b ∈ L62 := fun b h => hsb b (hcs_S b h)
  have hck_W : ∀ b ∈ L52, b ≠ hs → f63 b = f54 b := fun b hb h_hs => (hfm b (hcs_W b hb) (z_ne hb hnk_W_qoo)).trans (hck_W b hb h_hs)
  have hcs_W : ∀ b ∈ L52, b ∈ L62 := fun b h => hsb b (hcs_W b h)
  have hck_P : ∀ b ∈ L57, b ≠ hs → f63 b = f59 b := fun b hb h_hs => (hfm b (hcs_P b hb) (z_ne hb hnk_P_qoo)).trans (hck_P b hb h_hs)
  have hcs_P : ∀ b ∈ L57, b ∈ L62 := fun b h => hsb b (hcs_P b h)
  have hf_hs : f63 hs = .inr (9, [.ref qtp, .ref qrd, .ref qmmo, .ref qxmo, .ref qim, .ref qkp, .ref qsl, .ref qwk, .ref qpl, .null, .null]) := (hfm hs hm_hs ne_hs_qoo).trans hf_hs
  have hm_hs : hs ∈ L62 := hsb _ hm_hs
  have hm_qoo : qoo ∈ L62 := hsb _ hm_qoo
  have hf_qoo : f63 qoo = .inr (3, [.ref qwk, .ref qln, .ref qfi, .ref qsp, .int 0, .int 0]) := ha_0
  have hf_qln : f63 qln = .inl (cy 1, 6, .inl (fun _ => 0)) := hf_qln
  have hm_qln : qln ∈ L62 := hm_qln
  have hf_qfi : f63 qfi = .inl (cy 1, 6, .inl (fun _ => 0)) := hf_qfi
  have hm_qfi : qfi ∈ L62 := hm_qfi
  have hf_qsp : f63 qsp = .inl (cy 1, 12, .inl (fun _ => 0)) := hf_qsp
  have hm_qsp : qsp ∈ L62 := hm_qsp
  have e_L62 : L62 = L60 ++ [qln, qfi, qsp] := hp
  refine z_putF (C := RX9) (T := TX9) (N := 11) (ci := 9) (v := .ref qoo) (fs' := [.ref qtp, .ref qrd, .ref qmmo, .ref qxmo, .ref qim, .ref qkp, .ref qsl, .ref qwk, .ref qpl, .ref qoo, .null]) hx hb hT zin_X9 tyX9_ok nmX9 hown hK hw hm_hs hf_hs rfl 9 (by decide) (hT _ kw_486) rfl hnm rfl rfl rfl (Nat.le_of_ble_eq_true rfl) rfl dX9_init_146 (fun H locs hw => ?_)
  obtain ⟨f64, e_f64⟩ : ∃ z, z = va_up f63 hs (.inr (9, [.ref qtp, .ref qrd, .ref qmmo, .ref qxmo, .ref qim, .ref qkp, .ref qsl, .ref qwk, .ref qpl, .ref qoo, .null])) := ⟨_, rfl⟩
  rw [← e_f64] at hw
  have hf_qoo : f64 qoo = .inr (3, [.ref qwk, .ref qln, .ref qfi, .ref qsp, .int 0, .int 0]) := (congrFun e_f64 qoo).trans (z_up_ne (Ne.symm ne_hs_qoo) hf_qoo)
  have hf_qln : f64 qln = .inl (cy 1, 6, .inl (fun _ => 0)) := (congrFun e_f64 qln).trans (z_up_ne (Ne.symm ne_hs_qln) hf_qln)
  have hf_qfi : f64 qfi = .inl (cy 1, 6, .inl (fun _ => 0)) := (congrFun e_f64 qfi).trans (z_up_ne (Ne.symm ne_hs_qfi) hf_qfi)
  have hf_qsp : f64 qsp = .inl (cy 1, 12, .inl (fun _ => 0)) := (congrFun e_f64 qsp).trans (z_up_ne (Ne.symm ne_hs_qsp) hf_qsp)
  have hf_hs : f64 hs = .inr (9, [.ref qtp, .ref qrd, .ref qmmo, .ref qxmo, .ref qim, .ref qkp, .ref qsl, .ref qwk, .ref qpl, .ref qoo, .null]) := (congrFun e_f64 hs).trans z_up_self
  have hck_T : ∀ b ∈ L3, b ≠ hs → f64 b = f5 b := fun b hb h_hs => (congrFun e_f64 b).trans (z_up_ne h_hs (hck_T b hb h_hs))
  have hck_M : ∀ b ∈ L8, b ≠ hs → f64 b = f10 b := fun b hb h_hs => (congrFun e_f64 b).trans (z_up_ne h_hs (hck_M b hb h_hs))
  have hck_F : ∀ b ∈ L13, b ≠ hs → f64 b = f15 b := fun b hb h_hs => (congrFun e_f64 b).trans (z_up_ne h_hs (hck_F b hb h_hs))
  have hck_R : ∀ b ∈ L16, b ≠ hs → f64 b = f20 b := fun b hb h_hs => (congrFun e_f64 b).trans (z_up_ne h_hs (hck_R b hb h_hs))
  have hck_I0 : ∀ b ∈ L26, b ≠ hs → b ≠ qim → f64 b = f29 b := fun b hb h_hs h_qim => (congrFun e_f64 b).trans (z_up_ne h_hs (hck_I0 b hb h_hs h_qim))
  have hck_I1 : ∀ b ∈ L32, b ≠ hs → b ≠ qim → f64 b = f35 b := fun b hb h_hs h_qim => (congrFun e_f64 b).trans (z_up_ne h_hs (hck_I1 b hb h_hs h_qim))
  have hck_I2 : ∀ b ∈ L38, b ≠ hs → b ≠ qim → f64 b = f41 b := fun b hb h_hs h_qim => (congrFun e_f64 b).trans (z_up_ne h_hs (hck_I2 b hb h_hs h_qim))
  have hck_K : ∀ b ∈ L42, b ≠ hs → f64 b = f44 b := fun b hb h_hs => (congrFun e_f64 b).trans (z_up_ne h_hs (hck_K b hb h_hs))
  have hck_S : ∀ b ∈ L47, b ≠ hs → f64 b = f49 b := fun b hb h_hs => (congrFun e_f64 b).trans (z_up_ne h_hs (hck_S b hb h_hs))
  have hck_W : ∀ b ∈ L52, b ≠ hs → f64 b = f54 b := fun b hb h_hs => (congrFun e_f64 b).trans (z_up_ne h_hs (hck_W b hb h_hs))
  have hck_P : ∀ b ∈ L57, b ≠ hs → f64 b = f59 b := fun b hb h_hs => (congrFun e_f64 b).trans (z_up_ne h_hs (hck_P b hb h_hs))
  have hfr : ∀ b ∈ L, b ≠ hs → f64 b = f b := fun b hb h0 => (congrFun e_f64 b).trans (z_up_ne h0 (hfr b hb h0))
  have h0_qoo := hf_qoo
  have m0_qoo := hm_qoo
  have h0_qln := hf_qln
  have m0_qln := hm_qln
  have h0_qfi := hf_qfi
  have m0_qfi := hm_qfi
  have h0_qsp := hf_qsp
  have m0_qsp := hm_qsp
  have hck_O : ∀ b ∈ L62, b ≠ hs → f64 b = f64 b := fun _ _ _ => rfl
  have hcs_O : ∀ b ∈ L62, b ∈ L62 := fun _ h => h
  refine lv_aload_n hx hb dX9_init_149 rfl (lv_at hl 1 rfl) ?_
  refine z_new (C := RX1) (T := TX1) (N := 4) (ci := 1) (fs := [.null, .null, .int 0, .long 0]) (cells := 132) (slots := 3202) hx hb hT zin_X1 tyX1_ok hown (hT _ kw_458) (hT _ kw_459) (hT _ kw_95) hK hw hA rfl (fun j hj => by rcases (show j = 0 ∨ j = 1 ∨ j = 2 ∨ j = 3 by omega) with rfl | rfl | rfl | rfl <;> rfl) (by decide) (by decide) dX9_init_150 (fun qmx H hq_qmx hw => ?_)
  refine W.widen (k := 133) (n := 3206) (by decide) (by decide) ?_
  have ne_hs_qmx : hs ≠ qmx := z_ne hm_hs hq_qmx
  have hn_qmx : qmx ∉ L := fun h => hq_qmx (hsub _ h)
  obtain ⟨f66, e_f66⟩ : ∃ z, z = va_up f64 qmx (.inr (1, [.null, .null, .int 0, .long 0])) := ⟨_, rfl⟩
  obtain ⟨L65, e_L65⟩ : ∃ z, z = L62 ++ [qmx] := ⟨_, rfl⟩
  rw [← e_f66, ← e_L65] at hw
  have hm_hs : hs ∈ L65 := by rw [e_L65]; exact List.mem_append_left _ hm_hs
  have hf_hs : f66 hs = .inr (9, [.ref qtp, .ref qrd, .ref qmmo, .ref qxmo, .ref qim, .ref qkp, .ref qsl, .ref qwk, .ref qpl, .ref qoo, .null]) := (congrFun e_f66 hs).trans (z_up_ne ne_hs_qmx hf_hs)
  have hm_qmx : qmx ∈ L65 := by rw [e_L65]; exact List.mem_append_right _ (List.mem_singleton.mpr rfl)
  have hf_qmx : f66 qmx = .inr (1, [.null, .null, .int 0, .long 0]) := (congrFun e_f66 qmx).trans z_up_self
  have hsub : ∀ b ∈ L, b ∈ L65 := fun b h => by rw [e_L65]; exact List.mem_append_left _ (hsub b h)
  have hfr : ∀ b ∈ L, b ≠ hs → f66 b = f b := fun b hb h0 => (congrFun e_f66 b).trans (z_up_ne (z_ne hb hn_qmx) (hfr b hb h0))
  have hnk_T_qmx : qmx ∉ L3 := fun h => hq_qmx (hcs_T _ h)
  have hcs_T : ∀ b ∈ L3, b ∈ L65 := fun b h => by rw [e_L65]; exact List.mem_append_left _ (hcs_T b h)
  have hck_T : ∀ b ∈ L3, b ≠ hs → f66 b = f5 b := fun b hb h_hs => (congrFun e_f66 b).trans (z_up_ne (z_ne hb hnk_T_qmx) (hck_T b hb h_hs))
  have hnk_M_qmx : qmx ∉ L8 := fun h => hq_qmx (hcs_M _ h)
  have hcs_M : ∀ b ∈ L8, b ∈ L65 := fun b h => by rw [e_L65]; exact List.mem_append_left _ (hcs_M b h)
  have hck_M : ∀ b ∈ L8, b ≠ hs → f66 b = f10 b := fun b hb h_hs => (congrFun e_f66 b).trans (z_up_ne (z_ne hb hnk_M_qmx) (hck_M b hb h_hs))
  have hnk_F_qmx : qmx ∉ L13 := fun h => hq_qmx (hcs_F _ h)
  have hcs_F : ∀ b ∈ L13, b ∈ L65 := fun b h => by rw [e_L65]; exact List.mem_append_left _ (hcs_F b h)
  have hck_F : ∀ b ∈ L13, b ≠ hs → f66 b = f15 b := fun b hb h_hs => (congrFun e_f66 b).trans (z_up_ne (z_ne hb hnk_F_qmx) (hck_F b hb h_hs))
  have hnk_R_qmx : qmx ∉ L16 := fun h => hq_qmx (hcs_R _ h)
  have hcs_R : ∀ b ∈ L16, b ∈ L65 := fun b h => by rw [e_L65]; exact List.mem_append_left _ (hcs_R b h)
  have hck_R : ∀ b ∈ L16, b ≠ hs → f66 b = f20 b := fun b hb h_hs => (congrFun e_f66 b).trans (z_up_ne (z_ne hb hnk_R_qmx) (hck_R b hb h_hs))
  have hnk_I0_qmx : qmx ∉ L26 := fun h => hq_qmx (hcs_I0 _ h)
  have hcs_I0 : ∀ b ∈ L26, b ∈ L65 := fun b h => by rw [e_L65]; exact List.mem_append_left _ (hcs_I0 b h)
  have hck_I0 : ∀ b ∈ L26, b ≠ hs → b ≠ qim → f66 b = f29 b := fun b hb h_hs h_qim => (congrFun e_f66 b).trans (z_up_ne (z_ne hb hnk_I0_qmx) (hck_I0 b hb h_hs h_qim))
  have hnk_I1_qmx : qmx ∉ L32 := fun h => hq_qmx (hcs_I1 _ h)
  have hcs_I1 : ∀ b ∈ L32, b ∈ L65 := fun b h => by rw [e_L65]; exact List.mem_append_left _ (hcs_I1 b h)
  have hck_I1 : ∀ b ∈ L32, b ≠ hs → b ≠ qim → f66 b = f35 b := fun b hb h_hs h_qim => (congrFun e_f66 b).trans (z_up_ne (z_ne hb hnk_I1_qmx) (hck_I1 b hb h_hs h_qim))
  have hnk_I2_qmx : qmx ∉ L38 := fun h => hq_qmx (hcs_I2 _ h)
  have hcs_I2 : ∀ b ∈ L38, b ∈ L65 := fun b h => by rw [e_L65]; exact List.mem_append_left _ (hcs_I2 b h)
  have hck_I2 : ∀ b ∈ L38, b ≠ hs → b ≠ qim → f66 b = f41 b := fun b hb h_hs h_qim => (congrFun e_f66 b).trans (z_up_ne (z_ne hb hnk_I2_qmx) (hck_I2 b hb h_hs h_qim))
  have hnk_K_qmx : qmx ∉ L42 := fun h => hq_qmx (hcs_K _ h)
  have hcs_K : ∀ b ∈ L42, b ∈ L65 := fun b h => by rw [e_L65]; exact List.mem_append_left _ (hcs_K b h)
  have hck_K : ∀ b ∈ L42, b ≠ hs → f66 b = f44 b := fun b hb h_hs => (congrFun e_f66 b).trans (z_up_ne (z_ne hb hnk_K_qmx) (hck_K b hb h_hs))
  have hnk_S_qmx : qmx ∉ L47 := fun h => hq_qmx (hcs_S _ h)
  have hcs_S : ∀ b ∈ L47, b ∈ L65 := fun b h => by rw [e_L65]; exact List.mem_append_left _ (hcs_S b h)
  have hck_S : ∀ b ∈ L47, b ≠ hs → f66 b = f49 b := fun b hb h_hs => (congrFun e_f66 b).trans (z_up_ne (z_ne hb hnk_S_qmx) (hck_S b hb h_hs))
  have hnk_W_qmx : qmx ∉ L52 := fun h => hq_qmx (hcs_W _ h)
  have hcs_W : ∀ b ∈ L52, b ∈ L65 := fun b h => by rw [e_L65]; exact List.mem_append_left _ (hcs_W b h)
  have hck_W : ∀ b ∈ L52, b ≠ hs → f66 b = f54 b := fun b hb h_hs => (congrFun e_f66 b).trans (z_up_ne (z_ne hb hnk_W_qmx) (hck_W b hb h_hs))
  have hnk_P_qmx : qmx ∉ L57 := fun h => hq_qmx (hcs_P _ h)
  have hcs_P : ∀ b ∈ L57, b ∈ L65 := fun b h => by rw [e_L65]; exact List.mem_append_left _ (hcs_P b h)
  have hck_P : ∀ b ∈ L57, b ≠ hs → f66 b = f59 b := fun b hb h_hs => (congrFun e_f66 b).trans (z_up_ne (z_ne hb hnk_P_qmx) (hck_P b hb h_hs))
  have hnk_O_qmx : qmx ∉ L62 := fun h => hq_qmx (hcs_O _ h)
  have hcs_O : ∀ b ∈ L62, b ∈ L65 := fun b h => by rw [e_L65]; exact List.mem_append_left _ (hcs_O b h)
  have hck_O : ∀ b ∈ L62, b ≠ hs → f66 b = f64 b := fun b hb h_hs => (congrFun e_f66 b).trans (z_up_ne (z_ne hb hnk_O_qmx) (hck_O b hb h_hs))
  refine lv_dup hx hb dX9_init_153 rfl ?_
  refine lv_aload_n hx hb dX9_init_154 rfl (lv_at hl 1 rfl) ?_
  refine z_get (C := RX9) (T := TX9) (N := 11) (ci := 9) (v := .ref qwk) hx hb hT zin_X9 hown hK hw hm_hs hf_hs rfl 7 (by decide) (hT _ kw_484) rfl dX9_init_155 ?_
  refine z_callvI (cells := 133) (slots := 3206) (b := qmx) (As := [.ref qwk]) (rest := [.ref qmx, .ref hs]) ⟨hx, hb, hml, hown, hT⟩ (c_X1_init l hm_qmx hf_qmx) (cwI 1 hT (z_goodI (fun _ h => h) kw_462) rfl rfl rfl (hT _ kw_95) (hT _ kw_460) (hT _ kw_461) rfl (by decide +kernel) ⟨by decide, by decide⟩) z_mv hKK hw hA rfl hl.1 rfl (Nat.le_of_ble_eq_true rfl) dX9_init_158 ⟨by decide, by decide⟩ (fun u H locs hp hw => ?_)
  refine W.widen (k := 134) (n := 5582) (by decide) (by decide) ?_
  obtain ⟨L67, f68⟩ := u
  obtain ⟨hsb, hfm, qbs, ha_0, ⟨hq_qbs, hm_qbs, hf_qbs⟩, hp⟩ := hp
  have hw : z_H D vwCl (z_A L sz) s.heap L67 f68 H locs := hw
  have ne_hs_qbs : hs ≠ qbs := z_ne hm_hs hq_qbs
  have ne_qmx_qbs : qmx ≠ qbs := z_ne hm_qmx hq_qbs
  have hfr : ∀ b ∈ L, b ≠ hs → f68 b = f b := fun b hb h0 => (hfm b (hsub b hb) (z_ne hb hn_qmx)).trans (hfr b hb h0)
  have hn_qbs : qbs ∉ L := fun h => hq_qbs (hsub _ h)
  have hsub : ∀ b ∈ L, b ∈ L67 := fun b h => hsb b (hsub b h)
  have hck_T : ∀ b ∈ L3, b ≠ hs → f68 b = f5 b := fun b hb h_hs => (hfm b (hcs_T b hb) (z_ne hb hnk_T_qmx)).trans (hck_T b hb h_hs)
  have hcs_T : ∀ b ∈ L3, b ∈ L67 := fun b h => hsb b (hcs_T b h)
  have hck_M : ∀ b ∈ L8, b ≠ hs → f68 b = f10 b := fun b hb h_hs => (hfm b (hcs_M b hb) (z_ne hb hnk_M_qmx)).trans (hck_M b hb h_hs)
  have hcs_M : ∀ b ∈ L8, b ∈ L67 := fun b h => hsb b (hcs_M b h)
  have hck_F : ∀ b ∈ L13, b ≠ hs → f68 b = f15 b := fun b hb h_hs => (hfm b (hcs_F b hb) (z_ne hb hnk_F_qmx)).trans (hck_F b hb h_hs)
  have hcs_F : ∀ b ∈ L13, b ∈ L67 := fun b h => hsb b (hcs_F b h)
  have hck_R : ∀ b ∈ L16, b ≠ hs → f68 b = f20 b := fun b hb h_hs => (hfm b (hcs_R b hb) (z_ne hb hnk_R_qmx)).trans (hck_R b hb h_hs)
  have hcs_R : ∀ b ∈ L16, b ∈ L67 := fun b h => hsb b (hcs_R b h)
  have hck_I0 : ∀ b ∈ L26, b ≠ hs → b ≠ qim → f68 b = f29 b := fun b hb h_hs h_qim => (hfm b (hcs_I0 b hb) (z_ne hb hnk_I0_qmx)).trans (hck_I0 b hb h_hs h_qim)
  have hcs_I0 : ∀ b ∈ L26, b ∈ L67 := fun b h => hsb b (hcs_I0 b h)
  have hck_I1 : ∀ b ∈ L32, b ≠ hs → b ≠ qim → f68 b = f35 b := fun b hb h_hs h_qim => (hfm b (hcs_I1 b hb) (z_ne hb hnk_I1_qmx)).trans (hck_I1 b hb h_hs h_qim)
  have hcs_I1 : ∀ b ∈ L32, b ∈ L67 := fun b h => hsb b (hcs_I1 b h)
  have hck_I2 : ∀ b ∈ L38, b ≠ hs → b ≠ qim → f68 b = f41 b := fun b hb h_hs h_qim => (hfm b (hcs_I2 b hb) (z_ne hb hnk_I2_qmx)).trans (hck_I2 b hb h_hs h_qim)
  have hcs_I2 : ∀ b ∈ L38, b ∈ L67 := fun b h => hsb b (hcs_I2 b h)
  have hck_K : ∀ b ∈ L42, b ≠ hs → f68 b = f44 b := fun b hb h_hs => (hfm b (hcs_K b hb) (z_ne hb hnk_K_qmx)).trans (hck_K b hb h_hs)
  have hcs_K : ∀ b ∈ L42, b ∈ L67 := fun b h => hsb b (hcs_K b h)
  have hck_S : ∀ b ∈ L47, b ≠ hs → f68 b = f49 b := fun b hb h_hs => (hfm b (hcs_S b hb) (z_ne hb hnk_S_qmx)).trans (hck_S b hb h_hs)
  have hcs_S : ∀ b ∈ L47, b ∈ L67 := fun b h => hsb b (hcs_S b h)
  have hck_W : ∀ b ∈ L52, b ≠ hs → f68 b = f54 b := fun b hb h_hs => (hfm b (hcs_W b hb) (z_ne hb hnk_W_qmx)).trans (hck_W b hb h_hs)
  have hcs_W : ∀ b ∈ L52, b ∈ L67 := fun b h => hsb b (hcs_W b h)
  have hck_P : ∀ b ∈ L57, b ≠ hs → f68 b = f59 b := fun b hb h_hs => (hfm b (hcs_P b hb) (z_ne hb hnk_P_qmx)).trans (hck_P b hb h_hs)
  have hcs_P : ∀ b ∈ L57, b ∈ L67 := fun b h => hsb b (hcs_P b h)
  have hck_O : ∀ b ∈ L62, b ≠ hs → f68 b = f64 b := fun b hb h_hs => (hfm b (hcs_O b hb) (z_ne hb hnk_O_qmx)).trans (hck_O b hb h_hs)
  have hcs_O : ∀ b ∈ L62, b ∈ L67 := fun b h => hsb b (hcs_O b h)
  have hf_hs : f68 hs = .inr (9, [.ref qtp, .ref qrd, .ref qmmo, .ref qxmo, .ref qim, .ref qkp, .ref qsl, .ref qwk, .ref qpl, .ref qoo, .null]) := (hfm hs hm_hs ne_hs_qmx).trans hf_hs
  have hm_hs : hs ∈ L67 := hsb _ hm_hs
  have hm_qmx : qmx ∈ L67 := hsb _ hm_qmx
  have hf_qmx : f68 qmx = .inr (1, [.ref qwk, .ref qbs, .int 0, .long 0]) := ha_0
  have hf_qbs : f68 qbs = .inl (cy 0, 2376, .inl (fun _ => 0)) := hf_qbs
  have hm_qbs : qbs ∈ L67 := hm_qbs
  have e_L67 : L67 = L65 ++ [qbs] := hp
  refine z_putF (C := RX9) (T := TX9) (N := 11) (ci := 9) (v := .ref qmx) (fs' := [.ref qtp, .ref qrd, .ref qmmo, .ref qxmo, .ref qim, .ref qkp, .ref qsl, .ref qwk, .ref qpl, .ref qoo, .ref qmx]) hx hb hT zin_X9 tyX9_ok nmX9 hown hK hw hm_hs hf_hs rfl 10 (by decide) (hT _ kw_487) rfl hnm rfl rfl rfl (Nat.le_of_ble_eq_true rfl) rfl dX9_init_161 (fun H locs hw => ?_)
  obtain ⟨f69, e_f69⟩ : ∃ z, z = va_up f68 hs (.inr (9, [.ref qtp, .ref qrd, .ref qmmo, .ref qxmo, .ref qim, .ref qkp, .ref qsl, .ref qwk, .ref qpl, .ref qoo, .ref qmx])) := ⟨_, rfl⟩
  rw [← e_f69] at hw
  have hf_qmx : f69 qmx = .inr (1, [.ref qwk, .ref qbs, .int 0, .long 0]) := (congrFun e_f69 qmx).trans (z_up_ne (Ne.symm ne_hs_qmx) hf_qmx)
  have hf_qbs : f69 qbs = .inl (cy 0, 2376, .inl (fun _ => 0)) := (congrFun e_f69 qbs).trans (z_up_ne (Ne.symm ne_hs_qbs) hf_qbs)
  have hf_hs : f69 hs = .inr (9, [.ref qtp, .ref qrd, .ref qmmo, .ref qxmo, .ref qim, .ref qkp, .ref qsl, .ref qwk, .ref qpl, .ref qoo, .ref qmx]) := (congrFun e_f69 hs).trans z_up_self
  have hck_T : ∀ b ∈ L3, b ≠ hs → f69 b = f5 b := fun b hb h_hs => (congrFun e_f69 b).trans (z_up_ne h_hs (hck_T b hb h_hs))
  have hck_M : ∀ b ∈ L8, b ≠ hs → f69 b = f10 b := fun b hb h_hs => (congrFun e_f69 b).trans (z_up_ne h_hs (hck_M b hb h_hs))
  have hck_F : ∀ b ∈ L13, b ≠ hs → f69 b = f15 b := fun b hb h_hs => (congrFun e_f69 b).trans (z_up_ne h_hs (hck_F b hb h_hs))
  have hck_R : ∀ b ∈ L16, b ≠ hs → f69 b = f20 b := fun b hb h_hs => (congrFun e_f69 b).trans (z_up_ne h_hs (hck_R b hb h_hs))
  have hck_I0 : ∀ b ∈ L26, b ≠ hs → b ≠ qim → f69 b = f29 b := fun b hb h_hs h_qim => (congrFun e_f69 b).trans (z_up_ne h_hs (hck_I0 b hb h_hs h_qim))
  have hck_I1 : ∀ b ∈ L32, b ≠ hs → b ≠ qim → f69 b = f35 b := fun b hb h_hs h_qim => (congrFun e_f69 b).trans (z_up_ne h_hs (hck_I1 b hb h_hs h_qim))
  have hck_I2 : ∀ b ∈ L38, b ≠ hs → b ≠ qim → f69 b = f41 b := fun b hb h_hs h_qim => (congrFun e_f69 b).trans (z_up_ne h_hs (hck_I2 b hb h_hs h_qim))
  have hck_K : ∀ b ∈ L42, b ≠ hs → f69 b = f44 b := fun b hb h_hs => (congrFun e_f69 b).trans (z_up_ne h_hs (hck_K b hb h_hs))
  have hck_S : ∀ b ∈ L47, b ≠ hs → f69 b = f49 b := fun b hb h_hs => (congrFun e_f69 b).trans (z_up_ne h_hs (hck_S b hb h_hs))
  have hck_W : ∀ b ∈ L52, b ≠ hs → f69 b = f54 b := fun b hb h_hs => (congrFun e_f69 b).trans (z_up_ne h_hs (hck_W b hb h_hs))
  have hck_P : ∀ b ∈ L57, b ≠ hs → f69 b = f59 b := fun b hb h_hs => (congrFun e_f69 b).trans (z_up_ne h_hs (hck_P b hb h_hs))
  have hck_O : ∀ b ∈ L62, b ≠ hs → f69 b = f64 b := fun b hb h_hs => (congrFun e_f69 b).trans (z_up_ne h_hs (hck_O b hb h_hs))
  have hfr : ∀ b ∈ L, b ≠ hs → f69 b = f b := fun b hb h0 => (congrFun e_f69 b).trans (z_up_ne h0 (hfr b hb h0))
  have z_qtp := (hck_T qtp m0_qtp ne_hs_qtp.symm).trans h0_qtp
  have z_qba := (hck_T qba m0_qba ne_hs_qba.symm).trans h0_qba
  have z_qmmo := (hck_M qmmo m0_qmmo ne_hs_qmmo.symm).trans h0_qmmo
  have z_qmla := (hck_M qmla m0_qmla ne_hs_qmla.symm).trans h0_qmla
  have z_qmsa := (hck_M qmsa m0_qmsa ne_hs_qmsa.symm).trans h0_qmsa
  have z_qmmi := (hck_M qmmi m0_qmmi ne_hs_qmmi.symm).trans h0_qmmi
  have z_qmda := (hck_M qmda m0_qmda ne_hs_qmda.symm).trans h0_qmda
  have z_qmd0 := (hck_M qmd0 m0_qmd0 ne_hs_qmd0.symm).trans h0_qmd0
  have z_qmd1 := (hck_M qmd1 m0_qmd1 ne_hs_qmd1.symm).trans h0_qmd1
  have z_qmd2 := (hck_M qmd2 m0_qmd2 ne_hs_qmd2.symm).trans h0_qmd2
  have z_qmd3 := (hck_M qmd3 m0_qmd3 ne_hs_qmd3.symm).trans h0_qmd3
  have z_qmd4 := (hck_M qmd4 m0_qmd4 ne_hs_qmd4.symm).trans h0_qmd4
  have z_qmd5 := (hck_M qmd5 m0_qmd5 ne_hs_qmd5.symm).trans h0_qmd5
  have z_qmd6 := (hck_M qmd6 m0_qmd6 ne_hs_qmd6.symm).trans h0_qmd6
  have z_qmd7 := (hck_M qmd7 m0_qmd7 ne_hs_qmd7.symm).trans h0_qmd7
  have z_qmd8 := (hck_M qmd8 m0_qmd8 ne_hs_qmd8.symm).trans h0_qmd8
  have z_qmd9 := (hck_M qmd9 m0_qmd9 ne_hs_qmd9.symm).trans h0_qmd9
  have z_qmd10 := (hck_M qmd10 m0_qmd10 ne_hs_qmd10.symm).trans h0_qmd10
  have z_qmd11 := (hck_M qmd11 m0_qmd11 ne_hs_qmd11.symm).trans h0_qmd11
  have z_qmd12 := (hck_M qmd12 m0_qmd12 ne_hs_qmd12.symm).trans h0_qmd12
  have z_qxmo := (hck_F qxmo m0_qxmo ne_hs_qxmo.symm).trans h0_qxmo
  have z_qxla := (hck_F qxla m0_qxla ne_hs_qxla.symm).trans h0_qxla
  have z_qxsa := (hck_F qxsa m0_qxsa ne_hs_qxsa.symm).trans h0_qxsa
  have z_qxmi := (hck_F qxmi m0_qxmi ne_hs_qxmi.symm).trans h0_qxmi
  have z_qxda := (hck_F qxda m0_qxda ne_hs_qxda.symm).trans h0_qxda
  have z_qxd0 := (hck_F qxd0 m0_qxd0 ne_hs_qxd0.symm).trans h0_qxd0
  have z_qxd1 := (hck_F qxd1 m0_qxd1 ne_hs_qxd1.symm).trans h0_qxd1
  have z_qxd2 := (hck_F qxd2 m0_qxd2 ne_hs_qxd2.symm).trans h0_qxd2
  have z_qxd3 := (hck_F qxd3 m0_qxd3 ne_hs_qxd3.symm).trans h0_qxd3
  have z_qxd4 := (hck_F qxd4 m0_qxd4 ne_hs_qxd4.symm).trans h0_qxd4
  have z_qxd5 := (hck_F qxd5 m0_qxd5 ne_hs_qxd5.symm).trans h0_qxd5
  have z_qxd6 := (hck_F qxd6 m0_qxd6 ne_hs_qxd6.symm).trans h0_qxd6
  have z_qxd7 := (hck_F qxd7 m0_qxd7 ne_hs_qxd7.symm).trans h0_qxd7
  have z_qxd8 := (hck_F qxd8 m0_qxd8 ne_hs_qxd8.symm).trans h0_qxd8
  have z_qxd9 := (hck_F qxd9 m0_qxd9 ne_hs_qxd9.symm).trans h0_qxd9
  have z_qxd10 := (hck_F qxd10 m0_qxd10 ne_hs_qxd10.symm).trans h0_qxd10
  have z_qxd11 := (hck_F qxd11 m0_qxd11 ne_hs_qxd11.symm).trans h0_qxd11
  have z_qxd12 := (hck_F qxd12 m0_qxd12 ne_hs_qxd12.symm).trans h0_qxd12
  have z_qrd := (hck_R qrd m0_qrd ne_hs_qrd.symm).trans h0_qrd
  have z_qim := (hck_K qim m0_qim ne_hs_qim.symm).trans h0_qim
  have z_qi0mo := (hck_I0 qi0mo m0_qi0mo ne_hs_qi0mo.symm ne_qim_qi0mo.symm).trans h0_qi0mo
  have z_qi0la := (hck_I0 qi0la m0_qi0la ne_hs_qi0la.symm ne_qim_qi0la.symm).trans h0_qi0la
  have z_qi0sa := (hck_I0 qi0sa m0_qi0sa ne_hs_qi0sa.symm ne_qim_qi0sa.symm).trans h0_qi0sa
  have z_qi0mi := (hck_I0 qi0mi m0_qi0mi ne_hs_qi0mi.symm ne_qim_qi0mi.symm).trans h0_qi0mi
  have z_qi0da := (hck_I0 qi0da m0_qi0da ne_hs_qi0da.symm ne_qim_qi0da.symm).trans h0_qi0da
  have z_qi0d0 := (hck_I0 qi0d0 m0_qi0d0 ne_hs_qi0d0.symm ne_qim_qi0d0.symm).trans h0_qi0d0
  have z_qi0d1 := (hck_I0 qi0d1 m0_qi0d1 ne_hs_qi0d1.symm ne_qim_qi0d1.symm).trans h0_qi0d1
  have z_qi0d2 := (hck_I0 qi0d2 m0_qi0d2 ne_hs_qi0d2.symm ne_qim_qi0d2.symm).trans h0_qi0d2
  have z_qi0d3 := (hck_I0 qi0d3 m0_qi0d3 ne_hs_qi0d3.symm ne_qim_qi0d3.symm).trans h0_qi0d3
  have z_qi0d4 := (hck_I0 qi0d4 m0_qi0d4 ne_hs_qi0d4.symm ne_qim_qi0d4.symm).trans h0_qi0d4
  have z_qi0d5 := (hck_I0 qi0d5 m0_qi0d5 ne_hs_qi0d5.symm ne_qim_qi0d5.symm).trans h0_qi0d5
  have z_qi0d6 := (hck_I0 qi0d6 m0_qi0d6 ne_hs_qi0d6.symm ne_qim_qi0d6.symm).trans h0_qi0d6
  have z_qi0d7 := (hck_I0 qi0d7 m0_qi0d7 ne_hs_qi0d7.symm ne_qim_qi0d7.symm).trans h0_qi0d7
  have z_qi0d8 := (hck_I0 qi0d8 m0_qi0d8 ne_hs_qi0d8.symm ne_qim_qi0d8.symm).trans h0_qi0d8
  have z_qi0d9 := (hck_I0 qi0d9 m0_qi0d9 ne_hs_qi0d9.symm ne_qim_qi0d9.symm).trans h0_qi0d9
  have z_qi0d10 := (hck_I0 qi0d10 m0_qi0d10 ne_hs_qi0d10.symm ne_qim_qi0d10.symm).trans h0_qi0d10
  have z_qi0d11 := (hck_I0 qi0d11 m0_qi0d11 ne_hs_qi0d11.symm ne_qim_qi0d11.symm).trans h0_qi0d11
  have z_qi0d12 := (hck_I0 qi0d12 m0_qi0d12 ne_hs_qi0d12.symm ne_qim_qi0d12.symm).trans h0_qi0d12
  have z_qi1mo := (hck_I1 qi1mo m0_qi1mo ne_hs_qi1mo.symm ne_qim_qi1mo.symm).trans h0_qi1mo
  have z_qi1la := (hck_I1 qi1la m0_qi1la ne_hs_qi1la.symm ne_qim_qi1la.symm).trans h0_qi1la
  have z_qi1sa := (hck_I1 qi1sa m0_qi1sa ne_hs_qi1sa.symm ne_qim_qi1sa.symm).trans h0_qi1sa
  have z_qi1mi := (hck_I1 qi1mi m0_qi1mi ne_hs_qi1mi.symm ne_qim_qi1mi.symm).trans h0_qi1mi
  have z_qi1da := (hck_I1 qi1da m0_qi1da ne_hs_qi1da.symm ne_qim_qi1da.symm).trans h0_qi1da
  have z_qi1d0 := (hck_I1 qi1d0 m0_qi1d0 ne_hs_qi1d0.symm ne_qim_qi1d0.symm).trans h0_qi1d0
  have z_qi1d1 := (hck_I1 qi1d1 m0_qi1d1 ne_hs_qi1d1.symm ne_qim_qi1d1.symm).trans h0_qi1d1
  have z_qi1d2 := (hck_I1 qi1d2 m0_qi1d2 ne_hs_qi1d2.symm ne_qim_qi1d2.symm).trans h0_qi1d2
  have z_qi1d3 := (hck_I1 qi1d3 m0_qi1d3 ne_hs_qi1d3.symm ne_qim_qi1d3.symm).trans h0_qi1d3
  have z_qi1d4 := (hck_I1 qi1d4 m0_qi1d4 ne_hs_qi1d4.symm ne_qim_qi1d4.symm).trans h0_qi1d4
  have z_qi1d5 := (hck_I1 qi1d5 m0_qi1d5 ne_hs_qi1d5.symm ne_qim_qi1d5.symm).trans h0_qi1d5
  have z_qi1d6 := (hck_I1 qi1d6 m0_qi1d6 ne_hs_qi1d6.symm ne_qim_qi1d6.symm).trans h0_qi1d6
  have z_qi1d7 := (hck_I1 qi1d7 m0_qi1d7 ne_hs_qi1d7.symm ne_qim_qi1d7.symm).trans h0_qi1d7
  have z_qi1d8 := (hck_I1 qi1d8 m0_qi1d8 ne_hs_qi1d8.symm ne_qim_qi1d8.symm).trans h0_qi1d8
  have z_qi1d9 := (hck_I1 qi1d9 m0_qi1d9 ne_hs_qi1d9.symm ne_qim_qi1d9.symm).trans h0_qi1d9
  have z_qi1d10 := (hck_I1 qi1d10 m0_qi1d10 ne_hs_qi1d10.symm ne_qim_qi1d10.symm).trans h0_qi1d10
  have z_qi1d11 := (hck_I1 qi1d11 m0_qi1d11 ne_hs_qi1d11.symm ne_qim_qi1d11.symm).trans h0_qi1d11
  have z_qi1d12 := (hck_I1 qi1d12 m0_qi1d12 ne_hs_qi1d12.symm ne_qim_qi1d12.symm).trans h0_qi1d12
  have z_qi2mo := (hck_I2 qi2mo m0_qi2mo ne_hs_qi2mo.symm ne_qim_qi2mo.symm).trans h0_qi2mo
  have z_qi2la := (hck_I2 qi2la m0_qi2la ne_hs_qi2la.symm ne_qim_qi2la.symm).trans h0_qi2la
  have z_qi2sa := (hck_I2 qi2sa m0_qi2sa ne_hs_qi2sa.symm ne_qim_qi2sa.symm).trans h0_qi2sa
  have z_qi2mi := (hck_I2 qi2mi m0_qi2mi ne_hs_qi2mi.symm ne_qim_qi2mi.symm).trans h0_qi2mi
  have z_qi2da := (hck_I2 qi2da m0_qi2da ne_hs_qi2da.symm ne_qim_qi2da.symm).trans h0_qi2da
  have z_qi2d0 := (hck_I2 qi2d0 m0_qi2d0 ne_hs_qi2d0.symm ne_qim_qi2d0.symm).trans h0_qi2d0
  have z_qi2d1 := (hck_I2 qi2d1 m0_qi2d1 ne_hs_qi2d1.symm ne_qim_qi2d1.symm).trans h0_qi2d1
  have z_qi2d2 := (hck_I2 qi2d2 m0_qi2d2 ne_hs_qi2d2.symm ne_qim_qi2d2.symm).trans h0_qi2d2
  have z_qi2d3 := (hck_I2 qi2d3 m0_qi2d3 ne_hs_qi2d3.symm ne_qim_qi2d3.symm).trans h0_qi2d3
  have z_qi2d4 := (hck_I2 qi2d4 m0_qi2d4 ne_hs_qi2d4.symm ne_qim_qi2d4.symm).trans h0_qi2d4
  have z_qi2d5 := (hck_I2 qi2d5 m0_qi2d5 ne_hs_qi2d5.symm ne_qim_qi2d5.symm).trans h0_qi2d5
  have z_qi2d6 := (hck_I2 qi2d6 m0_qi2d6 ne_hs_qi2d6.symm ne_qim_qi2d6.symm).trans h0_qi2d6
  have z_qi2d7 := (hck_I2 qi2d7 m0_qi2d7 ne_hs_qi2d7.symm ne_qim_qi2d7.symm).trans h0_qi2d7
  have z_qi2d8 := (hck_I2 qi2d8 m0_qi2d8 ne_hs_qi2d8.symm ne_qim_qi2d8.symm).trans h0_qi2d8
  have z_qi2d9 := (hck_I2 qi2d9 m0_qi2d9 ne_hs_qi2d9.symm ne_qim_qi2d9.symm).trans h0_qi2d9
  have z_qi2d10 := (hck_I2 qi2d10 m0_qi2d10 ne_hs_qi2d10.symm ne_qim_qi2d10.symm).trans h0_qi2d10
  have z_qi2d11 := (hck_I2 qi2d11 m0_qi2d11 ne_hs_qi2d11.symm ne_qim_qi2d11.symm).trans h0_qi2d11
  have z_qi2d12 := (hck_I2 qi2d12 m0_qi2d12 ne_hs_qi2d12.symm ne_qim_qi2d12.symm).trans h0_qi2d12
  have z_qkp := (hck_K qkp m0_qkp ne_hs_qkp.symm).trans h0_qkp
  have z_qsl := (hck_S qsl m0_qsl ne_hs_qsl.symm).trans h0_qsl
  have z_qnu := (hck_S qnu m0_qnu ne_hs_qnu.symm).trans h0_qnu
  have z_qr0 := (hck_S qr0 m0_qr0 ne_hs_qr0.symm).trans h0_qr0
  have z_qr1 := (hck_S qr1 m0_qr1 ne_hs_qr1.symm).trans h0_qr1
  have z_qr2 := (hck_S qr2 m0_qr2 ne_hs_qr2.symm).trans h0_qr2
  have z_qr3 := (hck_S qr3 m0_qr3 ne_hs_qr3.symm).trans h0_qr3
  have z_qwi := (hck_S qwi m0_qwi ne_hs_qwi.symm).trans h0_qwi
  have z_qsi := (hck_S qsi m0_qsi ne_hs_qsi.symm).trans h0_qsi
  have z_qwk := (hck_W qwk m0_qwk ne_hs_qwk.symm).trans h0_qwk
  have z_qks := (hck_W qks m0_qks ne_hs_qks.symm).trans h0_qks
  have z_qct := (hck_W qct m0_qct ne_hs_qct.symm).trans h0_qct
  have z_qse := (hck_W qse m0_qse ne_hs_qse.symm).trans h0_qse
  have z_qow := (hck_W qow m0_qow ne_hs_qow.symm).trans h0_qow
  have z_qpl := (hck_P qpl m0_qpl ne_hs_qpl.symm).trans h0_qpl
  have z_qtmo := (hck_P qtmo m0_qtmo ne_hs_qtmo.symm).trans h0_qtmo
  have z_qtla := (hck_P qtla m0_qtla ne_hs_qtla.symm).trans h0_qtla
  have z_qtsa := (hck_P qtsa m0_qtsa ne_hs_qtsa.symm).trans h0_qtsa
  have z_qtmi := (hck_P qtmi m0_qtmi ne_hs_qtmi.symm).trans h0_qtmi
  have z_qtda := (hck_P qtda m0_qtda ne_hs_qtda.symm).trans h0_qtda
  have z_qtd0 := (hck_P qtd0 m0_qtd0 ne_hs_qtd0.symm).trans h0_qtd0
  have z_qtd1 := (hck_P qtd1 m0_qtd1 ne_hs_qtd1.symm).trans h0_qtd1
  have z_qtd2 := (hck_P qtd2 m0_qtd2 ne_hs_qtd2.symm).trans h0_qtd2
  have z_qtd3 := (hck_P qtd3 m0_qtd3 ne_hs_qtd3.symm).trans h0_qtd3
  have z_qtd4 := (hck_P qtd4 m0_qtd4 ne_hs_qtd4.symm).trans h0_qtd4
  have z_qtd5 := (hck_P qtd5 m0_qtd5 ne_hs_qtd5.symm).trans h0_qtd5
  have z_qtd6 := (hck_P qtd6 m0_qtd6 ne_hs_qtd6.symm).trans h0_qtd6
  have z_qtd7 := (hck_P qtd7 m0_qtd7 ne_hs_qtd7.symm).trans h0_qtd7
  have z_qtd8 := (hck_P qtd8 m0_qtd8 ne_hs_qtd8.symm).trans h0_qtd8
  have z_qtd9 := (hck_P qtd9 m0_qtd9 ne_hs_qtd9.symm).trans h0_qtd9
  have z_qtd10 := (hck_P qtd10 m0_qtd10 ne_hs_qtd10.symm).trans h0_qtd10
  have z_qtd11 := (hck_P qtd11 m0_qtd11 ne_hs_qtd11.symm).trans h0_qtd11
  have z_qtd12 := (hck_P qtd12 m0_qtd12 ne_hs_qtd12.symm).trans h0_qtd12
  have z_qtot := (hck_P qtot m0_qtot ne_hs_qtot.symm).trans h0_qtot
  have z_qoo := (hck_O qoo m0_qoo ne_hs_qoo.symm).trans h0_qoo
  have z_qln := (hck_O qln m0_qln ne_hs_qln.symm).trans h0_qln
  have z_qfi := (hck_O qfi m0_qfi ne_hs_qfi.symm).trans h0_qfi
  have z_qsp := (hck_O qsp m0_qsp ne_hs_qsp.symm).trans h0_qsp
  have z_qmx := hf_qmx
  have z_qbs := hf_qbs
  have hLf : L67 = L ++ [qtp, qba, qmmo, qmla, qmsa, qmmi, qmda, qmd0, qmd1, qmd2, qmd3, qmd4, qmd5, qmd6, qmd7, qmd8, qmd9, qmd10, qmd11, qmd12, qxmo, qxla, qxsa, qxmi, qxda, qxd0, qxd1, qxd2, qxd3, qxd4, qxd5, qxd6, qxd7, qxd8, qxd9, qxd10, qxd11, qxd12, qrd, qim, qi0mo, qi0la, qi0sa, qi0mi, qi0da, qi0d0, qi0d1, qi0d2, qi0d3, qi0d4, qi0d5, qi0d6, qi0d7, qi0d8, qi0d9, qi0d10, qi0d11, qi0d12, qi1mo, qi1la, qi1sa, qi1mi, qi1da, qi1d0, qi1d1, qi1d2, qi1d3, qi1d4, qi1d5, qi1d6, qi1d7, qi1d8, qi1d9, qi1d10, qi1d11, qi1d12, qi2mo, qi2la, qi2sa, qi2mi, qi2da, qi2d0, qi2d1, qi2d2, qi2d3, qi2d4, qi2d5, qi2d6, qi2d7, qi2d8, qi2d9, qi2d10, qi2d11, qi2d12, qkp, qsl, qnu, qr0, qr1, qr2, qr3, qwi, qsi, qwk, qks, qct, qse, qow, qpl, qtmo, qtla, qtsa, qtmi, qtda, qtd0, qtd1, qtd2, qtd3, qtd4, qtd5, qtd6, qtd7, qtd8, qtd9, qtd10, qtd11, qtd12, qtot, qoo, qln, qfi, qsp, qmx, qbs] := by rw [e_L67, e_L65, e_L62, e_L60, e_L57, e_L55, e_L52, e_L50, e_L47, e_L45, e_L42, e_L38, e_L36, e_L32, e_L30, e_L26, e_L24, e_L21, e_L16, e_L13, e_L11, e_L8, e_L6, e_L3, e_L1]; (try simp only [List.append_assoc, List.cons_append, List.nil_append])
  have hinj := z_injL hw
  rw [hLf] at hinj
  have hmem : ∀ i : Nat, i < 135 → (hs :: [qtp, qba, qmmo, qmla, qmsa, qmmi, qmda, qmd0, qmd1, qmd2, qmd3, qmd4, qmd5, qmd6, qmd7, qmd8, qmd9, qmd10, qmd11, qmd12, qxmo, qxla, qxsa, qxmi, qxda, qxd0, qxd1, qxd2, qxd3, qxd4, qxd5, qxd6, qxd7, qxd8, qxd9, qxd10, qxd11, qxd12, qrd, qim, qi0mo, qi0la, qi0sa, qi0mi, qi0da, qi0d0, qi0d1, qi0d2, qi0d3, qi0d4, qi0d5, qi0d6, qi0d7, qi0d8, qi0d9, qi0d10, qi0d11, qi0d12, qi1mo, qi1la, qi1sa, qi1mi, qi1da, qi1d0, qi1d1, qi1d2, qi1d3, qi1d4, qi1d5, qi1d6, qi1d7, qi1d8, qi1d9, qi1d10, qi1d11, qi1d12, qi2mo, qi2la, qi2sa, qi2mi, qi2da, qi2d0, qi2d1, qi2d2, qi2d3, qi2d4, qi2d5, qi2d6, qi2d7, qi2d8, qi2d9, qi2d10, qi2d11, qi2d12, qkp, qsl, qnu, qr0, qr1, qr2, qr3, qwi, qsi, qwk, qks, qct, qse, qow, qpl, qtmo, qtla, qtsa, qtmi, qtda, qtd0, qtd1, qtd2, qtd3, qtd4, qtd5, qtd6, qtd7, qtd8, qtd9, qtd10, qtd11, qtd12, qtot, qoo, qln, qfi, qsp, qmx, qbs]).getD i 0 ∈ L67 := fun i hi => by rw [hLf]; exact z_admem hm0_hs hi
  obtain ⟨ad, hads⟩ : ∃ ad : Nat → Nat, ad = fun i => (hs :: [qtp, qba, qmmo, qmla, qmsa, qmmi, qmda, qmd0, qmd1, qmd2, qmd3, qmd4, qmd5, qmd6, qmd7, qmd8, qmd9, qmd10, qmd11, qmd12, qxmo, qxla, qxsa, qxmi, qxda, qxd0, qxd1, qxd2, qxd3, qxd4, qxd5, qxd6, qxd7, qxd8, qxd9, qxd10, qxd11, qxd12, qrd, qim, qi0mo, qi0la, qi0sa, qi0mi, qi0da, qi0d0, qi0d1, qi0d2, qi0d3, qi0d4, qi0d5, qi0d6, qi0d7, qi0d8, qi0d9, qi0d10, qi0d11, qi0d12, qi1mo, qi1la, qi1sa, qi1mi, qi1da, qi1d0, qi1d1, qi1d2, qi1d3, qi1d4, qi1d5, qi1d6, qi1d7, qi1d8, qi1d9, qi1d10, qi1d11, qi1d12, qi2mo, qi2la, qi2sa, qi2mi, qi2da, qi2d0, qi2d1, qi2d2, qi2d3, qi2d4, qi2d5, qi2d6, qi2d7, qi2d8, qi2d9, qi2d10, qi2d11, qi2d12, qkp, qsl, qnu, qr0, qr1, qr2, qr3, qwi, qsi, qwk, qks, qct, qse, qow, qpl, qtmo, qtla, qtsa, qtmi, qtda, qtd0, qtd1, qtd2, qtd3, qtd4, qtd5, qtd6, qtd7, qtd8, qtd9, qtd10, qtd11, qtd12, qtot, qoo, qln, qfi, qsp, qmx, qbs]).getD i 0 := ⟨_, rfl⟩
  have ad_0 : ad 0 = hs := by rw [hads]; rfl
  have ad_1 : ad 1 = qtp := by rw [hads]; rfl
  have ad_2 : ad 2 = qba := by rw [hads]; rfl
  have ad_3 : ad 3 = qmmo := by rw [hads]; rfl
  have ad_4 : ad 4 = qmla := by rw [hads]; rfl
  have ad_5 : ad 5 = qmsa := by rw [hads]; rfl
  have ad_6 : ad 6 = qmmi := by rw [hads]; rfl
  have ad_7 : ad 7 = qmda := by rw [hads]; rfl
  have ad_8 : ad 8 = qmd0 := by rw [hads]; rfl
  have ad_9 : ad 9 = qmd1 := by rw [hads]; rfl
  have ad_10 : ad 10 = qmd2 := by rw [hads]; rfl
  have ad_11 : ad 11 = qmd3 := by rw [hads]; rfl
  have ad_12 : ad 12 = qmd4 := by rw [hads]; rfl
  have ad_13 : ad 13 = qmd5 := by rw [hads]; rfl
  have ad_14 : ad 14 = qmd6 := by rw [hads]; rfl
  have ad_15 : ad 15 = qmd7 := by rw [hads]; rfl
  have ad_16 : ad 16 = qmd8 := by rw [hads]; rfl
  have ad_17 : ad 17 = qmd9 := by rw [hads]; rfl
  have ad_18 : ad 18 = qmd10 := by rw [hads]; rfl
  have ad_19 : ad 19 = qmd11 := by rw [hads]; rfl
  have ad_20 : ad 20 = qmd12 := by rw [hads]; rfl
  have ad_21 : ad 21 = qxmo := by rw [hads]; rfl
  have ad_22 : ad 22 = qxla := by rw [hads]; rfl
  have ad_23 : ad 23 = qxsa := by rw [hads]; rfl
  have ad_24 : ad 24 = qxmi := by rw [hads]; rfl
  have ad_25 : ad 25 = qxda := by rw [hads]; rfl
  have ad_26 : ad 26 = qxd0 := by rw [hads]; rfl
  have ad_27 : ad 27 = qxd1 := by rw [hads]; rfl
  have ad_28 : ad 28 = qxd2 := by rw [hads]; rfl
  have ad_29 : ad 29 = qxd3 := by rw [hads]; rfl
  have ad_30 : ad 30 = qxd4 := by rw [hads]; rfl
  have ad_31 : ad 31 = qxd5 := by rw [hads]; rfl
  have ad_32 : ad 32 = qxd6 := by rw [hads]; rfl
  have ad_33 : ad 33 = qxd7 := by rw [hads]; rfl
  have ad_34 : ad 34 = qxd8 := by rw [hads]; rfl
  have ad_35 : ad 35 = qxd9 := by rw [hads]; rfl
  have ad_36 : ad 36 = qxd10 := by rw [hads]; rfl
  have ad_37 : ad 37 = qxd11 := by rw [hads]; rfl
  have ad_38 : ad 38 = qxd12 := by rw [hads]; rfl
  have ad_39 : ad 39 = qrd := by rw [hads]; rfl
  have ad_40 : ad 40 = qim := by rw [hads]; rfl
  have ad_41 : ad 41 = qi0mo := by rw [hads]; rfl
  have ad_42 : ad 42 = qi0la := by rw [hads]; rfl
  have ad_43 : ad 43 = qi0sa := by rw [hads]; rfl
  have ad_44 : ad 44 = qi0mi := by rw [hads]; rfl
  have ad_45 : ad 45 = qi0da := by rw [hads]; rfl
  have ad_46 : ad 46 = qi0d0 := by rw [hads]; rfl
  have ad_47 : ad 47 = qi0d1 := by rw [hads]; rfl
  have ad_48 : ad 48 = qi0d2 := by rw [hads]; rfl
  have ad_49 : ad 49 = qi0d3 := by rw [hads]; rfl
  have ad_50 : ad 50 = qi0d4 := by rw [hads]; rfl
  have ad_51 : ad 51 = qi0d5 := by rw [hads]; rfl
  have ad_52 : ad 52 = qi0d6 := by rw [hads]; rfl
  have ad_53 : ad 53 = qi0d7 := by rw [hads]; rfl
  have ad_54 : ad 54 = qi0d8 := by rw [hads]; rfl
  have ad_55 : ad 55 = qi0d9 := by rw [hads]; rfl
  have ad_56 : ad 56 = qi0d10 := by rw [hads]; rfl
  have ad_57 : ad 57 = qi0d11 := by rw [hads]; rfl
  have ad_58 : ad 58 = qi0d12 := by rw [hads]; rfl
  have ad_59 : ad 59 = qi1mo := by rw [hads]; rfl
  have ad_60 : ad 60 = qi1la := by rw [hads]; rfl
  have ad_61 : ad 61 = qi1sa := by rw [hads]; rfl
  have ad_62 : ad 62 = qi1mi := by rw [hads]; rfl
  have ad_63 : ad 63 = qi1da := by rw [hads]; rfl
  have ad_64 : ad 64 = qi1d0 := by rw [hads]; rfl
  have ad_65 : ad 65 = qi1d1 := by rw [hads]; rfl
  have ad_66 : ad 66 = qi1d2 := by rw [hads]; rfl
  have ad_67 : ad 67 = qi1d3 := by rw [hads]; rfl
  have ad_68 : ad 68 = qi1d4 := by rw [hads]; rfl
  have ad_69 : ad 69 = qi1d5 := by rw [hads]; rfl
  have ad_70 : ad 70 = qi1d6 := by rw [hads]; rfl
  have ad_71 : ad 71 = qi1d7 := by rw [hads]; rfl
  have ad_72 : ad 72 = qi1d8 := by rw [hads]; rfl
  have ad_73 : ad 73 = qi1d9 := by rw [hads]; rfl
  have ad_74 : ad 74 = qi1d10 := by rw [hads]; rfl
  have ad_75 : ad 75 = qi1d11 := by rw [hads]; rfl
  have ad_76 : ad 76 = qi1d12 := by rw [hads]; rfl
  have ad_77 : ad 77 = qi2mo := by rw [hads]; rfl
  have ad_78 : ad 78 = qi2la := by rw [hads]; rfl
  have ad_79 : ad 79 = qi2sa := by rw [hads]; rfl
  have ad_80 : ad 80 = qi2mi := by rw [hads]; rfl
  have ad_81 : ad 81 = qi2da := by rw [hads]; rfl
  have ad_82 : ad 82 = qi2d0 := by rw [hads]; rfl
  have ad_83 : ad 83 = qi2d1 := by rw [hads]; rfl
  have ad_84 : ad 84 = qi2d2 := by rw [hads]; rfl
  have ad_85 : ad 85 = qi2d3 := by rw [hads]; rfl
  have ad_86 : ad 86 = qi2d4 := by rw [hads]; rfl
  have ad_87 : ad 87 = qi2d5 := by rw [hads]; rfl
  have ad_88 : ad 88 = qi2d6 := by rw [hads]; rfl
  have ad_89 : ad 89 = qi2d7 := by rw [hads]; rfl
  have ad_90 : ad 90 = qi2d8 := by rw [hads]; rfl
  have ad_91 : ad 91 = qi2d9 := by rw [hads]; rfl
  have ad_92 : ad 92 = qi2d10 := by rw [hads]; rfl
  have ad_93 : ad 93 = qi2d11 := by rw [hads]; rfl
  have ad_94 : ad 94 = qi2d12 := by rw [hads]; rfl
  have ad_95 : ad 95 = qkp := by rw [hads]; rfl
  have ad_96 : ad 96 = qsl := by rw [hads]; rfl
  have ad_97 : ad 97 = qnu := by rw [hads]; rfl
  have ad_98 : ad 98 = qr0 := by rw [hads]; rfl
  have ad_99 : ad 99 = qr1 := by rw [hads]; rfl
  have ad_100 : ad 100 = qr2 := by rw [hads]; rfl
  have ad_101 : ad 101 = qr3 := by rw [hads]; rfl
  have ad_102 : ad 102 = qwi := by rw [hads]; rfl
  have ad_103 : ad 103 = qsi := by rw [hads]; rfl
  have ad_104 : ad 104 = qwk := by rw [hads]; rfl
  have ad_105 : ad 105 = qks := by rw [hads]; rfl
  have ad_106 : ad 106 = qct := by rw [hads]; rfl
  have ad_107 : ad 107 = qse := by rw [hads]; rfl
  have ad_108 : ad 108 = qow := by rw [hads]; rfl
  have ad_109 : ad 109 = qpl := by rw [hads]; rfl
  have ad_110 : ad 110 = qtmo := by rw [hads]; rfl
  have ad_111 : ad 111 = qtla := by rw [hads]; rfl
  have ad_112 : ad 112 = qtsa := by rw [hads]; rfl
  have ad_113 : ad 113 = qtmi := by rw [hads]; rfl
  have ad_114 : ad 114 = qtda := by rw [hads]; rfl
  have ad_115 : ad 115 = qtd0 := by rw [hads]; rfl
  have ad_116 : ad 116 = qtd1 := by rw [hads]; rfl
  have ad_117 : ad 117 = qtd2 := by rw [hads]; rfl
  have ad_118 : ad 118 = qtd3 := by rw [hads]; rfl
  have ad_119 : ad 119 = qtd4 := by rw [hads]; rfl
  have ad_120 : ad 120 = qtd5 := by rw [hads]; rfl
  have ad_121 : ad 121 = qtd6 := by rw [hads]; rfl
  have ad_122 : ad 122 = qtd7 := by rw [hads]; rfl
  have ad_123 : ad 123 = qtd8 := by rw [hads]; rfl
  have ad_124 : ad 124 = qtd9 := by rw [hads]; rfl
  have ad_125 : ad 125 = qtd10 := by rw [hads]; rfl
  have ad_126 : ad 126 = qtd11 := by rw [hads]; rfl
  have ad_127 : ad 127 = qtd12 := by rw [hads]; rfl
  have ad_128 : ad 128 = qtot := by rw [hads]; rfl
  have ad_129 : ad 129 = qoo := by rw [hads]; rfl
  have ad_130 : ad 130 = qln := by rw [hads]; rfl
  have ad_131 : ad 131 = qfi := by rw [hads]; rfl
  have ad_132 : ad 132 = qsp := by rw [hads]; rfl
  have ad_133 : ad 133 = qmx := by rw [hads]; rfl
  have ad_134 : ad 134 = qbs := by rw [hads]; rfl
  have hmem2 : ∀ i : Nat, i < 135 → ad i ∈ L67 := fun i hi => by rw [hads]; exact hmem i hi
  have hinj2 : ∀ i j : Nat, i < 135 → j < 135 → ad i = ad j → i = j := fun i j hi hj e => z_adinj hinj hm0_hs i j hi hj (by rw [hads] at e; exact e)
  have hnot2 : ∀ i : Nat, i < 135 → i ≠ 0 → ad i ∉ L := fun i hi h0 => by rw [hads]; exact z_adnot hinj hi h0
  have hTf : x_T L67 f69 cy ad := ⟨0, (fun _ => 0), (by rw [ad_1, ad_2]; exact z_qtp), (by rw [ad_2]; exact z_qba), by decide⟩
  have hRf : x_R L67 f69 cy ad := ⟨0, (-1), 0, 0, 0, 0, 0, (by rw [ad_39, ad_1, ad_21]; exact z_qrd), by decide⟩
  have hIf : x_I L67 f69 cy ad := ⟨g40, (by rw [ad_40]; exact z_qim), (z_all3 (by show _ = some (ad (41 + 18 * 0)); rw [show ad (41 + 18 * 0) = qi0mo from ad_41, e_g40, e_g34, e_g28]; rfl) (by show _ = some (ad (41 + 18 * 1)); rw [show ad (41 + 18 * 1) = qi1mo from ad_59, e_g40, e_g34, e_g28]; rfl) (by show _ = some (ad (41 + 18 * 2)); rw [show ad (41 + 18 * 2) = qi2mo from ad_77, e_g40, e_g34, e_g28]; rfl))⟩
  have hKf : x_K L67 f69 cy ad (fun _ => 0) := (by unfold x_K; rw [ad_95]; exact z_qkp)
  have hSf : x_S L67 f69 cy ad (fun _ => 0) qgs := ⟨qgn, (by rw [ad_96, ad_97, ad_102, ad_103]; exact z_qsl), (by rw [ad_97]; exact z_qnu), (by rw [ad_102]; exact z_qwi), (by rw [ad_103]; exact z_qsi), (z_all4 (by show _ = some (ad (98 + 0)); rw [show ad (98 + 0) = qr0 from ad_98]; exact hpS.1) (by show _ = some (ad (98 + 1)); rw [show ad (98 + 1) = qr1 from ad_99]; exact hpS.2.1) (by show _ = some (ad (98 + 2)); rw [show ad (98 + 2) = qr2 from ad_100]; exact hpS.2.2.1) (by show _ = some (ad (98 + 3)); rw [show ad (98 + 3) = qr3 from ad_101]; exact hpS.2.2.2.1)), (z_all4 ⟨_, by show _ = _; rw [show ad (98 + 0) = qr0 from ad_98]; exact z_qr0⟩ ⟨_, by show _ = _; rw [show ad (98 + 1) = qr1 from ad_99]; exact z_qr1⟩ ⟨_, by show _ = _; rw [show ad (98 + 2) = qr2 from ad_100]; exact z_qr2⟩ ⟨_, by show _ = _; rw [show ad (98 + 3) = qr3 from ad_101]; exact z_qr3⟩), fun j hj => by rw [hpS.2.2.2.2 j hj]; decide⟩
  have hWf : x_W L67 f69 cy ad := ⟨0, 0, 0, 0, _, _, _, _, (by rw [ad_104, ad_105, ad_106, ad_107, ad_108]; exact z_qwk), (by rw [ad_105]; exact z_qks), (by rw [ad_106]; exact z_qct), (by rw [ad_107]; exact z_qse), (by rw [ad_108]; exact z_qow), by decide, fun _ => (show z_key 0 by unfold z_key; decide)⟩
  have hPf : x_P L67 f69 cy ad := ⟨0, 0, 0, 0, 0, 0, 0, 0, 0, _, (by rw [ad_109, ad_110, ad_104, ad_128]; exact z_qpl), (by rw [ad_128]; exact z_qtot), by decide, by decide⟩
  have hOf : x_O L67 f69 cy ad := ⟨0, 0, _, _, _, (by rw [ad_129, ad_104, ad_130, ad_131, ad_132]; exact z_qoo), (by rw [ad_130]; exact z_qln), (by rw [ad_131]; exact z_qfi), (by rw [ad_132]; exact z_qsp), by decide, fun _ => (show z_le11 0 by unfold z_le11; decide)⟩
  have hMf : x_M L67 f69 cy ad := ⟨0, 0, _, (by rw [ad_133, ad_104, ad_134]; exact z_qmx), (by rw [ad_134]; exact z_qbs), by decide, by decide, fun _ => (show z_bst 0 by unfold z_bst; decide)⟩
  have hDf : x_D L67 f69 cy ad 3 := z_mkD (b := 3) (gd := qmgd) (by rw [ad_3, show ad (3 + 1) = qmla from ad_4, show ad (3 + 2) = qmsa from ad_5, show ad (3 + 3) = qmmi from ad_6, show ad (3 + 4) = qmda from ad_7]; exact z_qmmo) (by rw [show ad (3 + 1) = qmla from ad_4]; exact z_qmla) (by rw [show ad (3 + 2) = qmsa from ad_5]; exact z_qmsa) (by rw [show ad (3 + 3) = qmmi from ad_6]; exact z_qmmi) (by rw [show ad (3 + 4) = qmda from ad_7]; exact z_qmda) (z_all13 (by show _ = some (ad 8); rw [ad_8]; exact hgd_m.1) (by show _ = some (ad 9); rw [ad_9]; exact hgd_m.2.1) (by show _ = some (ad 10); rw [ad_10]; exact hgd_m.2.2.1) (by show _ = some (ad 11); rw [ad_11]; exact hgd_m.2.2.2.1) (by show _ = some (ad 12); rw [ad_12]; exact hgd_m.2.2.2.2.1) (by show _ = some (ad 13); rw [ad_13]; exact hgd_m.2.2.2.2.2.1) (by show _ = some (ad 14); rw [ad_14]; exact hgd_m.2.2.2.2.2.2.1) (by show _ = some (ad 15); rw [ad_15]; exact hgd_m.2.2.2.2.2.2.2.1) (by show _ = some (ad 16); rw [ad_16]; exact hgd_m.2.2.2.2.2.2.2.2.1) (by show _ = some (ad 17); rw [ad_17]; exact hgd_m.2.2.2.2.2.2.2.2.2.1) (by show _ = some (ad 18); rw [ad_18]; exact hgd_m.2.2.2.2.2.2.2.2.2.2.1) (by show _ = some (ad 19); rw [ad_19]; exact hgd_m.2.2.2.2.2.2.2.2.2.2.2.1) (by show _ = some (ad 20); rw [ad_20]; exact hgd_m.2.2.2.2.2.2.2.2.2.2.2.2)) (z_all13 ⟨hmem2 8 (by decide), by show _ = _; rw [show ad (3 + 5 + 0) = qmd0 from ad_8]; exact z_qmd0⟩ ⟨hmem2 9 (by decide), by show _ = _; rw [show ad (3 + 5 + 1) = qmd1 from ad_9]; exact z_qmd1⟩ ⟨hmem2 10 (by decide), by show _ = _; rw [show ad (3 + 5 + 2) = qmd2 from ad_10]; exact z_qmd2⟩ ⟨hmem2 11 (by decide), by show _ = _; rw [show ad (3 + 5 + 3) = qmd3 from ad_11]; exact z_qmd3⟩ ⟨hmem2 12 (by decide), by show _ = _; rw [show ad (3 + 5 + 4) = qmd4 from ad_12]; exact z_qmd4⟩ ⟨hmem2 13 (by decide), by show _ = _; rw [show ad (3 + 5 + 5) = qmd5 from ad_13]; exact z_qmd5⟩ ⟨hmem2 14 (by decide), by show _ = _; rw [show ad (3 + 5 + 6) = qmd6 from ad_14]; exact z_qmd6⟩ ⟨hmem2 15 (by decide), by show _ = _; rw [show ad (3 + 5 + 7) = qmd7 from ad_15]; exact z_qmd7⟩ ⟨hmem2 16 (by decide), by show _ = _; rw [show ad (3 + 5 + 8) = qmd8 from ad_16]; exact z_qmd8⟩ ⟨hmem2 17 (by decide), by show _ = _; rw [show ad (3 + 5 + 9) = qmd9 from ad_17]; exact z_qmd9⟩ ⟨hmem2 18 (by decide), by show _ = _; rw [show ad (3 + 5 + 10) = qmd10 from ad_18]; exact z_qmd10⟩ ⟨hmem2 19 (by decide), by show _ = _; rw [show ad (3 + 5 + 11) = qmd11 from ad_19]; exact z_qmd11⟩ ⟨hmem2 20 (by decide), by show _ = _; rw [show ad (3 + 5 + 12) = qmd12 from ad_20]; exact z_qmd12⟩)
  have hFf : x_F L67 f69 cy ad 21 := z_mkF (z_mkD (b := 21) (gd := qxgd) (by rw [ad_21, show ad (21 + 1) = qxla from ad_22, show ad (21 + 2) = qxsa from ad_23, show ad (21 + 3) = qxmi from ad_24, show ad (21 + 4) = qxda from ad_25]; exact z_qxmo) (by rw [show ad (21 + 1) = qxla from ad_22]; exact z_qxla) (by rw [show ad (21 + 2) = qxsa from ad_23]; exact z_qxsa) (by rw [show ad (21 + 3) = qxmi from ad_24]; exact z_qxmi) (by rw [show ad (21 + 4) = qxda from ad_25]; exact z_qxda) (z_all13 (by show _ = some (ad 26); rw [ad_26]; exact hgd_x.1) (by show _ = some (ad 27); rw [ad_27]; exact hgd_x.2.1) (by show _ = some (ad 28); rw [ad_28]; exact hgd_x.2.2.1) (by show _ = some (ad 29); rw [ad_29]; exact hgd_x.2.2.2.1) (by show _ = some (ad 30); rw [ad_30]; exact hgd_x.2.2.2.2.1) (by show _ = some (ad 31); rw [ad_31]; exact hgd_x.2.2.2.2.2.1) (by show _ = some (ad 32); rw [ad_32]; exact hgd_x.2.2.2.2.2.2.1) (by show _ = some (ad 33); rw [ad_33]; exact hgd_x.2.2.2.2.2.2.2.1) (by show _ = some (ad 34); rw [ad_34]; exact hgd_x.2.2.2.2.2.2.2.2.1) (by show _ = some (ad 35); rw [ad_35]; exact hgd_x.2.2.2.2.2.2.2.2.2.1) (by show _ = some (ad 36); rw [ad_36]; exact hgd_x.2.2.2.2.2.2.2.2.2.2.1) (by show _ = some (ad 37); rw [ad_37]; exact hgd_x.2.2.2.2.2.2.2.2.2.2.2.1) (by show _ = some (ad 38); rw [ad_38]; exact hgd_x.2.2.2.2.2.2.2.2.2.2.2.2)) (z_all13 ⟨hmem2 26 (by decide), by show _ = _; rw [show ad (21 + 5 + 0) = qxd0 from ad_26]; exact z_qxd0⟩ ⟨hmem2 27 (by decide), by show _ = _; rw [show ad (21 + 5 + 1) = qxd1 from ad_27]; exact z_qxd1⟩ ⟨hmem2 28 (by decide), by show _ = _; rw [show ad (21 + 5 + 2) = qxd2 from ad_28]; exact z_qxd2⟩ ⟨hmem2 29 (by decide), by show _ = _; rw [show ad (21 + 5 + 3) = qxd3 from ad_29]; exact z_qxd3⟩ ⟨hmem2 30 (by decide), by show _ = _; rw [show ad (21 + 5 + 4) = qxd4 from ad_30]; exact z_qxd4⟩ ⟨hmem2 31 (by decide), by show _ = _; rw [show ad (21 + 5 + 5) = qxd5 from ad_31]; exact z_qxd5⟩ ⟨hmem2 32 (by decide), by show _ = _; rw [show ad (21 + 5 + 6) = qxd6 from ad_32]; exact z_qxd6⟩ ⟨hmem2 33 (by decide), by show _ = _; rw [show ad (21 + 5 + 7) = qxd7 from ad_33]; exact z_qxd7⟩ ⟨hmem2 34 (by decide), by show _ = _; rw [show ad (21 + 5 + 8) = qxd8 from ad_34]; exact z_qxd8⟩ ⟨hmem2 35 (by decide), by show _ = _; rw [show ad (21 + 5 + 9) = qxd9 from ad_35]; exact z_qxd9⟩ ⟨hmem2 36 (by decide), by show _ = _; rw [show ad (21 + 5 + 10) = qxd10 from ad_36]; exact z_qxd10⟩ ⟨hmem2 37 (by decide), by show _ = _; rw [show ad (21 + 5 + 11) = qxd11 from ad_37]; exact z_qxd11⟩ ⟨hmem2 38 (by decide), by show _ = _; rw [show ad (21 + 5 + 12) = qxd12 from ad_38]; exact z_qxd12⟩))
  have hG0 : x_D L67 f69 cy ad 41 := z_mkD (b := 41) (gd := qi0gd) (by rw [ad_41, show ad (41 + 1) = qi0la from ad_42, show ad (41 + 2) = qi0sa from ad_43, show ad (41 + 3) = qi0mi from ad_44, show ad (41 + 4) = qi0da from ad_45]; exact z_qi0mo) (by rw [show ad (41 + 1) = qi0la from ad_42]; exact z_qi0la) (by rw [show ad (41 + 2) = qi0sa from ad_43]; exact z_qi0sa) (by rw [show ad (41 + 3) = qi0mi from ad_44]; exact z_qi0mi) (by rw [show ad (41 + 4) = qi0da from ad_45]; exact z_qi0da) (z_all13 (by show _ = some (ad 46); rw [ad_46]; exact hgd_i0.1) (by show _ = some (ad 47); rw [ad_47]; exact hgd_i0.2.1) (by show _ = some (ad 48); rw [ad_48]; exact hgd_i0.2.2.1) (by show _ = some (ad 49); rw [ad_49]; exact hgd_i0.2.2.2.1) (by show _ = some (ad 50); rw [ad_50]; exact hgd_i0.2.2.2.2.1) (by show _ = some (ad 51); rw [ad_51]; exact hgd_i0.2.2.2.2.2.1) (by show _ = some (ad 52); rw [ad_52]; exact hgd_i0.2.2.2.2.2.2.1) (by show _ = some (ad 53); rw [ad_53]; exact hgd_i0.2.2.2.2.2.2.2.1) (by show _ = some (ad 54); rw [ad_54]; exact hgd_i0.2.2.2.2.2.2.2.2.1) (by show _ = some (ad 55); rw [ad_55]; exact hgd_i0.2.2.2.2.2.2.2.2.2.1) (by show _ = some (ad 56); rw [ad_56]; exact hgd_i0.2.2.2.2.2.2.2.2.2.2.1) (by show _ = some (ad 57); rw [ad_57]; exact hgd_i0.2.2.2.2.2.2.2.2.2.2.2.1) (by show _ = some (ad 58); rw [ad_58]; exact hgd_i0.2.2.2.2.2.2.2.2.2.2.2.2)) (z_all13 ⟨hmem2 46 (by decide), by show _ = _; rw [show ad (41 + 5 + 0) = qi0d0 from ad_46]; exact z_qi0d0⟩ ⟨hmem2 47 (by decide), by show _ = _; rw [show ad (41 + 5 + 1) = qi0d1 from ad_47]; exact z_qi0d1⟩ ⟨hmem2 48 (by decide), by show _ = _; rw [show ad (41 + 5 + 2) = qi0d2 from ad_48]; exact z_qi0d2⟩ ⟨hmem2 49 (by decide), by show _ = _; rw [show ad (41 + 5 + 3) = qi0d3 from ad_49]; exact z_qi0d3⟩ ⟨hmem2 50 (by decide), by show _ = _; rw [show ad (41 + 5 + 4) = qi0d4 from ad_50]; exact z_qi0d4⟩ ⟨hmem2 51 (by decide), by show _ = _; rw [show ad (41 + 5 + 5) = qi0d5 from ad_51]; exact z_qi0d5⟩ ⟨hmem2 52 (by decide), by show _ = _; rw [show ad (41 + 5 + 6) = qi0d6 from ad_52]; exact z_qi0d6⟩ ⟨hmem2 53 (by decide), by show _ = _; rw [show ad (41 + 5 + 7) = qi0d7 from ad_53]; exact z_qi0d7⟩ ⟨hmem2 54 (by decide), by show _ = _; rw [show ad (41 + 5 + 8) = qi0d8 from ad_54]; exact z_qi0d8⟩ ⟨hmem2 55 (by decide), by show _ = _; rw [show ad (41 + 5 + 9) = qi0d9 from ad_55]; exact z_qi0d9⟩ ⟨hmem2 56 (by decide), by show _ = _; rw [show ad (41 + 5 + 10) = qi0d10 from ad_56]; exact z_qi0d10⟩ ⟨hmem2 57 (by decide), by show _ = _; rw [show ad (41 + 5 + 11) = qi0d11 from ad_57]; exact z_qi0d11⟩ ⟨hmem2 58 (by decide), by show _ = _; rw [show ad (41 + 5 + 12) = qi0d12 from ad_58]; exact z_qi0d12⟩)
  have hG1 : x_D L67 f69 cy ad 59 := z_mkD (b := 59) (gd := qi1gd) (by rw [ad_59, show ad (59 + 1) = qi1la from ad_60, show ad (59 + 2) = qi1sa from ad_61, show ad (59 + 3) = qi1mi from ad_62, show ad (59 + 4) = qi1da from ad_63]; exact z_qi1mo) (by rw [show ad (59 + 1) = qi1la from ad_60]; exact z_qi1la) (by rw [show ad (59 + 2) = qi1sa from ad_61]; exact z_qi1sa) (by rw [show ad (59 + 3) = qi1mi from ad_62]; exact z_qi1mi) (by rw [show ad (59 + 4) = qi1da from ad_63]; exact z_qi1da) (z_all13 (by show _ = some (ad 64); rw [ad_64]; exact hgd_i1.1) (by show _ = some (ad 65); rw [ad_65]; exact hgd_i1.2.1) (by show _ = some (ad 66); rw [ad_66]; exact hgd_i1.2.2.1) (by show _ = some (ad 67); rw [ad_67]; exact hgd_i1.2.2.2.1) (by show _ = some (ad 68); rw [ad_68]; exact hgd_i1.2.2.2.2.1) (by show _ = some (ad 69); rw [ad_69]; exact hgd_i1.2.2.2.2.2.1) (by show _ = some (ad 70); rw [ad_70]; exact hgd_i1.2.2.2.2.2.2.1) (by show _ = some (ad 71); rw [ad_71]; exact hgd_i1.2.2.2.2.2.2.2.1) (by show _ = some (ad 72); rw [ad_72]; exact hgd_i1.2.2.2.2.2.2.2.2.1) (by show _ = some (ad 73); rw [ad_73]; exact hgd_i1.2.2.2.2.2.2.2.2.2.1) (by show _ = some (ad 74); rw [ad_74]; exact hgd_i1.2.2.2.2.2.2.2.2.2.2.1) (by show _ = some (ad 75); rw [ad_75]; exact hgd_i1.2.2.2.2.2.2.2.2.2.2.2.1) (by show _ = some (ad 76); rw [ad_76]; exact hgd_i1.2.2.2.2.2.2.2.2.2.2.2.2)) (z_all13 ⟨hmem2 64 (by decide), by show _ = _; rw [show ad (59 + 5 + 0) = qi1d0 from ad_64]; exact z_qi1d0⟩ ⟨hmem2 65 (by decide), by show _ = _; rw [show ad (59 + 5 + 1) = qi1d1 from ad_65]; exact z_qi1d1⟩ ⟨hmem2 66 (by decide), by show _ = _; rw [show ad (59 + 5 + 2) = qi1d2 from ad_66]; exact z_qi1d2⟩ ⟨hmem2 67 (by decide), by show _ = _; rw [show ad (59 + 5 + 3) = qi1d3 from ad_67]; exact z_qi1d3⟩ ⟨hmem2 68 (by decide), by show _ = _; rw [show ad (59 + 5 + 4) = qi1d4 from ad_68]; exact z_qi1d4⟩ ⟨hmem2 69 (by decide), by show _ = _; rw [show ad (59 + 5 + 5) = qi1d5 from ad_69]; exact z_qi1d5⟩ ⟨hmem2 70 (by decide), by show _ = _; rw [show ad (59 + 5 + 6) = qi1d6 from ad_70]; exact z_qi1d6⟩ ⟨hmem2 71 (by decide), by show _ = _; rw [show ad (59 + 5 + 7) = qi1d7 from ad_71]; exact z_qi1d7⟩ ⟨hmem2 72 (by decide), by show _ = _; rw [show ad (59 + 5 + 8) = qi1d8 from ad_72]; exact z_qi1d8⟩ ⟨hmem2 73 (by decide), by show _ = _; rw [show ad (59 + 5 + 9) = qi1d9 from ad_73]; exact z_qi1d9⟩ ⟨hmem2 74 (by decide), by show _ = _; rw [show ad (59 + 5 + 10) = qi1d10 from ad_74]; exact z_qi1d10⟩ ⟨hmem2 75 (by decide), by show _ = _; rw [show ad (59 + 5 + 11) = qi1d11 from ad_75]; exact z_qi1d11⟩ ⟨hmem2 76 (by decide), by show _ = _; rw [show ad (59 + 5 + 12) = qi1d12 from ad_76]; exact z_qi1d12⟩)
  have hG2 : x_D L67 f69 cy ad 77 := z_mkD (b := 77) (gd := qi2gd) (by rw [ad_77, show ad (77 + 1) = qi2la from ad_78, show ad (77 + 2) = qi2sa from ad_79, show ad (77 + 3) = qi2mi from ad_80, show ad (77 + 4) = qi2da from ad_81]; exact z_qi2mo) (by rw [show ad (77 + 1) = qi2la from ad_78]; exact z_qi2la) (by rw [show ad (77 + 2) = qi2sa from ad_79]; exact z_qi2sa) (by rw [show ad (77 + 3) = qi2mi from ad_80]; exact z_qi2mi) (by rw [show ad (77 + 4) = qi2da from ad_81]; exact z_qi2da) (z_all13 (by show _ = some (ad 82); rw [ad_82]; exact hgd_i2.1) (by show _ = some (ad 83); rw [ad_83]; exact hgd_i2.2.1) (by show _ = some (ad 84); rw [ad_84]; exact hgd_i2.2.2.1) (by show _ = some (ad 85); rw [ad_85]; exact hgd_i2.2.2.2.1) (by show _ = some (ad 86); rw [ad_86]; exact hgd_i2.2.2.2.2.1) (by show _ = some (ad 87); rw [ad_87]; exact hgd_i2.2.2.2.2.2.1) (by show _ = some (ad 88); rw [ad_88]; exact hgd_i2.2.2.2.2.2.2.1) (by show _ = some (ad 89); rw [ad_89]; exact hgd_i2.2.2.2.2.2.2.2.1) (by show _ = some (ad 90); rw [ad_90]; exact hgd_i2.2.2.2.2.2.2.2.2.1) (by show _ = some (ad 91); rw [ad_91]; exact hgd_i2.2.2.2.2.2.2.2.2.2.1) (by show _ = some (ad 92); rw [ad_92]; exact hgd_i2.2.2.2.2.2.2.2.2.2.2.1) (by show _ = some (ad 93); rw [ad_93]; exact hgd_i2.2.2.2.2.2.2.2.2.2.2.2.1) (by show _ = some (ad 94); rw [ad_94]; exact hgd_i2.2.2.2.2.2.2.2.2.2.2.2.2)) (z_all13 ⟨hmem2 82 (by decide), by show _ = _; rw [show ad (77 + 5 + 0) = qi2d0 from ad_82]; exact z_qi2d0⟩ ⟨hmem2 83 (by decide), by show _ = _; rw [show ad (77 + 5 + 1) = qi2d1 from ad_83]; exact z_qi2d1⟩ ⟨hmem2 84 (by decide), by show _ = _; rw [show ad (77 + 5 + 2) = qi2d2 from ad_84]; exact z_qi2d2⟩ ⟨hmem2 85 (by decide), by show _ = _; rw [show ad (77 + 5 + 3) = qi2d3 from ad_85]; exact z_qi2d3⟩ ⟨hmem2 86 (by decide), by show _ = _; rw [show ad (77 + 5 + 4) = qi2d4 from ad_86]; exact z_qi2d4⟩ ⟨hmem2 87 (by decide), by show _ = _; rw [show ad (77 + 5 + 5) = qi2d5 from ad_87]; exact z_qi2d5⟩ ⟨hmem2 88 (by decide), by show _ = _; rw [show ad (77 + 5 + 6) = qi2d6 from ad_88]; exact z_qi2d6⟩ ⟨hmem2 89 (by decide), by show _ = _; rw [show ad (77 + 5 + 7) = qi2d7 from ad_89]; exact z_qi2d7⟩ ⟨hmem2 90 (by decide), by show _ = _; rw [show ad (77 + 5 + 8) = qi2d8 from ad_90]; exact z_qi2d8⟩ ⟨hmem2 91 (by decide), by show _ = _; rw [show ad (77 + 5 + 9) = qi2d9 from ad_91]; exact z_qi2d9⟩ ⟨hmem2 92 (by decide), by show _ = _; rw [show ad (77 + 5 + 10) = qi2d10 from ad_92]; exact z_qi2d10⟩ ⟨hmem2 93 (by decide), by show _ = _; rw [show ad (77 + 5 + 11) = qi2d11 from ad_93]; exact z_qi2d11⟩ ⟨hmem2 94 (by decide), by show _ = _; rw [show ad (77 + 5 + 12) = qi2d12 from ad_94]; exact z_qi2d12⟩)
  have hHf : x_H L67 f69 cy ad 110 := z_mkH (z_mkD (b := 110) (gd := qtgd) (by rw [ad_110, show ad (110 + 1) = qtla from ad_111, show ad (110 + 2) = qtsa from ad_112, show ad (110 + 3) = qtmi from ad_113, show ad (110 + 4) = qtda from ad_114]; exact z_qtmo) (by rw [show ad (110 + 1) = qtla from ad_111]; exact z_qtla) (by rw [show ad (110 + 2) = qtsa from ad_112]; exact z_qtsa) (by rw [show ad (110 + 3) = qtmi from ad_113]; exact z_qtmi) (by rw [show ad (110 + 4) = qtda from ad_114]; exact z_qtda) (z_all13 (by show _ = some (ad 115); rw [ad_115]; exact hgd_t.1) (by show _ = some (ad 116); rw [ad_116]; exact hgd_t.2.1) (by show _ = some (ad 117); rw [ad_117]; exact hgd_t.2.2.1) (by show _ = some (ad 118); rw [ad_118]; exact hgd_t.2.2.2.1) (by show _ = some (ad 119); rw [ad_119]; exact hgd_t.2.2.2.2.1) (by show _ = some (ad 120); rw [ad_120]; exact hgd_t.2.2.2.2.2.1) (by show _ = some (ad 121); rw [ad_121]; exact hgd_t.2.2.2.2.2.2.1) (by show _ = some (ad 122); rw [ad_122]; exact hgd_t.2.2.2.2.2.2.2.1) (by show _ = some (ad 123); rw [ad_123]; exact hgd_t.2.2.2.2.2.2.2.2.1) (by show _ = some (ad 124); rw [ad_124]; exact hgd_t.2.2.2.2.2.2.2.2.2.1) (by show _ = some (ad 125); rw [ad_125]; exact hgd_t.2.2.2.2.2.2.2.2.2.2.1) (by show _ = some (ad 126); rw [ad_126]; exact hgd_t.2.2.2.2.2.2.2.2.2.2.2.1) (by show _ = some (ad 127); rw [ad_127]; exact hgd_t.2.2.2.2.2.2.2.2.2.2.2.2)) (z_all13 ⟨hmem2 115 (by decide), by show _ = _; rw [show ad (110 + 5 + 0) = qtd0 from ad_115]; exact z_qtd0⟩ ⟨hmem2 116 (by decide), by show _ = _; rw [show ad (110 + 5 + 1) = qtd1 from ad_116]; exact z_qtd1⟩ ⟨hmem2 117 (by decide), by show _ = _; rw [show ad (110 + 5 + 2) = qtd2 from ad_117]; exact z_qtd2⟩ ⟨hmem2 118 (by decide), by show _ = _; rw [show ad (110 + 5 + 3) = qtd3 from ad_118]; exact z_qtd3⟩ ⟨hmem2 119 (by decide), by show _ = _; rw [show ad (110 + 5 + 4) = qtd4 from ad_119]; exact z_qtd4⟩ ⟨hmem2 120 (by decide), by show _ = _; rw [show ad (110 + 5 + 5) = qtd5 from ad_120]; exact z_qtd5⟩ ⟨hmem2 121 (by decide), by show _ = _; rw [show ad (110 + 5 + 6) = qtd6 from ad_121]; exact z_qtd6⟩ ⟨hmem2 122 (by decide), by show _ = _; rw [show ad (110 + 5 + 7) = qtd7 from ad_122]; exact z_qtd7⟩ ⟨hmem2 123 (by decide), by show _ = _; rw [show ad (110 + 5 + 8) = qtd8 from ad_123]; exact z_qtd8⟩ ⟨hmem2 124 (by decide), by show _ = _; rw [show ad (110 + 5 + 9) = qtd9 from ad_124]; exact z_qtd9⟩ ⟨hmem2 125 (by decide), by show _ = _; rw [show ad (110 + 5 + 10) = qtd10 from ad_125]; exact z_qtd10⟩ ⟨hmem2 126 (by decide), by show _ = _; rw [show ad (110 + 5 + 11) = qtd11 from ad_126]; exact z_qtd11⟩ ⟨hmem2 127 (by decide), by show _ = _; rw [show ad (110 + 5 + 12) = qtd12 from ad_127]; exact z_qtd12⟩))
  exact z_vret hx hb hr hlk (by decide) (by decide) hw (⟨hsub, hfr, ad, (fun _ => 0), (fun _ => 0), qgs, ad_0, hnot2, ⟨hmem2, hinj2, (by rw [ad_0, ad_1, ad_39, ad_3, ad_21, ad_40, ad_95, ad_96, ad_104, ad_109, ad_129, ad_133]; exact hf_hs), hTf, hRf, hIf, hKf, hSf, hWf, hPf, hOf, hMf, hDf, hFf, z_all3 (P := fun k => x_D L67 f69 cy ad (41 + 18 * k)) hG0 hG1 hG2, hHf⟩, fun _ _ => (show (0 : Int32).toInt = 0 by decide), fun k hk => by rw [hpS.2.2.2.2 k hk]; decide⟩) dX9_init_164
