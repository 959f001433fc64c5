set_option maxHeartbeats 4000000 in
set_option maxRecDepth 100000 in
theorem c_X9_init (l : Launch) {D : va_G} {cy : Nat → ClassId} {L : List Nat} {f : Nat → va_E} {sz : Nat} {hs : Nat} (hm_hs : hs ∈ L) (hf_hs : f hs = .inr (9, [.null, .null, .null, .null, .null, .null, .null, .null, .null, .null, .null])) : Met l yX9_init (z_ws yX9_init cX9_init 2 none) (z_R 4 134 5582) (va_Pc [.ref hs] (z_Pre D vwCl (z_K D cy) L f sz)) (z_Qv D vwCl (fun u => (∀ b ∈ L, b ∈ u.1) ∧ (∀ b ∈ L, b ≠ hs → u.2 b = f b) ∧ (∃ (tp ba mo la sa mi da dr xla xsa xmi xda rd im i0 la0 sa0 mi0 da0 i1 la1 sa1 mi1 da1 i2 la2 sa2 mi2 da2 kp sl nu r0 r1 r2 r3 wi si wk pl ex mx : Nat) (gi gn : Nat → Option Nat) (gs : Nat → Int32), (u.2 hs = .inr (9, [.ref tp, .ref rd, .ref mo, .ref dr, .ref im, .ref kp, .ref sl, .ref wk, .ref pl, .ref ex, .ref mx])) ∧ (tp ∉ L ∧ tp ∈ u.1 ∧ u.2 tp = .inr (7, [.ref ba, .int 0])) ∧ (ba ∉ L ∧ ba ∈ u.1 ∧ u.2 ba = .inl (cy 0, 1600, .inl (fun _ => 0))) ∧ (mo ∉ L ∧ mo ∈ u.1 ∧ u.2 mo = .inr (2, [.int 0, .int 0, .int 0, .int 0, .int 0, .int 0, .int 0, .ref la, .ref sa, .ref mi, .ref da])) ∧ (la ∉ L ∧ la ∈ u.1 ∧ u.2 la = .inl (cy 1, 5, .inl (fun _ => 0))) ∧ (sa ∉ L ∧ sa ∈ u.1 ∧ u.2 sa = .inl (cy 1, 4, .inl (fun _ => 0))) ∧ (mi ∉ L ∧ mi ∈ u.1 ∧ u.2 mi = .inl (cy 1, 36, .inl (fun _ => 0))) ∧ (dr ∉ L ∧ dr ∈ u.1 ∧ u.2 dr = .inr (2, [.int 0, .int 0, .int 0, .int 0, .int 0, .int 0, .int 0, .ref xla, .ref xsa, .ref xmi, .ref xda])) ∧ (xla ∉ L ∧ xla ∈ u.1 ∧ u.2 xla = .inl (cy 1, 5, .inl (fun _ => 0))) ∧ (xsa ∉ L ∧ xsa ∈ u.1 ∧ u.2 xsa = .inl (cy 1, 4, .inl (fun _ => 0))) ∧ (xmi ∉ L ∧ xmi ∈ u.1 ∧ u.2 xmi = .inl (cy 1, 36, .inl (fun _ => 0))) ∧ (rd ∉ L ∧ rd ∈ u.1 ∧ u.2 rd = .inr (5, [.int 0, .int (-1), .ref tp, .ref dr, .int 0, .int 0, .int 0, .int 0, .int 0])) ∧ (im ∉ L ∧ im ∈ u.1 ∧ u.2 im = .inl (cy 5, 3, .inr (.inr (.inr (.inr gi))))) ∧ (i0 ∉ L ∧ i0 ∈ u.1 ∧ u.2 i0 = .inr (2, [.int 0, .int 0, .int 0, .int 0, .int 0, .int 0, .int 0, .ref la0, .ref sa0, .ref mi0, .ref da0])) ∧ (la0 ∉ L ∧ la0 ∈ u.1 ∧ u.2 la0 = .inl (cy 1, 5, .inl (fun _ => 0))) ∧ (sa0 ∉ L ∧ sa0 ∈ u.1 ∧ u.2 sa0 = .inl (cy 1, 4, .inl (fun _ => 0))) ∧ (mi0 ∉ L ∧ mi0 ∈ u.1 ∧ u.2 mi0 = .inl (cy 1, 36, .inl (fun _ => 0))) ∧ (i1 ∉ L ∧ i1 ∈ u.1 ∧ u.2 i1 = .inr (2, [.int 0, .int 0, .int 0, .int 0, .int 0, .int 0, .int 0, .ref la1, .ref sa1, .ref mi1, .ref da1])) ∧ (la1 ∉ L ∧ la1 ∈ u.1 ∧ u.2 la1 = .inl (cy 1, 5, .inl (fun _ => 0))) ∧ (sa1 ∉ L ∧ sa1 ∈ u.1 ∧ u.2 sa1 = .inl (cy 1, 4, .inl (fun _ => 0))) ∧ (mi1 ∉ L ∧ mi1 ∈ u.1 ∧ u.2 mi1 = .inl (cy 1, 36, .inl (fun _ => 0))) ∧ (i2 ∉ L ∧ i2 ∈ u.1 ∧ u.2 i2 = .inr (2, [.int 0, .int 0, .int 0, .int 0, .int 0, .int 0, .int 0, .ref la2, .ref sa2, .ref mi2, .ref da2])) ∧ (la2 ∉ L ∧ la2 ∈ u.1 ∧ u.2 la2 = .inl (cy 1, 5, .inl (fun _ => 0))) ∧ (sa2 ∉ L ∧ sa2 ∈ u.1 ∧ u.2 sa2 = .inl (cy 1, 4, .inl (fun _ => 0))) ∧ (mi2 ∉ L ∧ mi2 ∈ u.1 ∧ u.2 mi2 = .inl (cy 1, 36, .inl (fun _ => 0))) ∧ (kp ∉ L ∧ kp ∈ u.1 ∧ u.2 kp = .inl (cy 3, 3, .inl (fun _ => 0))) ∧ (sl ∉ L ∧ sl ∈ u.1 ∧ u.2 sl = .inr (6, [.ref nu, .ref wi, .ref si])) ∧ (nu ∉ L ∧ nu ∈ u.1 ∧ u.2 nu = .inl (cy 6, 4, .inr (.inr (.inr (.inr gn))))) ∧ (r0 ∉ L ∧ r0 ∈ u.1 ∧ u.2 r0 = .inl (cy 2, 60, .inr (.inl (fun _ => 0)))) ∧ (r1 ∉ L ∧ r1 ∈ u.1 ∧ u.2 r1 = .inl (cy 2, 60, .inr (.inl (fun _ => 0)))) ∧ (r2 ∉ L ∧ r2 ∈ u.1 ∧ u.2 r2 = .inl (cy 2, 60, .inr (.inl (fun _ => 0)))) ∧ (r3 ∉ L ∧ r3 ∈ u.1 ∧ u.2 r3 = .inl (cy 2, 60, .inr (.inl (fun _ => 0)))) ∧ (wi ∉ L ∧ wi ∈ u.1 ∧ u.2 wi = .inl (cy 1, 4, .inl (fun _ => 0))) ∧ (si ∉ L ∧ si ∈ u.1 ∧ u.2 si = .inl (cy 1, 4, .inl gs)) ∧ ((gi 0 = some i0) ∧ (gi 1 = some i1) ∧ (gi 2 = some i2) ∧ (gn 0 = some r0) ∧ (gn 1 = some r1) ∧ (gn 2 = some r2) ∧ (gn 3 = some r3) ∧ (∀ j : Nat, j < 4 → gs j = -1) ∧ (mo ≠ dr) ∧ (la ≠ xla) ∧ (sa ≠ xsa) ∧ (mi ≠ xmi) ∧ (i0 ≠ mo) ∧ (la0 ≠ la) ∧ (sa0 ≠ sa) ∧ (mi0 ≠ mi) ∧ (i1 ≠ mo) ∧ (la1 ≠ la) ∧ (sa1 ≠ sa) ∧ (mi1 ≠ mi) ∧ (i2 ≠ mo) ∧ (la2 ≠ la) ∧ (sa2 ≠ sa) ∧ (mi2 ≠ mi) ∧ (wi ≠ si)))) L sz) 134 5582 (z_A L sz) := by
  refine z_met (cc := cX9_init) (maxL := 2) (ret := none) (lv := [(0, .ref hs)]) (by decide) rfl (Nat.le_of_ble_eq_true rfl) rfl ?_
  intro p e s m below meth c ls hx hb hr hlk hml hown hnm hts hKK hA hw hl
  have hK := hKK.1
  have hown : s.vm.findClass RX9 = some m.cls := hown
  have hT : ∀ w ∈ lw_all, w.before ([.ref hs] : List Value).toArray s = true := fun w h => hts w (z_cons w h)
  have hsub : ∀ b ∈ L, b ∈ L := fun _ h => h
  have hfr : ∀ b ∈ L, b ≠ hs → f b = f b := fun _ _ _ => rfl
  refine lv_aload_n hx hb dX9_init_0 rfl (lv_at hl 0 rfl) ?_
  refine W.objInit hx hb hown (hT _ ko_RX9) (hT _ ko_i) (hT _ ko_c) rfl (by rw [hml]; exact hl.1) rfl dX9_init_1 (Nat.le_of_ble_eq_true rfl) (Nat.le_of_ble_eq_true rfl) ?_
  refine W.eq (g2 := F0 m 4 ls []) rfl ?_
  refine lv_aload_n hx hb dX9_init_4 rfl (lv_at hl 0 rfl) ?_
  refine z_new (C := RX7) (T := TX7) (N := 2) (ci := 7) (fs := [.null, .int 0]) (cells := 0) (slots := 0) hx hb hT zin_X7 tyX7_ok hown (hT _ kw_111) (hT _ kw_112) (hT _ kw_86) hK hw hA rfl (fun j hj => by rcases (show j = 0 ∨ j = 1 by omega) with rfl | rfl <;> rfl) (by decide) (by decide) dX9_init_5 (fun qtp H hq_qtp hw => ?_)
  refine W.widen (k := 1) (n := 2) (by decide) (by decide) ?_
  have ne_hs_qtp : hs ≠ qtp := z_ne hm_hs hq_qtp
  have hn_qtp : qtp ∉ L := fun h => hq_qtp (hsub _ h)
  obtain ⟨f2, e_f2⟩ : ∃ z, z = va_up f qtp (.inr (7, [.null, .int 0])) := ⟨_, rfl⟩
  obtain ⟨L1, e_L1⟩ : ∃ z, z = L ++ [qtp] := ⟨_, rfl⟩
  rw [← e_f2, ← e_L1] at hw
  have hm_hs : hs ∈ L1 := by rw [e_L1]; exact List.mem_append_left _ hm_hs
  have hf_hs : f2 hs = .inr (9, [.null, .null, .null, .null, .null, .null, .null, .null, .null, .null, .null]) := (congrFun e_f2 hs).trans (z_up_ne ne_hs_qtp hf_hs)
  have hm_qtp : qtp ∈ L1 := by rw [e_L1]; exact List.mem_append_right _ (List.mem_singleton.mpr rfl)
  have hf_qtp : f2 qtp = .inr (7, [.null, .int 0]) := (congrFun e_f2 qtp).trans z_up_self
  have hsub : ∀ b ∈ L, b ∈ L1 := fun b h => by rw [e_L1]; exact List.mem_append_left _ (hsub b h)
  have hfr : ∀ b ∈ L, b ≠ hs → f2 b = f b := fun b hb h0 => (congrFun e_f2 b).trans (z_up_ne (z_ne hb hn_qtp) (hfr b hb h0))
  refine lv_dup hx hb dX9_init_8 rfl ?_
  refine z_callvIN (cells := 1) (slots := 2) (b := qtp) (As := []) (rest := [.ref qtp, .ref hs]) ⟨hx, hb, hml, hown, hT⟩ (c_X7_init l hm_qtp hf_qtp) ⟨va_cnB 0 hT (z_goodI (fun _ h => h) kw_115) rfl rfl rfl hKK.2.2.2.2.2.1 (hT _ kw_86) (by decide +kernel) ⟨by decide, by decide⟩, rfl, hT _ kw_114⟩ z_mv hKK hw hA rfl hl.1 rfl (Nat.le_of_ble_eq_true rfl) dX9_init_9 ⟨by decide, by decide⟩ (fun u H locs hp hw => ?_)
  refine W.widen (k := 2) (n := 1602) (by decide) (by decide) ?_
  obtain ⟨L3, f4⟩ := u
  obtain ⟨hsb, hfm, qba, ha_0, ⟨hq_qba, hm_qba, hf_qba⟩, hp⟩ := hp
  have hw : z_H D vwCl (z_A L sz) s.heap L3 f4 H locs := hw
  have ne_hs_qba : hs ≠ qba := z_ne hm_hs hq_qba
  have ne_qtp_qba : qtp ≠ qba := z_ne hm_qtp hq_qba
  have hfr : ∀ b ∈ L, b ≠ hs → f4 b = f b := fun b hb h0 => (hfm b (hsub b hb) (z_ne hb hn_qtp)).trans (hfr b hb h0)
  have hn_qba : qba ∉ L := fun h => hq_qba (hsub _ h)
  have hsub : ∀ b ∈ L, b ∈ L3 := fun b h => hsb b (hsub b h)
  have hf_hs : f4 hs = .inr (9, [.null, .null, .null, .null, .null, .null, .null, .null, .null, .null, .null]) := (hfm hs hm_hs ne_hs_qtp).trans hf_hs
  have hm_hs : hs ∈ L3 := hsb _ hm_hs
  have hm_qtp : qtp ∈ L3 := hsb _ hm_qtp
  have hf_qtp : f4 qtp = .inr (7, [.ref qba, .int 0]) := ha_0
  have hf_qba : f4 qba = .inl (cy 0, 1600, .inl (fun _ => 0)) := hf_qba
  have hm_qba : qba ∈ L3 := hm_qba
  refine z_putF (C := RX9) (T := TX9) (N := 11) (ci := 9) (v := .ref qtp) (fs' := [.ref qtp, .null, .null, .null, .null, .null, .null, .null, .null, .null, .null]) hx hb hT zin_X9 tyX9_ok nmX9 hown hK hw hm_hs hf_hs rfl 0 (by decide) (hT _ kw_477) rfl hnm rfl rfl rfl (Nat.le_of_ble_eq_true rfl) rfl dX9_init_12 (fun H locs hw => ?_)
  obtain ⟨f5, e_f5⟩ : ∃ z, z = va_up f4 hs (.inr (9, [.ref qtp, .null, .null, .null, .null, .null, .null, .null, .null, .null, .null])) := ⟨_, rfl⟩
  rw [← e_f5] at hw
  have hf_qtp : f5 qtp = .inr (7, [.ref qba, .int 0]) := (congrFun e_f5 qtp).trans (z_up_ne (Ne.symm ne_hs_qtp) hf_qtp)
  have hf_qba : f5 qba = .inl (cy 0, 1600, .inl (fun _ => 0)) := (congrFun e_f5 qba).trans (z_up_ne (Ne.symm ne_hs_qba) hf_qba)
  have hf_hs : f5 hs = .inr (9, [.ref qtp, .null, .null, .null, .null, .null, .null, .null, .null, .null, .null]) := (congrFun e_f5 hs).trans z_up_self
  have hfr : ∀ b ∈ L, b ≠ hs → f5 b = f b := fun b hb h0 => (congrFun e_f5 b).trans (z_up_ne h0 (hfr b hb h0))
  refine lv_aload_n hx hb dX9_init_15 rfl (lv_at hl 0 rfl) ?_
  refine z_new (C := RX2) (T := TX2) (N := 11) (ci := 2) (fs := [.int 0, .int 0, .int 0, .int 0, .int 0, .int 0, .int 0, .null, .null, .null, .null]) (cells := 2) (slots := 1602) hx hb hT zin_X2 tyX2_ok hown (hT _ kw_128) (hT _ kw_129) (hT _ kw_87) hK hw hA rfl (fun j hj => by rcases (show j = 0 ∨ j = 1 ∨ j = 2 ∨ j = 3 ∨ j = 4 ∨ j = 5 ∨ j = 6 ∨ j = 7 ∨ j = 8 ∨ j = 9 ∨ j = 10 by omega) with rfl | rfl | rfl | rfl | rfl | rfl | rfl | rfl | rfl | rfl | rfl <;> rfl) (by decide) (by decide) dX9_init_16 (fun qmo H hq_qmo hw => ?_)
  refine W.widen (k := 3) (n := 1613) (by decide) (by decide) ?_
  have ne_hs_qmo : hs ≠ qmo := z_ne hm_hs hq_qmo
  have ne_qtp_qmo : qtp ≠ qmo := z_ne hm_qtp hq_qmo
  have ne_qba_qmo : qba ≠ qmo := z_ne hm_qba hq_qmo
  have hn_qmo : qmo ∉ L := fun h => hq_qmo (hsub _ h)
  obtain ⟨f7, e_f7⟩ : ∃ z, z = va_up f5 qmo (.inr (2, [.int 0, .int 0, .int 0, .int 0, .int 0, .int 0, .int 0, .null, .null, .null, .null])) := ⟨_, rfl⟩
  obtain ⟨L6, e_L6⟩ : ∃ z, z = L3 ++ [qmo] := ⟨_, rfl⟩
  rw [← e_f7, ← e_L6] at hw
  have hm_hs : hs ∈ L6 := by rw [e_L6]; exact List.mem_append_left _ hm_hs
  have hf_hs : f7 hs = .inr (9, [.ref qtp, .null, .null, .null, .null, .null, .null, .null, .null, .null, .null]) := (congrFun e_f7 hs).trans (z_up_ne ne_hs_qmo hf_hs)
  have hm_qtp : qtp ∈ L6 := by rw [e_L6]; exact List.mem_append_left _ hm_qtp
  have hf_qtp : f7 qtp = .inr (7, [.ref qba, .int 0]) := (congrFun e_f7 qtp).trans (z_up_ne ne_qtp_qmo hf_qtp)
  have hm_qba : qba ∈ L6 := by rw [e_L6]; exact List.mem_append_left _ hm_qba
  have hf_qba : f7 qba = .inl (cy 0, 1600, .inl (fun _ => 0)) := (congrFun e_f7 qba).trans (z_up_ne ne_qba_qmo hf_qba)
  have hm_qmo : qmo ∈ L6 := by rw [e_L6]; exact List.mem_append_right _ (List.mem_singleton.mpr rfl)
  have hf_qmo : f7 qmo = .inr (2, [.int 0, .int 0, .int 0, .int 0, .int 0, .int 0, .int 0, .null, .null, .null, .null]) := (congrFun e_f7 qmo).trans z_up_self
  have hsub : ∀ b ∈ L, b ∈ L6 := fun b h => by rw [e_L6]; exact List.mem_append_left _ (hsub b h)
  have hfr : ∀ b ∈ L, b ≠ hs → f7 b = f b := fun b hb h0 => (congrFun e_f7 b).trans (z_up_ne (z_ne hb hn_qmo) (hfr b hb h0))
  refine lv_dup hx hb dX9_init_19 rfl ?_
  refine z_callvI (cells := 3) (slots := 1613) (b := qmo) (As := []) (rest := [.ref qmo, .ref hs]) ⟨hx, hb, hml, hown, hT⟩ (c_X2_init l hm_qmo hf_qmo) (cwI 0 hT (z_goodI (fun _ h => h) kw_132) rfl rfl rfl (hT _ kw_87) (hT _ kw_130) (hT _ kw_131) rfl (by decide +kernel) ⟨by decide, by decide⟩) z_mv hKK hw hA rfl hl.1 rfl (Nat.le_of_ble_eq_true rfl) dX9_init_20 ⟨by decide, by decide⟩ (fun u H locs hp hw => ?_)
  refine W.widen (k := 20) (n := 1775) (by decide) (by decide) ?_
  obtain ⟨L8, f9⟩ := u
  obtain ⟨hsb, hfm, qla, qsa, qmi, qda, ha_0, ⟨hq_qla, hm_qla, hf_qla⟩, ⟨hq_qsa, hm_qsa, hf_qsa⟩, ⟨hq_qmi, hm_qmi, hf_qmi⟩, hp⟩ := hp
  have hw : z_H D vwCl (z_A L sz) s.heap L8 f9 H locs := hw
  have ne_hs_qla : hs ≠ qla := z_ne hm_hs hq_qla
  have ne_qtp_qla : qtp ≠ qla := z_ne hm_qtp hq_qla
  have ne_qba_qla : qba ≠ qla := z_ne hm_qba hq_qla
  have ne_qmo_qla : qmo ≠ qla := z_ne hm_qmo hq_qla
  have ne_hs_qsa : hs ≠ qsa := z_ne hm_hs hq_qsa
  have ne_qtp_qsa : qtp ≠ qsa := z_ne hm_qtp hq_qsa
  have ne_qba_qsa : qba ≠ qsa := z_ne hm_qba hq_qsa
  have ne_qmo_qsa : qmo ≠ qsa := z_ne hm_qmo hq_qsa
  have ne_hs_qmi : hs ≠ qmi := z_ne hm_hs hq_qmi
  have ne_qtp_qmi : qtp ≠ qmi := z_ne hm_qtp hq_qmi
  have ne_qba_qmi : qba ≠ qmi := z_ne hm_qba hq_qmi
  have ne_qmo_qmi : qmo ≠ qmi := z_ne hm_qmo hq_qmi
  have hfr : ∀ b ∈ L, b ≠ hs → f9 b = f b := fun b hb h0 => (hfm b (hsub b hb) (z_ne hb hn_qmo)).trans (hfr b hb h0)
  have hn_qla : qla ∉ L := fun h => hq_qla (hsub _ h)
  have hn_qsa : qsa ∉ L := fun h => hq_qsa (hsub _ h)
  have hn_qmi : qmi ∉ L := fun h => hq_qmi (hsub _ h)
  have hsub : ∀ b ∈ L, b ∈ L8 := fun b h => hsb b (hsub b h)
  have hf_hs : f9 hs = .inr (9, [.ref qtp, .null, .null, .null, .null, .null, .null, .null, .null, .null, .null]) := (hfm hs hm_hs ne_hs_qmo).trans hf_hs
  have hf_qtp : f9 qtp = .inr (7, [.ref qba, .int 0]) := (hfm qtp hm_qtp ne_qtp_qmo).trans hf_qtp
  have hf_qba : f9 qba = .inl (cy 0, 1600, .inl (fun _ => 0)) := (hfm qba hm_qba ne_qba_qmo).trans hf_qba
  have hm_hs : hs ∈ L8 := hsb _ hm_hs
  have hm_qtp : qtp ∈ L8 := hsb _ hm_qtp
  have hm_qba : qba ∈ L8 := hsb _ hm_qba
  have hm_qmo : qmo ∈ L8 := hsb _ hm_qmo
  have hf_qmo : f9 qmo = .inr (2, [.int 0, .int 0, .int 0, .int 0, .int 0, .int 0, .int 0, .ref qla, .ref qsa, .ref qmi, .ref qda]) := ha_0
  have hf_qla : f9 qla = .inl (cy 1, 5, .inl (fun _ => 0)) := hf_qla
  have hm_qla : qla ∈ L8 := hm_qla
  have hf_qsa : f9 qsa = .inl (cy 1, 4, .inl (fun _ => 0)) := hf_qsa
  have hm_qsa : qsa ∈ L8 := hm_qsa
  have hf_qmi : f9 qmi = .inl (cy 1, 36, .inl (fun _ => 0)) := hf_qmi
  have hm_qmi : qmi ∈ L8 := hm_qmi
  refine z_putF (C := RX9) (T := TX9) (N := 11) (ci := 9) (v := .ref qmo) (fs' := [.ref qtp, .null, .ref qmo, .null, .null, .null, .null, .null, .null, .null, .null]) hx hb hT zin_X9 tyX9_ok nmX9 hown hK hw hm_hs hf_hs rfl 2 (by decide) (hT _ kw_479) rfl hnm rfl rfl rfl (Nat.le_of_ble_eq_true rfl) rfl dX9_init_23 (fun H locs hw => ?_)
  obtain ⟨f10, e_f10⟩ : ∃ z, z = va_up f9 hs (.inr (9, [.ref qtp, .null, .ref qmo, .null, .null, .null, .null, .null, .null, .null, .null])) := ⟨_, rfl⟩
  rw [← e_f10] at hw
  have hf_qtp : f10 qtp = .inr (7, [.ref qba, .int 0]) := (congrFun e_f10 qtp).trans (z_up_ne (Ne.symm ne_hs_qtp) hf_qtp)
  have hf_qba : f10 qba = .inl (cy 0, 1600, .inl (fun _ => 0)) := (congrFun e_f10 qba).trans (z_up_ne (Ne.symm ne_hs_qba) hf_qba)
  have hf_qmo : f10 qmo = .inr (2, [.int 0, .int 0, .int 0, .int 0, .int 0, .int 0, .int 0, .ref qla, .ref qsa, .ref qmi, .ref qda]) := (congrFun e_f10 qmo).trans (z_up_ne (Ne.symm ne_hs_qmo) hf_qmo)
  have hf_qla : f10 qla = .inl (cy 1, 5, .inl (fun _ => 0)) := (congrFun e_f10 qla).trans (z_up_ne (Ne.symm ne_hs_qla) hf_qla)
  have hf_qsa : f10 qsa = .inl (cy 1, 4, .inl (fun _ => 0)) := (congrFun e_f10 qsa).trans (z_up_ne (Ne.symm ne_hs_qsa) hf_qsa)
  have hf_qmi : f10 qmi = .inl (cy 1, 36, .inl (fun _ => 0)) := (congrFun e_f10 qmi).trans (z_up_ne (Ne.symm ne_hs_qmi) hf_qmi)
  have hf_hs : f10 hs = .inr (9, [.ref qtp, .null, .ref qmo, .null, .null, .null, .null, .null, .null, .null, .null]) := (congrFun e_f10 hs).trans z_up_self
  have hfr : ∀ b ∈ L, b ≠ hs → f10 b = f b := fun b hb h0 => (congrFun e_f10 b).trans (z_up_ne h0 (hfr b hb h0))
  refine lv_aload_n hx hb dX9_init_26 rfl (lv_at hl 0 rfl) ?_
  refine z_new (C := RX2) (T := TX2) (N := 11) (ci := 2) (fs := [.int 0, .int 0, .int 0, .int 0, .int 0, .int 0, .int 0, .null, .null, .null, .null]) (cells := 20) (slots := 1775) hx hb hT zin_X2 tyX2_ok hown (hT _ kw_128) (hT _ kw_129) (hT _ kw_87) hK hw hA rfl (fun j hj => by rcases (show j = 0 ∨ j = 1 ∨ j = 2 ∨ j = 3 ∨ j = 4 ∨ j = 5 ∨ j = 6 ∨ j = 7 ∨ j = 8 ∨ j = 9 ∨ j = 10 by omega) with rfl | rfl | rfl | rfl | rfl | rfl | rfl | rfl | rfl | rfl | rfl <;> rfl) (by decide) (by decide) dX9_init_27 (fun qdr H hq_qdr hw => ?_)
  refine W.widen (k := 21) (n := 1786) (by decide) (by decide) ?_
  have ne_hs_qdr : hs ≠ qdr := z_ne hm_hs hq_qdr
  have ne_qtp_qdr : qtp ≠ qdr := z_ne hm_qtp hq_qdr
  have ne_qba_qdr : qba ≠ qdr := z_ne hm_qba hq_qdr
  have ne_qmo_qdr : qmo ≠ qdr := z_ne hm_qmo hq_qdr
  have ne_qla_qdr : qla ≠ qdr := z_ne hm_qla hq_qdr
  have ne_qsa_qdr : qsa ≠ qdr := z_ne hm_qsa hq_qdr
  have ne_qmi_qdr : qmi ≠ qdr := z_ne hm_qmi hq_qdr
  have hn_qdr : qdr ∉ L := fun h => hq_qdr (hsub _ h)
  obtain ⟨f12, e_f12⟩ : ∃ z, z = va_up f10 qdr (.inr (2, [.int 0, .int 0, .int 0, .int 0, .int 0, .int 0, .int 0, .null, .null, .null, .null])) := ⟨_, rfl⟩
  obtain ⟨L11, e_L11⟩ : ∃ z, z = L8 ++ [qdr] := ⟨_, rfl⟩
  rw [← e_f12, ← e_L11] at hw
  have hm_hs : hs ∈ L11 := by rw [e_L11]; exact List.mem_append_left _ hm_hs
  have hf_hs : f12 hs = .inr (9, [.ref qtp, .null, .ref qmo, .null, .null, .null, .null, .null, .null, .null, .null]) := (congrFun e_f12 hs).trans (z_up_ne ne_hs_qdr hf_hs)
  have hm_qtp : qtp ∈ L11 := by rw [e_L11]; exact List.mem_append_left _ hm_qtp
  have hf_qtp : f12 qtp = .inr (7, [.ref qba, .int 0]) := (congrFun e_f12 qtp).trans (z_up_ne ne_qtp_qdr hf_qtp)
  have hm_qba : qba ∈ L11 := by rw [e_L11]; exact List.mem_append_left _ hm_qba
  have hf_qba : f12 qba = .inl (cy 0, 1600, .inl (fun _ => 0)) := (congrFun e_f12 qba).trans (z_up_ne ne_qba_qdr hf_qba)
  have hm_qmo : qmo ∈ L11 := by rw [e_L11]; exact List.mem_append_left _ hm_qmo
  have hf_qmo : f12 qmo = .inr (2, [.int 0, .int 0, .int 0, .int 0, .int 0, .int 0, .int 0, .ref qla, .ref qsa, .ref qmi, .ref qda]) := (congrFun e_f12 qmo).trans (z_up_ne ne_qmo_qdr hf_qmo)
  have hm_qla : qla ∈ L11 := by rw [e_L11]; exact List.mem_append_left _ hm_qla
  have hf_qla : f12 qla = .inl (cy 1, 5, .inl (fun _ => 0)) := (congrFun e_f12 qla).trans (z_up_ne ne_qla_qdr hf_qla)
  have hm_qsa : qsa ∈ L11 := by rw [e_L11]; exact List.mem_append_left _ hm_qsa
  have hf_qsa : f12 qsa = .inl (cy 1, 4, .inl (fun _ => 0)) := (congrFun e_f12 qsa).trans (z_up_ne ne_qsa_qdr hf_qsa)
  have hm_qmi : qmi ∈ L11 := by rw [e_L11]; exact List.mem_append_left _ hm_qmi
  have hf_qmi : f12 qmi = .inl (cy 1, 36, .inl (fun _ => 0)) := (congrFun e_f12 qmi).trans (z_up_ne ne_qmi_qdr hf_qmi)
  have hm_qdr : qdr ∈ L11 := by rw [e_L11]; exact List.mem_append_right _ (List.mem_singleton.mpr rfl)
  have hf_qdr : f12 qdr = .inr (2, [.int 0, .int 0, .int 0, .int 0, .int 0, .int 0, .int 0, .null, .null, .null, .null]) := (congrFun e_f12 qdr).trans z_up_self
  have hsub : ∀ b ∈ L, b ∈ L11 := fun b h => by rw [e_L11]; exact List.mem_append_left _ (hsub b h)
  have hfr : ∀ b ∈ L, b ≠ hs → f12 b = f b := fun b hb h0 => (congrFun e_f12 b).trans (z_up_ne (z_ne hb hn_qdr) (hfr b hb h0))
  refine lv_dup hx hb dX9_init_30 rfl ?_
  refine z_callvI (cells := 21) (slots := 1786) (b := qdr) (As := []) (rest := [.ref qdr, .ref hs]) ⟨hx, hb, hml, hown, hT⟩ (c_X2_init l hm_qdr hf_qdr) (cwI 0 hT (z_goodI (fun _ h => h) kw_132) rfl rfl rfl (hT _ kw_87) (hT _ kw_130) (hT _ kw_131) rfl (by decide +kernel) ⟨by decide, by decide⟩) z_mv hKK hw hA rfl hl.1 rfl (Nat.le_of_ble_eq_true rfl) dX9_init_31 ⟨by decide, by decide⟩ (fun u H locs hp hw => ?_)
  refine W.widen (k := 38) (n := 1948) (by decide) (by decide) ?_
  obtain ⟨L13, f14⟩ := u
  obtain ⟨hsb, hfm, qxla, qxsa, qxmi, qxda, ha_0, ⟨hq_qxla, hm_qxla, hf_qxla⟩, ⟨hq_qxsa, hm_qxsa, hf_qxsa⟩, ⟨hq_qxmi, hm_qxmi, hf_qxmi⟩, hp⟩ := hp
  have hw : z_H D vwCl (z_A L sz) s.heap L13 f14 H locs := hw
  have ne_hs_qxla : hs ≠ qxla := z_ne hm_hs hq_qxla
  have ne_qtp_qxla : qtp ≠ qxla := z_ne hm_qtp hq_qxla
  have ne_qba_qxla : qba ≠ qxla := z_ne hm_qba hq_qxla
  have ne_qmo_qxla : qmo ≠ qxla := z_ne hm_qmo hq_qxla
  have ne_qla_qxla : qla ≠ qxla := z_ne hm_qla hq_qxla
  have ne_qsa_qxla : qsa ≠ qxla := z_ne hm_qsa hq_qxla
  have ne_qmi_qxla : qmi ≠ qxla := z_ne hm_qmi hq_qxla
  have ne_qdr_qxla : qdr ≠ qxla := z_ne hm_qdr hq_qxla
  have ne_hs_qxsa : hs ≠ qxsa := z_ne hm_hs hq_qxsa
  have ne_qtp_qxsa : qtp ≠ qxsa := z_ne hm_qtp hq_qxsa
  have ne_qba_qxsa : qba ≠ qxsa := z_ne hm_qba hq_qxsa
  have ne_qmo_qxsa : qmo ≠ qxsa := z_ne hm_qmo hq_qxsa
  have ne_qla_qxsa : qla ≠ qxsa := z_ne hm_qla hq_qxsa
  have ne_qsa_qxsa : qsa ≠ qxsa := z_ne hm_qsa hq_qxsa
  have ne_qmi_qxsa : qmi ≠ qxsa := z_ne hm_qmi hq_qxsa
  have ne_qdr_qxsa : qdr ≠ qxsa := z_ne hm_qdr hq_qxsa
  have ne_hs_qxmi : hs ≠ qxmi := z_ne hm_hs hq_qxmi
  have ne_qtp_qxmi : qtp ≠ qxmi := z_ne hm_qtp hq_qxmi
  have ne_qba_qxmi : qba ≠ qxmi := z_ne hm_qba hq_qxmi
  have ne_qmo_qxmi : qmo ≠ qxmi := z_ne hm_qmo hq_qxmi
  have ne_qla_qxmi : qla ≠ qxmi := z_ne hm_qla hq_qxmi
  have ne_qsa_qxmi : qsa ≠ qxmi := z_ne hm_qsa hq_qxmi
  have ne_qmi_qxmi : qmi ≠ qxmi := z_ne hm_qmi hq_qxmi
  have ne_qdr_qxmi : qdr ≠ qxmi := z_ne hm_qdr hq_qxmi
  have hfr : ∀ b ∈ L, b ≠ hs → f14 b = f b := fun b hb h0 => (hfm b (hsub b hb) (z_ne hb hn_qdr)).trans (hfr b hb h0)
  have hn_qxla : qxla ∉ L := fun h => hq_qxla (hsub _ h)
  have hn_qxsa : qxsa ∉ L := fun h => hq_qxsa (hsub _ h)
  have hn_qxmi : qxmi ∉ L := fun h => hq_qxmi (hsub _ h)
  have hsub : ∀ b ∈ L, b ∈ L13 := fun b h => hsb b (hsub b h)
  have hf_hs : f14 hs = .inr (9, [.ref qtp, .null, .ref qmo, .null, .null, .null, .null, .null, .null, .null, .null]) := (hfm hs hm_hs ne_hs_qdr).trans hf_hs
  have hf_qtp : f14 qtp = .inr (7, [.ref qba, .int 0]) := (hfm qtp hm_qtp ne_qtp_qdr).trans hf_qtp
  have hf_qba : f14 qba = .inl (cy 0, 1600, .inl (fun _ => 0)) := (hfm qba hm_qba ne_qba_qdr).trans hf_qba
  have hf_qmo : f14 qmo = .inr (2, [.int 0, .int 0, .int 0, .int 0, .int 0, .int 0, .int 0, .ref qla, .ref qsa, .ref qmi, .ref qda]) := (hfm qmo hm_qmo ne_qmo_qdr).trans hf_qmo
  have hf_qla : f14 qla = .inl (cy 1, 5, .inl (fun _ => 0)) := (hfm qla hm_qla ne_qla_qdr).trans hf_qla
  have hf_qsa : f14 qsa = .inl (cy 1, 4, .inl (fun _ => 0)) := (hfm qsa hm_qsa ne_qsa_qdr).trans hf_qsa
  have hf_qmi : f14 qmi = .inl (cy 1, 36, .inl (fun _ => 0)) := (hfm qmi hm_qmi ne_qmi_qdr).trans hf_qmi
  have hm_hs : hs ∈ L13 := hsb _ hm_hs
  have hm_qtp : qtp ∈ L13 := hsb _ hm_qtp
  have hm_qba : qba ∈ L13 := hsb _ hm_qba
  have hm_qmo : qmo ∈ L13 := hsb _ hm_qmo
  have hm_qla : qla ∈ L13 := hsb _ hm_qla
  have hm_qsa : qsa ∈ L13 := hsb _ hm_qsa
  have hm_qmi : qmi ∈ L13 := hsb _ hm_qmi
  have hm_qdr : qdr ∈ L13 := hsb _ hm_qdr
  have hf_qdr : f14 qdr = .inr (2, [.int 0, .int 0, .int 0, .int 0, .int 0, .int 0, .int 0, .ref qxla, .ref qxsa, .ref qxmi, .ref qxda]) := ha_0
  have hf_qxla : f14 qxla = .inl (cy 1, 5, .inl (fun _ => 0)) := hf_qxla
  have hm_qxla : qxla ∈ L13 := hm_qxla
  have hf_qxsa : f14 qxsa = .inl (cy 1, 4, .inl (fun _ => 0)) := hf_qxsa
  have hm_qxsa : qxsa ∈ L13 := hm_qxsa
  have hf_qxmi : f14 qxmi = .inl (cy 1, 36, .inl (fun _ => 0)) := hf_qxmi
  have hm_qxmi : qxmi ∈ L13 := hm_qxmi
  refine z_putF (C := RX9) (T := TX9) (N := 11) (ci := 9) (v := .ref qdr) (fs' := [.ref qtp, .null, .ref qmo, .ref qdr, .null, .null, .null, .null, .null, .null, .null]) hx hb hT zin_X9 tyX9_ok nmX9 hown hK hw hm_hs hf_hs rfl 3 (by decide) (hT _ kw_480) rfl hnm rfl rfl rfl (Nat.le_of_ble_eq_true rfl) rfl dX9_init_34 (fun H locs hw => ?_)
  obtain ⟨f15, e_f15⟩ : ∃ z, z = va_up f14 hs (.inr (9, [.ref qtp, .null, .ref qmo, .ref qdr, .null, .null, .null, .null, .null, .null, .null])) := ⟨_, rfl⟩
  rw [← e_f15] at hw
  have hf_qtp : f15 qtp = .inr (7, [.ref qba, .int 0]) := (congrFun e_f15 qtp).trans (z_up_ne (Ne.symm ne_hs_qtp) hf_qtp)
  have hf_qba : f15 qba = .inl (cy 0, 1600, .inl (fun _ => 0)) := (congrFun e_f15 qba).trans (z_up_ne (Ne.symm ne_hs_qba) hf_qba)
  have hf_qmo : f15 qmo = .inr (2, [.int 0, .int 0, .int 0, .int 0, .int 0, .int 0, .int 0, .ref qla, .ref qsa, .ref qmi, .ref qda]) := (congrFun e_f15 qmo).trans (z_up_ne (Ne.symm ne_hs_qmo) hf_qmo)
  have hf_qla : f15 qla = .inl (cy 1, 5, .inl (fun _ => 0)) := (congrFun e_f15 qla).trans (z_up_ne (Ne.symm ne_hs_qla) hf_qla)
  have hf_qsa : f15 qsa = .inl (cy 1, 4, .inl (fun _ => 0)) := (congrFun e_f15 qsa).trans (z_up_ne (Ne.symm ne_hs_qsa) hf_qsa)
  have hf_qmi : f15 qmi = .inl (cy 1, 36, .inl (fun _ => 0)) := (congrFun e_f15 qmi).trans (z_up_ne (Ne.symm ne_hs_qmi) hf_qmi)
  have hf_qdr : f15 qdr = .inr (2, [.int 0, .int 0, .int 0, .int 0, .int 0, .int 0, .int 0, .ref qxla, .ref qxsa, .ref qxmi, .ref qxda]) := (congrFun e_f15 qdr).trans (z_up_ne (Ne.symm ne_hs_qdr) hf_qdr)
  have hf_qxla : f15 qxla = .inl (cy 1, 5, .inl (fun _ => 0)) := (congrFun e_f15 qxla).trans (z_up_ne (Ne.symm ne_hs_qxla) hf_qxla)
  have hf_qxsa : f15 qxsa = .inl (cy 1, 4, .inl (fun _ => 0)) := (congrFun e_f15 qxsa).trans (z_up_ne (Ne.symm ne_hs_qxsa) hf_qxsa)
  have hf_qxmi : f15 qxmi = .inl (cy 1, 36, .inl (fun _ => 0)) := (congrFun e_f15 qxmi).trans (z_up_ne (Ne.symm ne_hs_qxmi) hf_qxmi)
  have hf_hs : f15 hs = .inr (9, [.ref qtp, .null, .ref qmo, .ref qdr, .null, .null, .null, .null, .null, .null, .null]) := (congrFun e_f15 hs).trans z_up_self
  have hfr : ∀ b ∈ L, b ≠ hs → f15 b = f b := fun b hb h0 => (congrFun e_f15 b).trans (z_up_ne h0 (hfr b hb h0))
  refine lv_aload_n hx hb dX9_init_37 rfl (lv_at hl 0 rfl) ?_
  refine z_new (C := RX5) (T := TX5) (N := 9) (ci := 5) (fs := [.int 0, .int 0, .null, .null, .int 0, .int 0, .int 0, .int 0, .int 0]) (cells := 38) (slots := 1948) hx hb hT zin_X5 tyX5_ok hown (hT _ kw_271) (hT _ kw_272) (hT _ kw_89) hK hw hA rfl (fun j hj => by rcases (show j = 0 ∨ j = 1 ∨ j = 2 ∨ j = 3 ∨ j = 4 ∨ j = 5 ∨ j = 6 ∨ j = 7 ∨ j = 8 by omega) with rfl | rfl | rfl | rfl | rfl | rfl | rfl | rfl | rfl <;> rfl) (by decide) (by decide) dX9_init_38 (fun qrd H hq_qrd hw => ?_)
  refine W.widen (k := 39) (n := 1957) (by decide) (by decide) ?_
  have ne_hs_qrd : hs ≠ qrd := z_ne hm_hs hq_qrd
  have ne_qtp_qrd : qtp ≠ qrd := z_ne hm_qtp hq_qrd
  have ne_qba_qrd : qba ≠ qrd := z_ne hm_qba hq_qrd
  have ne_qmo_qrd : qmo ≠ qrd := z_ne hm_qmo hq_qrd
  have ne_qla_qrd : qla ≠ qrd := z_ne hm_qla hq_qrd
  have ne_qsa_qrd : qsa ≠ qrd := z_ne hm_qsa hq_qrd
  have ne_qmi_qrd : qmi ≠ qrd := z_ne hm_qmi hq_qrd
  have ne_qdr_qrd : qdr ≠ qrd := z_ne hm_qdr hq_qrd
  have ne_qxla_qrd : qxla ≠ qrd := z_ne hm_qxla hq_qrd
  have ne_qxsa_qrd : qxsa ≠ qrd := z_ne hm_qxsa hq_qrd
  have ne_qxmi_qrd : qxmi ≠ qrd := z_ne hm_qxmi hq_qrd
  have hn_qrd : qrd ∉ L := fun h => hq_qrd (hsub _ h)
  obtain ⟨f17, e_f17⟩ : ∃ z, z = va_up f15 qrd (.inr (5, [.int 0, .int 0, .null, .null, .int 0, .int 0, .int 0, .int 0, .int 0])) := ⟨_, rfl⟩
  obtain ⟨L16, e_L16⟩ : ∃ z, z = L13 ++ [qrd] := ⟨_, rfl⟩
  rw [← e_f17, ← e_L16] at hw
  have hm_hs : hs ∈ L16 := by rw [e_L16]; exact List.mem_append_left _ hm_hs
  have hf_hs : f17 hs = .inr (9, [.ref qtp, .null, .ref qmo, .ref qdr, .null, .null, .null, .null, .null, .null, .null]) := (congrFun e_f17 hs).trans (z_up_ne ne_hs_qrd hf_hs)
  have hm_qtp : qtp ∈ L16 := by rw [e_L16]; exact List.mem_append_left _ hm_qtp
  have hf_qtp : f17 qtp = .inr (7, [.ref qba, .int 0]) := (congrFun e_f17 qtp).trans (z_up_ne ne_qtp_qrd hf_qtp)
  have hm_qba : qba ∈ L16 := by rw [e_L16]; exact List.mem_append_left _ hm_qba
  have hf_qba : f17 qba = .inl (cy 0, 1600, .inl (fun _ => 0)) := (congrFun e_f17 qba).trans (z_up_ne ne_qba_qrd hf_qba)
  have hm_qmo : qmo ∈ L16 := by rw [e_L16]; exact List.mem_append_left _ hm_qmo
  have hf_qmo : f17 qmo = .inr (2, [.int 0, .int 0, .int 0, .int 0, .int 0, .int 0, .int 0, .ref qla, .ref qsa, .ref qmi, .ref qda]) := (congrFun e_f17 qmo).trans (z_up_ne ne_qmo_qrd hf_qmo)
  have hm_qla : qla ∈ L16 := by rw [e_L16]; exact List.mem_append_left _ hm_qla
  have hf_qla : f17 qla = .inl (cy 1, 5, .inl (fun _ => 0)) := (congrFun e_f17 qla).trans (z_up_ne ne_qla_qrd hf_qla)
  have hm_qsa : qsa ∈ L16 := by rw [e_L16]; exact List.mem_append_left _ hm_qsa
  have hf_qsa : f17 qsa = .inl (cy 1, 4, .inl (fun _ => 0)) := (congrFun e_f17 qsa).trans (z_up_ne ne_qsa_qrd hf_qsa)
  have hm_qmi : qmi ∈ L16 := by rw [e_L16]; exact List.mem_append_left _ hm_qmi
  have hf_qmi : f17 qmi = .inl (cy 1, 36, .inl (fun _ => 0)) := (congrFun e_f17 qmi).trans (z_up_ne ne_qmi_qrd hf_qmi)
  have hm_qdr : qdr ∈ L16 := by rw [e_L16]; exact List.mem_append_left _ hm_qdr
  have hf_qdr : f17 qdr = .inr (2, [.int 0, .int 0, .int 0, .int 0, .int 0, .int 0, .int 0, .ref qxla, .ref qxsa, .ref qxmi, .ref qxda]) := (congrFun e_f17 qdr).trans (z_up_ne ne_qdr_qrd hf_qdr)
  have hm_qxla : qxla ∈ L16 := by rw [e_L16]; exact List.mem_append_left _ hm_qxla
  have hf_qxla : f17 qxla = .inl (cy 1, 5, .inl (fun _ => 0)) := (congrFun e_f17 qxla).trans (z_up_ne ne_qxla_qrd hf_qxla)
  have hm_qxsa : qxsa ∈ L16 := by rw [e_L16]; exact List.mem_append_left _ hm_qxsa
  have hf_qxsa : f17 qxsa = .inl (cy 1, 4, .inl (fun _ => 0)) := (congrFun e_f17 qxsa).trans (z_up_ne ne_qxsa_qrd hf_qxsa)
  have hm_qxmi : qxmi ∈ L16 := by rw [e_L16]; exact List.mem_append_left _ hm_qxmi
  have hf_qxmi : f17 qxmi = .inl (cy 1, 36, .inl (fun _ => 0)) := (congrFun e_f17 qxmi).trans (z_up_ne ne_qxmi_qrd hf_qxmi)
  have hm_qrd : qrd ∈ L16 := by rw [e_L16]; exact List.mem_append_right _ (List.mem_singleton.mpr rfl)
  have hf_qrd : f17 qrd = .inr (5, [.int 0, .int 0, .null, .null, .int 0, .int 0, .int 0, .int 0, .int 0]) := (congrFun e_f17 qrd).trans z_up_self
  have hsub : ∀ b ∈ L, b ∈ L16 := fun b h => by rw [e_L16]; exact List.mem_append_left _ (hsub b h)
  have hfr : ∀ b ∈ L, b ≠ hs → f17 b = f b := fun b hb h0 => (congrFun e_f17 b).trans (z_up_ne (z_ne hb hn_qrd) (hfr b hb h0))
  refine lv_dup hx hb dX9_init_41 rfl ?_
  refine lv_aload_n hx hb dX9_init_42 rfl (lv_at hl 0 rfl) ?_
  refine z_get (C := RX9) (T := TX9) (N := 11) (ci := 9) (v := .ref qtp) hx hb hT zin_X9 hown hK hw hm_hs hf_hs rfl 0 (by decide) (hT _ kw_477) rfl dX9_init_43 ?_
  refine lv_aload_n hx hb dX9_init_46 rfl (lv_at hl 0 rfl) ?_
  refine z_get (C := RX9) (T := TX9) (N := 11) (ci := 9) (v := .ref qdr) hx hb hT zin_X9 hown hK hw hm_hs hf_hs rfl 3 (by decide) (hT _ kw_480) rfl dX9_init_47 ?_
  refine z_callvI (cells := 39) (slots := 1957) (b := qrd) (As := [.ref qtp, .ref qdr]) (rest := [.ref qrd, .ref hs]) ⟨hx, hb, hml, hown, hT⟩ (c_X5_init l hm_qrd hf_qrd) (cwI 2 hT (z_goodI (fun _ h => h) kw_275) rfl rfl rfl (hT _ kw_89) (hT _ kw_273) (hT _ kw_274) rfl (by decide +kernel) ⟨by decide, by decide⟩) z_mv hKK hw hA rfl hl.1 rfl (Nat.le_of_ble_eq_true rfl) dX9_init_50 ⟨by decide, by decide⟩ (fun u H locs hp hw => ?_)
  obtain ⟨L18, f19⟩ := u
  obtain ⟨hsb, hfm, ha_0, hp⟩ := hp
  have hw : z_H D vwCl (z_A L sz) s.heap L18 f19 H locs := hw
  have hfr : ∀ b ∈ L, b ≠ hs → f19 b = f b := fun b hb h0 => (hfm b (hsub b hb) (z_ne hb hn_qrd)).trans (hfr b hb h0)
  have hsub : ∀ b ∈ L, b ∈ L18 := fun b h => hsb b (hsub b h)
  have hf_hs : f19 hs = .inr (9, [.ref qtp, .null, .ref qmo, .ref qdr, .null, .null, .null, .null, .null, .null, .null]) := (hfm hs hm_hs ne_hs_qrd).trans hf_hs
  have hf_qtp : f19 qtp = .inr (7, [.ref qba, .int 0]) := (hfm qtp hm_qtp ne_qtp_qrd).trans hf_qtp
  have hf_qba : f19 qba = .inl (cy 0, 1600, .inl (fun _ => 0)) := (hfm qba hm_qba ne_qba_qrd).trans hf_qba
  have hf_qmo : f19 qmo = .inr (2, [.int 0, .int 0, .int 0, .int 0, .int 0, .int 0, .int 0, .ref qla, .ref qsa, .ref qmi, .ref qda]) := (hfm qmo hm_qmo ne_qmo_qrd).trans hf_qmo
  have hf_qla : f19 qla = .inl (cy 1, 5, .inl (fun _ => 0)) := (hfm qla hm_qla ne_qla_qrd).trans hf_qla
  have hf_qsa : f19 qsa = .inl (cy 1, 4, .inl (fun _ => 0)) := (hfm qsa hm_qsa ne_qsa_qrd).trans hf_qsa
  have hf_qmi : f19 qmi = .inl (cy 1, 36, .inl (fun _ => 0)) := (hfm qmi hm_qmi ne_qmi_qrd).trans hf_qmi
  have hf_qdr : f19 qdr = .inr (2, [.int 0, .int 0, .int 0, .int 0, .int 0, .int 0, .int 0, .ref qxla, .ref qxsa, .ref qxmi, .ref qxda]) := (hfm qdr hm_qdr ne_qdr_qrd).trans hf_qdr
  have hf_qxla : f19 qxla = .inl (cy 1, 5, .inl (fun _ => 0)) := (hfm qxla hm_qxla ne_qxla_qrd).trans hf_qxla
  have hf_qxsa : f19 qxsa = .inl (cy 1, 4, .inl (fun _ => 0)) := (hfm qxsa hm_qxsa ne_qxsa_qrd).trans hf_qxsa
  have hf_qxmi : f19 qxmi = .inl (cy 1, 36, .inl (fun _ => 0)) := (hfm qxmi hm_qxmi ne_qxmi_qrd).trans hf_qxmi
  have hm_hs : hs ∈ L18 := hsb _ hm_hs
  have hm_qtp : qtp ∈ L18 := hsb _ hm_qtp
  have hm_qba : qba ∈ L18 := hsb _ hm_qba
  have hm_qmo : qmo ∈ L18 := hsb _ hm_qmo
  have hm_qla : qla ∈ L18 := hsb _ hm_qla
  have hm_qsa : qsa ∈ L18 := hsb _ hm_qsa
  have hm_qmi : qmi ∈ L18 := hsb _ hm_qmi
  have hm_qdr : qdr ∈ L18 := hsb _ hm_qdr
  have hm_qxla : qxla ∈ L18 := hsb _ hm_qxla
  have hm_qxsa : qxsa ∈ L18 := hsb _ hm_qxsa
  have hm_qxmi : qxmi ∈ L18 := hsb _ hm_qxmi
  have hm_qrd : qrd ∈ L18 := hsb _ hm_qrd
  have hf_qrd : f19 qrd = .inr (5, [.int 0, .int (-1), .ref qtp, .ref qdr, .int 0, .int 0, .int 0, .int 0, .int 0]) := ha_0
  refine z_putF (C := RX9) (T := TX9) (N := 11) (ci := 9) (v := .ref qrd) (fs' := [.ref qtp, .ref qrd, .ref qmo, .ref qdr, .null, .null, .null, .null, .null, .null, .null]) hx hb hT zin_X9 tyX9_ok nmX9 hown hK hw hm_hs hf_hs rfl 1 (by decide) (hT _ kw_478) rfl hnm rfl rfl rfl (Nat.le_of_ble_eq_true rfl) rfl dX9_init_53 (fun H locs hw => ?_)
  obtain ⟨f20, e_f20⟩ : ∃ z, z = va_up f19 hs (.inr (9, [.ref qtp, .ref qrd, .ref qmo, .ref qdr, .null, .null, .null, .null, .null, .null, .null])) := ⟨_, rfl⟩
  rw [← e_f20] at hw
  have hf_qtp : f20 qtp = .inr (7, [.ref qba, .int 0]) := (congrFun e_f20 qtp).trans (z_up_ne (Ne.symm ne_hs_qtp) hf_qtp)
  have hf_qba : f20 qba = .inl (cy 0, 1600, .inl (fun _ => 0)) := (congrFun e_f20 qba).trans (z_up_ne (Ne.symm ne_hs_qba) hf_qba)
  have hf_qmo : f20 qmo = .inr (2, [.int 0, .int 0, .int 0, .int 0, .int 0, .int 0, .int 0, .ref qla, .ref qsa, .ref qmi, .ref qda]) := (congrFun e_f20 qmo).trans (z_up_ne (Ne.symm ne_hs_qmo) hf_qmo)
  have hf_qla : f20 qla = .inl (cy 1, 5, .inl (fun _ => 0)) := (congrFun e_f20 qla).trans (z_up_ne (Ne.symm ne_hs_qla) hf_qla)
  have hf_qsa : f20 qsa = .inl (cy 1, 4, .inl (fun _ => 0)) := (congrFun e_f20 qsa).trans (z_up_ne (Ne.symm ne_hs_qsa) hf_qsa)
  have hf_qmi : f20 qmi = .inl (cy 1, 36, .inl (fun _ => 0)) := (congrFun e_f20 qmi).trans (z_up_ne (Ne.symm ne_hs_qmi) hf_qmi)
  have hf_qdr : f20 qdr = .inr (2, [.int 0, .int 0, .int 0, .int 0, .int 0, .int 0, .int 0, .ref qxla, .ref qxsa, .ref qxmi, .ref qxda]) := (congrFun e_f20 qdr).trans (z_up_ne (Ne.symm ne_hs_qdr) hf_qdr)
  have hf_qxla : f20 qxla = .inl (cy 1, 5, .inl (fun _ => 0)) := (congrFun e_f20 qxla).trans (z_up_ne (Ne.symm ne_hs_qxla) hf_qxla)
  have hf_qxsa : f20 qxsa = .inl (cy 1, 4, .inl (fun _ => 0)) := (congrFun e_f20 qxsa).trans (z_up_ne (Ne.symm ne_hs_qxsa) hf_qxsa)
  have hf_qxmi : f20 qxmi = .inl (cy 1, 36, .inl (fun _ => 0)) := (congrFun e_f20 qxmi).trans (z_up_ne (Ne.symm ne_hs_qxmi) hf_qxmi)
  have hf_qrd : f20 qrd = .inr (5, [.int 0, .int (-1), .ref qtp, .ref qdr, .int 0, .int 0, .int 0, .int 0, .int 0]) := (congrFun e_f20 qrd).trans (z_up_ne (Ne.symm ne_hs_qrd) hf_qrd)
  have hf_hs : f20 hs = .inr (9, [.ref qtp, .ref qrd, .ref qmo, .ref qdr, .null, .null, .null, .null, .null, .null, .null]) := (congrFun e_f20 hs).trans z_up_self
  have hfr : ∀ b ∈ L, b ≠ hs → f20 b = f b := fun b hb h0 => (congrFun e_f20 b).trans (z_up_ne h0 (hfr b hb h0))
  refine lv_aload_n hx hb dX9_init_56 rfl (lv_at hl 0 rfl) ?_
  refine lv_iconst (v := 3) hx hb dX9_init_57 (by decide) ?_
  refine z_newq (n := 3) (N' := 3) (C := RX2) (cells := 39) (slots := 1957) hx hb hown (hT _ kw_128) hKK.2.2.1 5 rfl hK hw hA (by decide) (by decide) (by decide) (by decide) (by decide) dX9_init_58 (fun qim H hq_qim hw => ?_)
  refine W.widen (k := 40) (n := 1960) (by decide) (by decide) ?_
  have ne_hs_qim : hs ≠ qim := z_ne hm_hs hq_qim
  have ne_qtp_qim : qtp ≠ qim := z_ne hm_qtp hq_qim
  have ne_qba_qim : qba ≠ qim := z_ne hm_qba hq_qim
  have ne_qmo_qim : qmo ≠ qim := z_ne hm_qmo hq_qim
  have ne_qla_qim : qla ≠ qim := z_ne hm_qla hq_qim
  have ne_qsa_qim : qsa ≠ qim := z_ne hm_qsa hq_qim
  have ne_qmi_qim : qmi ≠ qim := z_ne hm_qmi hq_qim
  have ne_qdr_qim : qdr ≠ qim := z_ne hm_qdr hq_qim
  have ne_qxla_qim : qxla ≠ qim := z_ne hm_qxla hq_qim
  have ne_qxsa_qim : qxsa ≠ qim := z_ne hm_qxsa hq_qim
  have ne_qxmi_qim : qxmi ≠ qim := z_ne hm_qxmi hq_qim
  have ne_qrd_qim : qrd ≠ qim := z_ne hm_qrd hq_qim
  have hn_qim : qim ∉ L := fun h => hq_qim (hsub _ h)
  obtain ⟨f22, e_f22⟩ : ∃ z, z = va_up f20 qim (.inl (cy 5, 3, .inr (.inr (.inr (.inr (fun _ => none)))))) := ⟨_, rfl⟩
  obtain ⟨L21, e_L21⟩ : ∃ z, z = L18 ++ [qim] := ⟨_, rfl⟩
  rw [← e_f22, ← e_L21] at hw
  have hm_hs : hs ∈ L21 := by rw [e_L21]; exact List.mem_append_left _ hm_hs
  have hf_hs : f22 hs = .inr (9, [.ref qtp, .ref qrd, .ref qmo, .ref qdr, .null, .null, .null, .null, .null, .null, .null]) := (congrFun e_f22 hs).trans (z_up_ne ne_hs_qim hf_hs)
  have hm_qtp : qtp ∈ L21 := by rw [e_L21]; exact List.mem_append_left _ hm_qtp
  have hf_qtp : f22 qtp = .inr (7, [.ref qba, .int 0]) := (congrFun e_f22 qtp).trans (z_up_ne ne_qtp_qim hf_qtp)
  have hm_qba : qba ∈ L21 := by rw [e_L21]; exact List.mem_append_left _ hm_qba
  have hf_qba : f22 qba = .inl (cy 0, 1600, .inl (fun _ => 0)) := (congrFun e_f22 qba).trans (z_up_ne ne_qba_qim hf_qba)
  have hm_qmo : qmo ∈ L21 := by rw [e_L21]; exact List.mem_append_left _ hm_qmo
  have hf_qmo : f22 qmo = .inr (2, [.int 0, .int 0, .int 0, .int 0, .int 0, .int 0, .int 0, .ref qla, .ref qsa, .ref qmi, .ref qda]) := (congrFun e_f22 qmo).trans (z_up_ne ne_qmo_qim hf_qmo)
  have hm_qla : qla ∈ L21 := by rw [e_L21]; exact List.mem_append_left _ hm_qla
  have hf_qla : f22 qla = .inl (cy 1, 5, .inl (fun _ => 0)) := (congrFun e_f22 qla).trans (z_up_ne ne_qla_qim hf_qla)
  have hm_qsa : qsa ∈ L21 := by rw [e_L21]; exact List.mem_append_left _ hm_qsa
  have hf_qsa : f22 qsa = .inl (cy 1, 4, .inl (fun _ => 0)) := (congrFun e_f22 qsa).trans (z_up_ne ne_qsa_qim hf_qsa)
  have hm_qmi : qmi ∈ L21 := by rw [e_L21]; exact List.mem_append_left _ hm_qmi
  have hf_qmi : f22 qmi = .inl (cy 1, 36, .inl (fun _ => 0)) := (congrFun e_f22 qmi).trans (z_up_ne ne_qmi_qim hf_qmi)
  have hm_qdr : qdr ∈ L21 := by rw [e_L21]; exact List.mem_append_left _ hm_qdr
  have hf_qdr : f22 qdr = .inr (2, [.int 0, .int 0, .int 0, .int 0, .int 0, .int 0, .int 0, .ref qxla, .ref qxsa, .ref qxmi, .ref qxda]) := (congrFun e_f22 qdr).trans (z_up_ne ne_qdr_qim hf_qdr)
  have hm_qxla : qxla ∈ L21 := by rw [e_L21]; exact List.mem_append_left _ hm_qxla
  have hf_qxla : f22 qxla = .inl (cy 1, 5, .inl (fun _ => 0)) := (congrFun e_f22 qxla).trans (z_up_ne ne_qxla_qim hf_qxla)
  have hm_qxsa : qxsa ∈ L21 := by rw [e_L21]; exact List.mem_append_left _ hm_qxsa
  have hf_qxsa : f22 qxsa = .inl (cy 1, 4, .inl (fun _ => 0)) := (congrFun e_f22 qxsa).trans (z_up_ne ne_qxsa_qim hf_qxsa)
  have hm_qxmi : qxmi ∈ L21 := by rw [e_L21]; exact List.mem_append_left _ hm_qxmi
  have hf_qxmi : f22 qxmi = .inl (cy 1, 36, .inl (fun _ => 0)) := (congrFun e_f22 qxmi).trans (z_up_ne ne_qxmi_qim hf_qxmi)
  have hm_qrd : qrd ∈ L21 := by rw [e_L21]; exact List.mem_append_left _ hm_qrd
  have hf_qrd : f22 qrd = .inr (5, [.int 0, .int (-1), .ref qtp, .ref qdr, .int 0, .int 0, .int 0, .int 0, .int 0]) := (congrFun e_f22 qrd).trans (z_up_ne ne_qrd_qim hf_qrd)
  have hm_qim : qim ∈ L21 := by rw [e_L21]; exact List.mem_append_right _ (List.mem_singleton.mpr rfl)
  have hf_qim : f22 qim = .inl (cy 5, 3, .inr (.inr (.inr (.inr (fun _ => none))))) := (congrFun e_f22 qim).trans z_up_self
  have hsub : ∀ b ∈ L, b ∈ L21 := fun b h => by rw [e_L21]; exact List.mem_append_left _ (hsub b h)
  have hfr : ∀ b ∈ L, b ≠ hs → f22 b = f b := fun b hb h0 => (congrFun e_f22 b).trans (z_up_ne (z_ne hb hn_qim) (hfr b hb h0))
  refine z_putF (C := RX9) (T := TX9) (N := 11) (ci := 9) (v := .ref qim) (fs' := [.ref qtp, .ref qrd, .ref qmo, .ref qdr, .ref qim, .null, .null, .null, .null, .null, .null]) hx hb hT zin_X9 tyX9_ok nmX9 hown hK hw hm_hs hf_hs rfl 4 (by decide) (hT _ kw_481) rfl hnm rfl rfl rfl (Nat.le_of_ble_eq_true rfl) rfl dX9_init_61 (fun H locs hw => ?_)
  obtain ⟨f23, e_f23⟩ : ∃ z, z = va_up f22 hs (.inr (9, [.ref qtp, .ref qrd, .ref qmo, .ref qdr, .ref qim, .null, .null, .null, .null, .null, .null])) := ⟨_, rfl⟩
  rw [← e_f23] at hw
  have hf_qtp : f23 qtp = .inr (7, [.ref qba, .int 0]) := (congrFun e_f23 qtp).trans (z_up_ne (Ne.symm ne_hs_qtp) hf_qtp)
  have hf_qba : f23 qba = .inl (cy 0, 1600, .inl (fun _ => 0)) := (congrFun e_f23 qba).trans (z_up_ne (Ne.symm ne_hs_qba) hf_qba)
  have hf_qmo : f23 qmo = .inr (2, [.int 0, .int 0, .int 0, .int 0, .int 0, .int 0, .int 0, .ref qla, .ref qsa, .ref qmi, .ref qda]) := (congrFun e_f23 qmo).trans (z_up_ne (Ne.symm ne_hs_qmo) hf_qmo)
  have hf_qla : f23 qla = .inl (cy 1, 5, .inl (fun _ => 0)) := (congrFun e_f23 qla).trans (z_up_ne (Ne.symm ne_hs_qla) hf_qla)
  have hf_qsa : f23 qsa = .inl (cy 1, 4, .inl (fun _ => 0)) := (congrFun e_f23 qsa).trans (z_up_ne (Ne.symm ne_hs_qsa) hf_qsa)
  have hf_qmi : f23 qmi = .inl (cy 1, 36, .inl (fun _ => 0)) := (congrFun e_f23 qmi).trans (z_up_ne (Ne.symm ne_hs_qmi) hf_qmi)
  have hf_qdr : f23 qdr = .inr (2, [.int 0, .int 0, .int 0, .int 0, .int 0, .int 0, .int 0, .ref qxla, .ref qxsa, .ref qxmi, .ref qxda]) := (congrFun e_f23 qdr).trans (z_up_ne (Ne.symm ne_hs_qdr) hf_qdr)
  have hf_qxla : f23 qxla = .inl (cy 1, 5, .inl (fun _ => 0)) := (congrFun e_f23 qxla).trans (z_up_ne (Ne.symm ne_hs_qxla) hf_qxla)
  have hf_qxsa : f23 qxsa = .inl (cy 1, 4, .inl (fun _ => 0)) := (congrFun e_f23 qxsa).trans (z_up_ne (Ne.symm ne_hs_qxsa) hf_qxsa)
  have hf_qxmi : f23 qxmi = .inl (cy 1, 36, .inl (fun _ => 0)) := (congrFun e_f23 qxmi).trans (z_up_ne (Ne.symm ne_hs_qxmi) hf_qxmi)
  have hf_qrd : f23 qrd = .inr (5, [.int 0, .int (-1), .ref qtp, .ref qdr, .int 0, .int 0, .int 0, .int 0, .int 0]) := (congrFun e_f23 qrd).trans (z_up_ne (Ne.symm ne_hs_qrd) hf_qrd)
  have hf_qim : f23 qim = .inl (cy 5, 3, .inr (.inr (.inr (.inr (fun _ => none))))) := (congrFun e_f23 qim).trans (z_up_ne (Ne.symm ne_hs_qim) hf_qim)
  have hf_hs : f23 hs = .inr (9, [.ref qtp, .ref qrd, .ref qmo, .ref qdr, .ref qim, .null, .null, .null, .null, .null, .null]) := (congrFun e_f23 hs).trans z_up_self
  have hfr : ∀ b ∈ L, b ≠ hs → f23 b = f b := fun b hb h0 => (congrFun e_f23 b).trans (z_up_ne h0 (hfr b hb h0))
  refine lv_iconst (v := 0) hx hb dX9_init_64 (by decide) ?_
  refine lv_istore_n (lv' := [(1, .int 0), (0, .ref hs)]) hx hb dX9_init_65 rfl hl (by decide) rfl (fun ls hl => ?_)
  refine lv_iload_n hx hb dX9_init_66 rfl (lv_at hl 0 rfl) ?_
  refine lv_iconst (v := 3) hx hb dX9_init_67 (by decide) ?_
  refine z_icmp_ge (tgt := 90) hx hb (show (0 : Int32).toInt = 0 by decide) (show (3 : Int32).toInt = 3 by decide) dX9_init_68 (by decide) (fun h => absurd h (by decide)) (fun _ => ?_)
  refine lv_aload_n hx hb dX9_init_71 rfl (lv_at hl 1 rfl) ?_
  refine z_get (C := RX9) (T := TX9) (N := 11) (ci := 9) (v := .ref qim) hx hb hT zin_X9 hown hK hw hm_hs hf_hs rfl 4 (by decide) (hT _ kw_481) rfl dX9_init_72 ?_
  refine lv_iload_n hx hb dX9_init_75 rfl (lv_at hl 0 rfl) ?_
  refine z_new (C := RX2) (T := TX2) (N := 11) (ci := 2) (fs := [.int 0, .int 0, .int 0, .int 0, .int 0, .int 0, .int 0, .null, .null, .null, .null]) (cells := 40) (slots := 1960) hx hb hT zin_X2 tyX2_ok hown (hT _ kw_128) (hT _ kw_129) (hT _ kw_87) hK hw hA rfl (fun j hj => by rcases (show j = 0 ∨ j = 1 ∨ j = 2 ∨ j = 3 ∨ j = 4 ∨ j = 5 ∨ j = 6 ∨ j = 7 ∨ j = 8 ∨ j = 9 ∨ j = 10 by omega) with rfl | rfl | rfl | rfl | rfl | rfl | rfl | rfl | rfl | rfl | rfl <;> rfl) (by decide) (by decide) dX9_init_76 (fun qi0 H hq_qi0 hw => ?_)
  refine W.widen (k := 41) (n := 1971) (by decide) (by decide) ?_
  have ne_hs_qi0 : hs ≠ qi0 := z_ne hm_hs hq_qi0
  have ne_qtp_qi0 : qtp ≠ qi0 := z_ne hm_qtp hq_qi0
  have ne_qba_qi0 : qba ≠ qi0 := z_ne hm_qba hq_qi0
  have ne_qmo_qi0 : qmo ≠ qi0 := z_ne hm_qmo hq_qi0
  have ne_qla_qi0 : qla ≠ qi0 := z_ne hm_qla hq_qi0
  have ne_qsa_qi0 : qsa ≠ qi0 := z_ne hm_qsa hq_qi0
  have ne_qmi_qi0 : qmi ≠ qi0 := z_ne hm_qmi hq_qi0
  have ne_qdr_qi0 : qdr ≠ qi0 := z_ne hm_qdr hq_qi0
  have ne_qxla_qi0 : qxla ≠ qi0 := z_ne hm_qxla hq_qi0
  have ne_qxsa_qi0 : qxsa ≠ qi0 := z_ne hm_qxsa hq_qi0
  have ne_qxmi_qi0 : qxmi ≠ qi0 := z_ne hm_qxmi hq_qi0
  have ne_qrd_qi0 : qrd ≠ qi0 := z_ne hm_qrd hq_qi0
  have ne_qim_qi0 : qim ≠ qi0 := z_ne hm_qim hq_qi0
  have hn_qi0 : qi0 ∉ L := fun h => hq_qi0 (hsub _ h)
  obtain ⟨f25, e_f25⟩ : ∃ z, z = va_up f23 qi0 (.inr (2, [.int 0, .int 0, .int 0, .int 0, .int 0, .int 0, .int 0, .null, .null, .null, .null])) := ⟨_, rfl⟩
  obtain ⟨L24, e_L24⟩ : ∃ z, z = L21 ++ [qi0] := ⟨_, rfl⟩
  rw [← e_f25, ← e_L24] at hw
  have hm_hs : hs ∈ L24 := by rw [e_L24]; exact List.mem_append_left _ hm_hs
  have hf_hs : f25 hs = .inr (9, [.ref qtp, .ref qrd, .ref qmo, .ref qdr, .ref qim, .null, .null, .null, .null, .null, .null]) := (congrFun e_f25 hs).trans (z_up_ne ne_hs_qi0 hf_hs)
  have hm_qtp : qtp ∈ L24 := by rw [e_L24]; exact List.mem_append_left _ hm_qtp
  have hf_qtp : f25 qtp = .inr (7, [.ref qba, .int 0]) := (congrFun e_f25 qtp).trans (z_up_ne ne_qtp_qi0 hf_qtp)
  have hm_qba : qba ∈ L24 := by rw [e_L24]; exact List.mem_append_left _ hm_qba
  have hf_qba : f25 qba = .inl (cy 0, 1600, .inl (fun _ => 0)) := (congrFun e_f25 qba).trans (z_up_ne ne_qba_qi0 hf_qba)
  have hm_qmo : qmo ∈ L24 := by rw [e_L24]; exact List.mem_append_left _ hm_qmo
  have hf_qmo : f25 qmo = .inr (2, [.int 0, .int 0, .int 0, .int 0, .int 0, .int 0, .int 0, .ref qla, .ref qsa, .ref qmi, .ref qda]) := (congrFun e_f25 qmo).trans (z_up_ne ne_qmo_qi0 hf_qmo)
  have hm_qla : qla ∈ L24 := by rw [e_L24]; exact List.mem_append_left _ hm_qla
  have hf_qla : f25 qla = .inl (cy 1, 5, .inl (fun _ => 0)) := (congrFun e_f25 qla).trans (z_up_ne ne_qla_qi0 hf_qla)
  have hm_qsa : qsa ∈ L24 := by rw [e_L24]; exact List.mem_append_left _ hm_qsa
  have hf_qsa : f25 qsa = .inl (cy 1, 4, .inl (fun _ => 0)) := (congrFun e_f25 qsa).trans (z_up_ne ne_qsa_qi0 hf_qsa)
  have hm_qmi : qmi ∈ L24 := by rw [e_L24]; exact List.mem_append_left _ hm_qmi
  have hf_qmi : f25 qmi = .inl (cy 1, 36, .inl (fun _ => 0)) := (congrFun e_f25 qmi).trans (z_up_ne ne_qmi_qi0 hf_qmi)
  have hm_qdr : qdr ∈ L24 := by rw [e_L24]; exact List.mem_append_left _ hm_qdr
  have hf_qdr : f25 qdr = .inr (2, [.int 0, .int 0, .int 0, .int 0, .int 0, .int 0, .int 0, .ref qxla, .ref qxsa, .ref qxmi, .ref qxda]) := (congrFun e_f25 qdr).trans (z_up_ne ne_qdr_qi0 hf_qdr)
  have hm_qxla : qxla ∈ L24 := by rw [e_L24]; exact List.mem_append_left _ hm_qxla
  have hf_qxla : f25 qxla = .inl (cy 1, 5, .inl (fun _ => 0)) := (congrFun e_f25 qxla).trans (z_up_ne ne_qxla_qi0 hf_qxla)
  have hm_qxsa : qxsa ∈ L24 := by rw [e_L24]; exact List.mem_append_left _ hm_qxsa
  have hf_qxsa : f25 qxsa = .inl (cy 1, 4, .inl (fun _ => 0)) := (congrFun e_f25 qxsa).trans (z_up_ne ne_qxsa_qi0 hf_qxsa)
  have hm_qxmi : qxmi ∈ L24 := by rw [e_L24]; exact List.mem_append_left _ hm_qxmi
  have hf_qxmi : f25 qxmi = .inl (cy 1, 36, .inl (fun _ => 0)) := (congrFun e_f25 qxmi).trans (z_up_ne ne_qxmi_qi0 hf_qxmi)
  have hm_qrd : qrd ∈ L24 := by rw [e_L24]; exact List.mem_append_left _ hm_qrd
  have hf_qrd : f25 qrd = .inr (5, [.int 0, .int (-1), .ref qtp, .ref qdr, .int 0, .int 0, .int 0, .int 0, .int 0]) := (congrFun e_f25 qrd).trans (z_up_ne ne_qrd_qi0 hf_qrd)
  have hm_qim : qim ∈ L24 := by rw [e_L24]; exact List.mem_append_left _ hm_qim
  have hf_qim : f25 qim = .inl (cy 5, 3, .inr (.inr (.inr (.inr (fun _ => none))))) := (congrFun e_f25 qim).trans (z_up_ne ne_qim_qi0 hf_qim)
  have hm_qi0 : qi0 ∈ L24 := by rw [e_L24]; exact List.mem_append_right _ (List.mem_singleton.mpr rfl)
  have hf_qi0 : f25 qi0 = .inr (2, [.int 0, .int 0, .int 0, .int 0, .int 0, .int 0, .int 0, .null, .null, .null, .null]) := (congrFun e_f25 qi0).trans z_up_self
  have hsub : ∀ b ∈ L, b ∈ L24 := fun b h => by rw [e_L24]; exact List.mem_append_left _ (hsub b h)
  have hfr : ∀ b ∈ L, b ≠ hs → f25 b = f b := fun b hb h0 => (congrFun e_f25 b).trans (z_up_ne (z_ne hb hn_qi0) (hfr b hb h0))
  refine lv_dup hx hb dX9_init_79 rfl ?_
  refine z_callvI (cells := 41) (slots := 1971) (b := qi0) (As := []) (rest := [.ref qi0, .int 0, .ref qim]) ⟨hx, hb, hml, hown, hT⟩ (c_X2_init l hm_qi0 hf_qi0) (cwI 0 hT (z_goodI (fun _ h => h) kw_132) rfl rfl rfl (hT _ kw_87) (hT _ kw_130) (hT _ kw_131) rfl (by decide +kernel) ⟨by decide, by decide⟩) z_mv hKK hw hA rfl hl.1 rfl (Nat.le_of_ble_eq_true rfl) dX9_init_80 ⟨by decide, by decide⟩ (fun u H locs hp hw => ?_)
  refine W.widen (k := 58) (n := 2133) (by decide) (by decide) ?_
  obtain ⟨L26, f27⟩ := u
  obtain ⟨hsb, hfm, qla0, qsa0, qmi0, qda0, ha_0, ⟨hq_qla0, hm_qla0, hf_qla0⟩, ⟨hq_qsa0, hm_qsa0, hf_qsa0⟩, ⟨hq_qmi0, hm_qmi0, hf_qmi0⟩, hp⟩ := hp
  have hw : z_H D vwCl (z_A L sz) s.heap L26 f27 H locs := hw
  have ne_hs_qla0 : hs ≠ qla0 := z_ne hm_hs hq_qla0
  have ne_qtp_qla0 : qtp ≠ qla0 := z_ne hm_qtp hq_qla0
  have ne_qba_qla0 : qba ≠ qla0 := z_ne hm_qba hq_qla0
  have ne_qmo_qla0 : qmo ≠ qla0 := z_ne hm_qmo hq_qla0
  have ne_qla_qla0 : qla ≠ qla0 := z_ne hm_qla hq_qla0
  have ne_qsa_qla0 : qsa ≠ qla0 := z_ne hm_qsa hq_qla0
  have ne_qmi_qla0 : qmi ≠ qla0 := z_ne hm_qmi hq_qla0
  have ne_qdr_qla0 : qdr ≠ qla0 := z_ne hm_qdr hq_qla0
  have ne_qxla_qla0 : qxla ≠ qla0 := z_ne hm_qxla hq_qla0
  have ne_qxsa_qla0 : qxsa ≠ qla0 := z_ne hm_qxsa hq_qla0
  have ne_qxmi_qla0 : qxmi ≠ qla0 := z_ne hm_qxmi hq_qla0
  have ne_qrd_qla0 : qrd ≠ qla0 := z_ne hm_qrd hq_qla0
  have ne_qim_qla0 : qim ≠ qla0 := z_ne hm_qim hq_qla0
  have ne_qi0_qla0 : qi0 ≠ qla0 := z_ne hm_qi0 hq_qla0
  have ne_hs_qsa0 : hs ≠ qsa0 := z_ne hm_hs hq_qsa0
  have ne_qtp_qsa0 : qtp ≠ qsa0 := z_ne hm_qtp hq_qsa0
  have ne_qba_qsa0 : qba ≠ qsa0 := z_ne hm_qba hq_qsa0
  have ne_qmo_qsa0 : qmo ≠ qsa0 := z_ne hm_qmo hq_qsa0
  have ne_qla_qsa0 : qla ≠ qsa0 := z_ne hm_qla hq_qsa0
  have ne_qsa_qsa0 : qsa ≠ qsa0 := z_ne hm_qsa hq_qsa0
  have ne_qmi_qsa0 : qmi ≠ qsa0 := z_ne hm_qmi hq_qsa0
  have ne_qdr_qsa0 : qdr ≠ qsa0 := z_ne hm_qdr hq_qsa0
  have ne_qxla_qsa0 : qxla ≠ qsa0 := z_ne hm_qxla hq_qsa0
  have ne_qxsa_qsa0 : qxsa ≠ qsa0 := z_ne hm_qxsa hq_qsa0
  have ne_qxmi_qsa0 : qxmi ≠ qsa0 := z_ne hm_qxmi hq_qsa0
  have ne_qrd_qsa0 : qrd ≠ qsa0 := z_ne hm_qrd hq_qsa0
  have ne_qim_qsa0 : qim ≠ qsa0 := z_ne hm_qim hq_qsa0
  have ne_qi0_qsa0 : qi0 ≠ qsa0 := z_ne hm_qi0 hq_qsa0
  have ne_hs_qmi0 : hs ≠ qmi0 := z_ne hm_hs hq_qmi0
  have ne_qtp_qmi0 : qtp ≠ qmi0 := z_ne hm_qtp hq_qmi0
  have ne_qba_qmi0 : qba ≠ qmi0 := z_ne hm_qba hq_qmi0
  have ne_qmo_qmi0 : qmo ≠ qmi0 := z_ne hm_qmo hq_qmi0
  have ne_qla_qmi0 : qla ≠ qmi0 := z_ne hm_qla hq_qmi0
  have ne_qsa_qmi0 : qsa ≠ qmi0 := z_ne hm_qsa hq_qmi0
  have ne_qmi_qmi0 : qmi ≠ qmi0 := z_ne hm_qmi hq_qmi0
  have ne_qdr_qmi0 : qdr ≠ qmi0 := z_ne hm_qdr hq_qmi0
  have ne_qxla_qmi0 : qxla ≠ qmi0 := z_ne hm_qxla hq_qmi0
  have ne_qxsa_qmi0 : qxsa ≠ qmi0 := z_ne hm_qxsa hq_qmi0
  have ne_qxmi_qmi0 : qxmi ≠ qmi0 := z_ne hm_qxmi hq_qmi0
  have ne_qrd_qmi0 : qrd ≠ qmi0 := z_ne hm_qrd hq_qmi0
  have ne_qim_qmi0 : qim ≠ qmi0 := z_ne hm_qim hq_qmi0
  have ne_qi0_qmi0 : qi0 ≠ qmi0 := z_ne hm_qi0 hq_qmi0
  have hfr : ∀ b ∈ L, b ≠ hs → f27 b = f b := fun b hb h0 => (hfm b (hsub b hb) (z_ne hb hn_qi0)).trans (hfr b hb h0)
  have hn_qla0 : qla0 ∉ L := fun h => hq_qla0 (hsub _ h)
  have hn_qsa0 : qsa0 ∉ L := fun h => hq_qsa0 (hsub _ h)
  have hn_qmi0 : qmi0 ∉ L := fun h => hq_qmi0 (hsub _ h)
  have hsub : ∀ b ∈ L, b ∈ L26 := fun b h => hsb b (hsub b h)
  have hf_hs : f27 hs = .inr (9, [.ref qtp, .ref qrd, .ref qmo, .ref qdr, .ref qim, .null, .null, .null, .null, .null, .null]) := (hfm hs hm_hs ne_hs_qi0).trans hf_hs
  have hf_qtp : f27 qtp = .inr (7, [.ref qba, .int 0]) := (hfm qtp hm_qtp ne_qtp_qi0).trans hf_qtp
  have hf_qba : f27 qba = .inl (cy 0, 1600, .inl (fun _ => 0)) := (hfm qba hm_qba ne_qba_qi0).trans hf_qba
  have hf_qmo : f27 qmo = .inr (2, [.int 0, .int 0, .int 0, .int 0, .int 0, .int 0, .int 0, .ref qla, .ref qsa, .ref qmi, .ref qda]) := (hfm qmo hm_qmo ne_qmo_qi0).trans hf_qmo
  have hf_qla : f27 qla = .inl (cy 1, 5, .inl (fun _ => 0)) := (hfm qla hm_qla ne_qla_qi0).trans hf_qla
  have hf_qsa : f27 qsa = .inl (cy 1, 4, .inl (fun _ => 0)) := (hfm qsa hm_qsa ne_qsa_qi0).trans hf_qsa
  have hf_qmi : f27 qmi = .inl (cy 1, 36, .inl (fun _ => 0)) := (hfm qmi hm_qmi ne_qmi_qi0).trans hf_qmi
  have hf_qdr : f27 qdr = .inr (2, [.int 0, .int 0, .int 0, .int 0, .int 0, .int 0, .int 0, .ref qxla, .ref qxsa, .ref qxmi, .ref qxda]) := (hfm qdr hm_qdr ne_qdr_qi0).trans hf_qdr
  have hf_qxla : f27 qxla = .inl (cy 1, 5, .inl (fun _ => 0)) := (hfm qxla hm_qxla ne_qxla_qi0).trans hf_qxla
  have hf_qxsa : f27 qxsa = .inl (cy 1, 4, .inl (fun _ => 0)) := (hfm qxsa hm_qxsa ne_qxsa_qi0).trans hf_qxsa
  have hf_qxmi : f27 qxmi = .inl (cy 1, 36, .inl (fun _ => 0)) := (hfm qxmi hm_qxmi ne_qxmi_qi0).trans hf_qxmi
  have hf_qrd : f27 qrd = .inr (5, [.int 0, .int (-1), .ref qtp, .ref qdr, .int 0, .int 0, .int 0, .int 0, .int 0]) := (hfm qrd hm_qrd ne_qrd_qi0).trans hf_qrd
  have hf_qim : f27 qim = .inl (cy 5, 3, .inr (.inr (.inr (.inr (fun _ => none))))) := (hfm qim hm_qim ne_qim_qi0).trans hf_qim
  have hm_hs : hs ∈ L26 := hsb _ hm_hs
  have hm_qtp : qtp ∈ L26 := hsb _ hm_qtp
  have hm_qba : qba ∈ L26 := hsb _ hm_qba
  have hm_qmo : qmo ∈ L26 := hsb _ hm_qmo
  have hm_qla : qla ∈ L26 := hsb _ hm_qla
  have hm_qsa : qsa ∈ L26 := hsb _ hm_qsa
  have hm_qmi : qmi ∈ L26 := hsb _ hm_qmi
  have hm_qdr : qdr ∈ L26 := hsb _ hm_qdr
  have hm_qxla : qxla ∈ L26 := hsb _ hm_qxla
  have hm_qxsa : qxsa ∈ L26 := hsb _ hm_qxsa
  have hm_qxmi : qxmi ∈ L26 := hsb _ hm_qxmi
  have hm_qrd : qrd ∈ L26 := hsb _ hm_qrd
  have hm_qim : qim ∈ L26 := hsb _ hm_qim
  have hm_qi0 : qi0 ∈ L26 := hsb _ hm_qi0
  have hf_qi0 : f27 qi0 = .inr (2, [.int 0, .int 0, .int 0, .int 0, .int 0, .int 0, .int 0, .ref qla0, .ref qsa0, .ref qmi0, .ref qda0]) := ha_0
  have hf_qla0 : f27 qla0 = .inl (cy 1, 5, .inl (fun _ => 0)) := hf_qla0
  have hm_qla0 : qla0 ∈ L26 := hm_qla0
  have hf_qsa0 : f27 qsa0 = .inl (cy 1, 4, .inl (fun _ => 0)) := hf_qsa0
  have hm_qsa0 : qsa0 ∈ L26 := hm_qsa0
  have hf_qmi0 : f27 qmi0 = .inl (cy 1, 36, .inl (fun _ => 0)) := hf_qmi0
  have hm_qmi0 : qmi0 ∈ L26 := hm_qmi0
  refine z_aast (r := (RX2, TX2, 11)) hx hb hK hw 5 2 hm_qim hf_qim rfl hm_qi0 hf_qi0 rfl (z_ix (show (0 : Int32).toInt = 0 by decide) (by decide)) dX9_init_83 (fun H locs hw => ?_)
  obtain ⟨f29, e_f29⟩ : ∃ z, z = va_up f27 qim (.inl (cy 5, 3, .inr (.inr (.inr (.inr (va_up (fun _ => none) (0 : Int32).toNatClampNeg (some qi0))))))) := ⟨_, rfl⟩
  rw [← e_f29] at hw
  have hf_hs : f29 hs = .inr (9, [.ref qtp, .ref qrd, .ref qmo, .ref qdr, .ref qim, .null, .null, .null, .null, .null, .null]) := (congrFun e_f29 hs).trans (z_up_ne ne_hs_qim hf_hs)
  have hf_qtp : f29 qtp = .inr (7, [.ref qba, .int 0]) := (congrFun e_f29 qtp).trans (z_up_ne ne_qtp_qim hf_qtp)
  have hf_qba : f29 qba = .inl (cy 0, 1600, .inl (fun _ => 0)) := (congrFun e_f29 qba).trans (z_up_ne ne_qba_qim hf_qba)
  have hf_qmo : f29 qmo = .inr (2, [.int 0, .int 0, .int 0, .int 0, .int 0, .int 0, .int 0, .ref qla, .ref qsa, .ref qmi, .ref qda]) := (congrFun e_f29 qmo).trans (z_up_ne ne_qmo_qim hf_qmo)
  have hf_qla : f29 qla = .inl (cy 1, 5, .inl (fun _ => 0)) := (congrFun e_f29 qla).trans (z_up_ne ne_qla_qim hf_qla)
  have hf_qsa : f29 qsa = .inl (cy 1, 4, .inl (fun _ => 0)) := (congrFun e_f29 qsa).trans (z_up_ne ne_qsa_qim hf_qsa)
  have hf_qmi : f29 qmi = .inl (cy 1, 36, .inl (fun _ => 0)) := (congrFun e_f29 qmi).trans (z_up_ne ne_qmi_qim hf_qmi)
  have hf_qdr : f29 qdr = .inr (2, [.int 0, .int 0, .int 0, .int 0, .int 0, .int 0, .int 0, .ref qxla, .ref qxsa, .ref qxmi, .ref qxda]) := (congrFun e_f29 qdr).trans (z_up_ne ne_qdr_qim hf_qdr)
  have hf_qxla : f29 qxla = .inl (cy 1, 5, .inl (fun _ => 0)) := (congrFun e_f29 qxla).trans (z_up_ne ne_qxla_qim hf_qxla)
  have hf_qxsa : f29 qxsa = .inl (cy 1, 4, .inl (fun _ => 0)) := (congrFun e_f29 qxsa).trans (z_up_ne ne_qxsa_qim hf_qxsa)
  have hf_qxmi : f29 qxmi = .inl (cy 1, 36, .inl (fun _ => 0)) := (congrFun e_f29 qxmi).trans (z_up_ne ne_qxmi_qim hf_qxmi)
  have hf_qrd : f29 qrd = .inr (5, [.int 0, .int (-1), .ref qtp, .ref qdr, .int 0, .int 0, .int 0, .int 0, .int 0]) := (congrFun e_f29 qrd).trans (z_up_ne ne_qrd_qim hf_qrd)
  have hf_qi0 : f29 qi0 = .inr (2, [.int 0, .int 0, .int 0, .int 0, .int 0, .int 0, .int 0, .ref qla0, .ref qsa0, .ref qmi0, .ref qda0]) := (congrFun e_f29 qi0).trans (z_up_ne (Ne.symm ne_qim_qi0) hf_qi0)
  have hf_qla0 : f29 qla0 = .inl (cy 1, 5, .inl (fun _ => 0)) := (congrFun e_f29 qla0).trans (z_up_ne (Ne.symm ne_qim_qla0) hf_qla0)
  have hf_qsa0 : f29 qsa0 = .inl (cy 1, 4, .inl (fun _ => 0)) := (congrFun e_f29 qsa0).trans (z_up_ne (Ne.symm ne_qim_qsa0) hf_qsa0)
  have hf_qmi0 : f29 qmi0 = .inl (cy 1, 36, .inl (fun _ => 0)) := (congrFun e_f29 qmi0).trans (z_up_ne (Ne.symm ne_qim_qmi0) hf_qmi0)
  have hf_qim : f29 qim = .inl (cy 5, 3, .inr (.inr (.inr (.inr (va_up (fun _ => none) (0 : Int32).toNatClampNeg (some qi0)))))) := (congrFun e_f29 qim).trans z_up_self
  have hfr : ∀ b ∈ L, b ≠ hs → f29 b = f b := fun b hb h0 => (congrFun e_f29 b).trans (z_up_ne (z_ne hb hn_qim) (hfr b hb h0))
  obtain ⟨g28, e_g28⟩ : ∃ z, z = (va_up (fun _ => none) (0 : Int32).toNatClampNeg (some qi0)) := ⟨_, rfl⟩
  rw [← e_g28] at hf_qim
  refine lv_iinc (v := 1) (lv' := [(1, .int 1), (0, .ref hs)]) hx hb dX9_init_84 hl (k := 0) rfl (by decide) (by decide) rfl (fun ls hl => ?_)
  refine lv_goto (tgt := 66) hx hb dX9_init_87 (by decide) ?_
  refine lv_iload_n hx hb dX9_init_66 rfl (lv_at hl 0 rfl) ?_
  refine lv_iconst (v := 3) hx hb dX9_init_67 (by decide) ?_
  refine z_icmp_ge (tgt := 90) hx hb (show (1 : Int32).toInt = 1 by decide) (show (3 : Int32).toInt = 3 by decide) dX9_init_68 (by decide) (fun h => absurd h (by decide)) (fun _ => ?_)
  refine lv_aload_n hx hb dX9_init_71 rfl (lv_at hl 1 rfl) ?_
  refine z_get (C := RX9) (T := TX9) (N := 11) (ci := 9) (v := .ref qim) hx hb hT zin_X9 hown hK hw hm_hs hf_hs rfl 4 (by decide) (hT _ kw_481) rfl dX9_init_72 ?_
  refine lv_iload_n hx hb dX9_init_75 rfl (lv_at hl 0 rfl) ?_
  refine z_new (C := RX2) (T := TX2) (N := 11) (ci := 2) (fs := [.int 0, .int 0, .int 0, .int 0, .int 0, .int 0, .int 0, .null, .null, .null, .null]) (cells := 58) (slots := 2133) hx hb hT zin_X2 tyX2_ok hown (hT _ kw_128) (hT _ kw_129) (hT _ kw_87) hK hw hA rfl (fun j hj => by rcases (show j = 0 ∨ j = 1 ∨ j = 2 ∨ j = 3 ∨ j = 4 ∨ j = 5 ∨ j = 6 ∨ j = 7 ∨ j = 8 ∨ j = 9 ∨ j = 10 by omega) with rfl | rfl | rfl | rfl | rfl | rfl | rfl | rfl | rfl | rfl | rfl <;> rfl) (by decide) (by decide) dX9_init_76 (fun qi1 H hq_qi1 hw => ?_)
  refine W.widen (k := 59) (n := 2144) (by decide) (by decide) ?_
  have ne_hs_qi1 : hs ≠ qi1 := z_ne hm_hs hq_qi1
  have ne_qtp_qi1 : qtp ≠ qi1 := z_ne hm_qtp hq_qi1
  have ne_qba_qi1 : qba ≠ qi1 := z_ne hm_qba hq_qi1
  have ne_qmo_qi1 : qmo ≠ qi1 := z_ne hm_qmo hq_qi1
  have ne_qla_qi1 : qla ≠ qi1 := z_ne hm_qla hq_qi1
  have ne_qsa_qi1 : qsa ≠ qi1 := z_ne hm_qsa hq_qi1
  have ne_qmi_qi1 : qmi ≠ qi1 := z_ne hm_qmi hq_qi1
  have ne_qdr_qi1 : qdr ≠ qi1 := z_ne hm_qdr hq_qi1
  have ne_qxla_qi1 : qxla ≠ qi1 := z_ne hm_qxla hq_qi1
  have ne_qxsa_qi1 : qxsa ≠ qi1 := z_ne hm_qxsa hq_qi1
  have ne_qxmi_qi1 : qxmi ≠ qi1 := z_ne hm_qxmi hq_qi1
  have ne_qrd_qi1 : qrd ≠ qi1 := z_ne hm_qrd hq_qi1
  have ne_qim_qi1 : qim ≠ qi1 := z_ne hm_qim hq_qi1
  have ne_qi0_qi1 : qi0 ≠ qi1 := z_ne hm_qi0 hq_qi1
  have ne_qla0_qi1 : qla0 ≠ qi1 := z_ne hm_qla0 hq_qi1
  have ne_qsa0_qi1 : qsa0 ≠ qi1 := z_ne hm_qsa0 hq_qi1
  have ne_qmi0_qi1 : qmi0 ≠ qi1 := z_ne hm_qmi0 hq_qi1
  have hn_qi1 : qi1 ∉ L := fun h => hq_qi1 (hsub _ h)
  obtain ⟨f31, e_f31⟩ : ∃ z, z = va_up f29 qi1 (.inr (2, [.int 0, .int 0, .int 0, .int 0, .int 0, .int 0, .int 0, .null, .null, .null, .null])) := ⟨_, rfl⟩
  obtain ⟨L30, e_L30⟩ : ∃ z, z = L26 ++ [qi1] := ⟨_, rfl⟩
  rw [← e_f31, ← e_L30] at hw
  have hm_hs : hs ∈ L30 := by rw [e_L30]; exact List.mem_append_left _ hm_hs
  have hf_hs : f31 hs = .inr (9, [.ref qtp, .ref qrd, .ref qmo, .ref qdr, .ref qim, .null, .null, .null, .null, .null, .null]) := (congrFun e_f31 hs).trans (z_up_ne ne_hs_qi1 hf_hs)
  have hm_qtp : qtp ∈ L30 := by rw [e_L30]; exact List.mem_append_left _ hm_qtp
  have hf_qtp : f31 qtp = .inr (7, [.ref qba, .int 0]) := (congrFun e_f31 qtp).trans (z_up_ne ne_qtp_qi1 hf_qtp)
  have hm_qba : qba ∈ L30 := by rw [e_L30]; exact List.mem_append_left _ hm_qba
  have hf_qba : f31 qba = .inl (cy 0, 1600, .inl (fun _ => 0)) := (congrFun e_f31 qba).trans (z_up_ne ne_qba_qi1 hf_qba)
  have hm_qmo : qmo ∈ L30 := by rw [e_L30]; exact List.mem_append_left _ hm_qmo
  have hf_qmo : f31 qmo = .inr (2, [.int 0, .int 0, .int 0, .int 0, .int 0, .int 0, .int 0, .ref qla, .ref qsa, .ref qmi, .ref qda]) := (congrFun e_f31 qmo).trans (z_up_ne ne_qmo_qi1 hf_qmo)
  have hm_qla : qla ∈ L30 := by rw [e_L30]; exact List.mem_append_left _ hm_qla
  have hf_qla : f31 qla = .inl (cy 1, 5, .inl (fun _ => 0)) := (congrFun e_f31 qla).trans (z_up_ne ne_qla_qi1 hf_qla)
  have hm_qsa : qsa ∈ L30 := by rw [e_L30]; exact List.mem_append_left _ hm_qsa
  have hf_qsa : f31 qsa = .inl (cy 1, 4, .inl (fun _ => 0)) := (congrFun e_f31 qsa).trans (z_up_ne ne_qsa_qi1 hf_qsa)
  have hm_qmi : qmi ∈ L30 := by rw [e_L30]; exact List.mem_append_left _ hm_qmi
  have hf_qmi : f31 qmi = .inl (cy 1, 36, .inl (fun _ => 0)) := (congrFun e_f31 qmi).trans (z_up_ne ne_qmi_qi1 hf_qmi)
  have hm_qdr : qdr ∈ L30 := by rw [e_L30]; exact List.mem_append_left _ hm_qdr
  have hf_qdr : f31 qdr = .inr (2, [.int 0, .int 0, .int 0, .int 0, .int 0, .int 0, .int 0, .ref qxla, .ref qxsa, .ref qxmi, .ref qxda]) := (congrFun e_f31 qdr).trans (z_up_ne ne_qdr_qi1 hf_qdr)
  have hm_qxla : qxla ∈ L30 := by rw [e_L30]; exact List.mem_append_left _ hm_qxla
  have hf_qxla : f31 qxla = .inl (cy 1, 5, .inl (fun _ => 0)) := (congrFun e_f31 qxla).trans (z_up_ne ne_qxla_qi1 hf_qxla)
  have hm_qxsa : qxsa ∈ L30 := by rw [e_L30]; exact List.mem_append_left _ hm_qxsa
  have hf_qxsa : f31 qxsa = .inl (cy 1, 4, .inl (fun _ => 0)) := (congrFun e_f31 qxsa).trans (z_up_ne ne_qxsa_qi1 hf_qxsa)
  have hm_qxmi : qxmi ∈ L30 := by rw [e_L30]; exact List.mem_append_left _ hm_qxmi
  have hf_qxmi : f31 qxmi = .inl (cy 1, 36, .inl (fun _ => 0)) := (congrFun e_f31 qxmi).trans (z_up_ne ne_qxmi_qi1 hf_qxmi)
  have hm_qrd : qrd ∈ L30 := by rw [e_L30]; exact List.mem_append_left _ hm_qrd
  have hf_qrd : f31 qrd = .inr (5, [.int 0, .int (-1), .ref qtp, .ref qdr, .int 0, .int 0, .int 0, .int 0, .int 0]) := (congrFun e_f31 qrd).trans (z_up_ne ne_qrd_qi1 hf_qrd)
  have hm_qim : qim ∈ L30 := by rw [e_L30]; exact List.mem_append_left _ hm_qim
  have hf_qim : f31 qim = .inl (cy 5, 3, .inr (.inr (.inr (.inr g28)))) := (congrFun e_f31 qim).trans (z_up_ne ne_qim_qi1 hf_qim)
  have hm_qi0 : qi0 ∈ L30 := by rw [e_L30]; exact List.mem_append_left _ hm_qi0
  have hf_qi0 : f31 qi0 = .inr (2, [.int 0, .int 0, .int 0, .int 0, .int 0, .int 0, .int 0, .ref qla0, .ref qsa0, .ref qmi0, .ref qda0]) := (congrFun e_f31 qi0).trans (z_up_ne ne_qi0_qi1 hf_qi0)
  have hm_qla0 : qla0 ∈ L30 := by rw [e_L30]; exact List.mem_append_left _ hm_qla0
  have hf_qla0 : f31 qla0 = .inl (cy 1, 5, .inl (fun _ => 0)) := (congrFun e_f31 qla0).trans (z_up_ne ne_qla0_qi1 hf_qla0)
  have hm_qsa0 : qsa0 ∈ L30 := by rw [e_L30]; exact List.mem_append_left _ hm_qsa0
  have hf_qsa0 : f31 qsa0 = .inl (cy 1, 4, .inl (fun _ => 0)) := (congrFun e_f31 qsa0).trans (z_up_ne ne_qsa0_qi1 hf_qsa0)
  have hm_qmi0 : qmi0 ∈ L30 := by rw [e_L30]; exact List.mem_append_left _ hm_qmi0
  have hf_qmi0 : f31 qmi0 = .inl (cy 1, 36, .inl (fun _ => 0)) := (congrFun e_f31 qmi0).trans (z_up_ne ne_qmi0_qi1 hf_qmi0)
  have hm_qi1 : qi1 ∈ L30 := by rw [e_L30]; exact List.mem_append_right _ (List.mem_singleton.mpr rfl)
  have hf_qi1 : f31 qi1 = .inr (2, [.int 0, .int 0, .int 0, .int 0, .int 0, .int 0, .int 0, .null, .null, .null, .null]) := (congrFun e_f31 qi1).trans z_up_self
  have hsub : ∀ b ∈ L, b ∈ L30 := fun b h => by rw [e_L30]; exact List.mem_append_left _ (hsub b h)
  have hfr : ∀ b ∈ L, b ≠ hs → f31 b = f b := fun b hb h0 => (congrFun e_f31 b).trans (z_up_ne (z_ne hb hn_qi1) (hfr b hb h0))
  refine lv_dup hx hb dX9_init_79 rfl ?_
  refine z_callvI (cells := 59) (slots := 2144) (b := qi1) (As := []) (rest := [.ref qi1, .int 1, .ref qim]) ⟨hx, hb, hml, hown, hT⟩ (c_X2_init l hm_qi1 hf_qi1) (cwI 0 hT (z_goodI (fun _ h => h) kw_132) rfl rfl rfl (hT _ kw_87) (hT _ kw_130) (hT _ kw_131) rfl (by decide +kernel) ⟨by decide, by decide⟩) z_mv hKK hw hA rfl hl.1 rfl (Nat.le_of_ble_eq_true rfl) dX9_init_80 ⟨by decide, by decide⟩ (fun u H locs hp hw => ?_)
  refine W.widen (k := 76) (n := 2306) (by decide) (by decide) ?_
  obtain ⟨L32, f33⟩ := u
  obtain ⟨hsb, hfm, qla1, qsa1, qmi1, qda1, ha_0, ⟨hq_qla1, hm_qla1, hf_qla1⟩, ⟨hq_qsa1, hm_qsa1, hf_qsa1⟩, ⟨hq_qmi1, hm_qmi1, hf_qmi1⟩, hp⟩ := hp
  have hw : z_H D vwCl (z_A L sz) s.heap L32 f33 H locs := hw
  have ne_hs_qla1 : hs ≠ qla1 := z_ne hm_hs hq_qla1
  have ne_qtp_qla1 : qtp ≠ qla1 := z_ne hm_qtp hq_qla1
  have ne_qba_qla1 : qba ≠ qla1 := z_ne hm_qba hq_qla1
  have ne_qmo_qla1 : qmo ≠ qla1 := z_ne hm_qmo hq_qla1
  have ne_qla_qla1 : qla ≠ qla1 := z_ne hm_qla hq_qla1
  have ne_qsa_qla1 : qsa ≠ qla1 := z_ne hm_qsa hq_qla1
  have ne_qmi_qla1 : qmi ≠ qla1 := z_ne hm_qmi hq_qla1
  have ne_qdr_qla1 : qdr ≠ qla1 := z_ne hm_qdr hq_qla1
  have ne_qxla_qla1 : qxla ≠ qla1 := z_ne hm_qxla hq_qla1
  have ne_qxsa_qla1 : qxsa ≠ qla1 := z_ne hm_qxsa hq_qla1
  have ne_qxmi_qla1 : qxmi ≠ qla1 := z_ne hm_qxmi hq_qla1
  have ne_qrd_qla1 : qrd ≠ qla1 := z_ne hm_qrd hq_qla1
  have ne_qim_qla1 : qim ≠ qla1 := z_ne hm_qim hq_qla1
  have ne_qi0_qla1 : qi0 ≠ qla1 := z_ne hm_qi0 hq_qla1
  have ne_qla0_qla1 : qla0 ≠ qla1 := z_ne hm_qla0 hq_qla1
  have ne_qsa0_qla1 : qsa0 ≠ qla1 := z_ne hm_qsa0 hq_qla1
  have ne_qmi0_qla1 : qmi0 ≠ qla1 := z_ne hm_qmi0 hq_qla1
  have ne_qi1_qla1 : qi1 ≠ qla1 := z_ne hm_qi1 hq_qla1
  have ne_hs_qsa1 : hs ≠ qsa1 := z_ne hm_hs hq_qsa1
  have ne_qtp_qsa1 : qtp ≠ qsa1 := z_ne hm_qtp hq_qsa1
  have ne_qba_qsa1 : qba ≠ qsa1 := z_ne hm_qba hq_qsa1
  have ne_qmo_qsa1 : qmo ≠ qsa1 := z_ne hm_qmo hq_qsa1
  have ne_qla_qsa1 : qla ≠ qsa1 := z_ne hm_qla hq_qsa1
  have ne_qsa_qsa1 : qsa ≠ qsa1 := z_ne hm_qsa hq_qsa1
  have ne_qmi_qsa1 : qmi ≠ qsa1 := z_ne hm_qmi hq_qsa1
  have ne_qdr_qsa1 : qdr ≠ qsa1 := z_ne hm_qdr hq_qsa1
  have ne_qxla_qsa1 : qxla ≠ qsa1 := z_ne hm_qxla hq_qsa1
  have ne_qxsa_qsa1 : qxsa ≠ qsa1 := z_ne hm_qxsa hq_qsa1
  have ne_qxmi_qsa1 : qxmi ≠ qsa1 := z_ne hm_qxmi hq_qsa1
  have ne_qrd_qsa1 : qrd ≠ qsa1 := z_ne hm_qrd hq_qsa1
  have ne_qim_qsa1 : qim ≠ qsa1 := z_ne hm_qim hq_qsa1
  have ne_qi0_qsa1 : qi0 ≠ qsa1 := z_ne hm_qi0 hq_qsa1
  have ne_qla0_qsa1 : qla0 ≠ qsa1 := z_ne hm_qla0 hq_qsa1
  have ne_qsa0_qsa1 : qsa0 ≠ qsa1 := z_ne hm_qsa0 hq_qsa1
  have ne_qmi0_qsa1 : qmi0 ≠ qsa1 := z_ne hm_qmi0 hq_qsa1
  have ne_qi1_qsa1 : qi1 ≠ qsa1 := z_ne hm_qi1 hq_qsa1
  have ne_hs_qmi1 : hs ≠ qmi1 := z_ne hm_hs hq_qmi1
  have ne_qtp_qmi1 : qtp ≠ qmi1 := z_ne hm_qtp hq_qmi1
  have ne_qba_qmi1 : qba ≠ qmi1 := z_ne hm_qba hq_qmi1
  have ne_qmo_qmi1 : qmo ≠ qmi1 := z_ne hm_qmo hq_qmi1
  have ne_qla_qmi1 : qla ≠ qmi1 := z_ne hm_qla hq_qmi1
  have ne_qsa_qmi1 : qsa ≠ qmi1 := z_ne hm_qsa hq_qmi1
  have ne_qmi_qmi1 : qmi ≠ qmi1 := z_ne hm_qmi hq_qmi1
  have ne_qdr_qmi1 : qdr ≠ qmi1 := z_ne hm_qdr hq_qmi1
  have ne_qxla_qmi1 : qxla ≠ qmi1 := z_ne hm_qxla hq_qmi1
  have ne_qxsa_qmi1 : qxsa ≠ qmi1 := z_ne hm_qxsa hq_qmi1
  have ne_qxmi_qmi1 : qxmi ≠ qmi1 := z_ne hm_qxmi hq_qmi1
  have ne_qrd_qmi1 : qrd ≠ qmi1 := z_ne hm_qrd hq_qmi1
  have ne_qim_qmi1 : qim ≠ qmi1 := z_ne hm_qim hq_qmi1
  have ne_qi0_qmi1 : qi0 ≠ qmi1 := z_ne hm_qi0 hq_qmi1
  have ne_qla0_qmi1 : qla0 ≠ qmi1 := z_ne hm_qla0 hq_qmi1
  have ne_qsa0_qmi1 : qsa0 ≠ qmi1 := z_ne hm_qsa0 hq_qmi1
  have ne_qmi0_qmi1 : qmi0 ≠ qmi1 := z_ne hm_qmi0 hq_qmi1
  have ne_qi1_qmi1 : qi1 ≠ qmi1 := z_ne hm_qi1 hq_qmi1
  have hfr : ∀ b ∈ L, b ≠ hs → f33 b = f b := fun b hb h0 => (hfm b (hsub b hb) (z_ne hb hn_qi1)).trans (hfr b hb h0)
  have hn_qla1 : qla1 ∉ L := fun h => hq_qla1 (hsub _ h)
  have hn_qsa1 : qsa1 ∉ L := fun h => hq_qsa1 (hsub _ h)
  have hn_qmi1 : qmi1 ∉ L := fun h => hq_qmi1 (hsub _ h)
  have hsub : ∀ b ∈ L, b ∈ L32 := fun b h => hsb b (hsub b h)
  have hf_hs : f33 hs = .inr (9, [.ref qtp, .ref qrd, .ref qmo, .ref qdr, .ref qim, .null, .null, .null, .null, .null, .null]) := (hfm hs hm_hs ne_hs_qi1).trans hf_hs
  have hf_qtp : f33 qtp = .inr (7, [.ref qba, .int 0]) := (hfm qtp hm_qtp ne_qtp_qi1).trans hf_qtp
  have hf_qba : f33 qba = .inl (cy 0, 1600, .inl (fun _ => 0)) := (hfm qba hm_qba ne_qba_qi1).trans hf_qba
  have hf_qmo : f33 qmo = .inr (2, [.int 0, .int 0, .int 0, .int 0, .int 0, .int 0, .int 0, .ref qla, .ref qsa, .ref qmi, .ref qda]) := (hfm qmo hm_qmo ne_qmo_qi1).trans hf_qmo
  have hf_qla : f33 qla = .inl (cy 1, 5, .inl (fun _ => 0)) := (hfm qla hm_qla ne_qla_qi1).trans hf_qla
  have hf_qsa : f33 qsa = .inl (cy 1, 4, .inl (fun _ => 0)) := (hfm qsa hm_qsa ne_qsa_qi1).trans hf_qsa
  have hf_qmi : f33 qmi = .inl (cy 1, 36, .inl (fun _ => 0)) := (hfm qmi hm_qmi ne_qmi_qi1).trans hf_qmi
  have hf_qdr : f33 qdr = .inr (2, [.int 0, .int 0, .int 0, .int 0, .int 0, .int 0, .int 0, .ref qxla, .ref qxsa, .ref qxmi, .ref qxda]) := (hfm qdr hm_qdr ne_qdr_qi1).trans hf_qdr
  have hf_qxla : f33 qxla = .inl (cy 1, 5, .inl (fun _ => 0)) := (hfm qxla hm_qxla ne_qxla_qi1).trans hf_qxla
  have hf_qxsa : f33 qxsa = .inl (cy 1, 4, .inl (fun _ => 0)) := (hfm qxsa hm_qxsa ne_qxsa_qi1).trans hf_qxsa
  have hf_qxmi : f33 qxmi = .inl (cy 1, 36, .inl (fun _ => 0)) := (hfm qxmi hm_qxmi ne_qxmi_qi1).trans hf_qxmi
  have hf_qrd : f33 qrd = .inr (5, [.int 0, .int (-1), .ref qtp, .ref qdr, .int 0, .int 0, .int 0, .int 0, .int 0]) := (hfm qrd hm_qrd ne_qrd_qi1).trans hf_qrd
  have hf_qim : f33 qim = .inl (cy 5, 3, .inr (.inr (.inr (.inr g28)))) := (hfm qim hm_qim ne_qim_qi1).trans hf_qim
  have hf_qi0 : f33 qi0 = .inr (2, [.int 0, .int 0, .int 0, .int 0, .int 0, .int 0, .int 0, .ref qla0, .ref qsa0, .ref qmi0, .ref qda0]) := (hfm qi0 hm_qi0 ne_qi0_qi1).trans hf_qi0
  have hf_qla0 : f33 qla0 = .inl (cy 1, 5, .inl (fun _ => 0)) := (hfm qla0 hm_qla0 ne_qla0_qi1).trans hf_qla0
  have hf_qsa0 : f33 qsa0 = .inl (cy 1, 4, .inl (fun _ => 0)) := (hfm qsa0 hm_qsa0 ne_qsa0_qi1).trans hf_qsa0
  have hf_qmi0 : f33 qmi0 = .inl (cy 1, 36, .inl (fun _ => 0)) := (hfm qmi0 hm_qmi0 ne_qmi0_qi1).trans hf_qmi0
  have hm_hs : hs ∈ L32 := hsb _ hm_hs
  have hm_qtp : qtp ∈ L32 := hsb _ hm_qtp
  have hm_qba : qba ∈ L32 := hsb _ hm_qba
  have hm_qmo : qmo ∈ L32 := hsb _ hm_qmo
  have hm_qla : qla ∈ L32 := hsb _ hm_qla
  have hm_qsa : qsa ∈ L32 := hsb _ hm_qsa
  have hm_qmi : qmi ∈ L32 := hsb _ hm_qmi
  have hm_qdr : qdr ∈ L32 := hsb _ hm_qdr
  have hm_qxla : qxla ∈ L32 := hsb _ hm_qxla
  have hm_qxsa : qxsa ∈ L32 := hsb _ hm_qxsa
  have hm_qxmi : qxmi ∈ L32 := hsb _ hm_qxmi
  have hm_qrd : qrd ∈ L32 := hsb _ hm_qrd
  have hm_qim : qim ∈ L32 := hsb _ hm_qim
  have hm_qi0 : qi0 ∈ L32 := hsb _ hm_qi0
  have hm_qla0 : qla0 ∈ L32 := hsb _ hm_qla0
  have hm_qsa0 : qsa0 ∈ L32 := hsb _ hm_qsa0
  have hm_qmi0 : qmi0 ∈ L32 := hsb _ hm_qmi0
  have hm_qi1 : qi1 ∈ L32 := hsb _ hm_qi1
  have hf_qi1 : f33 qi1 = .inr (2, [.int 0, .int 0, .int 0, .int 0, .int 0, .int 0, .int 0, .ref qla1, .ref qsa1, .ref qmi1, .ref qda1]) := ha_0
  have hf_qla1 : f33 qla1 = .inl (cy 1, 5, .inl (fun _ => 0)) := hf_qla1
  have hm_qla1 : qla1 ∈ L32 := hm_qla1
  have hf_qsa1 : f33 qsa1 = .inl (cy 1, 4, .inl (fun _ => 0)) := hf_qsa1
  have hm_qsa1 : qsa1 ∈ L32 := hm_qsa1
  have hf_qmi1 : f33 qmi1 = .inl (cy 1, 36, .inl (fun _ => 0)) := hf_qmi1
  have hm_qmi1 : qmi1 ∈ L32 := hm_qmi1
  refine z_aast (r := (RX2, TX2, 11)) hx hb hK hw 5 2 hm_qim hf_qim rfl hm_qi1 hf_qi1 rfl (z_ix (show (1 : Int32).toInt = 1 by decide) (by decide)) dX9_init_83 (fun H locs hw => ?_)
  obtain ⟨f35, e_f35⟩ : ∃ z, z = va_up f33 qim (.inl (cy 5, 3, .inr (.inr (.inr (.inr (va_up g28 (1 : Int32).toNatClampNeg (some qi1))))))) := ⟨_, rfl⟩
  rw [← e_f35] at hw
  have hf_hs : f35 hs = .inr (9, [.ref qtp, .ref qrd, .ref qmo, .ref qdr, .ref qim, .null, .null, .null, .null, .null, .null]) := (congrFun e_f35 hs).trans (z_up_ne ne_hs_qim hf_hs)
  have hf_qtp : f35 qtp = .inr (7, [.ref qba, .int 0]) := (congrFun e_f35 qtp).trans (z_up_ne ne_qtp_qim hf_qtp)
  have hf_qba : f35 qba = .inl (cy 0, 1600, .inl (fun _ => 0)) := (congrFun e_f35 qba).trans (z_up_ne ne_qba_qim hf_qba)
  have hf_qmo : f35 qmo = .inr (2, [.int 0, .int 0, .int 0, .int 0, .int 0, .int 0, .int 0, .ref qla, .ref qsa, .ref qmi, .ref qda]) := (congrFun e_f35 qmo).trans (z_up_ne ne_qmo_qim hf_qmo)
  have hf_qla : f35 qla = .inl (cy 1, 5, .inl (fun _ => 0)) := (congrFun e_f35 qla).trans (z_up_ne ne_qla_qim hf_qla)
  have hf_qsa : f35 qsa = .inl (cy 1, 4, .inl (fun _ => 0)) := (congrFun e_f35 qsa).trans (z_up_ne ne_qsa_qim hf_qsa)
  have hf_qmi : f35 qmi = .inl (cy 1, 36, .inl (fun _ => 0)) := (congrFun e_f35 qmi).trans (z_up_ne ne_qmi_qim hf_qmi)
  have hf_qdr : f35 qdr = .inr (2, [.int 0, .int 0, .int 0, .int 0, .int 0, .int 0, .int 0, .ref qxla, .ref qxsa, .ref qxmi, .ref qxda]) := (congrFun e_f35 qdr).trans (z_up_ne ne_qdr_qim hf_qdr)
  have hf_qxla : f35 qxla = .inl (cy 1, 5, .inl (fun _ => 0)) := (congrFun e_f35 qxla).trans (z_up_ne ne_qxla_qim hf_qxla)
  have hf_qxsa : f35 qxsa = .inl (cy 1, 4, .inl (fun _ => 0)) := (congrFun e_f35 qxsa).trans (z_up_ne ne_qxsa_qim hf_qxsa)
  have hf_qxmi : f35 qxmi = .inl (cy 1, 36, .inl (fun _ => 0)) := (congrFun e_f35 qxmi).trans (z_up_ne ne_qxmi_qim hf_qxmi)
  have hf_qrd : f35 qrd = .inr (5, [.int 0, .int (-1), .ref qtp, .ref qdr, .int 0, .int 0, .int 0, .int 0, .int 0]) := (congrFun e_f35 qrd).trans (z_up_ne ne_qrd_qim hf_qrd)
  have hf_qi0 : f35 qi0 = .inr (2, [.int 0, .int 0, .int 0, .int 0, .int 0, .int 0, .int 0, .ref qla0, .ref qsa0, .ref qmi0, .ref qda0]) := (congrFun e_f35 qi0).trans (z_up_ne (Ne.symm ne_qim_qi0) hf_qi0)
  have hf_qla0 : f35 qla0 = .inl (cy 1, 5, .inl (fun _ => 0)) := (congrFun e_f35 qla0).trans (z_up_ne (Ne.symm ne_qim_qla0) hf_qla0)
  have hf_qsa0 : f35 qsa0 = .inl (cy 1, 4, .inl (fun _ => 0)) := (congrFun e_f35 qsa0).trans (z_up_ne (Ne.symm ne_qim_qsa0) hf_qsa0)
  have hf_qmi0 : f35 qmi0 = .inl (cy 1, 36, .inl (fun _ => 0)) := (congrFun e_f35 qmi0).trans (z_up_ne (Ne.symm ne_qim_qmi0) hf_qmi0)
  have hf_qi1 : f35 qi1 = .inr (2, [.int 0, .int 0, .int 0, .int 0, .int 0, .int 0, .int 0, .ref qla1, .ref qsa1, .ref qmi1, .ref qda1]) := (congrFun e_f35 qi1).trans (z_up_ne (Ne.symm ne_qim_qi1) hf_qi1)
  have hf_qla1 : f35 qla1 = .inl (cy 1, 5, .inl (fun _ => 0)) := (congrFun e_f35 qla1).trans (z_up_ne (Ne.symm ne_qim_qla1) hf_qla1)
  have hf_qsa1 : f35 qsa1 = .inl (cy 1, 4, .inl (fun _ => 0)) := (congrFun e_f35 qsa1).trans (z_up_ne (Ne.symm ne_qim_qsa1) hf_qsa1)
  have hf_qmi1 : f35 qmi1 = .inl (cy 1, 36, .inl (fun _ => 0)) := (congrFun e_f35 qmi1).trans (z_up_ne (Ne.symm ne_qim_qmi1) hf_qmi1)
  have hf_qim : f35 qim = .inl (cy 5, 3, .inr (.inr (.inr (.inr (va_up g28 (1 : Int32).toNatClampNeg (some qi1)))))) := (congrFun e_f35 qim).trans z_up_self
  have hfr : ∀ b ∈ L, b ≠ hs → f35 b = f b := fun b hb h0 => (congrFun e_f35 b).trans (z_up_ne (z_ne hb hn_qim) (hfr b hb h0))
  obtain ⟨g34, e_g34⟩ : ∃ z, z = (va_up g28 (1 : Int32).toNatClampNeg (some qi1)) := ⟨_, rfl⟩
  rw [← e_g34] at hf_qim
  refine lv_iinc (v := 2) (lv' := [(1, .int 2), (0, .ref hs)]) hx hb dX9_init_84 hl (k := 0) rfl (by decide) (by decide) rfl (fun ls hl => ?_)
  refine lv_goto (tgt := 66) hx hb dX9_init_87 (by decide) ?_
  refine lv_iload_n hx hb dX9_init_66 rfl (lv_at hl 0 rfl) ?_
  refine lv_iconst (v := 3) hx hb dX9_init_67 (by decide) ?_
  refine z_icmp_ge (tgt := 90) hx hb (show (2 : Int32).toInt = 2 by decide) (show (3 : Int32).toInt = 3 by decide) dX9_init_68 (by decide) (fun h => absurd h (by decide)) (fun _ => ?_)
  refine lv_aload_n hx hb dX9_init_71 rfl (lv_at hl 1 rfl) ?_
  refine z_get (C := RX9) (T := TX9) (N := 11) (ci := 9) (v := .ref qim) hx hb hT zin_X9 hown hK hw hm_hs hf_hs rfl 4 (by decide) (hT _ kw_481) rfl dX9_init_72 ?_
  refine lv_iload_n hx hb dX9_init_75 rfl (lv_at hl 0 rfl) ?_
  refine z_new (C := RX2) (T := TX2) (N := 11) (ci := 2) (fs := [.int 0, .int 0, .int 0, .int 0, .int 0, .int 0, .int 0, .null, .null, .null, .null]) (cells := 76) (slots := 2306) hx hb hT zin_X2 tyX2_ok hown (hT _ kw_128) (hT _ kw_129) (hT _ kw_87) hK hw hA rfl (fun j hj => by rcases (show j = 0 ∨ j = 1 ∨ j = 2 ∨ j = 3 ∨ j = 4 ∨ j = 5 ∨ j = 6 ∨ j = 7 ∨ j = 8 ∨ j = 9 ∨ j = 10 by omega) with rfl | rfl | rfl | rfl | rfl | rfl | rfl | rfl | rfl | rfl | rfl <;> rfl) (by decide) (by decide) dX9_init_76 (fun qi2 H hq_qi2 hw => ?_)
  refine W.widen (k := 77) (n := 2317) (by decide) (by decide) ?_
  have ne_hs_qi2 : hs ≠ qi2 := z_ne hm_hs hq_qi2
  have ne_qtp_qi2 : qtp ≠ qi2 := z_ne hm_qtp hq_qi2
  have ne_qba_qi2 : qba ≠ qi2 := z_ne hm_qba hq_qi2
  have ne_qmo_qi2 : qmo ≠ qi2 := z_ne hm_qmo hq_qi2
  have ne_qla_qi2 : qla ≠ qi2 := z_ne hm_qla hq_qi2
  have ne_qsa_qi2 : qsa ≠ qi2 := z_ne hm_qsa hq_qi2
  have ne_qmi_qi2 : qmi ≠ qi2 := z_ne hm_qmi hq_qi2
  have ne_qdr_qi2 : qdr ≠ qi2 := z_ne hm_qdr hq_qi2
  have ne_qxla_qi2 : qxla ≠ qi2 := z_ne hm_qxla hq_qi2
  have ne_qxsa_qi2 : qxsa ≠ qi2 := z_ne hm_qxsa hq_qi2
  have ne_qxmi_qi2 : qxmi ≠ qi2 := z_ne hm_qxmi hq_qi2
  have ne_qrd_qi2 : qrd ≠ qi2 := z_ne hm_qrd hq_qi2
  have ne_qim_qi2 : qim ≠ qi2 := z_ne hm_qim hq_qi2
  have ne_qi0_qi2 : qi0 ≠ qi2 := z_ne hm_qi0 hq_qi2
  have ne_qla0_qi2 : qla0 ≠ qi2 := z_ne hm_qla0 hq_qi2
  have ne_qsa0_qi2 : qsa0 ≠ qi2 := z_ne hm_qsa0 hq_qi2
  have ne_qmi0_qi2 : qmi0 ≠ qi2 := z_ne hm_qmi0 hq_qi2
  have ne_qi1_qi2 : qi1 ≠ qi2 := z_ne hm_qi1 hq_qi2
  have ne_qla1_qi2 : qla1 ≠ qi2 := z_ne hm_qla1 hq_qi2
  have ne_qsa1_qi2 : qsa1 ≠ qi2 := z_ne hm_qsa1 hq_qi2
  have ne_qmi1_qi2 : qmi1 ≠ qi2 := z_ne hm_qmi1 hq_qi2
  have hn_qi2 : qi2 ∉ L := fun h => hq_qi2 (hsub _ h)
  obtain ⟨f37, e_f37⟩ : ∃ z, z = va_up f35 qi2 (.inr (2, [.int 0, .int 0, .int 0, .int 0, .int 0, .int 0, .int 0, .null, .null, .null, .null])) := ⟨_, rfl⟩
  obtain ⟨L36, e_L36⟩ : ∃ z, z = L32 ++ [qi2] := ⟨_, rfl⟩
  rw [← e_f37, ← e_L36] at hw
  have hm_hs : hs ∈ L36 := by rw [e_L36]; exact List.mem_append_left _ hm_hs
  have hf_hs : f37 hs = .inr (9, [.ref qtp, .ref qrd, .ref qmo, .ref qdr, .ref qim, .null, .null, .null, .null, .null, .null]) := (congrFun e_f37 hs).trans (z_up_ne ne_hs_qi2 hf_hs)
  have hm_qtp : qtp ∈ L36 := by rw [e_L36]; exact List.mem_append_left _ hm_qtp
  have hf_qtp : f37 qtp = .inr (7, [.ref qba, .int 0]) := (congrFun e_f37 qtp).trans (z_up_ne ne_qtp_qi2 hf_qtp)
  have hm_qba : qba ∈ L36 := by rw [e_L36]; exact List.mem_append_left _ hm_qba
  have hf_qba : f37 qba = .inl (cy 0, 1600, .inl (fun _ => 0)) := (congrFun e_f37 qba).trans (z_up_ne ne_qba_qi2 hf_qba)
  have hm_qmo : qmo ∈ L36 := by rw [e_L36]; exact List.mem_append_left _ hm_qmo
  have hf_qmo : f37 qmo = .inr (2, [.int 0, .int 0, .int 0, .int 0, .int 0, .int 0, .int 0, .ref qla, .ref qsa, .ref qmi, .ref qda]) := (congrFun e_f37 qmo).trans (z_up_ne ne_qmo_qi2 hf_qmo)
  have hm_qla : qla ∈ L36 := by rw [e_L36]; exact List.mem_append_left _ hm_qla
  have hf_qla : f37 qla = .inl (cy 1, 5, .inl (fun _ => 0)) := (congrFun e_f37 qla).trans (z_up_ne ne_qla_qi2 hf_qla)
  have hm_qsa : qsa ∈ L36 := by rw [e_L36]; exact List.mem_append_left _ hm_qsa
  have hf_qsa : f37 qsa = .inl (cy 1, 4, .inl (fun _ => 0)) := (congrFun e_f37 qsa).trans (z_up_ne ne_qsa_qi2 hf_qsa)
  have hm_qmi : qmi ∈ L36 := by rw [e_L36]; exact List.mem_append_left _ hm_qmi
  have hf_qmi : f37 qmi = .inl (cy 1, 36, .inl (fun _ => 0)) := (congrFun e_f37 qmi).trans (z_up_ne ne_qmi_qi2 hf_qmi)
  have hm_qdr : qdr ∈ L36 := by rw [e_L36]; exact List.mem_append_left _ hm_qdr
  have hf_qdr : f37 qdr = .inr (2, [.int 0, .int 0, .int 0, .int 0, .int 0, .int 0, .int 0, .ref qxla, .ref qxsa, .ref qxmi, .ref qxda]) := (congrFun e_f37 qdr).trans (z_up_ne ne_qdr_qi2 hf_qdr)
  have hm_qxla : qxla ∈ L36 := by rw [e_L36]; exact List.mem_append_left _ hm_qxla
  have hf_qxla : f37 qxla = .inl (cy 1, 5, .inl (fun _ => 0)) := (congrFun e_f37 qxla).trans (z_up_ne ne_qxla_qi2 hf_qxla)
  have hm_qxsa : qxsa ∈ L36 := by rw [e_L36]; exact List.mem_append_left _ hm_qxsa
  have hf_qxsa : f37 qxsa = .inl (cy 1, 4, .inl (fun _ => 0)) := (congrFun e_f37 qxsa).trans (z_up_ne ne_qxsa_qi2 hf_qxsa)
  have hm_qxmi : qxmi ∈ L36 := by rw [e_L36]; exact List.mem_append_left _ hm_qxmi
  have hf_qxmi : f37 qxmi = .inl (cy 1, 36, .inl (fun _ => 0)) := (congrFun e_f37 qxmi).trans (z_up_ne ne_qxmi_qi2 hf_qxmi)
  have hm_qrd : qrd ∈ L36 := by rw [e_L36]; exact List.mem_append_left _ hm_qrd
  have hf_qrd : f37 qrd = .inr (5, [.int 0, .int (-1), .ref qtp, .ref qdr, .int 0, .int 0, .int 0, .int 0, .int 0]) := (congrFun e_f37 qrd).trans (z_up_ne ne_qrd_qi2 hf_qrd)
  have hm_qim : qim ∈ L36 := by rw [e_L36]; exact List.mem_append_left _ hm_qim
  have hf_qim : f37 qim = .inl (cy 5, 3, .inr (.inr (.inr (.inr g34)))) := (congrFun e_f37 qim).trans (z_up_ne ne_qim_qi2 hf_qim)
  have hm_qi0 : qi0 ∈ L36 := by rw [e_L36]; exact List.mem_append_left _ hm_qi0
  have hf_qi0 : f37 qi0 = .inr (2, [.int 0, .int 0, .int 0, .int 0, .int 0, .int 0, .int 0, .ref qla0, .ref qsa0, .ref qmi0, .ref qda0]) := (congrFun e_f37 qi0).trans (z_up_ne ne_qi0_qi2 hf_qi0)
  have hm_qla0 : qla0 ∈ L36 := by rw [e_L36]; exact List.mem_append_left _ hm_qla0
  have hf_qla0 : f37 qla0 = .inl (cy 1, 5, .inl (fun _ => 0)) := (congrFun e_f37 qla0).trans (z_up_ne ne_qla0_qi2 hf_qla0)
  have hm_qsa0 : qsa0 ∈ L36 := by rw [e_L36]; exact List.mem_append_left _ hm_qsa0
  have hf_qsa0 : f37 qsa0 = .inl (cy 1, 4, .inl (fun _ => 0)) := (congrFun e_f37 qsa0).trans (z_up_ne ne_qsa0_qi2 hf_qsa0)
  have hm_qmi0 : qmi0 ∈ L36 := by rw [e_L36]; exact List.mem_append_left _ hm_qmi0
  have hf_qmi0 : f37 qmi0 = .inl (cy 1, 36, .inl (fun _ => 0)) := (congrFun e_f37 qmi0).trans (z_up_ne ne_qmi0_qi2 hf_qmi0)
  have hm_qi1 : qi1 ∈ L36 := by rw [e_L36]; exact List.mem_append_left _ hm_qi1
  have hf_qi1 : f37 qi1 = .inr (2, [.int 0, .int 0, .int 0, .int 0, .int 0, .int 0, .int 0, .ref qla1, .ref qsa1, .ref qmi1, .ref qda1]) := (congrFun e_f37 qi1).trans (z_up_ne ne_qi1_qi2 hf_qi1)
  have hm_qla1 : qla1 ∈ L36 := by rw [e_L36]; exact List.mem_append_left _ hm_qla1
  have hf_qla1 : f37 qla1 = .inl (cy 1, 5, .inl (fun _ => 0)) := (congrFun e_f37 qla1).trans (z_up_ne ne_qla1_qi2 hf_qla1)
  have hm_qsa1 : qsa1 ∈ L36 := by rw [e_L36]; exact List.mem_append_left _ hm_qsa1
  have hf_qsa1 : f37 qsa1 = .inl (cy 1, 4, .inl (fun _ => 0)) := (congrFun e_f37 qsa1).trans (z_up_ne ne_qsa1_qi2 hf_qsa1)
  have hm_qmi1 : qmi1 ∈ L36 := by rw [e_L36]; exact List.mem_append_left _ hm_qmi1
  have hf_qmi1 : f37 qmi1 = .inl (cy 1, 36, .inl (fun _ => 0)) := (congrFun e_f37 qmi1).trans (z_up_ne ne_qmi1_qi2 hf_qmi1)
  have hm_qi2 : qi2 ∈ L36 := by rw [e_L36]; exact List.mem_append_right _ (List.mem_singleton.mpr rfl)
  have hf_qi2 : f37 qi2 = .inr (2, [.int 0, .int 0, .int 0, .int 0, .int 0, .int 0, .int 0, .null, .null, .null, .null]) := (congrFun e_f37 qi2).trans z_up_self
  have hsub : ∀ b ∈ L, b ∈ L36 := fun b h => by rw [e_L36]; exact List.mem_append_left _ (hsub b h)
  have hfr : ∀ b ∈ L, b ≠ hs → f37 b = f b := fun b hb h0 => (congrFun e_f37 b).trans (z_up_ne (z_ne hb hn_qi2) (hfr b hb h0))
  refine lv_dup hx hb dX9_init_79 rfl ?_
  refine z_callvI (cells := 77) (slots := 2317) (b := qi2) (As := []) (rest := [.ref qi2, .int 2, .ref qim]) ⟨hx, hb, hml, hown, hT⟩ (c_X2_init l hm_qi2 hf_qi2) (cwI 0 hT (z_goodI (fun _ h => h) kw_132) rfl rfl rfl (hT _ kw_87) (hT _ kw_130) (hT _ kw_131) rfl (by decide +kernel) ⟨by decide, by decide⟩) z_mv hKK hw hA rfl hl.1 rfl (Nat.le_of_ble_eq_true rfl) dX9_init_80 ⟨by decide, by decide⟩ (fun u H locs hp hw => ?_)
  refine W.widen (k := 94) (n := 2479) (by decide) (by decide) ?_
  obtain ⟨L38, f39⟩ := u
  obtain ⟨hsb, hfm, qla2, qsa2, qmi2, qda2, ha_0, ⟨hq_qla2, hm_qla2, hf_qla2⟩, ⟨hq_qsa2, hm_qsa2, hf_qsa2⟩, ⟨hq_qmi2, hm_qmi2, hf_qmi2⟩, hp⟩ := hp
  have hw : z_H D vwCl (z_A L sz) s.heap L38 f39 H locs := hw
  have ne_hs_qla2 : hs ≠ qla2 := z_ne hm_hs hq_qla2
  have ne_qtp_qla2 : qtp ≠ qla2 := z_ne hm_qtp hq_qla2
  have ne_qba_qla2 : qba ≠ qla2 := z_ne hm_qba hq_qla2
  have ne_qmo_qla2 : qmo ≠ qla2 := z_ne hm_qmo hq_qla2
  have ne_qla_qla2 : qla ≠ qla2 := z_ne hm_qla hq_qla2
  have ne_qsa_qla2 : qsa ≠ qla2 := z_ne hm_qsa hq_qla2
  have ne_qmi_qla2 : qmi ≠ qla2 := z_ne hm_qmi hq_qla2
  have ne_qdr_qla2 : qdr ≠ qla2 := z_ne hm_qdr hq_qla2
  have ne_qxla_qla2 : qxla ≠ qla2 := z_ne hm_qxla hq_qla2
  have ne_qxsa_qla2 : qxsa ≠ qla2 := z_ne hm_qxsa hq_qla2
  have ne_qxmi_qla2 : qxmi ≠ qla2 := z_ne hm_qxmi hq_qla2
  have ne_qrd_qla2 : qrd ≠ qla2 := z_ne hm_qrd hq_qla2
  have ne_qim_qla2 : qim ≠ qla2 := z_ne hm_qim hq_qla2
  have ne_qi0_qla2 : qi0 ≠ qla2 := z_ne hm_qi0 hq_qla2
  have ne_qla0_qla2 : qla0 ≠ qla2 := z_ne hm_qla0 hq_qla2
  have ne_qsa0_qla2 : qsa0 ≠ qla2 := z_ne hm_qsa0 hq_qla2
  have ne_qmi0_qla2 : qmi0 ≠ qla2 := z_ne hm_qmi0 hq_qla2
  have ne_qi1_qla2 : qi1 ≠ qla2 := z_ne hm_qi1 hq_qla2
  have ne_qla1_qla2 : qla1 ≠ qla2 := z_ne hm_qla1 hq_qla2
  have ne_qsa1_qla2 : qsa1 ≠ qla2 := z_ne hm_qsa1 hq_qla2
  have ne_qmi1_qla2 : qmi1 ≠ qla2 := z_ne hm_qmi1 hq_qla2
  have ne_qi2_qla2 : qi2 ≠ qla2 := z_ne hm_qi2 hq_qla2
  have ne_hs_qsa2 : hs ≠ qsa2 := z_ne hm_hs hq_qsa2
  have ne_qtp_qsa2 : qtp ≠ qsa2 := z_ne hm_qtp hq_qsa2
  have ne_qba_qsa2 : qba ≠ qsa2 := z_ne hm_qba hq_qsa2
  have ne_qmo_qsa2 : qmo ≠ qsa2 := z_ne hm_qmo hq_qsa2
  have ne_qla_qsa2 : qla ≠ qsa2 := z_ne hm_qla hq_qsa2
  have ne_qsa_qsa2 : qsa ≠ qsa2 := z_ne hm_qsa hq_qsa2
  have ne_qmi_qsa2 : qmi ≠ qsa2 := z_ne hm_qmi hq_qsa2
  have ne_qdr_qsa2 : qdr ≠ qsa2 := z_ne hm_qdr hq_qsa2
  have ne_qxla_qsa2 : qxla ≠ qsa2 := z_ne hm_qxla hq_qsa2
  have ne_qxsa_qsa2 : qxsa ≠ qsa2 := z_ne hm_qxsa hq_qsa2
  have ne_qxmi_qsa2 : qxmi ≠ qsa2 := z_ne hm_qxmi hq_qsa2
  have ne_qrd_qsa2 : qrd ≠ qsa2 := z_ne hm_qrd hq_qsa2
  have ne_qim_qsa2 : qim ≠ qsa2 := z_ne hm_qim hq_qsa2
  have ne_qi0_qsa2 : qi0 ≠ qsa2 := z_ne hm_qi0 hq_qsa2
  have ne_qla0_qsa2 : qla0 ≠ qsa2 := z_ne hm_qla0 hq_qsa2
  have ne_qsa0_qsa2 : qsa0 ≠ qsa2 := z_ne hm_qsa0 hq_qsa2
  have ne_qmi0_qsa2 : qmi0 ≠ qsa2 := z_ne hm_qmi0 hq_qsa2
  have ne_qi1_qsa2 : qi1 ≠ qsa2 := z_ne hm_qi1 hq_qsa2
  have ne_qla1_qsa2 : qla1 ≠ qsa2 := z_ne hm_qla1 hq_qsa2
  have ne_qsa1_qsa2 : qsa1 ≠ qsa2 := z_ne hm_qsa1 hq_qsa2
  have ne_qmi1_qsa2 : qmi1 ≠ qsa2 := z_ne hm_qmi1 hq_qsa2
  have ne_qi2_qsa2 : qi2 ≠ qsa2 := z_ne hm_qi2 hq_qsa2
  have ne_hs_qmi2 : hs ≠ qmi2 := z_ne hm_hs hq_qmi2
  have ne_qtp_qmi2 : qtp ≠ qmi2 := z_ne hm_qtp hq_qmi2
  have ne_qba_qmi2 : qba ≠ qmi2 := z_ne hm_qba hq_qmi2
  have ne_qmo_qmi2 : qmo ≠ qmi2 := z_ne hm_qmo hq_qmi2
  have ne_qla_qmi2 : qla ≠ qmi2 := z_ne hm_qla hq_qmi2
  have ne_qsa_qmi2 : qsa ≠ qmi2 := z_ne hm_qsa hq_qmi2
  have ne_qmi_qmi2 : qmi ≠ qmi2 := z_ne hm_qmi hq_qmi2
  have ne_qdr_qmi2 : qdr ≠ qmi2 := z_ne hm_qdr hq_qmi2
  have ne_qxla_qmi2 : qxla ≠ qmi2 := z_ne hm_qxla hq_qmi2
  have ne_qxsa_qmi2 : qxsa ≠ qmi2 := z_ne hm_qxsa hq_qmi2
  have ne_qxmi_qmi2 : qxmi ≠ qmi2 := z_ne hm_qxmi hq_qmi2
  have ne_qrd_qmi2 : qrd ≠ qmi2 := z_ne hm_qrd hq_qmi2
  have ne_qim_qmi2 : qim ≠ qmi2 := z_ne hm_qim hq_qmi2
  have ne_qi0_qmi2 : qi0 ≠ qmi2 := z_ne hm_qi0 hq_qmi2
  have ne_qla0_qmi2 : qla0 ≠ qmi2 := z_ne hm_qla0 hq_qmi2
  have ne_qsa0_qmi2 : qsa0 ≠ qmi2 := z_ne hm_qsa0 hq_qmi2
  have ne_qmi0_qmi2 : qmi0 ≠ qmi2 := z_ne hm_qmi0 hq_qmi2
  have ne_qi1_qmi2 : qi1 ≠ qmi2 := z_ne hm_qi1 hq_qmi2
  have ne_qla1_qmi2 : qla1 ≠ qmi2 := z_ne hm_qla1 hq_qmi2
  have ne_qsa1_qmi2 : qsa1 ≠ qmi2 := z_ne hm_qsa1 hq_qmi2
  have ne_qmi1_qmi2 : qmi1 ≠ qmi2 := z_ne hm_qmi1 hq_qmi2
  have ne_qi2_qmi2 : qi2 ≠ qmi2 := z_ne hm_qi2 hq_qmi2
  have hfr : ∀ b ∈ L, b ≠ hs → f39 b = f b := fun b hb h0 => (hfm b (hsub b hb) (z_ne hb hn_qi2)).trans (hfr b hb h0)
  have hn_qla2 : qla2 ∉ L := fun h => hq_qla2 (hsub _ h)
  have hn_qsa2 : qsa2 ∉ L := fun h => hq_qsa2 (hsub _ h)
  have hn_qmi2 : qmi2 ∉ L := fun h => hq_qmi2 (hsub _ h)
  have hsub : ∀ b ∈ L, b ∈ L38 := fun b h => hsb b (hsub b h)
  have hf_hs : f39 hs = .inr (9, [.ref qtp, .ref qrd, .ref qmo, .ref qdr, .ref qim, .null, .null, .null, .null, .null, .null]) := (hfm hs hm_hs ne_hs_qi2).trans hf_hs
  have hf_qtp : f39 qtp = .inr (7, [.ref qba, .int 0]) := (hfm qtp hm_qtp ne_qtp_qi2).trans hf_qtp
  have hf_qba : f39 qba = .inl (cy 0, 1600, .inl (fun _ => 0)) := (hfm qba hm_qba ne_qba_qi2).trans hf_qba
  have hf_qmo : f39 qmo = .inr (2, [.int 0, .int 0, .int 0, .int 0, .int 0, .int 0, .int 0, .ref qla, .ref qsa, .ref qmi, .ref qda]) := (hfm qmo hm_qmo ne_qmo_qi2).trans hf_qmo
  have hf_qla : f39 qla = .inl (cy 1, 5, .inl (fun _ => 0)) := (hfm qla hm_qla ne_qla_qi2).trans hf_qla
  have hf_qsa : f39 qsa = .inl (cy 1, 4, .inl (fun _ => 0)) := (hfm qsa hm_qsa ne_qsa_qi2).trans hf_qsa
  have hf_qmi : f39 qmi = .inl (cy 1, 36, .inl (fun _ => 0)) := (hfm qmi hm_qmi ne_qmi_qi2).trans hf_qmi
  have hf_qdr : f39 qdr = .inr (2, [.int 0, .int 0, .int 0, .int 0, .int 0, .int 0, .int 0, .ref qxla, .ref qxsa, .ref qxmi, .ref qxda]) := (hfm qdr hm_qdr ne_qdr_qi2).trans hf_qdr
  have hf_qxla : f39 qxla = .inl (cy 1, 5, .inl (fun _ => 0)) := (hfm qxla hm_qxla ne_qxla_qi2).trans hf_qxla
  have hf_qxsa : f39 qxsa = .inl (cy 1, 4, .inl (fun _ => 0)) := (hfm qxsa hm_qxsa ne_qxsa_qi2).trans hf_qxsa
  have hf_qxmi : f39 qxmi = .inl (cy 1, 36, .inl (fun _ => 0)) := (hfm qxmi hm_qxmi ne_qxmi_qi2).trans hf_qxmi
  have hf_qrd : f39 qrd = .inr (5, [.int 0, .int (-1), .ref qtp, .ref qdr, .int 0, .int 0, .int 0, .int 0, .int 0]) := (hfm qrd hm_qrd ne_qrd_qi2).trans hf_qrd
  have hf_qim : f39 qim = .inl (cy 5, 3, .inr (.inr (.inr (.inr g34)))) := (hfm qim hm_qim ne_qim_qi2).trans hf_qim
  have hf_qi0 : f39 qi0 = .inr (2, [.int 0, .int 0, .int 0, .int 0, .int 0, .int 0, .int 0, .ref qla0, .ref qsa0, .ref qmi0, .ref qda0]) := (hfm qi0 hm_qi0 ne_qi0_qi2).trans hf_qi0
  have hf_qla0 : f39 qla0 = .inl (cy 1, 5, .inl (fun _ => 0)) := (hfm qla0 hm_qla0 ne_qla0_qi2).trans hf_qla0
  have hf_qsa0 : f39 qsa0 = .inl (cy 1, 4, .inl (fun _ => 0)) := (hfm qsa0 hm_qsa0 ne_qsa0_qi2).trans hf_qsa0
  have hf_qmi0 : f39 qmi0 = .inl (cy 1, 36, .inl (fun _ => 0)) := (hfm qmi0 hm_qmi0 ne_qmi0_qi2).trans hf_qmi0
  have hf_qi1 : f39 qi1 = .inr (2, [.int 0, .int 0, .int 0, .int 0, .int 0, .int 0, .int 0, .ref qla1, .ref qsa1, .ref qmi1, .ref qda1]) := (hfm qi1 hm_qi1 ne_qi1_qi2).trans hf_qi1
  have hf_qla1 : f39 qla1 = .inl (cy 1, 5, .inl (fun _ => 0)) := (hfm qla1 hm_qla1 ne_qla1_qi2).trans hf_qla1
  have hf_qsa1 : f39 qsa1 = .inl (cy 1, 4, .inl (fun _ => 0)) := (hfm qsa1 hm_qsa1 ne_qsa1_qi2).trans hf_qsa1
  have hf_qmi1 : f39 qmi1 = .inl (cy 1, 36, .inl (fun _ => 0)) := (hfm qmi1 hm_qmi1 ne_qmi1_qi2).trans hf_qmi1
  have hm_hs : hs ∈ L38 := hsb _ hm_hs
  have hm_qtp : qtp ∈ L38 := hsb _ hm_qtp
  have hm_qba : qba ∈ L38 := hsb _ hm_qba
  have hm_qmo : qmo ∈ L38 := hsb _ hm_qmo
  have hm_qla : qla ∈ L38 := hsb _ hm_qla
  have hm_qsa : qsa ∈ L38 := hsb _ hm_qsa
  have hm_qmi : qmi ∈ L38 := hsb _ hm_qmi
  have hm_qdr : qdr ∈ L38 := hsb _ hm_qdr
  have hm_qxla : qxla ∈ L38 := hsb _ hm_qxla
  have hm_qxsa : qxsa ∈ L38 := hsb _ hm_qxsa
  have hm_qxmi : qxmi ∈ L38 := hsb _ hm_qxmi
  have hm_qrd : qrd ∈ L38 := hsb _ hm_qrd
  have hm_qim : qim ∈ L38 := hsb _ hm_qim
  have hm_qi0 : qi0 ∈ L38 := hsb _ hm_qi0
  have hm_qla0 : qla0 ∈ L38 := hsb _ hm_qla0
  have hm_qsa0 : qsa0 ∈ L38 := hsb _ hm_qsa0
  have hm_qmi0 : qmi0 ∈ L38 := hsb _ hm_qmi0
  have hm_qi1 : qi1 ∈ L38 := hsb _ hm_qi1
  have hm_qla1 : qla1 ∈ L38 := hsb _ hm_qla1
  have hm_qsa1 : qsa1 ∈ L38 := hsb _ hm_qsa1
  have hm_qmi1 : qmi1 ∈ L38 := hsb _ hm_qmi1
  have hm_qi2 : qi2 ∈ L38 := hsb _ hm_qi2
  have hf_qi2 : f39 qi2 = .inr (2, [.int 0, .int 0, .int 0, .int 0, .int 0, .int 0, .int 0, .ref qla2, .ref qsa2, .ref qmi2, .ref qda2]) := ha_0
  have hf_qla2 : f39 qla2 = .inl (cy 1, 5, .inl (fun _ => 0)) := hf_qla2
  have hm_qla2 : qla2 ∈ L38 := hm_qla2
  have hf_qsa2 : f39 qsa2 = .inl (cy 1, 4, .inl (fun _ => 0)) := hf_qsa2
  have hm_qsa2 : qsa2 ∈ L38 := hm_qsa2
  have hf_qmi2 : f39 qmi2 = .inl (cy 1, 36, .inl (fun _ => 0)) := hf_qmi2
  have hm_qmi2 : qmi2 ∈ L38 := hm_qmi2
  refine z_aast (r := (RX2, TX2, 11)) hx hb hK hw 5 2 hm_qim hf_qim rfl hm_qi2 hf_qi2 rfl (z_ix (show (2 : Int32).toInt = 2 by decide) (by decide)) dX9_init_83 (fun H locs hw => ?_)
  obtain ⟨f41, e_f41⟩ : ∃ z, z = va_up f39 qim (.inl (cy 5, 3, .inr (.inr (.inr (.inr (va_up g34 (2 : Int32).toNatClampNeg (some qi2))))))) := ⟨_, rfl⟩
  rw [← e_f41] at hw
  have hf_hs : f41 hs = .inr (9, [.ref qtp, .ref qrd, .ref qmo, .ref qdr, .ref qim, .null, .null, .null, .null, .null, .null]) := (congrFun e_f41 hs).trans (z_up_ne ne_hs_qim hf_hs)
  have hf_qtp : f41 qtp = .inr (7, [.ref qba, .int 0]) := (congrFun e_f41 qtp).trans (z_up_ne ne_qtp_qim hf_qtp)
  have hf_qba : f41 qba = .inl (cy 0, 1600, .inl (fun _ => 0)) := (congrFun e_f41 qba).trans (z_up_ne ne_qba_qim hf_qba)
  have hf_qmo : f41 qmo = .inr (2, [.int 0, .int 0, .int 0, .int 0, .int 0, .int 0, .int 0, .ref qla, .ref qsa, .ref qmi, .ref qda]) := (congrFun e_f41 qmo).trans (z_up_ne ne_qmo_qim hf_qmo)
  have hf_qla : f41 qla = .inl (cy 1, 5, .inl (fun _ => 0)) := (congrFun e_f41 qla).trans (z_up_ne ne_qla_qim hf_qla)
  have hf_qsa : f41 qsa = .inl (cy 1, 4, .inl (fun _ => 0)) := (congrFun e_f41 qsa).trans (z_up_ne ne_qsa_qim hf_qsa)
  have hf_qmi : f41 qmi = .inl (cy 1, 36, .inl (fun _ => 0)) := (congrFun e_f41 qmi).trans (z_up_ne ne_qmi_qim hf_qmi)
  have hf_qdr : f41 qdr = .inr (2, [.int 0, .int 0, .int 0, .int 0, .int 0, .int 0, .int 0, .ref qxla, .ref qxsa, .ref qxmi, .ref qxda]) := (congrFun e_f41 qdr).trans (z_up_ne ne_qdr_qim hf_qdr)
  have hf_qxla : f41 qxla = .inl (cy 1, 5, .inl (fun _ => 0)) := (congrFun e_f41 qxla).trans (z_up_ne ne_qxla_qim hf_qxla)
  have hf_qxsa : f41 qxsa = .inl (cy 1, 4, .inl (fun _ => 0)) := (congrFun e_f41 qxsa).trans (z_up_ne ne_qxsa_qim hf_qxsa)
  have hf_qxmi : f41 qxmi = .inl (cy 1, 36, .inl (fun _ => 0)) := (congrFun e_f41 qxmi).trans (z_up_ne ne_qxmi_qim hf_qxmi)
  have hf_qrd : f41 qrd = .inr (5, [.int 0, .int (-1), .ref qtp, .ref qdr, .int 0, .int 0, .int 0, .int 0, .int 0]) := (congrFun e_f41 qrd).trans (z_up_ne ne_qrd_qim hf_qrd)
  have hf_qi0 : f41 qi0 = .inr (2, [.int 0, .int 0, .int 0, .int 0, .int 0, .int 0, .int 0, .ref qla0, .ref qsa0, .ref qmi0, .ref qda0]) := (congrFun e_f41 qi0).trans (z_up_ne (Ne.symm ne_qim_qi0) hf_qi0)
  have hf_qla0 : f41 qla0 = .inl (cy 1, 5, .inl (fun _ => 0)) := (congrFun e_f41 qla0).trans (z_up_ne (Ne.symm ne_qim_qla0) hf_qla0)
  have hf_qsa0 : f41 qsa0 = .inl (cy 1, 4, .inl (fun _ => 0)) := (congrFun e_f41 qsa0).trans (z_up_ne (Ne.symm ne_qim_qsa0) hf_qsa0)
  have hf_qmi0 : f41 qmi0 = .inl (cy 1, 36, .inl (fun _ => 0)) := (congrFun e_f41 qmi0).trans (z_up_ne (Ne.symm ne_qim_qmi0) hf_qmi0)
  have hf_qi1 : f41 qi1 = .inr (2, [.int 0, .int 0, .int 0, .int 0, .int 0, .int 0, .int 0, .ref qla1, .ref qsa1, .ref qmi1, .ref qda1]) := (congrFun e_f41 qi1).trans (z_up_ne (Ne.symm ne_qim_qi1) hf_qi1)
  have hf_qla1 : f41 qla1 = .inl (cy 1, 5, .inl (fun _ => 0)) := (congrFun e_f41 qla1).trans (z_up_ne (Ne.symm ne_qim_qla1) hf_qla1)
  have hf_qsa1 : f41 qsa1 = .inl (cy 1, 4, .inl (fun _ => 0)) := (congrFun e_f41 qsa1).trans (z_up_ne (Ne.symm ne_qim_qsa1) hf_qsa1)
  have hf_qmi1 : f41 qmi1 = .inl (cy 1, 36, .inl (fun _ => 0)) := (congrFun e_f41 qmi1).trans (z_up_ne (Ne.symm ne_qim_qmi1) hf_qmi1)
  have hf_qi2 : f41 qi2 = .inr (2, [.int 0, .int 0, .int 0, .int 0, .int 0, .int 0, .int 0, .ref qla2, .ref qsa2, .ref qmi2, .ref qda2]) := (congrFun e_f41 qi2).trans (z_up_ne (Ne.symm ne_qim_qi2) hf_qi2)
  have hf_qla2 : f41 qla2 = .inl (cy 1, 5, .inl (fun _ => 0)) := (congrFun e_f41 qla2).trans (z_up_ne (Ne.symm ne_qim_qla2) hf_qla2)
  have hf_qsa2 : f41 qsa2 = .inl (cy 1, 4, .inl (fun _ => 0)) := (congrFun e_f41 qsa2).trans (z_up_ne (Ne.symm ne_qim_qsa2) hf_qsa2)
  have hf_qmi2 : f41 qmi2 = .inl (cy 1, 36, .inl (fun _ => 0)) := (congrFun e_f41 qmi2).trans (z_up_ne (Ne.symm ne_qim_qmi2) hf_qmi2)
  have hf_qim : f41 qim = .inl (cy 5, 3, .inr (.inr (.inr (.inr (va_up g34 (2 : Int32).toNatClampNeg (some qi2)))))) := (congrFun e_f41 qim).trans z_up_self
  have hfr : ∀ b ∈ L, b ≠ hs → f41 b = f b := fun b hb h0 => (congrFun e_f41 b).trans (z_up_ne (z_ne hb hn_qim) (hfr b hb h0))
  obtain ⟨g40, e_g40⟩ : ∃ z, z = (va_up g34 (2 : Int32).toNatClampNeg (some qi2)) := ⟨_, rfl⟩
  rw [← e_g40] at hf_qim
  refine lv_iinc (v := 3) (lv' := [(1, .int 3), (0, .ref hs)]) hx hb dX9_init_84 hl (k := 0) rfl (by decide) (by decide) rfl (fun ls hl => ?_)
  refine lv_goto (tgt := 66) hx hb dX9_init_87 (by decide) ?_
  refine lv_iload_n hx hb dX9_init_66 rfl (lv_at hl 0 rfl) ?_
  refine lv_iconst (v := 3) hx hb dX9_init_67 (by decide) ?_
  refine z_icmp_ge (tgt := 90) hx hb (show (3 : Int32).toInt = 3 by decide) (show (3 : Int32).toInt = 3 by decide) dX9_init_68 (by decide) (fun _ => ?_) (fun h => absurd h (by decide))
  refine lv_aload_n hx hb dX9_init_90 rfl (lv_at hl 1 rfl) ?_
  refine lv_iconst (v := 3) hx hb dX9_init_91 (by decide) ?_
  refine z_newa (atype := .boolean) (n := 3) (N' := 3) (a0 := (3, .inl (fun _ => 0))) (cells := 94) (slots := 2479) hx hb (hT _ kw_334) rfl 3 rfl (fun _ h => by cases h) hK hw hA (fun _ => rfl) (by decide) (by decide) (by decide) (by decide) (by decide) dX9_init_92 (fun qkp H hq_qkp hw => ?_)
  refine W.widen (k := 95) (n := 2482) (by decide) (by decide) ?_
  have ne_hs_qkp : hs ≠ qkp := z_ne hm_hs hq_qkp
  have ne_qtp_qkp : qtp ≠ qkp := z_ne hm_qtp hq_qkp
  have ne_qba_qkp : qba ≠ qkp := z_ne hm_qba hq_qkp
  have ne_qmo_qkp : qmo ≠ qkp := z_ne hm_qmo hq_qkp
  have ne_qla_qkp : qla ≠ qkp := z_ne hm_qla hq_qkp
  have ne_qsa_qkp : qsa ≠ qkp := z_ne hm_qsa hq_qkp
  have ne_qmi_qkp : qmi ≠ qkp := z_ne hm_qmi hq_qkp
  have ne_qdr_qkp : qdr ≠ qkp := z_ne hm_qdr hq_qkp
  have ne_qxla_qkp : qxla ≠ qkp := z_ne hm_qxla hq_qkp
  have ne_qxsa_qkp : qxsa ≠ qkp := z_ne hm_qxsa hq_qkp
  have ne_qxmi_qkp : qxmi ≠ qkp := z_ne hm_qxmi hq_qkp
  have ne_qrd_qkp : qrd ≠ qkp := z_ne hm_qrd hq_qkp
  have ne_qim_qkp : qim ≠ qkp := z_ne hm_qim hq_qkp
  have ne_qi0_qkp : qi0 ≠ qkp := z_ne hm_qi0 hq_qkp
  have ne_qla0_qkp : qla0 ≠ qkp := z_ne hm_qla0 hq_qkp
  have ne_qsa0_qkp : qsa0 ≠ qkp := z_ne hm_qsa0 hq_qkp
  have ne_qmi0_qkp : qmi0 ≠ qkp := z_ne hm_qmi0 hq_qkp
  have ne_qi1_qkp : qi1 ≠ qkp := z_ne hm_qi1 hq_qkp
  have ne_qla1_qkp : qla1 ≠ qkp := z_ne hm_qla1 hq_qkp
  have ne_qsa1_qkp : qsa1 ≠ qkp := z_ne hm_qsa1 hq_qkp
  have ne_qmi1_qkp : qmi1 ≠ qkp := z_ne hm_qmi1 hq_qkp
  have ne_qi2_qkp : qi2 ≠ qkp := z_ne hm_qi2 hq_qkp
  have ne_qla2_qkp : qla2 ≠ qkp := z_ne hm_qla2 hq_qkp
  have ne_qsa2_qkp : qsa2 ≠ qkp := z_ne hm_qsa2 hq_qkp
  have ne_qmi2_qkp : qmi2 ≠ qkp := z_ne hm_qmi2 hq_qkp
  have hn_qkp : qkp ∉ L := fun h => hq_qkp (hsub _ h)
  obtain ⟨f43, e_f43⟩ : ∃ z, z = va_up f41 qkp (.inl (cy 3, 3, .inl (fun _ => 0))) := ⟨_, rfl⟩
  obtain ⟨L42, e_L42⟩ : ∃ z, z = L38 ++ [qkp] := ⟨_, rfl⟩
  rw [← e_f43, ← e_L42] at hw
  have hm_hs : hs ∈ L42 := by rw [e_L42]; exact List.mem_append_left _ hm_hs
  have hf_hs : f43 hs = .inr (9, [.ref qtp, .ref qrd, .ref qmo, .ref qdr, .ref qim, .null, .null, .null, .null, .null, .null]) := (congrFun e_f43 hs).trans (z_up_ne ne_hs_qkp hf_hs)
  have hm_qtp : qtp ∈ L42 := by rw [e_L42]; exact List.mem_append_left _ hm_qtp
  have hf_qtp : f43 qtp = .inr (7, [.ref qba, .int 0]) := (congrFun e_f43 qtp).trans (z_up_ne ne_qtp_qkp hf_qtp)
  have hm_qba : qba ∈ L42 := by rw [e_L42]; exact List.mem_append_left _ hm_qba
  have hf_qba : f43 qba = .inl (cy 0, 1600, .inl (fun _ => 0)) := (congrFun e_f43 qba).trans (z_up_ne ne_qba_qkp hf_qba)
  have hm_qmo : qmo ∈ L42 := by rw [e_L42]; exact List.mem_append_left _ hm_qmo
  have hf_qmo : f43 qmo = .inr (2, [.int 0, .int 0, .int 0, .int 0, .int 0, .int 0, .int 0, .ref qla, .ref qsa, .ref qmi, .ref qda]) := (congrFun e_f43 qmo).trans (z_up_ne ne_qmo_qkp hf_qmo)
  have hm_qla : qla ∈ L42 := by rw [e_L42]; exact List.mem_append_left _ hm_qla
  have hf_qla : f43 qla = .inl (cy 1, 5, .inl (fun _ => 0)) := (congrFun e_f43 qla).trans (z_up_ne ne_qla_qkp hf_qla)
  have hm_qsa : qsa ∈ L42 := by rw [e_L42]; exact List.mem_append_left _ hm_qsa
  have hf_qsa : f43 qsa = .inl (cy 1, 4, .inl (fun _ => 0)) := (congrFun e_f43 qsa).trans (z_up_ne ne_qsa_qkp hf_qsa)
  have hm_qmi : qmi ∈ L42 := by rw [e_L42]; exact List.mem_append_left _ hm_qmi
  have hf_qmi : f43 qmi = .inl (cy 1, 36, .inl (fun _ => 0)) := (congrFun e_f43 qmi).trans (z_up_ne ne_qmi_qkp hf_qmi)
  have hm_qdr : qdr ∈ L42 := by rw [e_L42]; exact List.mem_append_left _ hm_qdr
  have hf_qdr : f43 qdr = .inr (2, [.int 0, .int 0, .int 0, .int 0, .int 0, .int 0, .int 0, .ref qxla, .ref qxsa, .ref qxmi, .ref qxda]) := (congrFun e_f43 qdr).trans (z_up_ne ne_qdr_qkp hf_qdr)
  have hm_qxla : qxla ∈ L42 := by rw [e_L42]; exact List.mem_append_left _ hm_qxla
  have hf_qxla : f43 qxla = .inl (cy 1, 5, .inl (fun _ => 0)) := (congrFun e_f43 qxla).trans (z_up_ne ne_qxla_qkp hf_qxla)
  have hm_qxsa : qxsa ∈ L42 := by rw [e_L42]; exact List.mem_append_left _ hm_qxsa
  have hf_qxsa : f43 qxsa = .inl (cy 1, 4, .inl (fun _ => 0)) := (congrFun e_f43 qxsa).trans (z_up_ne ne_qxsa_qkp hf_qxsa)
  have hm_qxmi : qxmi ∈ L42 := by rw [e_L42]; exact List.mem_append_left _ hm_qxmi
  have hf_qxmi : f43 qxmi = .inl (cy 1, 36, .inl (fun _ => 0)) := (congrFun e_f43 qxmi).trans (z_up_ne ne_qxmi_qkp hf_qxmi)
  have hm_qrd : qrd ∈ L42 := by rw [e_L42]; exact List.mem_append_left _ hm_qrd
  have hf_qrd : f43 qrd = .inr (5, [.int 0, .int (-1), .ref qtp, .ref qdr, .int 0, .int 0, .int 0, .int 0, .int 0]) := (congrFun e_f43 qrd).trans (z_up_ne ne_qrd_qkp hf_qrd)
  have hm_qim : qim ∈ L42 := by rw [e_L42]; exact List.mem_append_left _ hm_qim
  have hf_qim : f43 qim = .inl (cy 5, 3, .inr (.inr (.inr (.inr g40)))) := (congrFun e_f43 qim).trans (z_up_ne ne_qim_qkp hf_qim)
  have hm_qi0 : qi0 ∈ L42 := by rw [e_L42]; exact List.mem_append_left _ hm_qi0
  have hf_qi0 : f43 qi0 = .inr (2, [.int 0, .int 0, .int 0, .int 0, .int 0, .int 0, .int 0, .ref qla0, .ref qsa0, .ref qmi0, .ref qda0]) := (congrFun e_f43 qi0).trans (z_up_ne ne_qi0_qkp hf_qi0)
  have hm_qla0 : qla0 ∈ L42 := by rw [e_L42]; exact List.mem_append_left _ hm_qla0
  have hf_qla0 : f43 qla0 = .inl (cy 1, 5, .inl (fun _ => 0)) := (congrFun e_f43 qla0).trans (z_up_ne ne_qla0_qkp hf_qla0)
  have hm_qsa0 : qsa0 ∈ L42 := by rw [e_L42]; exact List.mem_append_left _ hm_qsa0
  have hf_qsa0 : f43 qsa0 = .inl (cy 1, 4, .inl (fun _ => 0)) := (congrFun e_f43 qsa0).trans (z_up_ne ne_qsa0_qkp hf_qsa0)
  have hm_qmi0 : qmi0 ∈ L42 := by rw [e_L42]; exact List.mem_append_left _ hm_qmi0
  have hf_qmi0 : f43 qmi0 = .inl (cy 1, 36, .inl (fun _ => 0)) := (congrFun e_f43 qmi0).trans (z_up_ne ne_qmi0_qkp hf_qmi0)
  have hm_qi1 : qi1 ∈ L42 := by rw [e_L42]; exact List.mem_append_left _ hm_qi1
  have hf_qi1 : f43 qi1 = .inr (2, [.int 0, .int 0, .int 0, .int 0, .int 0, .int 0, .int 0, .ref qla1, .ref qsa1, .ref qmi1, .ref qda1]) := (congrFun e_f43 qi1).trans (z_up_ne ne_qi1_qkp hf_qi1)
  have hm_qla1 : qla1 ∈ L42 := by rw [e_L42]; exact List.mem_append_left _ hm_qla1
  have hf_qla1 : f43 qla1 = .inl (cy 1, 5, .inl (fun _ => 0)) := (congrFun e_f43 qla1).trans (z_up_ne ne_qla1_qkp hf_qla1)
  have hm_qsa1 : qsa1 ∈ L42 := by rw [e_L42]; exact List.mem_append_left _ hm_qsa1
  have hf_qsa1 : f43 qsa1 = .inl (cy 1, 4, .inl (fun _ => 0)) := (congrFun e_f43 qsa1).trans (z_up_ne ne_qsa1_qkp hf_qsa1)
  have hm_qmi1 : qmi1 ∈ L42 := by rw [e_L42]; exact List.mem_append_left _ hm_qmi1
  have hf_qmi1 : f43 qmi1 = .inl (cy 1, 36, .inl (fun _ => 0)) := (congrFun e_f43 qmi1).trans (z_up_ne ne_qmi1_qkp hf_qmi1)
  have hm_qi2 : qi2 ∈ L42 := by rw [e_L42]; exact List.mem_append_left _ hm_qi2
  have hf_qi2 : f43 qi2 = .inr (2, [.int 0, .int 0, .int 0, .int 0, .int 0, .int 0, .int 0, .ref qla2, .ref qsa2, .ref qmi2, .ref qda2]) := (congrFun e_f43 qi2).trans (z_up_ne ne_qi2_qkp hf_qi2)
  have hm_qla2 : qla2 ∈ L42 := by rw [e_L42]; exact List.mem_append_left _ hm_qla2
  have hf_qla2 : f43 qla2 = .inl (cy 1, 5, .inl (fun _ => 0)) := (congrFun e_f43 qla2).trans (z_up_ne ne_qla2_qkp hf_qla2)
  have hm_qsa2 : qsa2 ∈ L42 := by rw [e_L42]; exact List.mem_append_left _ hm_qsa2
  have hf_qsa2 : f43 qsa2 = .inl (cy 1, 4, .inl (fun _ => 0)) := (congrFun e_f43 qsa2).trans (z_up_ne ne_qsa2_qkp hf_qsa2)
  have hm_qmi2 : qmi2 ∈ L42 := by rw [e_L42]; exact List.mem_append_left _ hm_qmi2
  have hf_qmi2 : f43 qmi2 = .inl (cy 1, 36, .inl (fun _ => 0)) := (congrFun e_f43 qmi2).trans (z_up_ne ne_qmi2_qkp hf_qmi2)
  have hm_qkp : qkp ∈ L42 := by rw [e_L42]; exact List.mem_append_right _ (List.mem_singleton.mpr rfl)
  have hf_qkp : f43 qkp = .inl (cy 3, 3, .inl (fun _ => 0)) := (congrFun e_f43 qkp).trans z_up_self
  have hsub : ∀ b ∈ L, b ∈ L42 := fun b h => by rw [e_L42]; exact List.mem_append_left _ (hsub b h)
  have hfr : ∀ b ∈ L, b ≠ hs → f43 b = f b := fun b hb h0 => (congrFun e_f43 b).trans (z_up_ne (z_ne hb hn_qkp) (hfr b hb h0))
  refine z_putF (C := RX9) (T := TX9) (N := 11) (ci := 9) (v := .ref qkp) (fs' := [.ref qtp, .ref qrd, .ref qmo, .ref qdr, .ref qim, .ref qkp, .null, .null, .null, .null, .null]) hx hb hT zin_X9 tyX9_ok nmX9 hown hK hw hm_hs hf_hs rfl 5 (by decide) (hT _ kw_482) rfl hnm rfl rfl rfl (Nat.le_of_ble_eq_true rfl) rfl dX9_init_94 (fun H locs hw => ?_)
  obtain ⟨f44, e_f44⟩ : ∃ z, z = va_up f43 hs (.inr (9, [.ref qtp, .ref qrd, .ref qmo, .ref qdr, .ref qim, .ref qkp, .null, .null, .null, .null, .null])) := ⟨_, rfl⟩
  rw [← e_f44] at hw
  have hf_qtp : f44 qtp = .inr (7, [.ref qba, .int 0]) := (congrFun e_f44 qtp).trans (z_up_ne (Ne.symm ne_hs_qtp) hf_qtp)
  have hf_qba : f44 qba = .inl (cy 0, 1600, .inl (fun _ => 0)) := (congrFun e_f44 qba).trans (z_up_ne (Ne.symm ne_hs_qba) hf_qba)
  have hf_qmo : f44 qmo = .inr (2, [.int 0, .int 0, .int 0, .int 0, .int 0, .int 0, .int 0, .ref qla, .ref qsa, .ref qmi, .ref qda]) := (congrFun e_f44 qmo).trans (z_up_ne (Ne.symm ne_hs_qmo) hf_qmo)
  have hf_qla : f44 qla = .inl (cy 1, 5, .inl (fun _ => 0)) := (congrFun e_f44 qla).trans (z_up_ne (Ne.symm ne_hs_qla) hf_qla)
  have hf_qsa : f44 qsa = .inl (cy 1, 4, .inl (fun _ => 0)) := (congrFun e_f44 qsa).trans (z_up_ne (Ne.symm ne_hs_qsa) hf_qsa)
  have hf_qmi : f44 qmi = .inl (cy 1, 36, .inl (fun _ => 0)) := (congrFun e_f44 qmi).trans (z_up_ne (Ne.symm ne_hs_qmi) hf_qmi)
  have hf_qdr : f44 qdr = .inr (2, [.int 0, .int 0, .int 0, .int 0, .int 0, .int 0, .int 0, .ref qxla, .ref qxsa, .ref qxmi, .ref qxda]) := (congrFun e_f44 qdr).trans (z_up_ne (Ne.symm ne_hs_qdr) hf_qdr)
  have hf_qxla : f44 qxla = .inl (cy 1, 5, .inl (fun _ => 0)) := (congrFun e_f44 qxla).trans (z_up_ne (Ne.symm ne_hs_qxla) hf_qxla)
  have hf_qxsa : f44 qxsa = .inl (cy 1, 4, .inl (fun _ => 0)) := (congrFun e_f44 qxsa).trans (z_up_ne (Ne.symm ne_hs_qxsa) hf_qxsa)
  have hf_qxmi : f44 qxmi = .inl (cy 1, 36, .inl (fun _ => 0)) := (congrFun e_f44 qxmi).trans (z_up_ne (Ne.symm ne_hs_qxmi) hf_qxmi)
  have hf_qrd : f44 qrd = .inr (5, [.int 0, .int (-1), .ref qtp, .ref qdr, .int 0, .int 0, .int 0, .int 0, .int 0]) := (congrFun e_f44 qrd).trans (z_up_ne (Ne.symm ne_hs_qrd) hf_qrd)
  have hf_qim : f44 qim = .inl (cy 5, 3, .inr (.inr (.inr (.inr g40)))) := (congrFun e_f44 qim).trans (z_up_ne (Ne.symm ne_hs_qim) hf_qim)
  have hf_qi0 : f44 qi0 = .inr (2, [.int 0, .int 0, .int 0, .int 0, .int 0, .int 0, .int 0, .ref qla0, .ref qsa0, .ref qmi0, .ref qda0]) := (congrFun e_f44 qi0).trans (z_up_ne (Ne.symm ne_hs_qi0) hf_qi0)
  have hf_qla0 : f44 qla0 = .inl (cy 1, 5, .inl (fun _ => 0)) := (congrFun e_f44 qla0).trans (z_up_ne (Ne.symm ne_hs_qla0) hf_qla0)
  have hf_qsa0 : f44 qsa0 = .inl (cy 1, 4, .inl (fun _ => 0)) := (congrFun e_f44 qsa0).trans (z_up_ne (Ne.symm ne_hs_qsa0) hf_qsa0)
  have hf_qmi0 : f44 qmi0 = .inl (cy 1, 36, .inl (fun _ => 0)) := (congrFun e_f44 qmi0).trans (z_up_ne (Ne.symm ne_hs_qmi0) hf_qmi0)
  have hf_qi1 : f44 qi1 = .inr (2, [.int 0, .int 0, .int 0, .int 0, .int 0, .int 0, .int 0, .ref qla1, .ref qsa1, .ref qmi1, .ref qda1]) := (congrFun e_f44 qi1).trans (z_up_ne (Ne.symm ne_hs_qi1) hf_qi1)
  have hf_qla1 : f44 qla1 = .inl (cy 1, 5, .inl (fun _ => 0)) := (congrFun e_f44 qla1).trans (z_up_ne (Ne.symm ne_hs_qla1) hf_qla1)
  have hf_qsa1 : f44 qsa1 = .inl (cy 1, 4, .inl (fun _ => 0)) := (congrFun e_f44 qsa1).trans (z_up_ne (Ne.symm ne_hs_qsa1) hf_qsa1)
  have hf_qmi1 : f44 qmi1 = .inl (cy 1, 36, .inl (fun _ => 0)) := (congrFun e_f44 qmi1).trans (z_up_ne (Ne.symm ne_hs_qmi1) hf_qmi1)
  have hf_qi2 : f44 qi2 = .inr (2, [.int 0, .int 0, .int 0, .int 0, .int 0, .int 0, .int 0, .ref qla2, .ref qsa2, .ref qmi2, .ref qda2]) := (congrFun e_f44 qi2).trans (z_up_ne (Ne.symm ne_hs_qi2) hf_qi2)
  have hf_qla2 : f44 qla2 = .inl (cy 1, 5, .inl (fun _ => 0)) := (congrFun e_f44 qla2).trans (z_up_ne (Ne.symm ne_hs_qla2) hf_qla2)
  have hf_qsa2 : f44 qsa2 = .inl (cy 1, 4, .inl (fun _ => 0)) := (congrFun e_f44 qsa2).trans (z_up_ne (Ne.symm ne_hs_qsa2) hf_qsa2)
  have hf_qmi2 : f44 qmi2 = .inl (cy 1, 36, .inl (fun _ => 0)) := (congrFun e_f44 qmi2).trans (z_up_ne (Ne.symm ne_hs_qmi2) hf_qmi2)
  have hf_qkp : f44 qkp = .inl (cy 3, 3, .inl (fun _ => 0)) := (congrFun e_f44 qkp).trans (z_up_ne (Ne.symm ne_hs_qkp) hf_qkp)
  have hf_hs : f44 hs = .inr (9, [.ref qtp, .ref qrd, .ref qmo, .ref qdr, .ref qim, .ref qkp, .null, .null, .null, .null, .null]) := (congrFun e_f44 hs).trans z_up_self
  have hfr : ∀ b ∈ L, b ≠ hs → f44 b = f b := fun b hb h0 => (congrFun e_f44 b).trans (z_up_ne h0 (hfr b hb h0))
  refine lv_aload_n hx hb dX9_init_97 rfl (lv_at hl 1 rfl) ?_
  refine z_new (C := RX6) (T := TX6) (N := 3) (ci := 6) (fs := [.null, .null, .null]) (cells := 95) (slots := 2482) hx hb hT zin_X6 tyX6_ok hown (hT _ kw_308) (hT _ kw_309) (hT _ kw_90) hK hw hA rfl (fun j hj => by rcases (show j = 0 ∨ j = 1 ∨ j = 2 by omega) with rfl | rfl | rfl <;> rfl) (by decide) (by decide) dX9_init_98 (fun qsl H hq_qsl hw => ?_)
  refine W.widen (k := 96) (n := 2485) (by decide) (by decide) ?_
  have ne_hs_qsl : hs ≠ qsl := z_ne hm_hs hq_qsl
  have ne_qtp_qsl : qtp ≠ qsl := z_ne hm_qtp hq_qsl
  have ne_qba_qsl : qba ≠ qsl := z_ne hm_qba hq_qsl
  have ne_qmo_qsl : qmo ≠ qsl := z_ne hm_qmo hq_qsl
  have ne_qla_qsl : qla ≠ qsl := z_ne hm_qla hq_qsl
  have ne_qsa_qsl : qsa ≠ qsl := z_ne hm_qsa hq_qsl
  have ne_qmi_qsl : qmi ≠ qsl := z_ne hm_qmi hq_qsl
  have ne_qdr_qsl : qdr ≠ qsl := z_ne hm_qdr hq_qsl
  have ne_qxla_qsl : qxla ≠ qsl := z_ne hm_qxla hq_qsl
  have ne_qxsa_qsl : qxsa ≠ qsl := z_ne hm_qxsa hq_qsl
  have ne_qxmi_qsl : qxmi ≠ qsl := z_ne hm_qxmi hq_qsl
  have ne_qrd_qsl : qrd ≠ qsl := z_ne hm_qrd hq_qsl
  have ne_qim_qsl : qim ≠ qsl := z_ne hm_qim hq_qsl
  have ne_qi0_qsl : qi0 ≠ qsl := z_ne hm_qi0 hq_qsl
  have ne_qla0_qsl : qla0 ≠ qsl := z_ne hm_qla0 hq_qsl
  have ne_qsa0_qsl : qsa0 ≠ qsl := z_ne hm_qsa0 hq_qsl
  have ne_qmi0_qsl : qmi0 ≠ qsl := z_ne hm_qmi0 hq_qsl
  have ne_qi1_qsl : qi1 ≠ qsl := z_ne hm_qi1 hq_qsl
  have ne_qla1_qsl : qla1 ≠ qsl := z_ne hm_qla1 hq_qsl
  have ne_qsa1_qsl : qsa1 ≠ qsl := z_ne hm_qsa1 hq_qsl
  have ne_qmi1_qsl : qmi1 ≠ qsl := z_ne hm_qmi1 hq_qsl
  have ne_qi2_qsl : qi2 ≠ qsl := z_ne hm_qi2 hq_qsl
  have ne_qla2_qsl : qla2 ≠ qsl := z_ne hm_qla2 hq_qsl
  have ne_qsa2_qsl : qsa2 ≠ qsl := z_ne hm_qsa2 hq_qsl
  have ne_qmi2_qsl : qmi2 ≠ qsl := z_ne hm_qmi2 hq_qsl
  have ne_qkp_qsl : qkp ≠ qsl := z_ne hm_qkp hq_qsl
  have hn_qsl : qsl ∉ L := fun h => hq_qsl (hsub _ h)
  obtain ⟨f46, e_f46⟩ : ∃ z, z = va_up f44 qsl (.inr (6, [.null, .null, .null])) := ⟨_, rfl⟩
  obtain ⟨L45, e_L45⟩ : ∃ z, z = L42 ++ [qsl] := ⟨_, rfl⟩
  rw [← e_f46, ← e_L45] at hw
  have hm_hs : hs ∈ L45 := by rw [e_L45]; exact List.mem_append_left _ hm_hs
  have hf_hs : f46 hs = .inr (9, [.ref qtp, .ref qrd, .ref qmo, .ref qdr, .ref qim, .ref qkp, .null, .null, .null, .null, .null]) := (congrFun e_f46 hs).trans (z_up_ne ne_hs_qsl hf_hs)
  have hm_qtp : qtp ∈ L45 := by rw [e_L45]; exact List.mem_append_left _ hm_qtp
  have hf_qtp : f46 qtp = .inr (7, [.ref qba, .int 0]) := (congrFun e_f46 qtp).trans (z_up_ne ne_qtp_qsl hf_qtp)
  have hm_qba : qba ∈ L45 := by rw [e_L45]; exact List.mem_append_left _ hm_qba
  have hf_qba : f46 qba = .inl (cy 0, 1600, .inl (fun _ => 0)) := (congrFun e_f46 qba).trans (z_up_ne ne_qba_qsl hf_qba)
  have hm_qmo : qmo ∈ L45 := by rw [e_L45]; exact List.mem_append_left _ hm_qmo
  have hf_qmo : f46 qmo = .inr (2, [.int 0, .int 0, .int 0, .int 0, .int 0, .int 0, .int 0, .ref qla, .ref qsa, .ref qmi, .ref qda]) := (congrFun e_f46 qmo).trans (z_up_ne ne_qmo_qsl hf_qmo)
  have hm_qla : qla ∈ L45 := by rw [e_L45]; exact List.mem_append_left _ hm_qla
  have hf_qla : f46 qla = .inl (cy 1, 5, .inl (fun _ => 0)) := (congrFun e_f46 qla).trans (z_up_ne ne_qla_qsl hf_qla)
  have hm_qsa : qsa ∈ L45 := by rw [e_L45]; exact List.mem_append_left _ hm_qsa
  have hf_qsa : f46 qsa = .inl (cy 1, 4, .inl (fun _ => 0)) := (congrFun e_f46 qsa).trans (z_up_ne ne_qsa_qsl hf_qsa)
  have hm_qmi : qmi ∈ L45 := by rw [e_L45]; exact List.mem_append_left _ hm_qmi
  have hf_qmi : f46 qmi = .inl (cy 1, 36, .inl (fun _ => 0)) := (congrFun e_f46 qmi).trans (z_up_ne ne_qmi_qsl hf_qmi)
  have hm_qdr : qdr ∈ L45 := by rw [e_L45]; exact List.mem_append_left _ hm_qdr
  have hf_qdr : f46 qdr = .inr (2, [.int 0, .int 0, .int 0, .int 0, .int 0, .int 0, .int 0, .ref qxla, .ref qxsa, .ref qxmi, .ref qxda]) := (congrFun e_f46 qdr).trans (z_up_ne ne_qdr_qsl hf_qdr)
  have hm_qxla : qxla ∈ L45 := by rw [e_L45]; exact List.mem_append_left _ hm_qxla
  have hf_qxla : f46 qxla = .inl (cy 1, 5, .inl (fun _ => 0)) := (congrFun e_f46 qxla).trans (z_up_ne ne_qxla_qsl hf_qxla)
  have hm_qxsa : qxsa ∈ L45 := by rw [e_L45]; exact List.mem_append_left _ hm_qxsa
  have hf_qxsa : f46 qxsa = .inl (cy 1, 4, .inl (fun _ => 0)) := (congrFun e_f46 qxsa).trans (z_up_ne ne_qxsa_qsl hf_qxsa)
  have hm_qxmi : qxmi ∈ L45 := by rw [e_L45]; exact List.mem_append_left _ hm_qxmi
  have hf_qxmi : f46 qxmi = .inl (cy 1, 36, .inl (fun _ => 0)) := (congrFun e_f46 qxmi).trans (z_up_ne ne_qxmi_qsl hf_qxmi)
  have hm_qrd : qrd ∈ L45 := by rw [e_L45]; exact List.mem_append_left _ hm_qrd
  have hf_qrd : f46 qrd = .inr (5, [.int 0, .int (-1), .ref qtp, .ref qdr, .int 0, .int 0, .int 0, .int 0, .int 0]) := (congrFun e_f46 qrd).trans (z_up_ne ne_qrd_qsl hf_qrd)
  have hm_qim : qim ∈ L45 := by rw [e_L45]; exact List.mem_append_left _ hm_qim
  have hf_qim : f46 qim = .inl (cy 5, 3, .inr (.inr (.inr (.inr g40)))) := (congrFun e_f46 qim).trans (z_up_ne ne_qim_qsl hf_qim)
  have hm_qi0 : qi0 ∈ L45 := by rw [e_L45]; exact List.mem_append_left _ hm_qi0
  have hf_qi0 : f46 qi0 = .inr (2, [.int 0, .int 0, .int 0, .int 0, .int 0, .int 0, .int 0, .ref qla0, .ref qsa0, .ref qmi0, .ref qda0]) := (congrFun e_f46 qi0).trans (z_up_ne ne_qi0_qsl hf_qi0)
  have hm_qla0 : qla0 ∈ L45 := by rw [e_L45]; exact List.mem_append_left _ hm_qla0
  have hf_qla0 : f46 qla0 = .inl (cy 1, 5, .inl (fun _ => 0)) := (congrFun e_f46 qla0).trans (z_up_ne ne_qla0_qsl hf_qla0)
  have hm_qsa0 : qsa0 ∈ L45 := by rw [e_L45]; exact List.mem_append_left _ hm_qsa0
  have hf_qsa0 : f46 qsa0 = .inl (cy 1, 4, .inl (fun _ => 0)) := (congrFun e_f46 qsa0).trans (z_up_ne ne_qsa0_qsl hf_qsa0)
  have hm_qmi0 : qmi0 ∈ L45 := by rw [e_L45]; exact List.mem_append_left _ hm_qmi0
  have hf_qmi0 : f46 qmi0 = .inl (cy 1, 36, .inl (fun _ => 0)) := (congrFun e_f46 qmi0).trans (z_up_ne ne_qmi0_qsl hf_qmi0)
  have hm_qi1 : qi1 ∈ L45 := by rw [e_L45]; exact List.mem_append_left _ hm_qi1
  have hf_qi1 : f46 qi1 = .inr (2, [.int 0, .int 0, .int 0, .int 0, .int 0, .int 0, .int 0, .ref qla1, .ref qsa1, .ref qmi1, .ref qda1]) := (congrFun e_f46 qi1).trans (z_up_ne ne_qi1_qsl hf_qi1)
  have hm_qla1 : qla1 ∈ L45 := by rw [e_L45]; exact List.mem_append_left _ hm_qla1
  have hf_qla1 : f46 qla1 = .inl (cy 1, 5, .inl (fun _ => 0)) := (congrFun e_f46 qla1).trans (z_up_ne ne_qla1_qsl hf_qla1)
  have hm_qsa1 : qsa1 ∈ L45 := by rw [e_L45]; exact List.mem_append_left _ hm_qsa1
  have hf_qsa1 : f46 qsa1 = .inl (cy 1, 4, .inl (fun _ => 0)) := (congrFun e_f46 qsa1).trans (z_up_ne ne_qsa1_qsl hf_qsa1)
  have hm_qmi1 : qmi1 ∈ L45 := by rw [e_L45]; exact List.mem_append_left _ hm_qmi1
  have hf_qmi1 : f46 qmi1 = .inl (cy 1, 36, .inl (fun _ => 0)) := (congrFun e_f46 qmi1).trans (z_up_ne ne_qmi1_qsl hf_qmi1)
  have hm_qi2 : qi2 ∈ L45 := by rw [e_L45]; exact List.mem_append_left _ hm_qi2
  have hf_qi2 : f46 qi2 = .inr (2, [.int 0, .int 0, .int 0, .int 0, .int 0, .int 0, .int 0, .ref qla2, .ref qsa2, .ref qmi2, .ref qda2]) := (congrFun e_f46 qi2).trans (z_up_ne ne_qi2_qsl hf_qi2)
  have hm_qla2 : qla2 ∈ L45 := by rw [e_L45]; exact List.mem_append_left _ hm_qla2
  have hf_qla2 : f46 qla2 = .inl (cy 1, 5, .inl (fun _ => 0)) := (congrFun e_f46 qla2).trans (z_up_ne ne_qla2_qsl hf_qla2)
  have hm_qsa2 : qsa2 ∈ L45 := by rw [e_L45]; exact List.mem_append_left _ hm_qsa2
  have hf_qsa2 : f46 qsa2 = .inl (cy 1, 4, .inl (fun _ => 0)) := (congrFun e_f46 qsa2).trans (z_up_ne ne_qsa2_qsl hf_qsa2)
  have hm_qmi2 : qmi2 ∈ L45 := by rw [e_L45]; exact List.mem_append_left _ hm_qmi2
  have hf_qmi2 : f46 qmi2 = .inl (cy 1, 36, .inl (fun _ => 0)) := (congrFun e_f46 qmi2).trans (z_up_ne ne_qmi2_qsl hf_qmi2)
  have hm_qkp : qkp ∈ L45 := by rw [e_L45]; exact List.mem_append_left _ hm_qkp
  have hf_qkp : f46 qkp = .inl (cy 3, 3, .inl (fun _ => 0)) := (congrFun e_f46 qkp).trans (z_up_ne ne_qkp_qsl hf_qkp)
  have hm_qsl : qsl ∈ L45 := by rw [e_L45]; exact List.mem_append_right _ (List.mem_singleton.mpr rfl)
  have hf_qsl : f46 qsl = .inr (6, [.null, .null, .null]) := (congrFun e_f46 qsl).trans z_up_self
  have hsub : ∀ b ∈ L, b ∈ L45 := fun b h => by rw [e_L45]; exact List.mem_append_left _ (hsub b h)
  have hfr : ∀ b ∈ L, b ≠ hs → f46 b = f b := fun b hb h0 => (congrFun e_f46 b).trans (z_up_ne (z_ne hb hn_qsl) (hfr b hb h0))
  refine lv_dup hx hb dX9_init_101 rfl ?_
  refine z_callvI (cells := 96) (slots := 2485) (b := qsl) (As := []) (rest := [.ref qsl, .ref hs]) ⟨hx, hb, hml, hown, hT⟩ (c_X6_init l hm_qsl hf_qsl) (cwI 0 hT (z_goodI (fun _ h => h) kw_312) rfl rfl rfl (hT _ kw_90) (hT _ kw_310) (hT _ kw_311) rfl (by decide +kernel) ⟨by decide, by decide⟩) z_mv hKK hw hA rfl hl.1 rfl (Nat.le_of_ble_eq_true rfl) dX9_init_102 ⟨by decide, by decide⟩ (fun u H locs hp hw => ?_)
  refine W.widen (k := 103) (n := 2737) (by decide) (by decide) ?_
  obtain ⟨L47, f48⟩ := u
  obtain ⟨hsb, hfm, qnu, qr0, qr1, qr2, qr3, qwi, qsi, qgn, qgs, ha_0, ⟨hq_qnu, hm_qnu, hf_qnu⟩, ⟨hq_qr0, hm_qr0, hf_qr0⟩, ⟨hq_qr1, hm_qr1, hf_qr1⟩, ⟨hq_qr2, hm_qr2, hf_qr2⟩, ⟨hq_qr3, hm_qr3, hf_qr3⟩, ⟨hq_qwi, hm_qwi, hf_qwi⟩, ⟨hq_qsi, hm_qsi, hf_qsi⟩, hp⟩ := hp
  have hw : z_H D vwCl (z_A L sz) s.heap L47 f48 H locs := hw
  have ne_hs_qnu : hs ≠ qnu := z_ne hm_hs hq_qnu
  have ne_qtp_qnu : qtp ≠ qnu := z_ne hm_qtp hq_qnu
  have ne_qba_qnu : qba ≠ qnu := z_ne hm_qba hq_qnu
  have ne_qmo_qnu : qmo ≠ qnu := z_ne hm_qmo hq_qnu
  have ne_qla_qnu : qla ≠ qnu := z_ne hm_qla hq_qnu
  have ne_qsa_qnu : qsa ≠ qnu := z_ne hm_qsa hq_qnu
  have ne_qmi_qnu : qmi ≠ qnu := z_ne hm_qmi hq_qnu
  have ne_qdr_qnu : qdr ≠ qnu := z_ne hm_qdr hq_qnu
  have ne_qxla_qnu : qxla ≠ qnu := z_ne hm_qxla hq_qnu
  have ne_qxsa_qnu : qxsa ≠ qnu := z_ne hm_qxsa hq_qnu
  have ne_qxmi_qnu : qxmi ≠ qnu := z_ne hm_qxmi hq_qnu
  have ne_qrd_qnu : qrd ≠ qnu := z_ne hm_qrd hq_qnu
  have ne_qim_qnu : qim ≠ qnu := z_ne hm_qim hq_qnu
  have ne_qi0_qnu : qi0 ≠ qnu := z_ne hm_qi0 hq_qnu
  have ne_qla0_qnu : qla0 ≠ qnu := z_ne hm_qla0 hq_qnu
  have ne_qsa0_qnu : qsa0 ≠ qnu := z_ne hm_qsa0 hq_qnu
  have ne_qmi0_qnu : qmi0 ≠ qnu := z_ne hm_qmi0 hq_qnu
  have ne_qi1_qnu : qi1 ≠ qnu := z_ne hm_qi1 hq_qnu
  have ne_qla1_qnu : qla1 ≠ qnu := z_ne hm_qla1 hq_qnu
  have ne_qsa1_qnu : qsa1 ≠ qnu := z_ne hm_qsa1 hq_qnu
  have ne_qmi1_qnu : qmi1 ≠ qnu := z_ne hm_qmi1 hq_qnu
  have ne_qi2_qnu : qi2 ≠ qnu := z_ne hm_qi2 hq_qnu
  have ne_qla2_qnu : qla2 ≠ qnu := z_ne hm_qla2 hq_qnu
  have ne_qsa2_qnu : qsa2 ≠ qnu := z_ne hm_qsa2 hq_qnu
  have ne_qmi2_qnu : qmi2 ≠ qnu := z_ne hm_qmi2 hq_qnu
  have ne_qkp_qnu : qkp ≠ qnu := z_ne hm_qkp hq_qnu
  have ne_qsl_qnu : qsl ≠ qnu := z_ne hm_qsl hq_qnu
  have ne_hs_qr0 : hs ≠ qr0 := z_ne hm_hs hq_qr0
  have ne_qtp_qr0 : qtp ≠ qr0 := z_ne hm_qtp hq_qr0
  have ne_qba_qr0 : qba ≠ qr0 := z_ne hm_qba hq_qr0
  have ne_qmo_qr0 : qmo ≠ qr0 := z_ne hm_qmo hq_qr0
  have ne_qla_qr0 : qla ≠ qr0 := z_ne hm_qla hq_qr0
  have ne_qsa_qr0 : qsa ≠ qr0 := z_ne hm_qsa hq_qr0
  have ne_qmi_qr0 : qmi ≠ qr0 := z_ne hm_qmi hq_qr0
  have ne_qdr_qr0 : qdr ≠ qr0 := z_ne hm_qdr hq_qr0
  have ne_qxla_qr0 : qxla ≠ qr0 := z_ne hm_qxla hq_qr0
  have ne_qxsa_qr0 : qxsa ≠ qr0 := z_ne hm_qxsa hq_qr0
  have ne_qxmi_qr0 : qxmi ≠ qr0 := z_ne hm_qxmi hq_qr0
  have ne_qrd_qr0 : qrd ≠ qr0 := z_ne hm_qrd hq_qr0
  have ne_qim_qr0 : qim ≠ qr0 := z_ne hm_qim hq_qr0
  have ne_qi0_qr0 : qi0 ≠ qr0 := z_ne hm_qi0 hq_qr0
  have ne_qla0_qr0 : qla0 ≠ qr0 := z_ne hm_qla0 hq_qr0
  have ne_qsa0_qr0 : qsa0 ≠ qr0 := z_ne hm_qsa0 hq_qr0
  have ne_qmi0_qr0 : qmi0 ≠ qr0 := z_ne hm_qmi0 hq_qr0
  have ne_qi1_qr0 : qi1 ≠ qr0 := z_ne hm_qi1 hq_qr0
  have ne_qla1_qr0 : qla1 ≠ qr0 := z_ne hm_qla1 hq_qr0
  have ne_qsa1_qr0 : qsa1 ≠ qr0 := z_ne hm_qsa1 hq_qr0
  have ne_qmi1_qr0 : qmi1 ≠ qr0 := z_ne hm_qmi1 hq_qr0
  have ne_qi2_qr0 : qi2 ≠ qr0 := z_ne hm_qi2 hq_qr0
  have ne_qla2_qr0 : qla2 ≠ qr0 := z_ne hm_qla2 hq_qr0
  have ne_qsa2_qr0 : qsa2 ≠ qr0 := z_ne hm_qsa2 hq_qr0
  have ne_qmi2_qr0 : qmi2 ≠ qr0 := z_ne hm_qmi2 hq_qr0
  have ne_qkp_qr0 : qkp ≠ qr0 := z_ne hm_qkp hq_qr0
  have ne_qsl_qr0 : qsl ≠ qr0 := z_ne hm_qsl hq_qr0
  have ne_hs_qr1 : hs ≠ qr1 := z_ne hm_hs hq_qr1
  have ne_qtp_qr1 : qtp ≠ qr1 := z_ne hm_qtp hq_qr1
  have ne_qba_qr1 : qba ≠ qr1 := z_ne hm_qba hq_qr1
  have ne_qmo_qr1 : qmo ≠ qr1 := z_ne hm_qmo hq_qr1
  have ne_qla_qr1 : qla ≠ qr1 := z_ne hm_qla hq_qr1
  have ne_qsa_qr1 : qsa ≠ qr1 := z_ne hm_qsa hq_qr1
  have ne_qmi_qr1 : qmi ≠ qr1 := z_ne hm_qmi hq_qr1
  have ne_qdr_qr1 : qdr ≠ qr1 := z_ne hm_qdr hq_qr1
  have ne_qxla_qr1 : qxla ≠ qr1 := z_ne hm_qxla hq_qr1
  have ne_qxsa_qr1 : qxsa ≠ qr1 := z_ne hm_qxsa hq_qr1
  have ne_qxmi_qr1 : qxmi ≠ qr1 := z_ne hm_qxmi hq_qr1
  have ne_qrd_qr1 : qrd ≠ qr1 := z_ne hm_qrd hq_qr1
  have ne_qim_qr1 : qim ≠ qr1 := z_ne hm_qim hq_qr1
  have ne_qi0_qr1 : qi0 ≠ qr1 := z_ne hm_qi0 hq_qr1
  have ne_qla0_qr1 : qla0 ≠ qr1 := z_ne hm_qla0 hq_qr1
  have ne_qsa0_qr1 : qsa0 ≠ qr1 := z_ne hm_qsa0 hq_qr1
  have ne_qmi0_qr1 : qmi0 ≠ qr1 := z_ne hm_qmi0 hq_qr1
  have ne_qi1_qr1 : qi1 ≠ qr1 := z_ne hm_qi1 hq_qr1
  have ne_qla1_qr1 : qla1 ≠ qr1 := z_ne hm_qla1 hq_qr1
  have ne_qsa1_qr1 : qsa1 ≠ qr1 := z_ne hm_qsa1 hq_qr1
  have ne_qmi1_qr1 : qmi1 ≠ qr1 := z_ne hm_qmi1 hq_qr1
  have ne_qi2_qr1 : qi2 ≠ qr1 := z_ne hm_qi2 hq_qr1
  have ne_qla2_qr1 : qla2 ≠ qr1 := z_ne hm_qla2 hq_qr1
  have ne_qsa2_qr1 : qsa2 ≠ qr1 := z_ne hm_qsa2 hq_qr1
  have ne_qmi2_qr1 : qmi2 ≠ qr1 := z_ne hm_qmi2 hq_qr1
  have ne_qkp_qr1 : qkp ≠ qr1 := z_ne hm_qkp hq_qr1
  have ne_qsl_qr1 : qsl ≠ qr1 := z_ne hm_qsl hq_qr1
  have ne_hs_qr2 : hs ≠ qr2 := z_ne hm_hs hq_qr2
  have ne_qtp_qr2 : qtp ≠ qr2 := z_ne hm_qtp hq_qr2
  have ne_qba_qr2 : qba ≠ qr2 := z_ne hm_qba hq_qr2
  have ne_qmo_qr2 : qmo ≠ qr2 := z_ne hm_qmo hq_qr2
  have ne_qla_qr2 : qla ≠ qr2 := z_ne hm_qla hq_qr2
  have ne_qsa_qr2 : qsa ≠ qr2 := z_ne hm_qsa hq_qr2
  have ne_qmi_qr2 : qmi ≠ qr2 := z_ne hm_qmi hq_qr2
  have ne_qdr_qr2 : qdr ≠ qr2 := z_ne hm_qdr hq_qr2
  have ne_qxla_qr2 : qxla ≠ qr2 := z_ne hm_qxla hq_qr2
  have ne_qxsa_qr2 : qxsa ≠ qr2 := z_ne hm_qxsa hq_qr2
  have ne_qxmi_qr2 : qxmi ≠ qr2 := z_ne hm_qxmi hq_qr2
  have ne_qrd_qr2 : qrd ≠ qr2 := z_ne hm_qrd hq_qr2
  have ne_qim_qr2 : qim ≠ qr2 := z_ne hm_qim hq_qr2
  have ne_qi0_qr2 : qi0 ≠ qr2 := z_ne hm_qi0 hq_qr2
  have ne_qla0_qr2 : qla0 ≠ qr2 := z_ne hm_qla0 hq_qr2
  have ne_qsa0_qr2 : qsa0 ≠ qr2 := z_ne hm_qsa0 hq_qr2
  have ne_qmi0_qr2 : qmi0 ≠ qr2 := z_ne hm_qmi0 hq_qr2
  have ne_qi1_qr2 : qi1 ≠ qr2 := z_ne hm_qi1 hq_qr2
  have ne_qla1_qr2 : qla1 ≠ qr2 := z_ne hm_qla1 hq_qr2
  have ne_qsa1_qr2 : qsa1 ≠ qr2 := z_ne hm_qsa1 hq_qr2
  have ne_qmi1_qr2 : qmi1 ≠ qr2 := z_ne hm_qmi1 hq_qr2
  have ne_qi2_qr2 : qi2 ≠ qr2 := z_ne hm_qi2 hq_qr2
  have ne_qla2_qr2 : qla2 ≠ qr2 := z_ne hm_qla2 hq_qr2
  have ne_qsa2_qr2 : qsa2 ≠ qr2 := z_ne hm_qsa2 hq_qr2
  have ne_qmi2_qr2 : qmi2 ≠ qr2 := z_ne hm_qmi2 hq_qr2
  have ne_qkp_qr2 : qkp ≠ qr2 := z_ne hm_qkp hq_qr2
  have ne_qsl_qr2 : qsl ≠ qr2 := z_ne hm_qsl hq_qr2
  have ne_hs_qr3 : hs ≠ qr3 := z_ne hm_hs hq_qr3
  have ne_qtp_qr3 : qtp ≠ qr3 := z_ne hm_qtp hq_qr3
  have ne_qba_qr3 : qba ≠ qr3 := z_ne hm_qba hq_qr3
  have ne_qmo_qr3 : qmo ≠ qr3 := z_ne hm_qmo hq_qr3
  have ne_qla_qr3 : qla ≠ qr3 := z_ne hm_qla hq_qr3
  have ne_qsa_qr3 : qsa ≠ qr3 := z_ne hm_qsa hq_qr3
  have ne_qmi_qr3 : qmi ≠ qr3 := z_ne hm_qmi hq_qr3
  have ne_qdr_qr3 : qdr ≠ qr3 := z_ne hm_qdr hq_qr3
  have ne_qxla_qr3 : qxla ≠ qr3 := z_ne hm_qxla hq_qr3
  have ne_qxsa_qr3 : qxsa ≠ qr3 := z_ne hm_qxsa hq_qr3
  have ne_qxmi_qr3 : qxmi ≠ qr3 := z_ne hm_qxmi hq_qr3
  have ne_qrd_qr3 : qrd ≠ qr3 := z_ne hm_qrd hq_qr3
  have ne_qim_qr3 : qim ≠ qr3 := z_ne hm_qim hq_qr3
  have ne_qi0_qr3 : qi0 ≠ qr3 := z_ne hm_qi0 hq_qr3
  have ne_qla0_qr3 : qla0 ≠ qr3 := z_ne hm_qla0 hq_qr3
  have ne_qsa0_qr3 : qsa0 ≠ qr3 := z_ne hm_qsa0 hq_qr3
  have ne_qmi0_qr3 : qmi0 ≠ qr3 := z_ne hm_qmi0 hq_qr3
  have ne_qi1_qr3 : qi1 ≠ qr3 := z_ne hm_qi1 hq_qr3
  have ne_qla1_qr3 : qla1 ≠ qr3 := z_ne hm_qla1 hq_qr3
  have ne_qsa1_qr3 : qsa1 ≠ qr3 := z_ne hm_qsa1 hq_qr3
  have ne_qmi1_qr3 : qmi1 ≠ qr3 := z_ne hm_qmi1 hq_qr3
  have ne_qi2_qr3 : qi2 ≠ qr3 := z_ne hm_qi2 hq_qr3
  have ne_qla2_qr3 : qla2 ≠ qr3 := z_ne hm_qla2 hq_qr3
  have ne_qsa2_qr3 : qsa2 ≠ qr3 := z_ne hm_qsa2 hq_qr3
  have ne_qmi2_qr3 : qmi2 ≠ qr3 := z_ne hm_qmi2 hq_qr3
  have ne_qkp_qr3 : qkp ≠ qr3 := z_ne hm_qkp hq_qr3
  have ne_qsl_qr3 : qsl ≠ qr3 := z_ne hm_qsl hq_qr3
  have ne_hs_qwi : hs ≠ qwi := z_ne hm_hs hq_qwi
  have ne_qtp_qwi : qtp ≠ qwi := z_ne hm_qtp hq_qwi
  have ne_qba_qwi : qba ≠ qwi := z_ne hm_qba hq_qwi
  have ne_qmo_qwi : qmo ≠ qwi := z_ne hm_qmo hq_qwi
  have ne_qla_qwi : qla ≠ qwi := z_ne hm_qla hq_qwi
  have ne_qsa_qwi : qsa ≠ qwi := z_ne hm_qsa hq_qwi
  have ne_qmi_qwi : qmi ≠ qwi := z_ne hm_qmi hq_qwi
  have ne_qdr_qwi : qdr ≠ qwi := z_ne hm_qdr hq_qwi
  have ne_qxla_qwi : qxla ≠ qwi := z_ne hm_qxla hq_qwi
  have ne_qxsa_qwi : qxsa ≠ qwi := z_ne hm_qxsa hq_qwi
  have ne_qxmi_qwi : qxmi ≠ qwi := z_ne hm_qxmi hq_qwi
  have ne_qrd_qwi : qrd ≠ qwi := z_ne hm_qrd hq_qwi
  have ne_qim_qwi : qim ≠ qwi := z_ne hm_qim hq_qwi
  have ne_qi0_qwi : qi0 ≠ qwi := z_ne hm_qi0 hq_qwi
  have ne_qla0_qwi : qla0 ≠ qwi := z_ne hm_qla0 hq_qwi
  have ne_qsa0_qwi : qsa0 ≠ qwi := z_ne hm_qsa0 hq_qwi
  have ne_qmi0_qwi : qmi0 ≠ qwi := z_ne hm_qmi0 hq_qwi
  have ne_qi1_qwi : qi1 ≠ qwi := z_ne hm_qi1 hq_qwi
  have ne_qla1_qwi : qla1 ≠ qwi := z_ne hm_qla1 hq_qwi
  have ne_qsa1_qwi : qsa1 ≠ qwi := z_ne hm_qsa1 hq_qwi
  have ne_qmi1_qwi : qmi1 ≠ qwi := z_ne hm_qmi1 hq_qwi
  have ne_qi2_qwi : qi2 ≠ qwi := z_ne hm_qi2 hq_qwi
  have ne_qla2_qwi : qla2 ≠ qwi := z_ne hm_qla2 hq_qwi
  have ne_qsa2_qwi : qsa2 ≠ qwi := z_ne hm_qsa2 hq_qwi
  have ne_qmi2_qwi : qmi2 ≠ qwi := z_ne hm_qmi2 hq_qwi
  have ne_qkp_qwi : qkp ≠ qwi := z_ne hm_qkp hq_qwi
  have ne_qsl_qwi : qsl ≠ qwi := z_ne hm_qsl hq_qwi
  have ne_hs_qsi : hs ≠ qsi := z_ne hm_hs hq_qsi
  have ne_qtp_qsi : qtp ≠ qsi := z_ne hm_qtp hq_qsi
  have ne_qba_qsi : qba ≠ qsi := z_ne hm_qba hq_qsi
  have ne_qmo_qsi : qmo ≠ qsi := z_ne hm_qmo hq_qsi
  have ne_qla_qsi : qla ≠ qsi := z_ne hm_qla hq_qsi
  have ne_qsa_qsi : qsa ≠ qsi := z_ne hm_qsa hq_qsi
  have ne_qmi_qsi : qmi ≠ qsi := z_ne hm_qmi hq_qsi
  have ne_qdr_qsi : qdr ≠ qsi := z_ne hm_qdr hq_qsi
  have ne_qxla_qsi : qxla ≠ qsi := z_ne hm_qxla hq_qsi
  have ne_qxsa_qsi : qxsa ≠ qsi := z_ne hm_qxsa hq_qsi
  have ne_qxmi_qsi : qxmi ≠ qsi := z_ne hm_qxmi hq_qsi
  have ne_qrd_qsi : qrd ≠ qsi := z_ne hm_qrd hq_qsi
  have ne_qim_qsi : qim ≠ qsi := z_ne hm_qim hq_qsi
  have ne_qi0_qsi : qi0 ≠ qsi := z_ne hm_qi0 hq_qsi
  have ne_qla0_qsi : qla0 ≠ qsi := z_ne hm_qla0 hq_qsi
  have ne_qsa0_qsi : qsa0 ≠ qsi := z_ne hm_qsa0 hq_qsi
  have ne_qmi0_qsi : qmi0 ≠ qsi := z_ne hm_qmi0 hq_qsi
  have ne_qi1_qsi : qi1 ≠ qsi := z_ne hm_qi1 hq_qsi
  have ne_qla1_qsi : qla1 ≠ qsi := z_ne hm_qla1 hq_qsi
  have ne_qsa1_qsi : qsa1 ≠ qsi := z_ne hm_qsa1 hq_qsi
  have ne_qmi1_qsi : qmi1 ≠ qsi := z_ne hm_qmi1 hq_qsi
  have ne_qi2_qsi : qi2 ≠ qsi := z_ne hm_qi2 hq_qsi
  have ne_qla2_qsi : qla2 ≠ qsi := z_ne hm_qla2 hq_qsi
  have ne_qsa2_qsi : qsa2 ≠ qsi := z_ne hm_qsa2 hq_qsi
  have ne_qmi2_qsi : qmi2 ≠ qsi := z_ne hm_qmi2 hq_qsi
  have ne_qkp_qsi : qkp ≠ qsi := z_ne hm_qkp hq_qsi
  have ne_qsl_qsi : qsl ≠ qsi := z_ne hm_qsl hq_qsi
  have hfr : ∀ b ∈ L, b ≠ hs → f48 b = f b := fun b hb h0 => (hfm b (hsub b hb) (z_ne hb hn_qsl)).trans (hfr b hb h0)
  have hn_qnu : qnu ∉ L := fun h => hq_qnu (hsub _ h)
  have hn_qr0 : qr0 ∉ L := fun h => hq_qr0 (hsub _ h)
  have hn_qr1 : qr1 ∉ L := fun h => hq_qr1 (hsub _ h)
  have hn_qr2 : qr2 ∉ L := fun h => hq_qr2 (hsub _ h)
  have hn_qr3 : qr3 ∉ L := fun h => hq_qr3 (hsub _ h)
  have hn_qwi : qwi ∉ L := fun h => hq_qwi (hsub _ h)
  have hn_qsi : qsi ∉ L := fun h => hq_qsi (hsub _ h)
  have hsub : ∀ b ∈ L, b ∈ L47 := fun b h => hsb b (hsub b h)
  have hf_hs : f48 hs = .inr (9, [.ref qtp, .ref qrd, .ref qmo, .ref qdr, .ref qim, .ref qkp, .null, .null, .null, .null, .null]) := (hfm hs hm_hs ne_hs_qsl).trans hf_hs
  have hf_qtp : f48 qtp = .inr (7, [.ref qba, .int 0]) := (hfm qtp hm_qtp ne_qtp_qsl).trans hf_qtp
  have hf_qba : f48 qba = .inl (cy 0, 1600, .inl (fun _ => 0)) := (hfm qba hm_qba ne_qba_qsl).trans hf_qba
  have hf_qmo : f48 qmo = .inr (2, [.int 0, .int 0, .int 0, .int 0, .int 0, .int 0, .int 0, .ref qla, .ref qsa, .ref qmi, .ref qda]) := (hfm qmo hm_qmo ne_qmo_qsl).trans hf_qmo
  have hf_qla : f48 qla = .inl (cy 1, 5, .inl (fun _ => 0)) := (hfm qla hm_qla ne_qla_qsl).trans hf_qla
  have hf_qsa : f48 qsa = .inl (cy 1, 4, .inl (fun _ => 0)) := (hfm qsa hm_qsa ne_qsa_qsl).trans hf_qsa
  have hf_qmi : f48 qmi = .inl (cy 1, 36, .inl (fun _ => 0)) := (hfm qmi hm_qmi ne_qmi_qsl).trans hf_qmi
  have hf_qdr : f48 qdr = .inr (2, [.int 0, .int 0, .int 0, .int 0, .int 0, .int 0, .int 0, .ref qxla, .ref qxsa, .ref qxmi, .ref qxda]) := (hfm qdr hm_qdr ne_qdr_qsl).trans hf_qdr
  have hf_qxla : f48 qxla = .inl (cy 1, 5, .inl (fun _ => 0)) := (hfm qxla hm_qxla ne_qxla_qsl).trans hf_qxla
  have hf_qxsa : f48 qxsa = .inl (cy 1, 4, .inl (fun _ => 0)) := (hfm qxsa hm_qxsa ne_qxsa_qsl).trans hf_qxsa
  have hf_qxmi : f48 qxmi = .inl (cy 1, 36, .inl (fun _ => 0)) := (hfm qxmi hm_qxmi ne_qxmi_qsl).trans hf_qxmi
  have hf_qrd : f48 qrd = .inr (5, [.int 0, .int (-1), .ref qtp, .ref qdr, .int 0, .int 0, .int 0, .int 0, .int 0]) := (hfm qrd hm_qrd ne_qrd_qsl).trans hf_qrd
  have hf_qim : f48 qim = .inl (cy 5, 3, .inr (.inr (.inr (.inr g40)))) := (hfm qim hm_qim ne_qim_qsl).trans hf_qim
  have hf_qi0 : f48 qi0 = .inr (2, [.int 0, .int 0, .int 0, .int 0, .int 0, .int 0, .int 0, .ref qla0, .ref qsa0, .ref qmi0, .ref qda0]) := (hfm qi0 hm_qi0 ne_qi0_qsl).trans hf_qi0
  have hf_qla0 : f48 qla0 = .inl (cy 1, 5, .inl (fun _ => 0)) := (hfm qla0 hm_qla0 ne_qla0_qsl).trans hf_qla0
  have hf_qsa0 : f48 qsa0 = .inl (cy 1, 4, .inl (fun _ => 0)) := (hfm qsa0 hm_qsa0 ne_qsa0_qsl).trans hf_qsa0
  have hf_qmi0 : f48 qmi0 = .inl (cy 1, 36, .inl (fun _ => 0)) := (hfm qmi0 hm_qmi0 ne_qmi0_qsl).trans hf_qmi0
  have hf_qi1 : f48 qi1 = .inr (2, [.int 0, .int 0, .int 0, .int 0, .int 0, .int 0, .int 0, .ref qla1, .ref qsa1, .ref qmi1, .ref qda1]) := (hfm qi1 hm_qi1 ne_qi1_qsl).trans hf_qi1
  have hf_qla1 : f48 qla1 = .inl (cy 1, 5, .inl (fun _ => 0)) := (hfm qla1 hm_qla1 ne_qla1_qsl).trans hf_qla1
  have hf_qsa1 : f48 qsa1 = .inl (cy 1, 4, .inl (fun _ => 0)) := (hfm qsa1 hm_qsa1 ne_qsa1_qsl).trans hf_qsa1
  have hf_qmi1 : f48 qmi1 = .inl (cy 1, 36, .inl (fun _ => 0)) := (hfm qmi1 hm_qmi1 ne_qmi1_qsl).trans hf_qmi1
  have hf_qi2 : f48 qi2 = .inr (2, [.int 0, .int 0, .int 0, .int 0, .int 0, .int 0, .int 0, .ref qla2, .ref qsa2, .ref qmi2, .ref qda2]) := (hfm qi2 hm_qi2 ne_qi2_qsl).trans hf_qi2
  have hf_qla2 : f48 qla2 = .inl (cy 1, 5, .inl (fun _ => 0)) := (hfm qla2 hm_qla2 ne_qla2_qsl).trans hf_qla2
  have hf_qsa2 : f48 qsa2 = .inl (cy 1, 4, .inl (fun _ => 0)) := (hfm qsa2 hm_qsa2 ne_qsa2_qsl).trans hf_qsa2
  have hf_qmi2 : f48 qmi2 = .inl (cy 1, 36, .inl (fun _ => 0)) := (hfm qmi2 hm_qmi2 ne_qmi2_qsl).trans hf_qmi2
  have hf_qkp : f48 qkp = .inl (cy 3, 3, .inl (fun _ => 0)) := (hfm qkp hm_qkp ne_qkp_qsl).trans hf_qkp
  have hm_hs : hs ∈ L47 := hsb _ hm_hs
  have hm_qtp : qtp ∈ L47 := hsb _ hm_qtp
  have hm_qba : qba ∈ L47 := hsb _ hm_qba
  have hm_qmo : qmo ∈ L47 := hsb _ hm_qmo
  have hm_qla : qla ∈ L47 := hsb _ hm_qla
  have hm_qsa : qsa ∈ L47 := hsb _ hm_qsa
  have hm_qmi : qmi ∈ L47 := hsb _ hm_qmi
  have hm_qdr : qdr ∈ L47 := hsb _ hm_qdr
  have hm_qxla : qxla ∈ L47 := hsb _ hm_qxla
  have hm_qxsa : qxsa ∈ L47 := hsb _ hm_qxsa
  have hm_qxmi : qxmi ∈ L47 := hsb _ hm_qxmi
  have hm_qrd : qrd ∈ L47 := hsb _ hm_qrd
  have hm_qim : qim ∈ L47 := hsb _ hm_qim
  have hm_qi0 : qi0 ∈ L47 := hsb _ hm_qi0
  have hm_qla0 : qla0 ∈ L47 := hsb _ hm_qla0
  have hm_qsa0 : qsa0 ∈ L47 := hsb _ hm_qsa0
  have hm_qmi0 : qmi0 ∈ L47 := hsb _ hm_qmi0
  have hm_qi1 : qi1 ∈ L47 := hsb _ hm_qi1
  have hm_qla1 : qla1 ∈ L47 := hsb _ hm_qla1
  have hm_qsa1 : qsa1 ∈ L47 := hsb _ hm_qsa1
  have hm_qmi1 : qmi1 ∈ L47 := hsb _ hm_qmi1
  have hm_qi2 : qi2 ∈ L47 := hsb _ hm_qi2
  have hm_qla2 : qla2 ∈ L47 := hsb _ hm_qla2
  have hm_qsa2 : qsa2 ∈ L47 := hsb _ hm_qsa2
  have hm_qmi2 : qmi2 ∈ L47 := hsb _ hm_qmi2
  have hm_qkp : qkp ∈ L47 := hsb _ hm_qkp
  have hm_qsl : qsl ∈ L47 := hsb _ hm_qsl
  have hf_qsl : f48 qsl = .inr (6, [.ref qnu, .ref qwi, .ref qsi]) := ha_0
  have hf_qnu : f48 qnu = .inl (cy 6, 4, .inr (.inr (.inr (.inr qgn)))) := hf_qnu
  have hm_qnu : qnu ∈ L47 := hm_qnu
  have hf_qr0 : f48 qr0 = .inl (cy 2, 60, .inr (.inl (fun _ => 0))) := hf_qr0
  have hm_qr0 : qr0 ∈ L47 := hm_qr0
  have hf_qr1 : f48 qr1 = .inl (cy 2, 60, .inr (.inl (fun _ => 0))) := hf_qr1
  have hm_qr1 : qr1 ∈ L47 := hm_qr1
  have hf_qr2 : f48 qr2 = .inl (cy 2, 60, .inr (.inl (fun _ => 0))) := hf_qr2
  have hm_qr2 : qr2 ∈ L47 := hm_qr2
  have hf_qr3 : f48 qr3 = .inl (cy 2, 60, .inr (.inl (fun _ => 0))) := hf_qr3
  have hm_qr3 : qr3 ∈ L47 := hm_qr3
  have hf_qwi : f48 qwi = .inl (cy 1, 4, .inl (fun _ => 0)) := hf_qwi
  have hm_qwi : qwi ∈ L47 := hm_qwi
  have hf_qsi : f48 qsi = .inl (cy 1, 4, .inl qgs) := hf_qsi
  have hm_qsi : qsi ∈ L47 := hm_qsi
  have hpS := hp
  refine z_putF (C := RX9) (T := TX9) (N := 11) (ci := 9) (v := .ref qsl) (fs' := [.ref qtp, .ref qrd, .ref qmo, .ref qdr, .ref qim, .ref qkp, .ref qsl, .null, .null, .null, .null]) hx hb hT zin_X9 tyX9_ok nmX9 hown hK hw hm_hs hf_hs rfl 6 (by decide) (hT _ kw_483) rfl hnm rfl rfl rfl (Nat.le_of_ble_eq_true rfl) rfl dX9_init_105 (fun H locs hw => ?_)
  obtain ⟨f49, e_f49⟩ : ∃ z, z = va_up f48 hs (.inr (9, [.ref qtp, .ref qrd, .ref qmo, .ref qdr, .ref qim, .ref qkp, .ref qsl, .null, .null, .null, .null])) := ⟨_, rfl⟩
  rw [← e_f49] at hw
  have hf_qtp : f49 qtp = .inr (7, [.ref qba, .int 0]) := (congrFun e_f49 qtp).trans (z_up_ne (Ne.symm ne_hs_qtp) hf_qtp)
  have hf_qba : f49 qba = .inl (cy 0, 1600, .inl (fun _ => 0)) := (congrFun e_f49 qba).trans (z_up_ne (Ne.symm ne_hs_qba) hf_qba)
  have hf_qmo : f49 qmo = .inr (2, [.int 0, .int 0, .int 0, .int 0, .int 0, .int 0, .int 0, .ref qla, .ref qsa, .ref qmi, .ref qda]) := (congrFun e_f49 qmo).trans (z_up_ne (Ne.symm ne_hs_qmo) hf_qmo)
  have hf_qla : f49 qla = .inl (cy 1, 5, .inl (fun _ => 0)) := (congrFun e_f49 qla).trans (z_up_ne (Ne.symm ne_hs_qla) hf_qla)
  have hf_qsa : f49 qsa = .inl (cy 1, 4, .inl (fun _ => 0)) := (congrFun e_f49 qsa).trans (z_up_ne (Ne.symm ne_hs_qsa) hf_qsa)
  have hf_qmi : f49 qmi = .inl (cy 1, 36, .inl (fun _ => 0)) := (congrFun e_f49 qmi).trans (z_up_ne (Ne.symm ne_hs_qmi) hf_qmi)
  have hf_qdr : f49 qdr = .inr (2, [.int 0, .int 0, .int 0, .int 0, .int 0, .int 0, .int 0, .ref qxla, .ref qxsa, .ref qxmi, .ref qxda]) := (congrFun e_f49 qdr).trans (z_up_ne (Ne.symm ne_hs_qdr) hf_qdr)
  have hf_qxla : f49 qxla = .inl (cy 1, 5, .inl (fun _ => 0)) := (congrFun e_f49 qxla).trans (z_up_ne (Ne.symm ne_hs_qxla) hf_qxla)
  have hf_qxsa : f49 qxsa = .inl (cy 1, 4, .inl (fun _ => 0)) := (congrFun e_f49 qxsa).trans (z_up_ne (Ne.symm ne_hs_qxsa) hf_qxsa)
  have hf_qxmi : f49 qxmi = .inl (cy 1, 36, .inl (fun _ => 0)) := (congrFun e_f49 qxmi).trans (z_up_ne (Ne.symm ne_hs_qxmi) hf_qxmi)
  have hf_qrd : f49 qrd = .inr (5, [.int 0, .int (-1), .ref qtp, .ref qdr, .int 0, .int 0, .int 0, .int 0, .int 0]) := (congrFun e_f49 qrd).trans (z_up_ne (Ne.symm ne_hs_qrd) hf_qrd)
  have hf_qim : f49 qim = .inl (cy 5, 3, .inr (.inr (.inr (.inr g40)))) := (congrFun e_f49 qim).trans (z_up_ne (Ne.symm ne_hs_qim) hf_qim)
  have hf_qi0 : f49 qi0 = .inr (2, [.int 0, .int 0, .int 0, .int 0, .int 0, .int 0, .int 0, .ref qla0, .ref qsa0, .ref qmi0, .ref qda0]) := (congrFun e_f49 qi0).trans (z_up_ne (Ne.symm ne_hs_qi0) hf_qi0)
  have hf_qla0 : f49 qla0 = .inl (cy 1, 5, .inl (fun _ => 0)) := (congrFun e_f49 qla0).trans (z_up_ne (Ne.symm ne_hs_qla0) hf_qla0)
  have hf_qsa0 : f49 qsa0 = .inl (cy 1, 4, .inl (fun _ => 0)) := (congrFun e_f49 qsa0).trans (z_up_ne (Ne.symm ne_hs_qsa0) hf_qsa0)
  have hf_qmi0 : f49 qmi0 = .inl (cy 1, 36, .inl (fun _ => 0)) := (congrFun e_f49 qmi0).trans (z_up_ne (Ne.symm ne_hs_qmi0) hf_qmi0)
  have hf_qi1 : f49 qi1 = .inr (2, [.int 0, .int 0, .int 0, .int 0, .int 0, .int 0, .int 0, .ref qla1, .ref qsa1, .ref qmi1, .ref qda1]) := (congrFun e_f49 qi1).trans (z_up_ne (Ne.symm ne_hs_qi1) hf_qi1)
  have hf_qla1 : f49 qla1 = .inl (cy 1, 5, .inl (fun _ => 0)) := (congrFun e_f49 qla1).trans (z_up_ne (Ne.symm ne_hs_qla1) hf_qla1)
  have hf_qsa1 : f49 qsa1 = .inl (cy 1, 4, .inl (fun _ => 0)) := (congrFun e_f49 qsa1).trans (z_up_ne (Ne.symm ne_hs_qsa1) hf_qsa1)
  have hf_qmi1 : f49 qmi1 = .inl (cy 1, 36, .inl (fun _ => 0)) := (congrFun e_f49 qmi1).trans (z_up_ne (Ne.symm ne_hs_qmi1) hf_qmi1)
  have hf_qi2 : f49 qi2 = .inr (2, [.int 0, .int 0, .int 0, .int 0, .int 0, .int 0, .int 0, .ref qla2, .ref qsa2, .ref qmi2, .ref qda2]) := (congrFun e_f49 qi2).trans (z_up_ne (Ne.symm ne_hs_qi2) hf_qi2)
  have hf_qla2 : f49 qla2 = .inl (cy 1, 5, .inl (fun _ => 0)) := (congrFun e_f49 qla2).trans (z_up_ne (Ne.symm ne_hs_qla2) hf_qla2)
  have hf_qsa2 : f49 qsa2 = .inl (cy 1, 4, .inl (fun _ => 0)) := (congrFun e_f49 qsa2).trans (z_up_ne (Ne.symm ne_hs_qsa2) hf_qsa2)
  have hf_qmi2 : f49 qmi2 = .inl (cy 1, 36, .inl (fun _ => 0)) := (congrFun e_f49 qmi2).trans (z_up_ne (Ne.symm ne_hs_qmi2) hf_qmi2)
  have hf_qkp : f49 qkp = .inl (cy 3, 3, .inl (fun _ => 0)) := (congrFun e_f49 qkp).trans (z_up_ne (Ne.symm ne_hs_qkp) hf_qkp)
  have hf_qsl : f49 qsl = .inr (6, [.ref qnu, .ref qwi, .ref qsi]) := (congrFun e_f49 qsl).trans (z_up_ne (Ne.symm ne_hs_qsl) hf_qsl)
  have hf_qnu : f49 qnu = .inl (cy 6, 4, .inr (.inr (.inr (.inr qgn)))) := (congrFun e_f49 qnu).trans (z_up_ne (Ne.symm ne_hs_qnu) hf_qnu)
  have hf_qr0 : f49 qr0 = .inl (cy 2, 60, .inr (.inl (fun _ => 0))) := (congrFun e_f49 qr0).trans (z_up_ne (Ne.symm ne_hs_qr0) hf_qr0)
  have hf_qr1 : f49 qr1 = .inl (cy 2, 60, .inr (.inl (fun _ => 0))) := (congrFun e_f49 qr1).trans (z_up_ne (Ne.symm ne_hs_qr1) hf_qr1)
  have hf_qr2 : f49 qr2 = .inl (cy 2, 60, .inr (.inl (fun _ => 0))) := (congrFun e_f49 qr2).trans (z_up_ne (Ne.symm ne_hs_qr2) hf_qr2)
  have hf_qr3 : f49 qr3 = .inl (cy 2, 60, .inr (.inl (fun _ => 0))) := (congrFun e_f49 qr3).trans (z_up_ne (Ne.symm ne_hs_qr3) hf_qr3)
  have hf_qwi : f49 qwi = .inl (cy 1, 4, .inl (fun _ => 0)) := (congrFun e_f49 qwi).trans (z_up_ne (Ne.symm ne_hs_qwi) hf_qwi)
  have hf_qsi : f49 qsi = .inl (cy 1, 4, .inl qgs) := (congrFun e_f49 qsi).trans (z_up_ne (Ne.symm ne_hs_qsi) hf_qsi)
  have hf_hs : f49 hs = .inr (9, [.ref qtp, .ref qrd, .ref qmo, .ref qdr, .ref qim, .ref qkp, .ref qsl, .null, .null, .null, .null]) := (congrFun e_f49 hs).trans z_up_self
  have hfr : ∀ b ∈ L, b ≠ hs → f49 b = f b := fun b hb h0 => (congrFun e_f49 b).trans (z_up_ne h0 (hfr b hb h0))
  refine lv_aload_n hx hb dX9_init_108 rfl (lv_at hl 1 rfl) ?_
  refine z_new (C := RX8) (T := TX8) (N := 8) (ci := 8) (fs := [.null, .int 0, .null, .null, .null, .int 0, .int 0, .int 0]) (cells := 103) (slots := 2737) hx hb hT zin_X8 tyX8_ok hown (hT _ kw_336) (hT _ kw_337) (hT _ kw_92) hK hw hA rfl (fun j hj => by rcases (show j = 0 ∨ j = 1 ∨ j = 2 ∨ j = 3 ∨ j = 4 ∨ j = 5 ∨ j = 6 ∨ j = 7 by omega) with rfl | rfl | rfl | rfl | rfl | rfl | rfl | rfl <;> rfl) (by decide) (by decide) dX9_init_109 (fun qwk H hq_qwk hw => ?_)
  refine W.widen (k := 104) (n := 2745) (by decide) (by decide) ?_
  have ne_hs_qwk : hs ≠ qwk := z_ne hm_hs hq_qwk
  have ne_qtp_qwk : qtp ≠ qwk := z_ne hm_qtp hq_qwk
  have ne_qba_qwk : qba ≠ qwk := z_ne hm_qba hq_qwk
  have ne_qmo_qwk : qmo ≠ qwk := z_ne hm_qmo hq_qwk
  have ne_qla_qwk : qla ≠ qwk := z_ne hm_qla hq_qwk
  have ne_qsa_qwk : qsa ≠ qwk := z_ne hm_qsa hq_qwk
  have ne_qmi_qwk : qmi ≠ qwk := z_ne hm_qmi hq_qwk
  have ne_qdr_qwk : qdr ≠ qwk := z_ne hm_qdr hq_qwk
  have ne_qxla_qwk : qxla ≠ qwk := z_ne hm_qxla hq_qwk
  have ne_qxsa_qwk : qxsa ≠ qwk := z_ne hm_qxsa hq_qwk
  have ne_qxmi_qwk : qxmi ≠ qwk := z_ne hm_qxmi hq_qwk
  have ne_qrd_qwk : qrd ≠ qwk := z_ne hm_qrd hq_qwk
  have ne_qim_qwk : qim ≠ qwk := z_ne hm_qim hq_qwk
  have ne_qi0_qwk : qi0 ≠ qwk := z_ne hm_qi0 hq_qwk
  have ne_qla0_qwk : qla0 ≠ qwk := z_ne hm_qla0 hq_qwk
  have ne_qsa0_qwk : qsa0 ≠ qwk := z_ne hm_qsa0 hq_qwk
  have ne_qmi0_qwk : qmi0 ≠ qwk := z_ne hm_qmi0 hq_qwk
  have ne_qi1_qwk : qi1 ≠ qwk := z_ne hm_qi1 hq_qwk
  have ne_qla1_qwk : qla1 ≠ qwk := z_ne hm_qla1 hq_qwk
  have ne_qsa1_qwk : qsa1 ≠ qwk := z_ne hm_qsa1 hq_qwk
  have ne_qmi1_qwk : qmi1 ≠ qwk := z_ne hm_qmi1 hq_qwk
  have ne_qi2_qwk : qi2 ≠ qwk := z_ne hm_qi2 hq_qwk
  have ne_qla2_qwk : qla2 ≠ qwk := z_ne hm_qla2 hq_qwk
  have ne_qsa2_qwk : qsa2 ≠ qwk := z_ne hm_qsa2 hq_qwk
  have ne_qmi2_qwk : qmi2 ≠ qwk := z_ne hm_qmi2 hq_qwk
  have ne_qkp_qwk : qkp ≠ qwk := z_ne hm_qkp hq_qwk
  have ne_qsl_qwk : qsl ≠ qwk := z_ne hm_qsl hq_qwk
  have ne_qnu_qwk : qnu ≠ qwk := z_ne hm_qnu hq_qwk
  have ne_qr0_qwk : qr0 ≠ qwk := z_ne hm_qr0 hq_qwk
  have ne_qr1_qwk : qr1 ≠ qwk := z_ne hm_qr1 hq_qwk
  have ne_qr2_qwk : qr2 ≠ qwk := z_ne hm_qr2 hq_qwk
  have ne_qr3_qwk : qr3 ≠ qwk := z_ne hm_qr3 hq_qwk
  have ne_qwi_qwk : qwi ≠ qwk := z_ne hm_qwi hq_qwk
  have ne_qsi_qwk : qsi ≠ qwk := z_ne hm_qsi hq_qwk
  have hn_qwk : qwk ∉ L := fun h => hq_qwk (hsub _ h)
  obtain ⟨f51, e_f51⟩ : ∃ z, z = va_up f49 qwk (.inr (8, [.null, .int 0, .null, .null, .null, .int 0, .int 0, .int 0])) := ⟨_, rfl⟩
  obtain ⟨L50, e_L50⟩ : ∃ z, z = L47 ++ [qwk] := ⟨_, rfl⟩
  rw [← e_f51, ← e_L50] at hw
  have hm_hs : hs ∈ L50 := by rw [e_L50]; exact List.mem_append_left _ hm_hs
  have hf_hs : f51 hs = .inr (9, [.ref qtp, .ref qrd, .ref qmo, .ref qdr, .ref qim, .ref qkp, .ref qsl, .null, .null, .null, .null]) := (congrFun e_f51 hs).trans (z_up_ne ne_hs_qwk hf_hs)
  have hm_qtp : qtp ∈ L50 := by rw [e_L50]; exact List.mem_append_left _ hm_qtp
  have hf_qtp : f51 qtp = .inr (7, [.ref qba, .int 0]) := (congrFun e_f51 qtp).trans (z_up_ne ne_qtp_qwk hf_qtp)
  have hm_qba : qba ∈ L50 := by rw [e_L50]; exact List.mem_append_left _ hm_qba
  have hf_qba : f51 qba = .inl (cy 0, 1600, .inl (fun _ => 0)) := (congrFun e_f51 qba).trans (z_up_ne ne_qba_qwk hf_qba)
  have hm_qmo : qmo ∈ L50 := by rw [e_L50]; exact List.mem_append_left _ hm_qmo
  have hf_qmo : f51 qmo = .inr (2, [.int 0, .int 0, .int 0, .int 0, .int 0, .int 0, .int 0, .ref qla, .ref qsa, .ref qmi, .ref qda]) := (congrFun e_f51 qmo).trans (z_up_ne ne_qmo_qwk hf_qmo)
  have hm_qla : qla ∈ L50 := by rw [e_L50]; exact List.mem_append_left _ hm_qla
  have hf_qla : f51 qla = .inl (cy 1, 5, .inl (fun _ => 0)) := (congrFun e_f51 qla).trans (z_up_ne ne_qla_qwk hf_qla)
  have hm_qsa : qsa ∈ L50 := by rw [e_L50]; exact List.mem_append_left _ hm_qsa
  have hf_qsa : f51 qsa = .inl (cy 1, 4, .inl (fun _ => 0)) := (congrFun e_f51 qsa).trans (z_up_ne ne_qsa_qwk hf_qsa)
  have hm_qmi : qmi ∈ L50 := by rw [e_L50]; exact List.mem_append_left _ hm_qmi
  have hf_qmi : f51 qmi = .inl (cy 1, 36, .inl (fun _ => 0)) := (congrFun e_f51 qmi).trans (z_up_ne ne_qmi_qwk hf_qmi)
  have hm_qdr : qdr ∈ L50 := by rw [e_L50]; exact List.mem_append_left _ hm_qdr
  have hf_qdr : f51 qdr = .inr (2, [.int 0, .int 0, .int 0, .int 0, .int 0, .int 0, .int 0, .ref qxla, .ref qxsa, .ref qxmi, .ref qxda]) := (congrFun e_f51 qdr).trans (z_up_ne ne_qdr_qwk hf_qdr)
  have hm_qxla : qxla ∈ L50 := by rw [e_L50]; exact List.mem_append_left _ hm_qxla
  have hf_qxla : f51 qxla = .inl (cy 1, 5, .inl (fun _ => 0)) := (congrFun e_f51 qxla).trans (z_up_ne ne_qxla_qwk hf_qxla)
  have hm_qxsa : qxsa ∈ L50 := by rw [e_L50]; exact List.mem_append_left _ hm_qxsa
  have hf_qxsa : f51 qxsa = .inl (cy 1, 4, .inl (fun _ => 0)) := (congrFun e_f51 qxsa).trans (z_up_ne ne_qxsa_qwk hf_qxsa)
  have hm_qxmi : qxmi ∈ L50 := by rw [e_L50]; exact List.mem_append_left _ hm_qxmi
  have hf_qxmi : f51 qxmi = .inl (cy 1, 36, .inl (fun _ => 0)) := (congrFun e_f51 qxmi).trans (z_up_ne ne_qxmi_qwk hf_qxmi)
  have hm_qrd : qrd ∈ L50 := by rw [e_L50]; exact List.mem_append_left _ hm_qrd
  have hf_qrd : f51 qrd = .inr (5, [.int 0, .int (-1), .ref qtp, .ref qdr, .int 0, .int 0, .int 0, .int 0, .int 0]) := (congrFun e_f51 qrd).trans (z_up_ne ne_qrd_qwk hf_qrd)
  have hm_qim : qim ∈ L50 := by rw [e_L50]; exact List.mem_append_left _ hm_qim
  have hf_qim : f51 qim = .inl (cy 5, 3, .inr (.inr (.inr (.inr g40)))) := (congrFun e_f51 qim).trans (z_up_ne ne_qim_qwk hf_qim)
  have hm_qi0 : qi0 ∈ L50 := by rw [e_L50]; exact List.mem_append_left _ hm_qi0
  have hf_qi0 : f51 qi0 = .inr (2, [.int 0, .int 0, .int 0, .int 0, .int 0, .int 0, .int 0, .ref qla0, .ref qsa0, .ref qmi0, .ref qda0]) := (congrFun e_f51 qi0).trans (z_up_ne ne_qi0_qwk hf_qi0)
  have hm_qla0 : qla0 ∈ L50 := by rw [e_L50]; exact List.mem_append_left _ hm_qla0
  have hf_qla0 : f51 qla0 = .inl (cy 1, 5, .inl (fun _ => 0)) := (congrFun e_f51 qla0).trans (z_up_ne ne_qla0_qwk hf_qla0)
  have hm_qsa0 : qsa0 ∈ L50 := by rw [e_L50]; exact List.mem_append_left _ hm_qsa0
  have hf_qsa0 : f51 qsa0 = .inl (cy 1, 4, .inl (fun _ => 0)) := (congrFun e_f51 qsa0).trans (z_up_ne ne_qsa0_qwk hf_qsa0)
  have hm_qmi0 : qmi0 ∈ L50 := by rw [e_L50]; exact List.mem_append_left _ hm_qmi0
  have hf_qmi0 : f51 qmi0 = .inl (cy 1, 36, .inl (fun _ => 0)) := (congrFun e_f51 qmi0).trans (z_up_ne ne_qmi0_qwk hf_qmi0)
  have hm_qi1 : qi1 ∈ L50 := by rw [e_L50]; exact List.mem_append_left _ hm_qi1
  have hf_qi1 : f51 qi1 = .inr (2, [.int 0, .int 0, .int 0, .int 0, .int 0, .int 0, .int 0, .ref qla1, .ref qsa1, .ref qmi1, .ref qda1]) := (congrFun e_f51 qi1).trans (z_up_ne ne_qi1_qwk hf_qi1)
  have hm_qla1 : qla1 ∈ L50 := by rw [e_L50]; exact List.mem_append_left _ hm_qla1
  have hf_qla1 : f51 qla1 = .inl (cy 1, 5, .inl (fun _ => 0)) := (congrFun e_f51 qla1).trans (z_up_ne ne_qla1_qwk hf_qla1)
  have hm_qsa1 : qsa1 ∈ L50 := by rw [e_L50]; exact List.mem_append_left _ hm_qsa1
  have hf_qsa1 : f51 qsa1 = .inl (cy 1, 4, .inl (fun _ => 0)) := (congrFun e_f51 qsa1).trans (z_up_ne ne_qsa1_qwk hf_qsa1)
  have hm_qmi1 : qmi1 ∈ L50 := by rw [e_L50]; exact List.mem_append_left _ hm_qmi1
  have hf_qmi1 : f51 qmi1 = .inl (cy 1, 36, .inl (fun _ => 0)) := (congrFun e_f51 qmi1).trans (z_up_ne ne_qmi1_qwk hf_qmi1)
  have hm_qi2 : qi2 ∈ L50 := by rw [e_L50]; exact List.mem_append_left _ hm_qi2
  have hf_qi2 : f51 qi2 = .inr (2, [.int 0, .int 0, .int 0, .int 0, .int 0, .int 0, .int 0, .ref qla2, .ref qsa2, .ref qmi2, .ref qda2]) := (congrFun e_f51 qi2).trans (z_up_ne ne_qi2_qwk hf_qi2)
  have hm_qla2 : qla2 ∈ L50 := by rw [e_L50]; exact List.mem_append_left _ hm_qla2
  have hf_qla2 : f51 qla2 = .inl (cy 1, 5, .inl (fun _ => 0)) := (congrFun e_f51 qla2).trans (z_up_ne ne_qla2_qwk hf_qla2)
  have hm_qsa2 : qsa2 ∈ L50 := by rw [e_L50]; exact List.mem_append_left _ hm_qsa2
  have hf_qsa2 : f51 qsa2 = .inl (cy 1, 4, .inl (fun _ => 0)) := (congrFun e_f51 qsa2).trans (z_up_ne ne_qsa2_qwk hf_qsa2)
  have hm_qmi2 : qmi2 ∈ L50 := by rw [e_L50]; exact List.mem_append_left _ hm_qmi2
  have hf_qmi2 : f51 qmi2 = .inl (cy 1, 36, .inl (fun _ => 0)) := (congrFun e_f51 qmi2).trans (z_up_ne ne_qmi2_qwk hf_qmi2)
  have hm_qkp : qkp ∈ L50 := by rw [e_L50]; exact List.mem_append_left _ hm_qkp
  have hf_qkp : f51 qkp = .inl (cy 3, 3, .inl (fun _ => 0)) := (congrFun e_f51 qkp).trans (z_up_ne ne_qkp_qwk hf_qkp)
  have hm_qsl : qsl ∈ L50 := by rw [e_L50]; exact List.mem_append_left _ hm_qsl
  have hf_qsl : f51 qsl = .inr (6, [.ref qnu, .ref qwi, .ref qsi]) := (congrFun e_f51 qsl).trans (z_up_ne ne_qsl_qwk hf_qsl)
  have hm_qnu : qnu ∈ L50 := by rw [e_L50]; exact List.mem_append_left _ hm_qnu
  have hf_qnu : f51 qnu = .inl (cy 6, 4, .inr (.inr (.inr (.inr qgn)))) := (congrFun e_f51 qnu).trans (z_up_ne ne_qnu_qwk hf_qnu)
  have hm_qr0 : qr0 ∈ L50 := by rw [e_L50]; exact List.mem_append_left _ hm_qr0
  have hf_qr0 : f51 qr0 = .inl (cy 2, 60, .inr (.inl (fun _ => 0))) := (congrFun e_f51 qr0).trans (z_up_ne ne_qr0_qwk hf_qr0)
  have hm_qr1 : qr1 ∈ L50 := by rw [e_L50]; exact List.mem_append_left _ hm_qr1
  have hf_qr1 : f51 qr1 = .inl (cy 2, 60, .inr (.inl (fun _ => 0))) := (congrFun e_f51 qr1).trans (z_up_ne ne_qr1_qwk hf_qr1)
  have hm_qr2 : qr2 ∈ L50 := by rw [e_L50]; exact List.mem_append_left _ hm_qr2
  have hf_qr2 : f51 qr2 = .inl (cy 2, 60, .inr (.inl (fun _ => 0))) := (congrFun e_f51 qr2).trans (z_up_ne ne_qr2_qwk hf_qr2)
  have hm_qr3 : qr3 ∈ L50 := by rw [e_L50]; exact List.mem_append_left _ hm_qr3
  have hf_qr3 : f51 qr3 = .inl (cy 2, 60, .inr (.inl (fun _ => 0))) := (congrFun e_f51 qr3).trans (z_up_ne ne_qr3_qwk hf_qr3)
  have hm_qwi : qwi ∈ L50 := by rw [e_L50]; exact List.mem_append_left _ hm_qwi
  have hf_qwi : f51 qwi = .inl (cy 1, 4, .inl (fun _ => 0)) := (congrFun e_f51 qwi).trans (z_up_ne ne_qwi_qwk hf_qwi)
  have hm_qsi : qsi ∈ L50 := by rw [e_L50]; exact List.mem_append_left _ hm_qsi
  have hf_qsi : f51 qsi = .inl (cy 1, 4, .inl qgs) := (congrFun e_f51 qsi).trans (z_up_ne ne_qsi_qwk hf_qsi)
  have hm_qwk : qwk ∈ L50 := by rw [e_L50]; exact List.mem_append_right _ (List.mem_singleton.mpr rfl)
  have hf_qwk : f51 qwk = .inr (8, [.null, .int 0, .null, .null, .null, .int 0, .int 0, .int 0]) := (congrFun e_f51 qwk).trans z_up_self
  have hsub : ∀ b ∈ L, b ∈ L50 := fun b h => by rw [e_L50]; exact List.mem_append_left _ (hsub b h)
  have hfr : ∀ b ∈ L, b ≠ hs → f51 b = f b := fun b hb h0 => (congrFun e_f51 b).trans (z_up_ne (z_ne hb hn_qwk) (hfr b hb h0))
  refine lv_dup hx hb dX9_init_112 rfl ?_
  refine z_callvIN (cells := 104) (slots := 2745) (b := qwk) (As := []) (rest := [.ref qwk, .ref hs]) ⟨hx, hb, hml, hown, hT⟩ (c_X8_init l hm_qwk hf_qwk) ⟨va_cnB 0 hT (z_goodI (fun _ h => h) kw_340) rfl rfl rfl hKK.2.2.2.2.2.2 (hT _ kw_92) (by decide +kernel) ⟨by decide, by decide⟩, rfl, hT _ kw_339⟩ z_mv hKK hw hA rfl hl.1 rfl (Nat.le_of_ble_eq_true rfl) dX9_init_113 ⟨by decide, by decide⟩ (fun u H locs hp hw => ?_)
  refine W.widen (k := 108) (n := 2771) (by decide) (by decide) ?_
  obtain ⟨L52, f53⟩ := u
  obtain ⟨hsb, hfm, hp⟩ := hp
  have hw : z_H D vwCl (z_A L sz) s.heap L52 f53 H locs := hw
  have hfr : ∀ b ∈ L, b ≠ hs → f53 b = f b := fun b hb h0 => (hfm b (hsub b hb) (z_ne hb hn_qwk)).trans (hfr b hb h0)
  have hsub : ∀ b ∈ L, b ∈ L52 := fun b h => hsb b (hsub b h)
  have hf_hs : f53 hs = .inr (9, [.ref qtp, .ref qrd, .ref qmo, .ref qdr, .ref qim, .ref qkp, .ref qsl, .null, .null, .null, .null]) := (hfm hs hm_hs ne_hs_qwk).trans hf_hs
  have hf_qtp : f53 qtp = .inr (7, [.ref qba, .int 0]) := (hfm qtp hm_qtp ne_qtp_qwk).trans hf_qtp
  have hf_qba : f53 qba = .inl (cy 0, 1600, .inl (fun _ => 0)) := (hfm qba hm_qba ne_qba_qwk).trans hf_qba
  have hf_qmo : f53 qmo = .inr (2, [.int 0, .int 0, .int 0, .int 0, .int 0, .int 0, .int 0, .ref qla, .ref qsa, .ref qmi, .ref qda]) := (hfm qmo hm_qmo ne_qmo_qwk).trans hf_qmo
  have hf_qla : f53 qla = .inl (cy 1, 5, .inl (fun _ => 0)) := (hfm qla hm_qla ne_qla_qwk).trans hf_qla
  have hf_qsa : f53 qsa = .inl (cy 1, 4, .inl (fun _ => 0)) := (hfm qsa hm_qsa ne_qsa_qwk).trans hf_qsa
  have hf_qmi : f53 qmi = .inl (cy 1, 36, .inl (fun _ => 0)) := (hfm qmi hm_qmi ne_qmi_qwk).trans hf_qmi
  have hf_qdr : f53 qdr = .inr (2, [.int 0, .int 0, .int 0, .int 0, .int 0, .int 0, .int 0, .ref qxla, .ref qxsa, .ref qxmi, .ref qxda]) := (hfm qdr hm_qdr ne_qdr_qwk).trans hf_qdr
  have hf_qxla : f53 qxla = .inl (cy 1, 5, .inl (fun _ => 0)) := (hfm qxla hm_qxla ne_qxla_qwk).trans hf_qxla
  have hf_qxsa : f53 qxsa = .inl (cy 1, 4, .inl (fun _ => 0)) := (hfm qxsa hm_qxsa ne_qxsa_qwk).trans hf_qxsa
  have hf_qxmi : f53 qxmi = .inl (cy 1, 36, .inl (fun _ => 0)) := (hfm qxmi hm_qxmi ne_qxmi_qwk).trans hf_qxmi
  have hf_qrd : f53 qrd = .inr (5, [.int 0, .int (-1), .ref qtp, .ref qdr, .int 0, .int 0, .int 0, .int 0, .int 0]) := (hfm qrd hm_qrd ne_qrd_qwk).trans hf_qrd
  have hf_qim : f53 qim = .inl (cy 5, 3, .inr (.inr (.inr (.inr g40)))) := (hfm qim hm_qim ne_qim_qwk).trans hf_qim
  have hf_qi0 : f53 qi0 = .inr (2, [.int 0, .int 0, .int 0, .int 0, .int 0, .int 0, .int 0, .ref qla0, .ref qsa0, .ref qmi0, .ref qda0]) := (hfm qi0 hm_qi0 ne_qi0_qwk).trans hf_qi0
  have hf_qla0 : f53 qla0 = .inl (cy 1, 5, .inl (fun _ => 0)) := (hfm qla0 hm_qla0 ne_qla0_qwk).trans hf_qla0
  have hf_qsa0 : f53 qsa0 = .inl (cy 1, 4, .inl (fun _ => 0)) := (hfm qsa0 hm_qsa0 ne_qsa0_qwk).trans hf_qsa0
  have hf_qmi0 : f53 qmi0 = .inl (cy 1, 36, .inl (fun _ => 0)) := (hfm qmi0 hm_qmi0 ne_qmi0_qwk).trans hf_qmi0
  have hf_qi1 : f53 qi1 = .inr (2, [.int 0, .int 0, .int 0, .int 0, .int 0, .int 0, .int 0, .ref qla1, .ref qsa1, .ref qmi1, .ref qda1]) := (hfm qi1 hm_qi1 ne_qi1_qwk).trans hf_qi1
  have hf_qla1 : f53 qla1 = .inl (cy 1, 5, .inl (fun _ => 0)) := (hfm qla1 hm_qla1 ne_qla1_qwk).trans hf_qla1
  have hf_qsa1 : f53 qsa1 = .inl (cy 1, 4, .inl (fun _ => 0)) := (hfm qsa1 hm_qsa1 ne_qsa1_qwk).trans hf_qsa1
  have hf_qmi1 : f53 qmi1 = .inl (cy 1, 36, .inl (fun _ => 0)) := (hfm qmi1 hm_qmi1 ne_qmi1_qwk).trans hf_qmi1
  have hf_qi2 : f53 qi2 = .inr (2, [.int 0, .int 0, .int 0, .int 0, .int 0, .int 0, .int 0, .ref qla2, .ref qsa2, .ref qmi2, .ref qda2]) := (hfm qi2 hm_qi2 ne_qi2_qwk).trans hf_qi2
  have hf_qla2 : f53 qla2 = .inl (cy 1, 5, .inl (fun _ => 0)) := (hfm qla2 hm_qla2 ne_qla2_qwk).trans hf_qla2
  have hf_qsa2 : f53 qsa2 = .inl (cy 1, 4, .inl (fun _ => 0)) := (hfm qsa2 hm_qsa2 ne_qsa2_qwk).trans hf_qsa2
  have hf_qmi2 : f53 qmi2 = .inl (cy 1, 36, .inl (fun _ => 0)) := (hfm qmi2 hm_qmi2 ne_qmi2_qwk).trans hf_qmi2
  have hf_qkp : f53 qkp = .inl (cy 3, 3, .inl (fun _ => 0)) := (hfm qkp hm_qkp ne_qkp_qwk).trans hf_qkp
  have hf_qsl : f53 qsl = .inr (6, [.ref qnu, .ref qwi, .ref qsi]) := (hfm qsl hm_qsl ne_qsl_qwk).trans hf_qsl
  have hf_qnu : f53 qnu = .inl (cy 6, 4, .inr (.inr (.inr (.inr qgn)))) := (hfm qnu hm_qnu ne_qnu_qwk).trans hf_qnu
  have hf_qr0 : f53 qr0 = .inl (cy 2, 60, .inr (.inl (fun _ => 0))) := (hfm qr0 hm_qr0 ne_qr0_qwk).trans hf_qr0
  have hf_qr1 : f53 qr1 = .inl (cy 2, 60, .inr (.inl (fun _ => 0))) := (hfm qr1 hm_qr1 ne_qr1_qwk).trans hf_qr1
  have hf_qr2 : f53 qr2 = .inl (cy 2, 60, .inr (.inl (fun _ => 0))) := (hfm qr2 hm_qr2 ne_qr2_qwk).trans hf_qr2
  have hf_qr3 : f53 qr3 = .inl (cy 2, 60, .inr (.inl (fun _ => 0))) := (hfm qr3 hm_qr3 ne_qr3_qwk).trans hf_qr3
  have hf_qwi : f53 qwi = .inl (cy 1, 4, .inl (fun _ => 0)) := (hfm qwi hm_qwi ne_qwi_qwk).trans hf_qwi
  have hf_qsi : f53 qsi = .inl (cy 1, 4, .inl qgs) := (hfm qsi hm_qsi ne_qsi_qwk).trans hf_qsi
  have hm_hs : hs ∈ L52 := hsb _ hm_hs
  have hm_qtp : qtp ∈ L52 := hsb _ hm_qtp
  have hm_qba : qba ∈ L52 := hsb _ hm_qba
  have hm_qmo : qmo ∈ L52 := hsb _ hm_qmo
  have hm_qla : qla ∈ L52 := hsb _ hm_qla
  have hm_qsa : qsa ∈ L52 := hsb _ hm_qsa
  have hm_qmi : qmi ∈ L52 := hsb _ hm_qmi
  have hm_qdr : qdr ∈ L52 := hsb _ hm_qdr
  have hm_qxla : qxla ∈ L52 := hsb _ hm_qxla
  have hm_qxsa : qxsa ∈ L52 := hsb _ hm_qxsa
  have hm_qxmi : qxmi ∈ L52 := hsb _ hm_qxmi
  have hm_qrd : qrd ∈ L52 := hsb _ hm_qrd
  have hm_qim : qim ∈ L52 := hsb _ hm_qim
  have hm_qi0 : qi0 ∈ L52 := hsb _ hm_qi0
  have hm_qla0 : qla0 ∈ L52 := hsb _ hm_qla0
  have hm_qsa0 : qsa0 ∈ L52 := hsb _ hm_qsa0
  have hm_qmi0 : qmi0 ∈ L52 := hsb _ hm_qmi0
  have hm_qi1 : qi1 ∈ L52 := hsb _ hm_qi1
  have hm_qla1 : qla1 ∈ L52 := hsb _ hm_qla1
  have hm_qsa1 : qsa1 ∈ L52 := hsb _ hm_qsa1
  have hm_qmi1 : qmi1 ∈ L52 := hsb _ hm_qmi1
  have hm_qi2 : qi2 ∈ L52 := hsb _ hm_qi2
  have hm_qla2 : qla2 ∈ L52 := hsb _ hm_qla2
  have hm_qsa2 : qsa2 ∈ L52 := hsb _ hm_qsa2
  have hm_qmi2 : qmi2 ∈ L52 := hsb _ hm_qmi2
  have hm_qkp : qkp ∈ L52 := hsb _ hm_qkp
  have hm_qsl : qsl ∈ L52 := hsb _ hm_qsl
  have hm_qnu : qnu ∈ L52 := hsb _ hm_qnu
  have hm_qr0 : qr0 ∈ L52 := hsb _ hm_qr0
  have hm_qr1 : qr1 ∈ L52 := hsb _ hm_qr1
  have hm_qr2 : qr2 ∈ L52 := hsb _ hm_qr2
  have hm_qr3 : qr3 ∈ L52 := hsb _ hm_qr3
  have hm_qwi : qwi ∈ L52 := hsb _ hm_qwi
  have hm_qsi : qsi ∈ L52 := hsb _ hm_qsi
  have hm_qwk : qwk ∈ L52 := hsb _ hm_qwk
  refine z_putF (C := RX9) (T := TX9) (N := 11) (ci := 9) (v := .ref qwk) (fs' := [.ref qtp, .ref qrd, .ref qmo, .ref qdr, .ref qim, .ref qkp, .ref qsl, .ref qwk, .null, .null, .null]) hx hb hT zin_X9 tyX9_ok nmX9 hown hK hw hm_hs hf_hs rfl 7 (by decide) (hT _ kw_484) rfl hnm rfl rfl rfl (Nat.le_of_ble_eq_true rfl) rfl dX9_init_116 (fun H locs hw => ?_)
  obtain ⟨f54, e_f54⟩ : ∃ z, z = va_up f53 hs (.inr (9, [.ref qtp, .ref qrd, .ref qmo, .ref qdr, .ref qim, .ref qkp, .ref qsl, .ref qwk, .null, .null, .null])) := ⟨_, rfl⟩
  rw [← e_f54] at hw
  have hf_qtp : f54 qtp = .inr (7, [.ref qba, .int 0]) := (congrFun e_f54 qtp).trans (z_up_ne (Ne.symm ne_hs_qtp) hf_qtp)
  have hf_qba : f54 qba = .inl (cy 0, 1600, .inl (fun _ => 0)) := (congrFun e_f54 qba).trans (z_up_ne (Ne.symm ne_hs_qba) hf_qba)
  have hf_qmo : f54 qmo = .inr (2, [.int 0, .int 0, .int 0, .int 0, .int 0, .int 0, .int 0, .ref qla, .ref qsa, .ref qmi, .ref qda]) := (congrFun e_f54 qmo).trans (z_up_ne (Ne.symm ne_hs_qmo) hf_qmo)
  have hf_qla : f54 qla = .inl (cy 1, 5, .inl (fun _ => 0)) := (congrFun e_f54 qla).trans (z_up_ne (Ne.symm ne_hs_qla) hf_qla)
  have hf_qsa : f54 qsa = .inl (cy 1, 4, .inl (fun _ => 0)) := (congrFun e_f54 qsa).trans (z_up_ne (Ne.symm ne_hs_qsa) hf_qsa)
  have hf_qmi : f54 qmi = .inl (cy 1, 36, .inl (fun _ => 0)) := (congrFun e_f54 qmi).trans (z_up_ne (Ne.symm ne_hs_qmi) hf_qmi)
  have hf_qdr : f54 qdr = .inr (2, [.int 0, .int 0, .int 0, .int 0, .int 0, .int 0, .int 0, .ref qxla, .ref qxsa, .ref qxmi, .ref qxda]) := (congrFun e_f54 qdr).trans (z_up_ne (Ne.symm ne_hs_qdr) hf_qdr)
  have hf_qxla : f54 qxla = .inl (cy 1, 5, .inl (fun _ => 0)) := (congrFun e_f54 qxla).trans (z_up_ne (Ne.symm ne_hs_qxla) hf_qxla)
  have hf_qxsa : f54 qxsa = .inl (cy 1, 4, .inl (fun _ => 0)) := (congrFun e_f54 qxsa).trans (z_up_ne (Ne.symm ne_hs_qxsa) hf_qxsa)
  have hf_qxmi : f54 qxmi = .inl (cy 1, 36, .inl (fun _ => 0)) := (congrFun e_f54 qxmi).trans (z_up_ne (Ne.symm ne_hs_qxmi) hf_qxmi)
  have hf_qrd : f54 qrd = .inr (5, [.int 0, .int (-1), .ref qtp, .ref qdr, .int 0, .int 0, .int 0, .int 0, .int 0]) := (congrFun e_f54 qrd).trans (z_up_ne (Ne.symm ne_hs_qrd) hf_qrd)
  have hf_qim : f54 qim = .inl (cy 5, 3, .inr (.inr (.inr (.inr g40)))) := (congrFun e_f54 qim).trans (z_up_ne (Ne.symm ne_hs_qim) hf_qim)
  have hf_qi0 : f54 qi0 = .inr (2, [.int 0, .int 0, .int 0, .int 0, .int 0, .int 0, .int 0, .ref qla0, .ref qsa0, .ref qmi0, .ref qda0]) := (congrFun e_f54 qi0).trans (z_up_ne (Ne.symm ne_hs_qi0) hf_qi0)
  have hf_qla0 : f54 qla0 = .inl (cy 1, 5, .inl (fun _ => 0)) := (congrFun e_f54 qla0).trans (z_up_ne (Ne.symm ne_hs_qla0) hf_qla0)
  have hf_qsa0 : f54 qsa0 = .inl (cy 1, 4, .inl (fun _ => 0)) := (congrFun e_f54 qsa0).trans (z_up_ne (Ne.symm ne_hs_qsa0) hf_qsa0)
  have hf_qmi0 : f54 qmi0 = .inl (cy 1, 36, .inl (fun _ => 0)) := (congrFun e_f54 qmi0).trans (z_up_ne (Ne.symm ne_hs_qmi0) hf_qmi0)
  have hf_qi1 : f54 qi1 = .inr (2, [.int 0, .int 0, .int 0, .int 0, .int 0, .int 0, .int 0, .ref qla1, .ref qsa1, .ref qmi1, .ref qda1]) := (congrFun e_f54 qi1).trans (z_up_ne (Ne.symm ne_hs_qi1) hf_qi1)
  have hf_qla1 : f54 qla1 = .inl (cy 1, 5, .inl (fun _ => 0)) := (congrFun e_f54 qla1).trans (z_up_ne (Ne.symm ne_hs_qla1) hf_qla1)
  have hf_qsa1 : f54 qsa1 = .inl (cy 1, 4, .inl (fun _ => 0)) := (congrFun e_f54 qsa1).trans (z_up_ne (Ne.symm ne_hs_qsa1) hf_qsa1)
  have hf_qmi1 : f54 qmi1 = .inl (cy 1, 36, .inl (fun _ => 0)) := (congrFun e_f54 qmi1).trans (z_up_ne (Ne.symm ne_hs_qmi1) hf_qmi1)
  have hf_qi2 : f54 qi2 = .inr (2, [.int 0, .int 0, .int 0, .int 0, .int 0, .int 0, .int 0, .ref qla2, .ref qsa2, .ref qmi2, .ref qda2]) := (congrFun e_f54 qi2).trans (z_up_ne (Ne.symm ne_hs_qi2) hf_qi2)
  have hf_qla2 : f54 qla2 = .inl (cy 1, 5, .inl (fun _ => 0)) := (congrFun e_f54 qla2).trans (z_up_ne (Ne.symm ne_hs_qla2) hf_qla2)
  have hf_qsa2 : f54 qsa2 = .inl (cy 1, 4, .inl (fun _ => 0)) := (congrFun e_f54 qsa2).trans (z_up_ne (Ne.symm ne_hs_qsa2) hf_qsa2)
  have hf_qmi2 : f54 qmi2 = .inl (cy 1, 36, .inl (fun _ => 0)) := (congrFun e_f54 qmi2).trans (z_up_ne (Ne.symm ne_hs_qmi2) hf_qmi2)
  have hf_qkp : f54 qkp = .inl (cy 3, 3, .inl (fun _ => 0)) := (congrFun e_f54 qkp).trans (z_up_ne (Ne.symm ne_hs_qkp) hf_qkp)
  have hf_qsl : f54 qsl = .inr (6, [.ref qnu, .ref qwi, .ref qsi]) := (congrFun e_f54 qsl).trans (z_up_ne (Ne.symm ne_hs_qsl) hf_qsl)
  have hf_qnu : f54 qnu = .inl (cy 6, 4, .inr (.inr (.inr (.inr qgn)))) := (congrFun e_f54 qnu).trans (z_up_ne (Ne.symm ne_hs_qnu) hf_qnu)
  have hf_qr0 : f54 qr0 = .inl (cy 2, 60, .inr (.inl (fun _ => 0))) := (congrFun e_f54 qr0).trans (z_up_ne (Ne.symm ne_hs_qr0) hf_qr0)
  have hf_qr1 : f54 qr1 = .inl (cy 2, 60, .inr (.inl (fun _ => 0))) := (congrFun e_f54 qr1).trans (z_up_ne (Ne.symm ne_hs_qr1) hf_qr1)
  have hf_qr2 : f54 qr2 = .inl (cy 2, 60, .inr (.inl (fun _ => 0))) := (congrFun e_f54 qr2).trans (z_up_ne (Ne.symm ne_hs_qr2) hf_qr2)
  have hf_qr3 : f54 qr3 = .inl (cy 2, 60, .inr (.inl (fun _ => 0))) := (congrFun e_f54 qr3).trans (z_up_ne (Ne.symm ne_hs_qr3) hf_qr3)
  have hf_qwi : f54 qwi = .inl (cy 1, 4, .inl (fun _ => 0)) := (congrFun e_f54 qwi).trans (z_up_ne (Ne.symm ne_hs_qwi) hf_qwi)
  have hf_qsi : f54 qsi = .inl (cy 1, 4, .inl qgs) := (congrFun e_f54 qsi).trans (z_up_ne (Ne.symm ne_hs_qsi) hf_qsi)
  have hf_hs : f54 hs = .inr (9, [.ref qtp, .ref qrd, .ref qmo, .ref qdr, .ref qim, .ref qkp, .ref qsl, .ref qwk, .null, .null, .null]) := (congrFun e_f54 hs).trans z_up_self
  have hfr : ∀ b ∈ L, b ≠ hs → f54 b = f b := fun b hb h0 => (congrFun e_f54 b).trans (z_up_ne h0 (hfr b hb h0))
  refine lv_aload_n hx hb dX9_init_119 rfl (lv_at hl 1 rfl) ?_
  refine z_new (C := RX4) (T := TX4) (N := 12) (ci := 4) (fs := [.null, .null, .null, .int 0, .int 0, .int 0, .int 0, .int 0, .int 0, .int 0, .int 0, .int 0]) (cells := 108) (slots := 2771) hx hb hT zin_X4 tyX4_ok hown (hT _ kw_376) (hT _ kw_377) (hT _ kw_93) hK hw hA rfl (fun j hj => by rcases (show j = 0 ∨ j = 1 ∨ j = 2 ∨ j = 3 ∨ j = 4 ∨ j = 5 ∨ j = 6 ∨ j = 7 ∨ j = 8 ∨ j = 9 ∨ j = 10 ∨ j = 11 by omega) with rfl | rfl | rfl | rfl | rfl | rfl | rfl | rfl | rfl | rfl | rfl | rfl <;> rfl) (by decide) (by decide) dX9_init_120 (fun qpl H hq_qpl hw => ?_)
  refine W.widen (k := 109) (n := 2783) (by decide) (by decide) ?_
  have ne_hs_qpl : hs ≠ qpl := z_ne hm_hs hq_qpl
  have ne_qtp_qpl : qtp ≠ qpl := z_ne hm_qtp hq_qpl
  have ne_qba_qpl : qba ≠ qpl := z_ne hm_qba hq_qpl
  have ne_qmo_qpl : qmo ≠ qpl := z_ne hm_qmo hq_qpl
  have ne_qla_qpl : qla ≠ qpl := z_ne hm_qla hq_qpl
  have ne_qsa_qpl : qsa ≠ qpl := z_ne hm_qsa hq_qpl
  have ne_qmi_qpl : qmi ≠ qpl := z_ne hm_qmi hq_qpl
  have ne_qdr_qpl : qdr ≠ qpl := z_ne hm_qdr hq_qpl
  have ne_qxla_qpl : qxla ≠ qpl := z_ne hm_qxla hq_qpl
  have ne_qxsa_qpl : qxsa ≠ qpl := z_ne hm_qxsa hq_qpl
  have ne_qxmi_qpl : qxmi ≠ qpl := z_ne hm_qxmi hq_qpl
  have ne_qrd_qpl : qrd ≠ qpl := z_ne hm_qrd hq_qpl
  have ne_qim_qpl : qim ≠ qpl := z_ne hm_qim hq_qpl
  have ne_qi0_qpl : qi0 ≠ qpl := z_ne hm_qi0 hq_qpl
  have ne_qla0_qpl : qla0 ≠ qpl := z_ne hm_qla0 hq_qpl
  have ne_qsa0_qpl : qsa0 ≠ qpl := z_ne hm_qsa0 hq_qpl
  have ne_qmi0_qpl : qmi0 ≠ qpl := z_ne hm_qmi0 hq_qpl
  have ne_qi1_qpl : qi1 ≠ qpl := z_ne hm_qi1 hq_qpl
  have ne_qla1_qpl : qla1 ≠ qpl := z_ne hm_qla1 hq_qpl
  have ne_qsa1_qpl : qsa1 ≠ qpl := z_ne hm_qsa1 hq_qpl
  have ne_qmi1_qpl : qmi1 ≠ qpl := z_ne hm_qmi1 hq_qpl
  have ne_qi2_qpl : qi2 ≠ qpl := z_ne hm_qi2 hq_qpl
  have ne_qla2_qpl : qla2 ≠ qpl := z_ne hm_qla2 hq_qpl
  have ne_qsa2_qpl : qsa2 ≠ qpl := z_ne hm_qsa2 hq_qpl
  have ne_qmi2_qpl : qmi2 ≠ qpl := z_ne hm_qmi2 hq_qpl
  have ne_qkp_qpl : qkp ≠ qpl := z_ne hm_qkp hq_qpl
  have ne_qsl_qpl : qsl ≠ qpl := z_ne hm_qsl hq_qpl
  have ne_qnu_qpl : qnu ≠ qpl := z_ne hm_qnu hq_qpl
  have ne_qr0_qpl : qr0 ≠ qpl := z_ne hm_qr0 hq_qpl
  have ne_qr1_qpl : qr1 ≠ qpl := z_ne hm_qr1 hq_qpl
  have ne_qr2_qpl : qr2 ≠ qpl := z_ne hm_qr2 hq_qpl
  have ne_qr3_qpl : qr3 ≠ qpl := z_ne hm_qr3 hq_qpl
  have ne_qwi_qpl : qwi ≠ qpl := z_ne hm_qwi hq_qpl
  have ne_qsi_qpl : qsi ≠ qpl := z_ne hm_qsi hq_qpl
  have hn_qpl : qpl ∉ L := fun h => hq_qpl (hsub _ h)
  obtain ⟨f56, e_f56⟩ : ∃ z, z = va_up f54 qpl (.inr (4, [.null, .null, .null, .int 0, .int 0, .int 0, .int 0, .int 0, .int 0, .int 0, .int 0, .int 0])) := ⟨_, rfl⟩
  obtain ⟨L55, e_L55⟩ : ∃ z, z = L52 ++ [qpl] := ⟨_, rfl⟩
  rw [← e_f56, ← e_L55] at hw
  have hm_hs : hs ∈ L55 := by rw [e_L55]; exact List.mem_append_left _ hm_hs
  have hf_hs : f56 hs = .inr (9, [.ref qtp, .ref qrd, .ref qmo, .ref qdr, .ref qim, .ref qkp, .ref qsl, .ref qwk, .null, .null, .null]) := (congrFun e_f56 hs).trans (z_up_ne ne_hs_qpl hf_hs)
  have hm_qtp : qtp ∈ L55 := by rw [e_L55]; exact List.mem_append_left _ hm_qtp
  have hf_qtp : f56 qtp = .inr (7, [.ref qba, .int 0]) := (congrFun e_f56 qtp).trans (z_up_ne ne_qtp_qpl hf_qtp)
  have hm_qba : qba ∈ L55 := by rw [e_L55]; exact List.mem_append_left _ hm_qba
  have hf_qba : f56 qba = .inl (cy 0, 1600, .inl (fun _ => 0)) := (congrFun e_f56 qba).trans (z_up_ne ne_qba_qpl hf_qba)
  have hm_qmo : qmo ∈ L55 := by rw [e_L55]; exact List.mem_append_left _ hm_qmo
  have hf_qmo : f56 qmo = .inr (2, [.int 0, .int 0, .int 0, .int 0, .int 0, .int 0, .int 0, .ref qla, .ref qsa, .ref qmi, .ref qda]) := (congrFun e_f56 qmo).trans (z_up_ne ne_qmo_qpl hf_qmo)
  have hm_qla : qla ∈ L55 := by rw [e_L55]; exact List.mem_append_left _ hm_qla
  have hf_qla : f56 qla = .inl (cy 1, 5, .inl (fun _ => 0)) := (congrFun e_f56 qla).trans (z_up_ne ne_qla_qpl hf_qla)
  have hm_qsa : qsa ∈ L55 := by rw [e_L55]; exact List.mem_append_left _ hm_qsa
  have hf_qsa : f56 qsa = .inl (cy 1, 4, .inl (fun _ => 0)) := (congrFun e_f56 qsa).trans (z_up_ne ne_qsa_qpl hf_qsa)
  have hm_qmi : qmi ∈ L55 := by rw [e_L55]; exact List.mem_append_left _ hm_qmi
  have hf_qmi : f56 qmi = .inl (cy 1, 36, .inl (fun _ => 0)) := (congrFun e_f56 qmi).trans (z_up_ne ne_qmi_qpl hf_qmi)
  have hm_qdr : qdr ∈ L55 := by rw [e_L55]; exact List.mem_append_left _ hm_qdr
  have hf_qdr : f56 qdr = .inr (2, [.int 0, .int 0, .int 0, .int 0, .int 0, .int 0, .int 0, .ref qxla, .ref qxsa, .ref qxmi, .ref qxda]) := (congrFun e_f56 qdr).trans (z_up_ne ne_qdr_qpl hf_qdr)
  have hm_qxla : qxla ∈ L55 := by rw [e_L55]; exact List.mem_append_left _ hm_qxla
  have hf_qxla : f56 qxla = .inl (cy 1, 5, .inl (fun _ => 0)) := (congrFun e_f56 qxla).trans (z_up_ne ne_qxla_qpl hf_qxla)
  have hm_qxsa : qxsa ∈ L55 := by rw [e_L55]; exact List.mem_append_left _ hm_qxsa
  have hf_qxsa : f56 qxsa = .inl (cy 1, 4, .inl (fun _ => 0)) := (congrFun e_f56 qxsa).trans (z_up_ne ne_qxsa_qpl hf_qxsa)
  have hm_qxmi : qxmi ∈ L55 := by rw [e_L55]; exact List.mem_append_left _ hm_qxmi
  have hf_qxmi : f56 qxmi = .inl (cy 1, 36, .inl (fun _ => 0)) := (congrFun e_f56 qxmi).trans (z_up_ne ne_qxmi_qpl hf_qxmi)
  have hm_qrd : qrd ∈ L55 := by rw [e_L55]; exact List.mem_append_left _ hm_qrd
  have hf_qrd : f56 qrd = .inr (5, [.int 0, .int (-1), .ref qtp, .ref qdr, .int 0, .int 0, .int 0, .int 0, .int 0]) := (congrFun e_f56 qrd).trans (z_up_ne ne_qrd_qpl hf_qrd)
  have hm_qim : qim ∈ L55 := by rw [e_L55]; exact List.mem_append_left _ hm_qim
  have hf_qim : f56 qim = .inl (cy 5, 3, .inr (.inr (.inr (.inr g40)))) := (congrFun e_f56 qim).trans (z_up_ne ne_qim_qpl hf_qim)
  have hm_qi0 : qi0 ∈ L55 := by rw [e_L55]; exact List.mem_append_left _ hm_qi0
  have hf_qi0 : f56 qi0 = .inr (2, [.int 0, .int 0, .int 0, .int 0, .int 0, .int 0, .int 0, .ref qla0, .ref qsa0, .ref qmi0, .ref qda0]) := (congrFun e_f56 qi0).trans (z_up_ne ne_qi0_qpl hf_qi0)
  have hm_qla0 : qla0 ∈ L55 := by rw [e_L55]; exact List.mem_append_left _ hm_qla0
  have hf_qla0 : f56 qla0 = .inl (cy 1, 5, .inl (fun _ => 0)) := (congrFun e_f56 qla0).trans (z_up_ne ne_qla0_qpl hf_qla0)
  have hm_qsa0 : qsa0 ∈ L55 := by rw [e_L55]; exact List.mem_append_left _ hm_qsa0
  have hf_qsa0 : f56 qsa0 = .inl (cy 1, 4, .inl (fun _ => 0)) := (congrFun e_f56 qsa0).trans (z_up_ne ne_qsa0_qpl hf_qsa0)
  have hm_qmi0 : qmi0 ∈ L55 := by rw [e_L55]; exact List.mem_append_left _ hm_qmi0
  have hf_qmi0 : f56 qmi0 = .inl (cy 1, 36, .inl (fun _ => 0)) := (congrFun e_f56 qmi0).trans (z_up_ne ne_qmi0_qpl hf_qmi0)
  have hm_qi1 : qi1 ∈ L55 := by rw [e_L55]; exact List.mem_append_left _ hm_qi1
  have hf_qi1 : f56 qi1 = .inr (2, [.int 0, .int 0, .int 0, .int 0, .int 0, .int 0, .int 0, .ref qla1, .ref qsa1, .ref qmi1, .ref qda1]) := (congrFun e_f56 qi1).trans (z_up_ne ne_qi1_qpl hf_qi1)
  have hm_qla1 : qla1 ∈ L55 := by rw [e_L55]; exact List.mem_append_left _ hm_qla1
  have hf_qla1 : f56 qla1 = .inl (cy 1, 5, .inl (fun _ => 0)) := (congrFun e_f56 qla1).trans (z_up_ne ne_qla1_qpl hf_qla1)
  have hm_qsa1 : qsa1 ∈ L55 := by rw [e_L55]; exact List.mem_append_left _ hm_qsa1
  have hf_qsa1 : f56 qsa1 = .inl (cy 1, 4, .inl (fun _ => 0)) := (congrFun e_f56 qsa1).trans (z_up_ne ne_qsa1_qpl hf_qsa1)
  have hm_qmi1 : qmi1 ∈ L55 := by rw [e_L55]; exact List.mem_append_left _ hm_qmi1
  have hf_qmi1 : f56 qmi1 = .inl (cy 1, 36, .inl (fun _ => 0)) := (congrFun e_f56 qmi1).trans (z_up_ne ne_qmi1_qpl hf_qmi1)
  have hm_qi2 : qi2 ∈ L55 := by rw [e_L55]; exact List.mem_append_left _ hm_qi2
  have hf_qi2 : f56 qi2 = .inr (2, [.int 0, .int 0, .int 0, .int 0, .int 0, .int 0, .int 0, .ref qla2, .ref qsa2, .ref qmi2, .ref qda2]) := (congrFun e_f56 qi2).trans (z_up_ne ne_qi2_qpl hf_qi2)
  have hm_qla2 : qla2 ∈ L55 := by rw [e_L55]; exact List.mem_append_left _ hm_qla2
  have hf_qla2 : f56 qla2 = .inl (cy 1, 5, .inl (fun _ => 0)) := (congrFun e_f56 qla2).trans (z_up_ne ne_qla2_qpl hf_qla2)
  have hm_qsa2 : qsa2 ∈ L55 := by rw [e_L55]; exact List.mem_append_left _ hm_qsa2
  have hf_qsa2 : f56 qsa2 = .inl (cy 1, 4, .inl (fun _ => 0)) := (congrFun e_f56 qsa2).trans (z_up_ne ne_qsa2_qpl hf_qsa2)
  have hm_qmi2 : qmi2 ∈ L55 := by rw [e_L55]; exact List.mem_append_left _ hm_qmi2
  have hf_qmi2 : f56 qmi2 = .inl (cy 1, 36, .inl (fun _ => 0)) := (congrFun e_f56 qmi2).trans (z_up_ne ne_qmi2_qpl hf_qmi2)
  have hm_qkp : qkp ∈ L55 := by rw [e_L55]; exact List.mem_append_left _ hm_qkp
  have hf_qkp : f56 qkp = .inl (cy 3, 3, .inl (fun _ => 0)) := (congrFun e_f56 qkp).trans (z_up_ne ne_qkp_qpl hf_qkp)
  have hm_qsl : qsl ∈ L55 := by rw [e_L55]; exact List.mem_append_left _ hm_qsl
  have hf_qsl : f56 qsl = .inr (6, [.ref qnu, .ref qwi, .ref qsi]) := (congrFun e_f56 qsl).trans (z_up_ne ne_qsl_qpl hf_qsl)
  have hm_qnu : qnu ∈ L55 := by rw [e_L55]; exact List.mem_append_left _ hm_qnu
  have hf_qnu : f56 qnu = .inl (cy 6, 4, .inr (.inr (.inr (.inr qgn)))) := (congrFun e_f56 qnu).trans (z_up_ne ne_qnu_qpl hf_qnu)
  have hm_qr0 : qr0 ∈ L55 := by rw [e_L55]; exact List.mem_append_left _ hm_qr0
  have hf_qr0 : f56 qr0 = .inl (cy 2, 60, .inr (.inl (fun _ => 0))) := (congrFun e_f56 qr0).trans (z_up_ne ne_qr0_qpl hf_qr0)
  have hm_qr1 : qr1 ∈ L55 := by rw [e_L55]; exact List.mem_append_left _ hm_qr1
  have hf_qr1 : f56 qr1 = .inl (cy 2, 60, .inr (.inl (fun _ => 0))) := (congrFun e_f56 qr1).trans (z_up_ne ne_qr1_qpl hf_qr1)
  have hm_qr2 : qr2 ∈ L55 := by rw [e_L55]; exact List.mem_append_left _ hm_qr2
  have hf_qr2 : f56 qr2 = .inl (cy 2, 60, .inr (.inl (fun _ => 0))) := (congrFun e_f56 qr2).trans (z_up_ne ne_qr2_qpl hf_qr2)
  have hm_qr3 : qr3 ∈ L55 := by rw [e_L55]; exact List.mem_append_left _ hm_qr3
  have hf_qr3 : f56 qr3 = .inl (cy 2, 60, .inr (.inl (fun _ => 0))) := (congrFun e_f56 qr3).trans (z_up_ne ne_qr3_qpl hf_qr3)
  have hm_qwi : qwi ∈ L55 := by rw [e_L55]; exact List.mem_append_left _ hm_qwi
  have hf_qwi : f56 qwi = .inl (cy 1, 4, .inl (fun _ => 0)) := (congrFun e_f56 qwi).trans (z_up_ne ne_qwi_qpl hf_qwi)
  have hm_qsi : qsi ∈ L55 := by rw [e_L55]; exact List.mem_append_left _ hm_qsi
  have hf_qsi : f56 qsi = .inl (cy 1, 4, .inl qgs) := (congrFun e_f56 qsi).trans (z_up_ne ne_qsi_qpl hf_qsi)
  have hm_qpl : qpl ∈ L55 := by rw [e_L55]; exact List.mem_append_right _ (List.mem_singleton.mpr rfl)
  have hf_qpl : f56 qpl = .inr (4, [.null, .null, .null, .int 0, .int 0, .int 0, .int 0, .int 0, .int 0, .int 0, .int 0, .int 0]) := (congrFun e_f56 qpl).trans z_up_self
  have hsub : ∀ b ∈ L, b ∈ L55 := fun b h => by rw [e_L55]; exact List.mem_append_left _ (hsub b h)
  have hfr : ∀ b ∈ L, b ≠ hs → f56 b = f b := fun b hb h0 => (congrFun e_f56 b).trans (z_up_ne (z_ne hb hn_qpl) (hfr b hb h0))
  refine lv_dup hx hb dX9_init_123 rfl ?_
  refine lv_aload_n hx hb dX9_init_124 rfl (lv_at hl 1 rfl) ?_
  refine z_get (C := RX9) (T := TX9) (N := 11) (ci := 9) (v := .ref qwk) hx hb hT zin_X9 hown hK hw hm_hs hf_hs rfl 7 (by decide) (hT _ kw_484) rfl dX9_init_125 ?_
  refine z_callvI (cells := 109) (slots := 2783) (b := qpl) (As := [.ref qwk]) (rest := [.ref qpl, .ref hs]) ⟨hx, hb, hml, hown, hT⟩ (c_X4_init l hm_qpl hf_qpl) (cwI 1 hT (z_goodI (fun _ h => h) kw_380) rfl rfl rfl (hT _ kw_93) (hT _ kw_378) (hT _ kw_379) rfl (by decide +kernel) ⟨by decide, by decide⟩) z_mv hKK hw hA rfl hl.1 rfl (Nat.le_of_ble_eq_true rfl) dX9_init_128 ⟨by decide, by decide⟩ (fun u H locs hp hw => ?_)
  refine W.widen (k := 128) (n := 3172) (by decide) (by decide) ?_
  obtain ⟨L57, f58⟩ := u
  obtain ⟨hsb, hfm, hp⟩ := hp
  have hw : z_H D vwCl (z_A L sz) s.heap L57 f58 H locs := hw
  have hfr : ∀ b ∈ L, b ≠ hs → f58 b = f b := fun b hb h0 => (hfm b (hsub b hb) (z_ne hb hn_qpl)).trans (hfr b hb h0)
  have hsub : ∀ b ∈ L, b ∈ L57 := fun b h => hsb b (hsub b h)
  have hf_hs : f58 hs = .inr (9, [.ref qtp, .ref qrd, .ref qmo, .ref qdr, .ref qim, .ref qkp, .ref qsl, .ref qwk, .null, .null, .null]) := (hfm hs hm_hs ne_hs_qpl).trans hf_hs
  have hf_qtp : f58 qtp = .inr (7, [.ref qba, .int 0]) := (hfm qtp hm_qtp ne_qtp_qpl).trans hf_qtp
  have hf_qba : f58 qba = .inl (cy 0, 1600, .inl (fun _ => 0)) := (hfm qba hm_qba ne_qba_qpl).trans hf_qba
  have hf_qmo : f58 qmo = .inr (2, [.int 0, .int 0, .int 0, .int 0, .int 0, .int 0, .int 0, .ref qla, .ref qsa, .ref qmi, .ref qda]) := (hfm qmo hm_qmo ne_qmo_qpl).trans hf_qmo
  have hf_qla : f58 qla = .inl (cy 1, 5, .inl (fun _ => 0)) := (hfm qla hm_qla ne_qla_qpl).trans hf_qla
  have hf_qsa : f58 qsa = .inl (cy 1, 4, .inl (fun _ => 0)) := (hfm qsa hm_qsa ne_qsa_qpl).trans hf_qsa
  have hf_qmi : f58 qmi = .inl (cy 1, 36, .inl (fun _ => 0)) := (hfm qmi hm_qmi ne_qmi_qpl).trans hf_qmi
  have hf_qdr : f58 qdr = .inr (2, [.int 0, .int 0, .int 0, .int 0, .int 0, .int 0, .int 0, .ref qxla, .ref qxsa, .ref qxmi, .ref qxda]) := (hfm qdr hm_qdr ne_qdr_qpl).trans hf_qdr
  have hf_qxla : f58 qxla = .inl (cy 1, 5, .inl (fun _ => 0)) := (hfm qxla hm_qxla ne_qxla_qpl).trans hf_qxla
  have hf_qxsa : f58 qxsa = .inl (cy 1, 4, .inl (fun _ => 0)) := (hfm qxsa hm_qxsa ne_qxsa_qpl).trans hf_qxsa
  have hf_qxmi : f58 qxmi = .inl (cy 1, 36, .inl (fun _ => 0)) := (hfm qxmi hm_qxmi ne_qxmi_qpl).trans hf_qxmi
  have hf_qrd : f58 qrd = .inr (5, [.int 0, .int (-1), .ref qtp, .ref qdr, .int 0, .int 0, .int 0, .int 0, .int 0]) := (hfm qrd hm_qrd ne_qrd_qpl).trans hf_qrd
  have hf_qim : f58 qim = .inl (cy 5, 3, .inr (.inr (.inr (.inr g40)))) := (hfm qim hm_qim ne_qim_qpl).trans hf_qim
  have hf_qi0 : f58 qi0 = .inr (2, [.int 0, .int 0, .int 0, .int 0, .int 0, .int 0, .int 0, .ref qla0, .ref qsa0, .ref qmi0, .ref qda0]) := (hfm qi0 hm_qi0 ne_qi0_qpl).trans hf_qi0
  have hf_qla0 : f58 qla0 = .inl (cy 1, 5, .inl (fun _ => 0)) := (hfm qla0 hm_qla0 ne_qla0_qpl).trans hf_qla0
  have hf_qsa0 : f58 qsa0 = .inl (cy 1, 4, .inl (fun _ => 0)) := (hfm qsa0 hm_qsa0 ne_qsa0_qpl).trans hf_qsa0
  have hf_qmi0 : f58 qmi0 = .inl (cy 1, 36, .inl (fun _ => 0)) := (hfm qmi0 hm_qmi0 ne_qmi0_qpl).trans hf_qmi0
  have hf_qi1 : f58 qi1 = .inr (2, [.int 0, .int 0, .int 0, .int 0, .int 0, .int 0, .int 0, .ref qla1, .ref qsa1, .ref qmi1, .ref qda1]) := (hfm qi1 hm_qi1 ne_qi1_qpl).trans hf_qi1
  have hf_qla1 : f58 qla1 = .inl (cy 1, 5, .inl (fun _ => 0)) := (hfm qla1 hm_qla1 ne_qla1_qpl).trans hf_qla1
  have hf_qsa1 : f58 qsa1 = .inl (cy 1, 4, .inl (fun _ => 0)) := (hfm qsa1 hm_qsa1 ne_qsa1_qpl).trans hf_qsa1
  have hf_qmi1 : f58 qmi1 = .inl (cy 1, 36, .inl (fun _ => 0)) := (hfm qmi1 hm_qmi1 ne_qmi1_qpl).trans hf_qmi1
  have hf_qi2 : f58 qi2 = .inr (2, [.int 0, .int 0, .int 0, .int 0, .int 0, .int 0, .int 0, .ref qla2, .ref qsa2, .ref qmi2, .ref qda2]) := (hfm qi2 hm_qi2 ne_qi2_qpl).trans hf_qi2
  have hf_qla2 : f58 qla2 = .inl (cy 1, 5, .inl (fun _ => 0)) := (hfm qla2 hm_qla2 ne_qla2_qpl).trans hf_qla2
  have hf_qsa2 : f58 qsa2 = .inl (cy 1, 4, .inl (fun _ => 0)) := (hfm qsa2 hm_qsa2 ne_qsa2_qpl).trans hf_qsa2
  have hf_qmi2 : f58 qmi2 = .inl (cy 1, 36, .inl (fun _ => 0)) := (hfm qmi2 hm_qmi2 ne_qmi2_qpl).trans hf_qmi2
  have hf_qkp : f58 qkp = .inl (cy 3, 3, .inl (fun _ => 0)) := (hfm qkp hm_qkp ne_qkp_qpl).trans hf_qkp
  have hf_qsl : f58 qsl = .inr (6, [.ref qnu, .ref qwi, .ref qsi]) := (hfm qsl hm_qsl ne_qsl_qpl).trans hf_qsl
  have hf_qnu : f58 qnu = .inl (cy 6, 4, .inr (.inr (.inr (.inr qgn)))) := (hfm qnu hm_qnu ne_qnu_qpl).trans hf_qnu
  have hf_qr0 : f58 qr0 = .inl (cy 2, 60, .inr (.inl (fun _ => 0))) := (hfm qr0 hm_qr0 ne_qr0_qpl).trans hf_qr0
  have hf_qr1 : f58 qr1 = .inl (cy 2, 60, .inr (.inl (fun _ => 0))) := (hfm qr1 hm_qr1 ne_qr1_qpl).trans hf_qr1
  have hf_qr2 : f58 qr2 = .inl (cy 2, 60, .inr (.inl (fun _ => 0))) := (hfm qr2 hm_qr2 ne_qr2_qpl).trans hf_qr2
  have hf_qr3 : f58 qr3 = .inl (cy 2, 60, .inr (.inl (fun _ => 0))) := (hfm qr3 hm_qr3 ne_qr3_qpl).trans hf_qr3
  have hf_qwi : f58 qwi = .inl (cy 1, 4, .inl (fun _ => 0)) := (hfm qwi hm_qwi ne_qwi_qpl).trans hf_qwi
  have hf_qsi : f58 qsi = .inl (cy 1, 4, .inl qgs) := (hfm qsi hm_qsi ne_qsi_qpl).trans hf_qsi
  have hm_hs : hs ∈ L57 := hsb _ hm_hs
  have hm_qtp : qtp ∈ L57 := hsb _ hm_qtp
  have hm_qba : qba ∈ L57 := hsb _ hm_qba
  have hm_qmo : qmo ∈ L57 := hsb _ hm_qmo
  have hm_qla : qla ∈ L57 := hsb _ hm_qla
  have hm_qsa : qsa ∈ L57 := hsb _ hm_qsa
  have hm_qmi : qmi ∈ L57 := hsb _ hm_qmi
  have hm_qdr : qdr ∈ L57 := hsb _ hm_qdr
  have hm_qxla : qxla ∈ L57 := hsb _ hm_qxla
  have hm_qxsa : qxsa ∈ L57 := hsb _ hm_qxsa
  have hm_qxmi : qxmi ∈ L57 := hsb _ hm_qxmi
  have hm_qrd : qrd ∈ L57 := hsb _ hm_qrd
  have hm_qim : qim ∈ L57 := hsb _ hm_qim
  have hm_qi0 : qi0 ∈ L57 := hsb _ hm_qi0
  have hm_qla0 : qla0 ∈ L57 := hsb _ hm_qla0
  have hm_qsa0 : qsa0 ∈ L57 := hsb _ hm_qsa0
  have hm_qmi0 : qmi0 ∈ L57 := hsb _ hm_qmi0
  have hm_qi1 : qi1 ∈ L57 := hsb _ hm_qi1
  have hm_qla1 : qla1 ∈ L57 := hsb _ hm_qla1
  have hm_qsa1 : qsa1 ∈ L57 := hsb _ hm_qsa1
  have hm_qmi1 : qmi1 ∈ L57 := hsb _ hm_qmi1
  have hm_qi2 : qi2 ∈ L57 := hsb _ hm_qi2
  have hm_qla2 : qla2 ∈ L57 := hsb _ hm_qla2
  have hm_qsa2 : qsa2 ∈ L57 := hsb _ hm_qsa2
  have hm_qmi2 : qmi2 ∈ L57 := hsb _ hm_qmi2
  have hm_qkp : qkp ∈ L57 := hsb _ hm_qkp
  have hm_qsl : qsl ∈ L57 := hsb _ hm_qsl
  have hm_qnu : qnu ∈ L57 := hsb _ hm_qnu
  have hm_qr0 : qr0 ∈ L57 := hsb _ hm_qr0
  have hm_qr1 : qr1 ∈ L57 := hsb _ hm_qr1
  have hm_qr2 : qr2 ∈ L57 := hsb _ hm_qr2
  have hm_qr3 : qr3 ∈ L57 := hsb _ hm_qr3
  have hm_qwi : qwi ∈ L57 := hsb _ hm_qwi
  have hm_qsi : qsi ∈ L57 := hsb _ hm_qsi
  have hm_qpl : qpl ∈ L57 := hsb _ hm_qpl
  refine z_putF (C := RX9) (T := TX9) (N := 11) (ci := 9) (v := .ref qpl) (fs' := [.ref qtp, .ref qrd, .ref qmo, .ref qdr, .ref qim, .ref qkp, .ref qsl, .ref qwk, .ref qpl, .null, .null]) hx hb hT zin_X9 tyX9_ok nmX9 hown hK hw hm_hs hf_hs rfl 8 (by decide) (hT _ kw_485) rfl hnm rfl rfl rfl (Nat.le_of_ble_eq_true rfl) rfl dX9_init_131 (fun H locs hw => ?_)
  obtain ⟨f59, e_f59⟩ : ∃ z, z = va_up f58 hs (.inr (9, [.ref qtp, .ref qrd, .ref qmo, .ref qdr, .ref qim, .ref qkp, .ref qsl, .ref qwk, .ref qpl, .null, .null])) := ⟨_, rfl⟩
  rw [← e_f59] at hw
  have hf_qtp : f59 qtp = .inr (7, [.ref qba, .int 0]) := (congrFun e_f59 qtp).trans (z_up_ne (Ne.symm ne_hs_qtp) hf_qtp)
  have hf_qba : f59 qba = .inl (cy 0, 1600, .inl (fun _ => 0)) := (congrFun e_f59 qba).trans (z_up_ne (Ne.symm ne_hs_qba) hf_qba)
  have hf_qmo : f59 qmo = .inr (2, [.int 0, .int 0, .int 0, .int 0, .int 0, .int 0, .int 0, .ref qla, .ref qsa, .ref qmi, .ref qda]) := (congrFun e_f59 qmo).trans (z_up_ne (Ne.symm ne_hs_qmo) hf_qmo)
  have hf_qla : f59 qla = .inl (cy 1, 5, .inl (fun _ => 0)) := (congrFun e_f59 qla).trans (z_up_ne (Ne.symm ne_hs_qla) hf_qla)
  have hf_qsa : f59 qsa = .inl (cy 1, 4, .inl (fun _ => 0)) := (congrFun e_f59 qsa).trans (z_up_ne (Ne.symm ne_hs_qsa) hf_qsa)
  have hf_qmi : f59 qmi = .inl (cy 1, 36, .inl (fun _ => 0)) := (congrFun e_f59 qmi).trans (z_up_ne (Ne.symm ne_hs_qmi) hf_qmi)
  have hf_qdr : f59 qdr = .inr (2, [.int 0, .int 0, .int 0, .int 0, .int 0, .int 0, .int 0, .ref qxla, .ref qxsa, .ref qxmi, .ref qxda]) := (congrFun e_f59 qdr).trans (z_up_ne (Ne.symm ne_hs_qdr) hf_qdr)
  have hf_qxla : f59 qxla = .inl (cy 1, 5, .inl (fun _ => 0)) := (congrFun e_f59 qxla).trans (z_up_ne (Ne.symm ne_hs_qxla) hf_qxla)
  have hf_qxsa : f59 qxsa = .inl (cy 1, 4, .inl (fun _ => 0)) := (congrFun e_f59 qxsa).trans (z_up_ne (Ne.symm ne_hs_qxsa) hf_qxsa)
  have hf_qxmi : f59 qxmi = .inl (cy 1, 36, .inl (fun _ => 0)) := (congrFun e_f59 qxmi).trans (z_up_ne (Ne.symm ne_hs_qxmi) hf_qxmi)
  have hf_qrd : f59 qrd = .inr (5, [.int 0, .int (-1), .ref qtp, .ref qdr, .int 0, .int 0, .int 0, .int 0, .int 0]) := (congrFun e_f59 qrd).trans (z_up_ne (Ne.symm ne_hs_qrd) hf_qrd)
  have hf_qim : f59 qim = .inl (cy 5, 3, .inr (.inr (.inr (.inr g40)))) := (congrFun e_f59 qim).trans (z_up_ne (Ne.symm ne_hs_qim) hf_qim)
  have hf_qi0 : f59 qi0 = .inr (2, [.int 0, .int 0, .int 0, .int 0, .int 0, .int 0, .int 0, .ref qla0, .ref qsa0, .ref qmi0, .ref qda0]) := (congrFun e_f59 qi0).trans (z_up_ne (Ne.symm ne_hs_qi0) hf_qi0)
  have hf_qla0 : f59 qla0 = .inl (cy 1, 5, .inl (fun _ => 0)) := (congrFun e_f59 qla0).trans (z_up_ne (Ne.symm ne_hs_qla0) hf_qla0)
  have hf_qsa0 : f59 qsa0 = .inl (cy 1, 4, .inl (fun _ => 0)) := (congrFun e_f59 qsa0).trans (z_up_ne (Ne.symm ne_hs_qsa0) hf_qsa0)
  have hf_qmi0 : f59 qmi0 = .inl (cy 1, 36, .inl (fun _ => 0)) := (congrFun e_f59 qmi0).trans (z_up_ne (Ne.symm ne_hs_qmi0) hf_qmi0)
  have hf_qi1 : f59 qi1 = .inr (2, [.int 0, .int 0, .int 0, .int 0, .int 0, .int 0, .int 0, .ref qla1, .ref qsa1, .ref qmi1, .ref qda1]) := (congrFun e_f59 qi1).trans (z_up_ne (Ne.symm ne_hs_qi1) hf_qi1)
  have hf_qla1 : f59 qla1 = .inl (cy 1, 5, .inl (fun _ => 0)) := (congrFun e_f59 qla1).trans (z_up_ne (Ne.symm ne_hs_qla1) hf_qla1)
  have hf_qsa1 : f59 qsa1 = .inl (cy 1, 4, .inl (fun _ => 0)) := (congrFun e_f59 qsa1).trans (z_up_ne (Ne.symm ne_hs_qsa1) hf_qsa1)
  have hf_qmi1 : f59 qmi1 = .inl (cy 1, 36, .inl (fun _ => 0)) := (congrFun e_f59 qmi1).trans (z_up_ne (Ne.symm ne_hs_qmi1) hf_qmi1)
  have hf_qi2 : f59 qi2 = .inr (2, [.int 0, .int 0, .int 0, .int 0, .int 0, .int 0, .int 0, .ref qla2, .ref qsa2, .ref qmi2, .ref qda2]) := (congrFun e_f59 qi2).trans (z_up_ne (Ne.symm ne_hs_qi2) hf_qi2)
  have hf_qla2 : f59 qla2 = .inl (cy 1, 5, .inl (fun _ => 0)) := (congrFun e_f59 qla2).trans (z_up_ne (Ne.symm ne_hs_qla2) hf_qla2)
  have hf_qsa2 : f59 qsa2 = .inl (cy 1, 4, .inl (fun _ => 0)) := (congrFun e_f59 qsa2).trans (z_up_ne (Ne.symm ne_hs_qsa2) hf_qsa2)
  have hf_qmi2 : f59 qmi2 = .inl (cy 1, 36, .inl (fun _ => 0)) := (congrFun e_f59 qmi2).trans (z_up_ne (Ne.symm ne_hs_qmi2) hf_qmi2)
  have hf_qkp : f59 qkp = .inl (cy 3, 3, .inl (fun _ => 0)) := (congrFun e_f59 qkp).trans (z_up_ne (Ne.symm ne_hs_qkp) hf_qkp)
  have hf_qsl : f59 qsl = .inr (6, [.ref qnu, .ref qwi, .ref qsi]) := (congrFun e_f59 qsl).trans (z_up_ne (Ne.symm ne_hs_qsl) hf_qsl)
  have hf_qnu : f59 qnu = .inl (cy 6, 4, .inr (.inr (.inr (.inr qgn)))) := (congrFun e_f59 qnu).trans (z_up_ne (Ne.symm ne_hs_qnu) hf_qnu)
  have hf_qr0 : f59 qr0 = .inl (cy 2, 60, .inr (.inl (fun _ => 0))) := (congrFun e_f59 qr0).trans (z_up_ne (Ne.symm ne_hs_qr0) hf_qr0)
  have hf_qr1 : f59 qr1 = .inl (cy 2, 60, .inr (.inl (fun _ => 0))) := (congrFun e_f59 qr1).trans (z_up_ne (Ne.symm ne_hs_qr1) hf_qr1)
  have hf_qr2 : f59 qr2 = .inl (cy 2, 60, .inr (.inl (fun _ => 0))) := (congrFun e_f59 qr2).trans (z_up_ne (Ne.symm ne_hs_qr2) hf_qr2)
  have hf_qr3 : f59 qr3 = .inl (cy 2, 60, .inr (.inl (fun _ => 0))) := (congrFun e_f59 qr3).trans (z_up_ne (Ne.symm ne_hs_qr3) hf_qr3)
  have hf_qwi : f59 qwi = .inl (cy 1, 4, .inl (fun _ => 0)) := (congrFun e_f59 qwi).trans (z_up_ne (Ne.symm ne_hs_qwi) hf_qwi)
  have hf_qsi : f59 qsi = .inl (cy 1, 4, .inl qgs) := (congrFun e_f59 qsi).trans (z_up_ne (Ne.symm ne_hs_qsi) hf_qsi)
  have hf_hs : f59 hs = .inr (9, [.ref qtp, .ref qrd, .ref qmo, .ref qdr, .ref qim, .ref qkp, .ref qsl, .ref qwk, .ref qpl, .null, .null]) := (congrFun e_f59 hs).trans z_up_self
  have hfr : ∀ b ∈ L, b ≠ hs → f59 b = f b := fun b hb h0 => (congrFun e_f59 b).trans (z_up_ne h0 (hfr b hb h0))
  refine lv_aload_n hx hb dX9_init_134 rfl (lv_at hl 1 rfl) ?_
  refine z_new (C := RX3) (T := TX3) (N := 6) (ci := 3) (fs := [.null, .null, .null, .null, .int 0, .int 0]) (cells := 128) (slots := 3172) hx hb hT zin_X3 tyX3_ok hown (hT _ kw_429) (hT _ kw_430) (hT _ kw_94) hK hw hA rfl (fun j hj => by rcases (show j = 0 ∨ j = 1 ∨ j = 2 ∨ j = 3 ∨ j = 4 ∨ j = 5 by omega) with rfl | rfl | rfl | rfl | rfl | rfl <;> rfl) (by decide) (by decide) dX9_init_135 (fun qex H hq_qex hw => ?_)
  refine W.widen (k := 129) (n := 3178) (by decide) (by decide) ?_
  have ne_hs_qex : hs ≠ qex := z_ne hm_hs hq_qex
  have ne_qtp_qex : qtp ≠ qex := z_ne hm_qtp hq_qex
  have ne_qba_qex : qba ≠ qex := z_ne hm_qba hq_qex
  have ne_qmo_qex : qmo ≠ qex := z_ne hm_qmo hq_qex
  have ne_qla_qex : qla ≠ qex := z_ne hm_qla hq_qex
  have ne_qsa_qex : qsa ≠ qex := z_ne hm_qsa hq_qex
  have ne_qmi_qex : qmi ≠ qex := z_ne hm_qmi hq_qex
  have ne_qdr_qex : qdr ≠ qex := z_ne hm_qdr hq_qex
  have ne_qxla_qex : qxla ≠ qex := z_ne hm_qxla hq_qex
  have ne_qxsa_qex : qxsa ≠ qex := z_ne hm_qxsa hq_qex
  have ne_qxmi_qex : qxmi ≠ qex := z_ne hm_qxmi hq_qex
  have ne_qrd_qex : qrd ≠ qex := z_ne hm_qrd hq_qex
  have ne_qim_qex : qim ≠ qex := z_ne hm_qim hq_qex
  have ne_qi0_qex : qi0 ≠ qex := z_ne hm_qi0 hq_qex
  have ne_qla0_qex : qla0 ≠ qex := z_ne hm_qla0 hq_qex
  have ne_qsa0_qex : qsa0 ≠ qex := z_ne hm_qsa0 hq_qex
  have ne_qmi0_qex : qmi0 ≠ qex := z_ne hm_qmi0 hq_qex
  have ne_qi1_qex : qi1 ≠ qex := z_ne hm_qi1 hq_qex
  have ne_qla1_qex : qla1 ≠ qex := z_ne hm_qla1 hq_qex
  have ne_qsa1_qex : qsa1 ≠ qex := z_ne hm_qsa1 hq_qex
  have ne_qmi1_qex : qmi1 ≠ qex := z_ne hm_qmi1 hq_qex
  have ne_qi2_qex : qi2 ≠ qex := z_ne hm_qi2 hq_qex
  have ne_qla2_qex : qla2 ≠ qex := z_ne hm_qla2 hq_qex
  have ne_qsa2_qex : qsa2 ≠ qex := z_ne hm_qsa2 hq_qex
  have ne_qmi2_qex : qmi2 ≠ qex := z_ne hm_qmi2 hq_qex
  have ne_qkp_qex : qkp ≠ qex := z_ne hm_qkp hq_qex
  have ne_qsl_qex : qsl ≠ qex := z_ne hm_qsl hq_qex
  have ne_qnu_qex : qnu ≠ qex := z_ne hm_qnu hq_qex
  have ne_qr0_qex : qr0 ≠ qex := z_ne hm_qr0 hq_qex
  have ne_qr1_qex : qr1 ≠ qex := z_ne hm_qr1 hq_qex
  have ne_qr2_qex : qr2 ≠ qex := z_ne hm_qr2 hq_qex
  have ne_qr3_qex : qr3 ≠ qex := z_ne hm_qr3 hq_qex
  have ne_qwi_qex : qwi ≠ qex := z_ne hm_qwi hq_qex
  have ne_qsi_qex : qsi ≠ qex := z_ne hm_qsi hq_qex
  have hn_qex : qex ∉ L := fun h => hq_qex (hsub _ h)
  obtain ⟨f61, e_f61⟩ : ∃ z, z = va_up f59 qex (.inr (3, [.null, .null, .null, .null, .int 0, .int 0])) := ⟨_, rfl⟩
  obtain ⟨L60, e_L60⟩ : ∃ z, z = L57 ++ [qex] := ⟨_, rfl⟩
  rw [← e_f61, ← e_L60] at hw
  have hm_hs : hs ∈ L60 := by rw [e_L60]; exact List.mem_append_left _ hm_hs
  have hf_hs : f61 hs = .inr (9, [.ref qtp, .ref qrd, .ref qmo, .ref qdr, .ref qim, .ref qkp, .ref qsl, .ref qwk, .ref qpl, .null, .null]) := (congrFun e_f61 hs).trans (z_up_ne ne_hs_qex hf_hs)
  have hm_qtp : qtp ∈ L60 := by rw [e_L60]; exact List.mem_append_left _ hm_qtp
  have hf_qtp : f61 qtp = .inr (7, [.ref qba, .int 0]) := (congrFun e_f61 qtp).trans (z_up_ne ne_qtp_qex hf_qtp)
  have hm_qba : qba ∈ L60 := by rw [e_L60]; exact List.mem_append_left _ hm_qba
  have hf_qba : f61 qba = .inl (cy 0, 1600, .inl (fun _ => 0)) := (congrFun e_f61 qba).trans (z_up_ne ne_qba_qex hf_qba)
  have hm_qmo : qmo ∈ L60 := by rw [e_L60]; exact List.mem_append_left _ hm_qmo
  have hf_qmo : f61 qmo = .inr (2, [.int 0, .int 0, .int 0, .int 0, .int 0, .int 0, .int 0, .ref qla, .ref qsa, .ref qmi, .ref qda]) := (congrFun e_f61 qmo).trans (z_up_ne ne_qmo_qex hf_qmo)
  have hm_qla : qla ∈ L60 := by rw [e_L60]; exact List.mem_append_left _ hm_qla
  have hf_qla : f61 qla = .inl (cy 1, 5, .inl (fun _ => 0)) := (congrFun e_f61 qla).trans (z_up_ne ne_qla_qex hf_qla)
  have hm_qsa : qsa ∈ L60 := by rw [e_L60]; exact List.mem_append_left _ hm_qsa
  have hf_qsa : f61 qsa = .inl (cy 1, 4, .inl (fun _ => 0)) := (congrFun e_f61 qsa).trans (z_up_ne ne_qsa_qex hf_qsa)
  have hm_qmi : qmi ∈ L60 := by rw [e_L60]; exact List.mem_append_left _ hm_qmi
  have hf_qmi : f61 qmi = .inl (cy 1, 36, .inl (fun _ => 0)) := (congrFun e_f61 qmi).trans (z_up_ne ne_qmi_qex hf_qmi)
  have hm_qdr : qdr ∈ L60 := by rw [e_L60]; exact List.mem_append_left _ hm_qdr
  have hf_qdr : f61 qdr = .inr (2, [.int 0, .int 0, .int 0, .int 0, .int 0, .int 0, .int 0, .ref qxla, .ref qxsa, .ref qxmi, .ref qxda]) := (congrFun e_f61 qdr).trans (z_up_ne ne_qdr_qex hf_qdr)
  have hm_qxla : qxla ∈ L60 := by rw [e_L60]; exact List.mem_append_left _ hm_qxla
  have hf_qxla : f61 qxla = .inl (cy 1, 5, .inl (fun _ => 0)) := (congrFun e_f61 qxla).trans (z_up_ne ne_qxla_qex hf_qxla)
  have hm_qxsa : qxsa ∈ L60 := by rw [e_L60]; exact List.mem_append_left _ hm_qxsa
  have hf_qxsa : f61 qxsa = .inl (cy 1, 4, .inl (fun _ => 0)) := (congrFun e_f61 qxsa).trans (z_up_ne ne_qxsa_qex hf_qxsa)
  have hm_qxmi : qxmi ∈ L60 := by rw [e_L60]; exact List.mem_append_left _ hm_qxmi
  have hf_qxmi : f61 qxmi = .inl (cy 1, 36, .inl (fun _ => 0)) := (congrFun e_f61 qxmi).trans (z_up_ne ne_qxmi_qex hf_qxmi)
  have hm_qrd : qrd ∈ L60 := by rw [e_L60]; exact List.mem_append_left _ hm_qrd
  have hf_qrd : f61 qrd = .inr (5, [.int 0, .int (-1), .ref qtp, .ref qdr, .int 0, .int 0, .int 0, .int 0, .int 0]) := (congrFun e_f61 qrd).trans (z_up_ne ne_qrd_qex hf_qrd)
  have hm_qim : qim ∈ L60 := by rw [e_L60]; exact List.mem_append_left _ hm_qim
  have hf_qim : f61 qim = .inl (cy 5, 3, .inr (.inr (.inr (.inr g40)))) := (congrFun e_f61 qim).trans (z_up_ne ne_qim_qex hf_qim)
  have hm_qi0 : qi0 ∈ L60 := by rw [e_L60]; exact List.mem_append_left _ hm_qi0
  have hf_qi0 : f61 qi0 = .inr (2, [.int 0, .int 0, .int 0, .int 0, .int 0, .int 0, .int 0, .ref qla0, .ref qsa0, .ref qmi0, .ref qda0]) := (congrFun e_f61 qi0).trans (z_up_ne ne_qi0_qex hf_qi0)
  have hm_qla0 : qla0 ∈ L60 := by rw [e_L60]; exact List.mem_append_left _ hm_qla0
  have hf_qla0 : f61 qla0 = .inl (cy 1, 5, .inl (fun _ => 0)) := (congrFun e_f61 qla0).trans (z_up_ne ne_qla0_qex hf_qla0)
  have hm_qsa0 : qsa0 ∈ L60 := by rw [e_L60]; exact List.mem_append_left _ hm_qsa0
  have hf_qsa0 : f61 qsa0 = .inl (cy 1, 4, .inl (fun _ => 0)) := (congrFun e_f61 qsa0).trans (z_up_ne ne_qsa0_qex hf_qsa0)
  have hm_qmi0 : qmi0 ∈ L60 := by rw [e_L60]; exact List.mem_append_left _ hm_qmi0
  have hf_qmi0 : f61 qmi0 = .inl (cy 1, 36, .inl (fun _ => 0)) := (congrFun e_f61 qmi0).trans (z_up_ne ne_qmi0_qex hf_qmi0)
  have hm_qi1 : qi1 ∈ L60 := by rw [e_L60]; exact List.mem_append_left _ hm_qi1
  have hf_qi1 : f61 qi1 = .inr (2, [.int 0, .int 0, .int 0, .int 0, .int 0, .int 0, .int 0, .ref qla1, .ref qsa1, .ref qmi1, .ref qda1]) := (congrFun e_f61 qi1).trans (z_up_ne ne_qi1_qex hf_qi1)
  have hm_qla1 : qla1 ∈ L60 := by rw [e_L60]; exact List.mem_append_left _ hm_qla1
  have hf_qla1 : f61 qla1 = .inl (cy 1, 5, .inl (fun _ => 0)) := (congrFun e_f61 qla1).trans (z_up_ne ne_qla1_qex hf_qla1)
  have hm_qsa1 : qsa1 ∈ L60 := by rw [e_L60]; exact List.mem_append_left _ hm_qsa1
  have hf_qsa1 : f61 qsa1 = .inl (cy 1, 4, .inl (fun _ => 0)) := (congrFun e_f61 qsa1).trans (z_up_ne ne_qsa1_qex hf_qsa1)
  have hm_qmi1 : qmi1 ∈ L60 := by rw [e_L60]; exact List.mem_append_left _ hm_qmi1
  have hf_qmi1 : f61 qmi1 = .inl (cy 1, 36, .inl (fun _ => 0)) := (congrFun e_f61 qmi1).trans (z_up_ne ne_qmi1_qex hf_qmi1)
  have hm_qi2 : qi2 ∈ L60 := by rw [e_L60]; exact List.mem_append_left _ hm_qi2
  have hf_qi2 : f61 qi2 = .inr (2, [.int 0, .int 0, .int 0, .int 0, .int 0, .int 0, .int 0, .ref qla2, .ref qsa2, .ref qmi2, .ref qda2]) := (congrFun e_f61 qi2).trans (z_up_ne ne_qi2_qex hf_qi2)
  have hm_qla2 : qla2 ∈ L60 := by rw [e_L60]; exact List.mem_append_left _ hm_qla2
  have hf_qla2 : f61 qla2 = .inl (cy 1, 5, .inl (fun _ => 0)) := (congrFun e_f61 qla2).trans (z_up_ne ne_qla2_qex hf_qla2)
  have hm_qsa2 : qsa2 ∈ L60 := by rw [e_L60]; exact List.mem_append_left _ hm_qsa2
  have hf_qsa2 : f61 qsa2 = .inl (cy 1, 4, .inl (fun _ => 0)) := (congrFun e_f61 qsa2).trans (z_up_ne ne_qsa2_qex hf_qsa2)
  have hm_qmi2 : qmi2 ∈ L60 := by rw [e_L60]; exact List.mem_append_left _ hm_qmi2
  have hf_qmi2 : f61 qmi2 = .inl (cy 1, 36, .inl (fun _ => 0)) := (congrFun e_f61 qmi2).trans (z_up_ne ne_qmi2_qex hf_qmi2)
  have hm_qkp : qkp ∈ L60 := by rw [e_L60]; exact List.mem_append_left _ hm_qkp
  have hf_qkp : f61 qkp = .inl (cy 3, 3, .inl (fun _ => 0)) := (congrFun e_f61 qkp).trans (z_up_ne ne_qkp_qex hf_qkp)
  have hm_qsl : qsl ∈ L60 := by rw [e_L60]; exact List.mem_append_left _ hm_qsl
  have hf_qsl : f61 qsl = .inr (6, [.ref qnu, .ref qwi, .ref qsi]) := (congrFun e_f61 qsl).trans (z_up_ne ne_qsl_qex hf_qsl)
  have hm_qnu : qnu ∈ L60 := by rw [e_L60]; exact List.mem_append_left _ hm_qnu
  have hf_qnu : f61 qnu = .inl (cy 6, 4, .inr (.inr (.inr (.inr qgn)))) := (congrFun e_f61 qnu).trans (z_up_ne ne_qnu_qex hf_qnu)
  have hm_qr0 : qr0 ∈ L60 := by rw [e_L60]; exact List.mem_append_left _ hm_qr0
  have hf_qr0 : f61 qr0 = .inl (cy 2, 60, .inr (.inl (fun _ => 0))) := (congrFun e_f61 qr0).trans (z_up_ne ne_qr0_qex hf_qr0)
  have hm_qr1 : qr1 ∈ L60 := by rw [e_L60]; exact List.mem_append_left _ hm_qr1
  have hf_qr1 : f61 qr1 = .inl (cy 2, 60, .inr (.inl (fun _ => 0))) := (congrFun e_f61 qr1).trans (z_up_ne ne_qr1_qex hf_qr1)
  have hm_qr2 : qr2 ∈ L60 := by rw [e_L60]; exact List.mem_append_left _ hm_qr2
  have hf_qr2 : f61 qr2 = .inl (cy 2, 60, .inr (.inl (fun _ => 0))) := (congrFun e_f61 qr2).trans (z_up_ne ne_qr2_qex hf_qr2)
  have hm_qr3 : qr3 ∈ L60 := by rw [e_L60]; exact List.mem_append_left _ hm_qr3
  have hf_qr3 : f61 qr3 = .inl (cy 2, 60, .inr (.inl (fun _ => 0))) := (congrFun e_f61 qr3).trans (z_up_ne ne_qr3_qex hf_qr3)
  have hm_qwi : qwi ∈ L60 := by rw [e_L60]; exact List.mem_append_left _ hm_qwi
  have hf_qwi : f61 qwi = .inl (cy 1, 4, .inl (fun _ => 0)) := (congrFun e_f61 qwi).trans (z_up_ne ne_qwi_qex hf_qwi)
  have hm_qsi : qsi ∈ L60 := by rw [e_L60]; exact List.mem_append_left _ hm_qsi
  have hf_qsi : f61 qsi = .inl (cy 1, 4, .inl qgs) := (congrFun e_f61 qsi).trans (z_up_ne ne_qsi_qex hf_qsi)
  have hm_qex : qex ∈ L60 := by rw [e_L60]; exact List.mem_append_right _ (List.mem_singleton.mpr rfl)
  have hf_qex : f61 qex = .inr (3, [.null, .null, .null, .null, .int 0, .int 0]) := (congrFun e_f61 qex).trans z_up_self
  have hsub : ∀ b ∈ L, b ∈ L60 := fun b h => by rw [e_L60]; exact List.mem_append_left _ (hsub b h)
  have hfr : ∀ b ∈ L, b ≠ hs → f61 b = f b := fun b hb h0 => (congrFun e_f61 b).trans (z_up_ne (z_ne hb hn_qex) (hfr b hb h0))
  refine lv_dup hx hb dX9_init_138 rfl ?_
  refine lv_aload_n hx hb dX9_init_139 rfl (lv_at hl 1 rfl) ?_
  refine z_get (C := RX9) (T := TX9) (N := 11) (ci := 9) (v := .ref qwk) hx hb hT zin_X9 hown hK hw hm_hs hf_hs rfl 7 (by decide) (hT _ kw_484) rfl dX9_init_140 ?_
  refine z_callvI (cells := 129) (slots := 3178) (b := qex) (As := [.ref qwk]) (rest := [.ref qex, .ref hs]) ⟨hx, hb, hml, hown, hT⟩ (c_X3_init l hm_qex hf_qex) (cwI 1 hT (z_goodI (fun _ h => h) kw_433) rfl rfl rfl (hT _ kw_94) (hT _ kw_431) (hT _ kw_432) rfl (by decide +kernel) ⟨by decide, by decide⟩) z_mv hKK hw hA rfl hl.1 rfl (Nat.le_of_ble_eq_true rfl) dX9_init_143 ⟨by decide, by decide⟩ (fun u H locs hp hw => ?_)
  refine W.widen (k := 132) (n := 3202) (by decide) (by decide) ?_
  obtain ⟨L62, f63⟩ := u
  obtain ⟨hsb, hfm, hp⟩ := hp
  have hw : z_H D vwCl (z_A L sz) s.heap L62 f63 H locs := hw
  have hfr : ∀ b ∈ L, b ≠ hs → f63 b = f b := fun b hb h0 => (hfm b (hsub b hb) (z_ne hb hn_qex)).trans (hfr b hb h0)
  have hsub : ∀ b ∈ L, b ∈ L62 := fun b h => hsb b (hsub b h)
  have hf_hs : f63 hs = .inr (9, [.ref qtp, .ref qrd, .ref qmo, .ref qdr, .ref qim, .ref qkp, .ref qsl, .ref qwk, .ref qpl, .null, .null]) := (hfm hs hm_hs ne_hs_qex).trans hf_hs
  have hf_qtp : f63 qtp = .inr (7, [.ref qba, .int 0]) := (hfm qtp hm_qtp ne_qtp_qex).trans hf_qtp
  have hf_qba : f63 qba = .inl (cy 0, 1600, .inl (fun _ => 0)) := (hfm qba hm_qba ne_qba_qex).trans hf_qba
  have hf_qmo : f63 qmo = .inr (2, [.int 0, .int 0, .int 0, .int 0, .int 0, .int 0, .int 0, .ref qla, .ref qsa, .ref qmi, .ref qda]) := (hfm qmo hm_qmo ne_qmo_qex).trans hf_qmo
  have hf_qla : f63 qla = .inl (cy 1, 5, .inl (fun _ => 0)) := (hfm qla hm_qla ne_qla_qex).trans hf_qla
  have hf_qsa : f63 qsa = .inl (cy 1, 4, .inl (fun _ => 0)) := (hfm qsa hm_qsa ne_qsa_qex).trans hf_qsa
  have hf_qmi : f63 qmi = .inl (cy 1, 36, .inl (fun _ => 0)) := (hfm qmi hm_qmi ne_qmi_qex).trans hf_qmi
  have hf_qdr : f63 qdr = .inr (2, [.int 0, .int 0, .int 0, .int 0, .int 0, .int 0, .int 0, .ref qxla, .ref qxsa, .ref qxmi, .ref qxda]) := (hfm qdr hm_qdr ne_qdr_qex).trans hf_qdr
  have hf_qxla : f63 qxla = .inl (cy 1, 5, .inl (fun _ => 0)) := (hfm qxla hm_qxla ne_qxla_qex).trans hf_qxla
  have hf_qxsa : f63 qxsa = .inl (cy 1, 4, .inl (fun _ => 0)) := (hfm qxsa hm_qxsa ne_qxsa_qex).trans hf_qxsa
  have hf_qxmi : f63 qxmi = .inl (cy 1, 36, .inl (fun _ => 0)) := (hfm qxmi hm_qxmi ne_qxmi_qex).trans hf_qxmi
  have hf_qrd : f63 qrd = .inr (5, [.int 0, .int (-1), .ref qtp, .ref qdr, .int 0, .int 0, .int 0, .int 0, .int 0]) := (hfm qrd hm_qrd ne_qrd_qex).trans hf_qrd
  have hf_qim : f63 qim = .inl (cy 5, 3, .inr (.inr (.inr (.inr g40)))) := (hfm qim hm_qim ne_qim_qex).trans hf_qim
  have hf_qi0 : f63 qi0 = .inr (2, [.int 0, .int 0, .int 0, .int 0, .int 0, .int 0, .int 0, .ref qla0, .ref qsa0, .ref qmi0, .ref qda0]) := (hfm qi0 hm_qi0 ne_qi0_qex).trans hf_qi0
  have hf_qla0 : f63 qla0 = .inl (cy 1, 5, .inl (fun _ => 0)) := (hfm qla0 hm_qla0 ne_qla0_qex).trans hf_qla0
  have hf_qsa0 : f63 qsa0 = .inl (cy 1, 4, .inl (fun _ => 0)) := (hfm qsa0 hm_qsa0 ne_qsa0_qex).trans hf_qsa0
  have hf_qmi0 : f63 qmi0 = .inl (cy 1, 36, .inl (fun _ => 0)) := (hfm qmi0 hm_qmi0 ne_qmi0_qex).trans hf_qmi0
  have hf_qi1 : f63 qi1 = .inr (2, [.int 0, .int 0, .int 0, .int 0, .int 0, .int 0, .int 0, .ref qla1, .ref qsa1, .ref qmi1, .ref qda1]) := (hfm qi1 hm_qi1 ne_qi1_qex).trans hf_qi1
  have hf_qla1 : f63 qla1 = .inl (cy 1, 5, .inl (fun _ => 0)) := (hfm qla1 hm_qla1 ne_qla1_qex).trans hf_qla1
  have hf_qsa1 : f63 qsa1 = .inl (cy 1, 4, .inl (fun _ => 0)) := (hfm qsa1 hm_qsa1 ne_qsa1_qex).trans hf_qsa1
  have hf_qmi1 : f63 qmi1 = .inl (cy 1, 36, .inl (fun _ => 0)) := (hfm qmi1 hm_qmi1 ne_qmi1_qex).trans hf_qmi1
  have hf_qi2 : f63 qi2 = .inr (2, [.int 0, .int 0, .int 0, .int 0, .int 0, .int 0, .int 0, .ref qla2, .ref qsa2, .ref qmi2, .ref qda2]) := (hfm qi2 hm_qi2 ne_qi2_qex).trans hf_qi2
  have hf_qla2 : f63 qla2 = .inl (cy 1, 5, .inl (fun _ => 0)) := (hfm qla2 hm_qla2 ne_qla2_qex).trans hf_qla2
  have hf_qsa2 : f63 qsa2 = .inl (cy 1, 4, .inl (fun _ => 0)) := (hfm qsa2 hm_qsa2 ne_qsa2_qex).trans hf_qsa2
  have hf_qmi2 : f63 qmi2 = .inl (cy 1, 36, .inl (fun _ => 0)) := (hfm qmi2 hm_qmi2 ne_qmi2_qex).trans hf_qmi2
  have hf_qkp : f63 qkp = .inl (cy 3, 3, .inl (fun _ => 0)) := (hfm qkp hm_qkp ne_qkp_qex).trans hf_qkp
  have hf_qsl : f63 qsl = .inr (6, [.ref qnu, .ref qwi, .ref qsi]) := (hfm qsl hm_qsl ne_qsl_qex).trans hf_qsl
  have hf_qnu : f63 qnu = .inl (cy 6, 4, .inr (.inr (.inr (.inr qgn)))) := (hfm qnu hm_qnu ne_qnu_qex).trans hf_qnu
  have hf_qr0 : f63 qr0 = .inl (cy 2, 60, .inr (.inl (fun _ => 0))) := (hfm qr0 hm_qr0 ne_qr0_qex).trans hf_qr0
  have hf_qr1 : f63 qr1 = .inl (cy 2, 60, .inr (.inl (fun _ => 0))) := (hfm qr1 hm_qr1 ne_qr1_qex).trans hf_qr1
  have hf_qr2 : f63 qr2 = .inl (cy 2, 60, .inr (.inl (fun _ => 0))) := (hfm qr2 hm_qr2 ne_qr2_qex).trans hf_qr2
  have hf_qr3 : f63 qr3 = .inl (cy 2, 60, .inr (.inl (fun _ => 0))) := (hfm qr3 hm_qr3 ne_qr3_qex).trans hf_qr3
  have hf_qwi : f63 qwi = .inl (cy 1, 4, .inl (fun _ => 0)) := (hfm qwi hm_qwi ne_qwi_qex).trans hf_qwi
  have hf_qsi : f63 qsi = .inl (cy 1, 4, .inl qgs) := (hfm qsi hm_qsi ne_qsi_qex).trans hf_qsi
  have hm_hs : hs ∈ L62 := hsb _ hm_hs
  have hm_qtp : qtp ∈ L62 := hsb _ hm_qtp
  have hm_qba : qba ∈ L62 := hsb _ hm_qba
  have hm_qmo : qmo ∈ L62 := hsb _ hm_qmo
  have hm_qla : qla ∈ L62 := hsb _ hm_qla
  have hm_qsa : qsa ∈ L62 := hsb _ hm_qsa
  have hm_qmi : qmi ∈ L62 := hsb _ hm_qmi
  have hm_qdr : qdr ∈ L62 := hsb _ hm_qdr
  have hm_qxla : qxla ∈ L62 := hsb _ hm_qxla
  have hm_qxsa : qxsa ∈ L62 := hsb _ hm_qxsa
  have hm_qxmi : qxmi ∈ L62 := hsb _ hm_qxmi
  have hm_qrd : qrd ∈ L62 := hsb _ hm_qrd
  have hm_qim : qim ∈ L62 := hsb _ hm_qim
  have hm_qi0 : qi0 ∈ L62 := hsb _ hm_qi0
  have hm_qla0 : qla0 ∈ L62 := hsb _ hm_qla0
  have hm_qsa0 : qsa0 ∈ L62 := hsb _ hm_qsa0
  have hm_qmi0 : qmi0 ∈ L62 := hsb _ hm_qmi0
  have hm_qi1 : qi1 ∈ L62 := hsb _ hm_qi1
  have hm_qla1 : qla1 ∈ L62 := hsb _ hm_qla1
  have hm_qsa1 : qsa1 ∈ L62 := hsb _ hm_qsa1
  have hm_qmi1 : qmi1 ∈ L62 := hsb _ hm_qmi1
  have hm_qi2 : qi2 ∈ L62 := hsb _ hm_qi2
  have hm_qla2 : qla2 ∈ L62 := hsb _ hm_qla2
  have hm_qsa2 : qsa2 ∈ L62 := hsb _ hm_qsa2
  have hm_qmi2 : qmi2 ∈ L62 := hsb _ hm_qmi2
  have hm_qkp : qkp ∈ L62 := hsb _ hm_qkp
  have hm_qsl : qsl ∈ L62 := hsb _ hm_qsl
  have hm_qnu : qnu ∈ L62 := hsb _ hm_qnu
  have hm_qr0 : qr0 ∈ L62 := hsb _ hm_qr0
  have hm_qr1 : qr1 ∈ L62 := hsb _ hm_qr1
  have hm_qr2 : qr2 ∈ L62 := hsb _ hm_qr2
  have hm_qr3 : qr3 ∈ L62 := hsb _ hm_qr3
  have hm_qwi : qwi ∈ L62 := hsb _ hm_qwi
  have hm_qsi : qsi ∈ L62 := hsb _ hm_qsi
  have hm_qex : qex ∈ L62 := hsb _ hm_qex
  refine z_putF (C := RX9) (T := TX9) (N := 11) (ci := 9) (v := .ref qex) (fs' := [.ref qtp, .ref qrd, .ref qmo, .ref qdr, .ref qim, .ref qkp, .ref qsl, .ref qwk, .ref qpl, .ref qex, .null]) hx hb hT zin_X9 tyX9_ok nmX9 hown hK hw hm_hs hf_hs rfl 9 (by decide) (hT _ kw_486) rfl hnm rfl rfl rfl (Nat.le_of_ble_eq_true rfl) rfl dX9_init_146 (fun H locs hw => ?_)
  obtain ⟨f64, e_f64⟩ : ∃ z, z = va_up f63 hs (.inr (9, [.ref qtp, .ref qrd, .ref qmo, .ref qdr, .ref qim, .ref qkp, .ref qsl, .ref qwk, .ref qpl, .ref qex, .null])) := ⟨_, rfl⟩
  rw [← e_f64] at hw
  have hf_qtp : f64 qtp = .inr (7, [.ref qba, .int 0]) := (congrFun e_f64 qtp).trans (z_up_ne (Ne.symm ne_hs_qtp) hf_qtp)
  have hf_qba : f64 qba = .inl (cy 0, 1600, .inl (fun _ => 0)) := (congrFun e_f64 qba).trans (z_up_ne (Ne.symm ne_hs_qba) hf_qba)
  have hf_qmo : f64 qmo = .inr (2, [.int 0, .int 0, .int 0, .int 0, .int 0, .int 0, .int 0, .ref qla, .ref qsa, .ref qmi, .ref qda]) := (congrFun e_f64 qmo).trans (z_up_ne (Ne.symm ne_hs_qmo) hf_qmo)
  have hf_qla : f64 qla = .inl (cy 1, 5, .inl (fun _ => 0)) := (congrFun e_f64 qla).trans (z_up_ne (Ne.symm ne_hs_qla) hf_qla)
  have hf_qsa : f64 qsa = .inl (cy 1, 4, .inl (fun _ => 0)) := (congrFun e_f64 qsa).trans (z_up_ne (Ne.symm ne_hs_qsa) hf_qsa)
  have hf_qmi : f64 qmi = .inl (cy 1, 36, .inl (fun _ => 0)) := (congrFun e_f64 qmi).trans (z_up_ne (Ne.symm ne_hs_qmi) hf_qmi)
  have hf_qdr : f64 qdr = .inr (2, [.int 0, .int 0, .int 0, .int 0, .int 0, .int 0, .int 0, .ref qxla, .ref qxsa, .ref qxmi, .ref qxda]) := (congrFun e_f64 qdr).trans (z_up_ne (Ne.symm ne_hs_qdr) hf_qdr)
  have hf_qxla : f64 qxla = .inl (cy 1, 5, .inl (fun _ => 0)) := (congrFun e_f64 qxla).trans (z_up_ne (Ne.symm ne_hs_qxla) hf_qxla)
  have hf_qxsa : f64 qxsa = .inl (cy 1, 4, .inl (fun _ => 0)) := (congrFun e_f64 qxsa).trans (z_up_ne (Ne.symm ne_hs_qxsa) hf_qxsa)
  have hf_qxmi : f64 qxmi = .inl (cy 1, 36, .inl (fun _ => 0)) := (congrFun e_f64 qxmi).trans (z_up_ne (Ne.symm ne_hs_qxmi) hf_qxmi)
  have hf_qrd : f64 qrd = .inr (5, [.int 0, .int (-1), .ref qtp, .ref qdr, .int 0, .int 0, .int 0, .int 0, .int 0]) := (congrFun e_f64 qrd).trans (z_up_ne (Ne.symm ne_hs_qrd) hf_qrd)
  have hf_qim : f64 qim = .inl (cy 5, 3, .inr (.inr (.inr (.inr g40)))) := (congrFun e_f64 qim).trans (z_up_ne (Ne.symm ne_hs_qim) hf_qim)
  have hf_qi0 : f64 qi0 = .inr (2, [.int 0, .int 0, .int 0, .int 0, .int 0, .int 0, .int 0, .ref qla0, .ref qsa0, .ref qmi0, .ref qda0]) := (congrFun e_f64 qi0).trans (z_up_ne (Ne.symm ne_hs_qi0) hf_qi0)
  have hf_qla0 : f64 qla0 = .inl (cy 1, 5, .inl (fun _ => 0)) := (congrFun e_f64 qla0).trans (z_up_ne (Ne.symm ne_hs_qla0) hf_qla0)
  have hf_qsa0 : f64 qsa0 = .inl (cy 1, 4, .inl (fun _ => 0)) := (congrFun e_f64 qsa0).trans (z_up_ne (Ne.symm ne_hs_qsa0) hf_qsa0)
  have hf_qmi0 : f64 qmi0 = .inl (cy 1, 36, .inl (fun _ => 0)) := (congrFun e_f64 qmi0).trans (z_up_ne (Ne.symm ne_hs_qmi0) hf_qmi0)
  have hf_qi1 : f64 qi1 = .inr (2, [.int 0, .int 0, .int 0, .int 0, .int 0, .int 0, .int 0, .ref qla1, .ref qsa1, .ref qmi1, .ref qda1]) := (congrFun e_f64 qi1).trans (z_up_ne (Ne.symm ne_hs_qi1) hf_qi1)
  have hf_qla1 : f64 qla1 = .inl (cy 1, 5, .inl (fun _ => 0)) := (congrFun e_f64 qla1).trans (z_up_ne (Ne.symm ne_hs_qla1) hf_qla1)
  have hf_qsa1 : f64 qsa1 = .inl (cy 1, 4, .inl (fun _ => 0)) := (congrFun e_f64 qsa1).trans (z_up_ne (Ne.symm ne_hs_qsa1) hf_qsa1)
  have hf_qmi1 : f64 qmi1 = .inl (cy 1, 36, .inl (fun _ => 0)) := (congrFun e_f64 qmi1).trans (z_up_ne (Ne.symm ne_hs_qmi1) hf_qmi1)
  have hf_qi2 : f64 qi2 = .inr (2, [.int 0, .int 0, .int 0, .int 0, .int 0, .int 0, .int 0, .ref qla2, .ref qsa2, .ref qmi2, .ref qda2]) := (congrFun e_f64 qi2).trans (z_up_ne (Ne.symm ne_hs_qi2) hf_qi2)
  have hf_qla2 : f64 qla2 = .inl (cy 1, 5, .inl (fun _ => 0)) := (congrFun e_f64 qla2).trans (z_up_ne (Ne.symm ne_hs_qla2) hf_qla2)
  have hf_qsa2 : f64 qsa2 = .inl (cy 1, 4, .inl (fun _ => 0)) := (congrFun e_f64 qsa2).trans (z_up_ne (Ne.symm ne_hs_qsa2) hf_qsa2)
  have hf_qmi2 : f64 qmi2 = .inl (cy 1, 36, .inl (fun _ => 0)) := (congrFun e_f64 qmi2).trans (z_up_ne (Ne.symm ne_hs_qmi2) hf_qmi2)
  have hf_qkp : f64 qkp = .inl (cy 3, 3, .inl (fun _ => 0)) := (congrFun e_f64 qkp).trans (z_up_ne (Ne.symm ne_hs_qkp) hf_qkp)
  have hf_qsl : f64 qsl = .inr (6, [.ref qnu, .ref qwi, .ref qsi]) := (congrFun e_f64 qsl).trans (z_up_ne (Ne.symm ne_hs_qsl) hf_qsl)
  have hf_qnu : f64 qnu = .inl (cy 6, 4, .inr (.inr (.inr (.inr qgn)))) := (congrFun e_f64 qnu).trans (z_up_ne (Ne.symm ne_hs_qnu) hf_qnu)
  have hf_qr0 : f64 qr0 = .inl (cy 2, 60, .inr (.inl (fun _ => 0))) := (congrFun e_f64 qr0).trans (z_up_ne (Ne.symm ne_hs_qr0) hf_qr0)
  have hf_qr1 : f64 qr1 = .inl (cy 2, 60, .inr (.inl (fun _ => 0))) := (congrFun e_f64 qr1).trans (z_up_ne (Ne.symm ne_hs_qr1) hf_qr1)
  have hf_qr2 : f64 qr2 = .inl (cy 2, 60, .inr (.inl (fun _ => 0))) := (congrFun e_f64 qr2).trans (z_up_ne (Ne.symm ne_hs_qr2) hf_qr2)
  have hf_qr3 : f64 qr3 = .inl (cy 2, 60, .inr (.inl (fun _ => 0))) := (congrFun e_f64 qr3).trans (z_up_ne (Ne.symm ne_hs_qr3) hf_qr3)
  have hf_qwi : f64 qwi = .inl (cy 1, 4, .inl (fun _ => 0)) := (congrFun e_f64 qwi).trans (z_up_ne (Ne.symm ne_hs_qwi) hf_qwi)
  have hf_qsi : f64 qsi = .inl (cy 1, 4, .inl qgs) := (congrFun e_f64 qsi).trans (z_up_ne (Ne.symm ne_hs_qsi) hf_qsi)
  have hf_hs : f64 hs = .inr (9, [.ref qtp, .ref qrd, .ref qmo, .ref qdr, .ref qim, .ref qkp, .ref qsl, .ref qwk, .ref qpl, .ref qex, .null]) := (congrFun e_f64 hs).trans z_up_self
  have hfr : ∀ b ∈ L, b ≠ hs → f64 b = f b := fun b hb h0 => (congrFun e_f64 b).trans (z_up_ne h0 (hfr b hb h0))
  refine lv_aload_n hx hb dX9_init_149 rfl (lv_at hl 1 rfl) ?_
  refine z_new (C := RX1) (T := TX1) (N := 4) (ci := 1) (fs := [.null, .null, .int 0, .long 0]) (cells := 132) (slots := 3202) hx hb hT zin_X1 tyX1_ok hown (hT _ kw_458) (hT _ kw_459) (hT _ kw_95) hK hw hA rfl (fun j hj => by rcases (show j = 0 ∨ j = 1 ∨ j = 2 ∨ j = 3 by omega) with rfl | rfl | rfl | rfl <;> rfl) (by decide) (by decide) dX9_init_150 (fun qmx H hq_qmx hw => ?_)
  refine W.widen (k := 133) (n := 3206) (by decide) (by decide) ?_
  have ne_hs_qmx : hs ≠ qmx := z_ne hm_hs hq_qmx
  have ne_qtp_qmx : qtp ≠ qmx := z_ne hm_qtp hq_qmx
  have ne_qba_qmx : qba ≠ qmx := z_ne hm_qba hq_qmx
  have ne_qmo_qmx : qmo ≠ qmx := z_ne hm_qmo hq_qmx
  have ne_qla_qmx : qla ≠ qmx := z_ne hm_qla hq_qmx
  have ne_qsa_qmx : qsa ≠ qmx := z_ne hm_qsa hq_qmx
  have ne_qmi_qmx : qmi ≠ qmx := z_ne hm_qmi hq_qmx
  have ne_qdr_qmx : qdr ≠ qmx := z_ne hm_qdr hq_qmx
  have ne_qxla_qmx : qxla ≠ qmx := z_ne hm_qxla hq_qmx
  have ne_qxsa_qmx : qxsa ≠ qmx := z_ne hm_qxsa hq_qmx
  have ne_qxmi_qmx : qxmi ≠ qmx := z_ne hm_qxmi hq_qmx
  have ne_qrd_qmx : qrd ≠ qmx := z_ne hm_qrd hq_qmx
  have ne_qim_qmx : qim ≠ qmx := z_ne hm_qim hq_qmx
  have ne_qi0_qmx : qi0 ≠ qmx := z_ne hm_qi0 hq_qmx
  have ne_qla0_qmx : qla0 ≠ qmx := z_ne hm_qla0 hq_qmx
  have ne_qsa0_qmx : qsa0 ≠ qmx := z_ne hm_qsa0 hq_qmx
  have ne_qmi0_qmx : qmi0 ≠ qmx := z_ne hm_qmi0 hq_qmx
  have ne_qi1_qmx : qi1 ≠ qmx := z_ne hm_qi1 hq_qmx
  have ne_qla1_qmx : qla1 ≠ qmx := z_ne hm_qla1 hq_qmx
  have ne_qsa1_qmx : qsa1 ≠ qmx := z_ne hm_qsa1 hq_qmx
  have ne_qmi1_qmx : qmi1 ≠ qmx := z_ne hm_qmi1 hq_qmx
  have ne_qi2_qmx : qi2 ≠ qmx := z_ne hm_qi2 hq_qmx
  have ne_qla2_qmx : qla2 ≠ qmx := z_ne hm_qla2 hq_qmx
  have ne_qsa2_qmx : qsa2 ≠ qmx := z_ne hm_qsa2 hq_qmx
  have ne_qmi2_qmx : qmi2 ≠ qmx := z_ne hm_qmi2 hq_qmx
  have ne_qkp_qmx : qkp ≠ qmx := z_ne hm_qkp hq_qmx
  have ne_qsl_qmx : qsl ≠ qmx := z_ne hm_qsl hq_qmx
  have ne_qnu_qmx : qnu ≠ qmx := z_ne hm_qnu hq_qmx
  have ne_qr0_qmx : qr0 ≠ qmx := z_ne hm_qr0 hq_qmx
  have ne_qr1_qmx : qr1 ≠ qmx := z_ne hm_qr1 hq_qmx
  have ne_qr2_qmx : qr2 ≠ qmx := z_ne hm_qr2 hq_qmx
  have ne_qr3_qmx : qr3 ≠ qmx := z_ne hm_qr3 hq_qmx
  have ne_qwi_qmx : qwi ≠ qmx := z_ne hm_qwi hq_qmx
  have ne_qsi_qmx : qsi ≠ qmx := z_ne hm_qsi hq_qmx
  have hn_qmx : qmx ∉ L := fun h => hq_qmx (hsub _ h)
  obtain ⟨f66, e_f66⟩ : ∃ z, z = va_up f64 qmx (.inr (1, [.null, .null, .int 0, .long 0])) := ⟨_, rfl⟩
  obtain ⟨L65, e_L65⟩ : ∃ z, z = L62 ++ [qmx] := ⟨_, rfl⟩
  rw [← e_f66, ← e_L65] at hw
  have hm_hs : hs ∈ L65 := by rw [e_L65]; exact List.mem_append_left _ hm_hs
  have hf_hs : f66 hs = .inr (9, [.ref qtp, .ref qrd, .ref qmo, .ref qdr, .ref qim, .ref qkp, .ref qsl, .ref qwk, .ref qpl, .ref qex, .null]) := (congrFun e_f66 hs).trans (z_up_ne ne_hs_qmx hf_hs)
  have hm_qtp : qtp ∈ L65 := by rw [e_L65]; exact List.mem_append_left _ hm_qtp
  have hf_qtp : f66 qtp = .inr (7, [.ref qba, .int 0]) := (congrFun e_f66 qtp).trans (z_up_ne ne_qtp_qmx hf_qtp)
  have hm_qba : qba ∈ L65 := by rw [e_L65]; exact List.mem_append_left _ hm_qba
  have hf_qba : f66 qba = .inl (cy 0, 1600, .inl (fun _ => 0)) := (congrFun e_f66 qba).trans (z_up_ne ne_qba_qmx hf_qba)
  have hm_qmo : qmo ∈ L65 := by rw [e_L65]; exact List.mem_append_left _ hm_qmo
  have hf_qmo : f66 qmo = .inr (2, [.int 0, .int 0, .int 0, .int 0, .int 0, .int 0, .int 0, .ref qla, .ref qsa, .ref qmi, .ref qda]) := (congrFun e_f66 qmo).trans (z_up_ne ne_qmo_qmx hf_qmo)
  have hm_qla : qla ∈ L65 := by rw [e_L65]; exact List.mem_append_left _ hm_qla
  have hf_qla : f66 qla = .inl (cy 1, 5, .inl (fun _ => 0)) := (congrFun e_f66 qla).trans (z_up_ne ne_qla_qmx hf_qla)
  have hm_qsa : qsa ∈ L65 := by rw [e_L65]; exact List.mem_append_left _ hm_qsa
  have hf_qsa : f66 qsa = .inl (cy 1, 4, .inl (fun _ => 0)) := (congrFun e_f66 qsa).trans (z_up_ne ne_qsa_qmx hf_qsa)
  have hm_qmi : qmi ∈ L65 := by rw [e_L65]; exact List.mem_append_left _ hm_qmi
  have hf_qmi : f66 qmi = .inl (cy 1, 36, .inl (fun _ => 0)) := (congrFun e_f66 qmi).trans (z_up_ne ne_qmi_qmx hf_qmi)
  have hm_qdr : qdr ∈ L65 := by rw [e_L65]; exact List.mem_append_left _ hm_qdr
  have hf_qdr : f66 qdr = .inr (2, [.int 0, .int 0, .int 0, .int 0, .int 0, .int 0, .int 0, .ref qxla, .ref qxsa, .ref qxmi, .ref qxda]) := (congrFun e_f66 qdr).trans (z_up_ne ne_qdr_qmx hf_qdr)
  have hm_qxla : qxla ∈ L65 := by rw [e_L65]; exact List.mem_append_left _ hm_qxla
  have hf_qxla : f66 qxla = .inl (cy 1, 5, .inl (fun _ => 0)) := (congrFun e_f66 qxla).trans (z_up_ne ne_qxla_qmx hf_qxla)
  have hm_qxsa : qxsa ∈ L65 := by rw [e_L65]; exact List.mem_append_left _ hm_qxsa
  have hf_qxsa : f66 qxsa = .inl (cy 1, 4, .inl (fun _ => 0)) := (congrFun e_f66 qxsa).trans (z_up_ne ne_qxsa_qmx hf_qxsa)
  have hm_qxmi : qxmi ∈ L65 := by rw [e_L65]; exact List.mem_append_left _ hm_qxmi
  have hf_qxmi : f66 qxmi = .inl (cy 1, 36, .inl (fun _ => 0)) := (congrFun e_f66 qxmi).trans (z_up_ne ne_qxmi_qmx hf_qxmi)
  have hm_qrd : qrd ∈ L65 := by rw [e_L65]; exact List.mem_append_left _ hm_qrd
  have hf_qrd : f66 qrd = .inr (5, [.int 0, .int (-1), .ref qtp, .ref qdr, .int 0, .int 0, .int 0, .int 0, .int 0]) := (congrFun e_f66 qrd).trans (z_up_ne ne_qrd_qmx hf_qrd)
  have hm_qim : qim ∈ L65 := by rw [e_L65]; exact List.mem_append_left _ hm_qim
  have hf_qim : f66 qim = .inl (cy 5, 3, .inr (.inr (.inr (.inr g40)))) := (congrFun e_f66 qim).trans (z_up_ne ne_qim_qmx hf_qim)
  have hm_qi0 : qi0 ∈ L65 := by rw [e_L65]; exact List.mem_append_left _ hm_qi0
  have hf_qi0 : f66 qi0 = .inr (2, [.int 0, .int 0, .int 0, .int 0, .int 0, .int 0, .int 0, .ref qla0, .ref qsa0, .ref qmi0, .ref qda0]) := (congrFun e_f66 qi0).trans (z_up_ne ne_qi0_qmx hf_qi0)
  have hm_qla0 : qla0 ∈ L65 := by rw [e_L65]; exact List.mem_append_left _ hm_qla0
  have hf_qla0 : f66 qla0 = .inl (cy 1, 5, .inl (fun _ => 0)) := (congrFun e_f66 qla0).trans (z_up_ne ne_qla0_qmx hf_qla0)
  have hm_qsa0 : qsa0 ∈ L65 := by rw [e_L65]; exact List.mem_append_left _ hm_qsa0
  have hf_qsa0 : f66 qsa0 = .inl (cy 1, 4, .inl (fun _ => 0)) := (congrFun e_f66 qsa0).trans (z_up_ne ne_qsa0_qmx hf_qsa0)
  have hm_qmi0 : qmi0 ∈ L65 := by rw [e_L65]; exact List.mem_append_left _ hm_qmi0
  have hf_qmi0 : f66 qmi0 = .inl (cy 1, 36, .inl (fun _ => 0)) := (congrFun e_f66 qmi0).trans (z_up_ne ne_qmi0_qmx hf_qmi0)
  have hm_qi1 : qi1 ∈ L65 := by rw [e_L65]; exact List.mem_append_left _ hm_qi1
  have hf_qi1 : f66 qi1 = .inr (2, [.int 0, .int 0, .int 0, .int 0, .int 0, .int 0, .int 0, .ref qla1, .ref qsa1, .ref qmi1, .ref qda1]) := (congrFun e_f66 qi1).trans (z_up_ne ne_qi1_qmx hf_qi1)
  have hm_qla1 : qla1 ∈ L65 := by rw [e_L65]; exact List.mem_append_left _ hm_qla1
  have hf_qla1 : f66 qla1 = .inl (cy 1, 5, .inl (fun _ => 0)) := (congrFun e_f66 qla1).trans (z_up_ne ne_qla1_qmx hf_qla1)
  have hm_qsa1 : qsa1 ∈ L65 := by rw [e_L65]; exact List.mem_append_left _ hm_qsa1
  have hf_qsa1 : f66 qsa1 = .inl (cy 1, 4, .inl (fun _ => 0)) := (congrFun e_f66 qsa1).trans (z_up_ne ne_qsa1_qmx hf_qsa1)
  have hm_qmi1 : qmi1 ∈ L65 := by rw [e_L65]; exact List.mem_append_left _ hm_qmi1
  have hf_qmi1 : f66 qmi1 = .inl (cy 1, 36, .inl (fun _ => 0)) := (congrFun e_f66 qmi1).trans (z_up_ne ne_qmi1_qmx hf_qmi1)
  have hm_qi2 : qi2 ∈ L65 := by rw [e_L65]; exact List.mem_append_left _ hm_qi2
  have hf_qi2 : f66 qi2 = .inr (2, [.int 0, .int 0, .int 0, .int 0, .int 0, .int 0, .int 0, .ref qla2, .ref qsa2, .ref qmi2, .ref qda2]) := (congrFun e_f66 qi2).trans (z_up_ne ne_qi2_qmx hf_qi2)
  have hm_qla2 : qla2 ∈ L65 := by rw [e_L65]; exact List.mem_append_left _ hm_qla2
  have hf_qla2 : f66 qla2 = .inl (cy 1, 5, .inl (fun _ => 0)) := (congrFun e_f66 qla2).trans (z_up_ne ne_qla2_qmx hf_qla2)
  have hm_qsa2 : qsa2 ∈ L65 := by rw [e_L65]; exact List.mem_append_left _ hm_qsa2
  have hf_qsa2 : f66 qsa2 = .inl (cy 1, 4, .inl (fun _ => 0)) := (congrFun e_f66 qsa2).trans (z_up_ne ne_qsa2_qmx hf_qsa2)
  have hm_qmi2 : qmi2 ∈ L65 := by rw [e_L65]; exact List.mem_append_left _ hm_qmi2
  have hf_qmi2 : f66 qmi2 = .inl (cy 1, 36, .inl (fun _ => 0)) := (congrFun e_f66 qmi2).trans (z_up_ne ne_qmi2_qmx hf_qmi2)
  have hm_qkp : qkp ∈ L65 := by rw [e_L65]; exact List.mem_append_left _ hm_qkp
  have hf_qkp : f66 qkp = .inl (cy 3, 3, .inl (fun _ => 0)) := (congrFun e_f66 qkp).trans (z_up_ne ne_qkp_qmx hf_qkp)
  have hm_qsl : qsl ∈ L65 := by rw [e_L65]; exact List.mem_append_left _ hm_qsl
  have hf_qsl : f66 qsl = .inr (6, [.ref qnu, .ref qwi, .ref qsi]) := (congrFun e_f66 qsl).trans (z_up_ne ne_qsl_qmx hf_qsl)
  have hm_qnu : qnu ∈ L65 := by rw [e_L65]; exact List.mem_append_left _ hm_qnu
  have hf_qnu : f66 qnu = .inl (cy 6, 4, .inr (.inr (.inr (.inr qgn)))) := (congrFun e_f66 qnu).trans (z_up_ne ne_qnu_qmx hf_qnu)
  have hm_qr0 : qr0 ∈ L65 := by rw [e_L65]; exact List.mem_append_left _ hm_qr0
  have hf_qr0 : f66 qr0 = .inl (cy 2, 60, .inr (.inl (fun _ => 0))) := (congrFun e_f66 qr0).trans (z_up_ne ne_qr0_qmx hf_qr0)
  have hm_qr1 : qr1 ∈ L65 := by rw [e_L65]; exact List.mem_append_left _ hm_qr1
  have hf_qr1 : f66 qr1 = .inl (cy 2, 60, .inr (.inl (fun _ => 0))) := (congrFun e_f66 qr1).trans (z_up_ne ne_qr1_qmx hf_qr1)
  have hm_qr2 : qr2 ∈ L65 := by rw [e_L65]; exact List.mem_append_left _ hm_qr2
  have hf_qr2 : f66 qr2 = .inl (cy 2, 60, .inr (.inl (fun _ => 0))) := (congrFun e_f66 qr2).trans (z_up_ne ne_qr2_qmx hf_qr2)
  have hm_qr3 : qr3 ∈ L65 := by rw [e_L65]; exact List.mem_append_left _ hm_qr3
  have hf_qr3 : f66 qr3 = .inl (cy 2, 60, .inr (.inl (fun _ => 0))) := (congrFun e_f66 qr3).trans (z_up_ne ne_qr3_qmx hf_qr3)
  have hm_qwi : qwi ∈ L65 := by rw [e_L65]; exact List.mem_append_left _ hm_qwi
  have hf_qwi : f66 qwi = .inl (cy 1, 4, .inl (fun _ => 0)) := (congrFun e_f66 qwi).trans (z_up_ne ne_qwi_qmx hf_qwi)
  have hm_qsi : qsi ∈ L65 := by rw [e_L65]; exact List.mem_append_left _ hm_qsi
  have hf_qsi : f66 qsi = .inl (cy 1, 4, .inl qgs) := (congrFun e_f66 qsi).trans (z_up_ne ne_qsi_qmx hf_qsi)
  have hm_qmx : qmx ∈ L65 := by rw [e_L65]; exact List.mem_append_right _ (List.mem_singleton.mpr rfl)
  have hf_qmx : f66 qmx = .inr (1, [.null, .null, .int 0, .long 0]) := (congrFun e_f66 qmx).trans z_up_self
  have hsub : ∀ b ∈ L, b ∈ L65 := fun b h => by rw [e_L65]; exact List.mem_append_left _ (hsub b h)
  have hfr : ∀ b ∈ L, b ≠ hs → f66 b = f b := fun b hb h0 => (congrFun e_f66 b).trans (z_up_ne (z_ne hb hn_qmx) (hfr b hb h0))
  refine lv_dup hx hb dX9_init_153 rfl ?_
  refine lv_aload_n hx hb dX9_init_154 rfl (lv_at hl 1 rfl) ?_
  refine z_get (C := RX9) (T := TX9) (N := 11) (ci := 9) (v := .ref qwk) hx hb hT zin_X9 hown hK hw hm_hs hf_hs rfl 7 (by decide) (hT _ kw_484) rfl dX9_init_155 ?_
  refine z_callvI (cells := 133) (slots := 3206) (b := qmx) (As := [.ref qwk]) (rest := [.ref qmx, .ref hs]) ⟨hx, hb, hml, hown, hT⟩ (c_X1_init l hm_qmx hf_qmx) (cwI 1 hT (z_goodI (fun _ h => h) kw_462) rfl rfl rfl (hT _ kw_95) (hT _ kw_460) (hT _ kw_461) rfl (by decide +kernel) ⟨by decide, by decide⟩) z_mv hKK hw hA rfl hl.1 rfl (Nat.le_of_ble_eq_true rfl) dX9_init_158 ⟨by decide, by decide⟩ (fun u H locs hp hw => ?_)
  refine W.widen (k := 134) (n := 5582) (by decide) (by decide) ?_
  obtain ⟨L67, f68⟩ := u
  obtain ⟨hsb, hfm, hp⟩ := hp
  have hw : z_H D vwCl (z_A L sz) s.heap L67 f68 H locs := hw
  have hfr : ∀ b ∈ L, b ≠ hs → f68 b = f b := fun b hb h0 => (hfm b (hsub b hb) (z_ne hb hn_qmx)).trans (hfr b hb h0)
  have hsub : ∀ b ∈ L, b ∈ L67 := fun b h => hsb b (hsub b h)
  have hf_hs : f68 hs = .inr (9, [.ref qtp, .ref qrd, .ref qmo, .ref qdr, .ref qim, .ref qkp, .ref qsl, .ref qwk, .ref qpl, .ref qex, .null]) := (hfm hs hm_hs ne_hs_qmx).trans hf_hs
  have hf_qtp : f68 qtp = .inr (7, [.ref qba, .int 0]) := (hfm qtp hm_qtp ne_qtp_qmx).trans hf_qtp
  have hf_qba : f68 qba = .inl (cy 0, 1600, .inl (fun _ => 0)) := (hfm qba hm_qba ne_qba_qmx).trans hf_qba
  have hf_qmo : f68 qmo = .inr (2, [.int 0, .int 0, .int 0, .int 0, .int 0, .int 0, .int 0, .ref qla, .ref qsa, .ref qmi, .ref qda]) := (hfm qmo hm_qmo ne_qmo_qmx).trans hf_qmo
  have hf_qla : f68 qla = .inl (cy 1, 5, .inl (fun _ => 0)) := (hfm qla hm_qla ne_qla_qmx).trans hf_qla
  have hf_qsa : f68 qsa = .inl (cy 1, 4, .inl (fun _ => 0)) := (hfm qsa hm_qsa ne_qsa_qmx).trans hf_qsa
  have hf_qmi : f68 qmi = .inl (cy 1, 36, .inl (fun _ => 0)) := (hfm qmi hm_qmi ne_qmi_qmx).trans hf_qmi
  have hf_qdr : f68 qdr = .inr (2, [.int 0, .int 0, .int 0, .int 0, .int 0, .int 0, .int 0, .ref qxla, .ref qxsa, .ref qxmi, .ref qxda]) := (hfm qdr hm_qdr ne_qdr_qmx).trans hf_qdr
  have hf_qxla : f68 qxla = .inl (cy 1, 5, .inl (fun _ => 0)) := (hfm qxla hm_qxla ne_qxla_qmx).trans hf_qxla
  have hf_qxsa : f68 qxsa = .inl (cy 1, 4, .inl (fun _ => 0)) := (hfm qxsa hm_qxsa ne_qxsa_qmx).trans hf_qxsa
  have hf_qxmi : f68 qxmi = .inl (cy 1, 36, .inl (fun _ => 0)) := (hfm qxmi hm_qxmi ne_qxmi_qmx).trans hf_qxmi
  have hf_qrd : f68 qrd = .inr (5, [.int 0, .int (-1), .ref qtp, .ref qdr, .int 0, .int 0, .int 0, .int 0, .int 0]) := (hfm qrd hm_qrd ne_qrd_qmx).trans hf_qrd
  have hf_qim : f68 qim = .inl (cy 5, 3, .inr (.inr (.inr (.inr g40)))) := (hfm qim hm_qim ne_qim_qmx).trans hf_qim
  have hf_qi0 : f68 qi0 = .inr (2, [.int 0, .int 0, .int 0, .int 0, .int 0, .int 0, .int 0, .ref qla0, .ref qsa0, .ref qmi0, .ref qda0]) := (hfm qi0 hm_qi0 ne_qi0_qmx).trans hf_qi0
  have hf_qla0 : f68 qla0 = .inl (cy 1, 5, .inl (fun _ => 0)) := (hfm qla0 hm_qla0 ne_qla0_qmx).trans hf_qla0
  have hf_qsa0 : f68 qsa0 = .inl (cy 1, 4, .inl (fun _ => 0)) := (hfm qsa0 hm_qsa0 ne_qsa0_qmx).trans hf_qsa0
  have hf_qmi0 : f68 qmi0 = .inl (cy 1, 36, .inl (fun _ => 0)) := (hfm qmi0 hm_qmi0 ne_qmi0_qmx).trans hf_qmi0
  have hf_qi1 : f68 qi1 = .inr (2, [.int 0, .int 0, .int 0, .int 0, .int 0, .int 0, .int 0, .ref qla1, .ref qsa1, .ref qmi1, .ref qda1]) := (hfm qi1 hm_qi1 ne_qi1_qmx).trans hf_qi1
  have hf_qla1 : f68 qla1 = .inl (cy 1, 5, .inl (fun _ => 0)) := (hfm qla1 hm_qla1 ne_qla1_qmx).trans hf_qla1
  have hf_qsa1 : f68 qsa1 = .inl (cy 1, 4, .inl (fun _ => 0)) := (hfm qsa1 hm_qsa1 ne_qsa1_qmx).trans hf_qsa1
  have hf_qmi1 : f68 qmi1 = .inl (cy 1, 36, .inl (fun _ => 0)) := (hfm qmi1 hm_qmi1 ne_qmi1_qmx).trans hf_qmi1
  have hf_qi2 : f68 qi2 = .inr (2, [.int 0, .int 0, .int 0, .int 0, .int 0, .int 0, .int 0, .ref qla2, .ref qsa2, .ref qmi2, .ref qda2]) := (hfm qi2 hm_qi2 ne_qi2_qmx).trans hf_qi2
  have hf_qla2 : f68 qla2 = .inl (cy 1, 5, .inl (fun _ => 0)) := (hfm qla2 hm_qla2 ne_qla2_qmx).trans hf_qla2
  have hf_qsa2 : f68 qsa2 = .inl (cy 1, 4, .inl (fun _ => 0)) := (hfm qsa2 hm_qsa2 ne_qsa2_qmx).trans hf_qsa2
  have hf_qmi2 : f68 qmi2 = .inl (cy 1, 36, .inl (fun _ => 0)) := (hfm qmi2 hm_qmi2 ne_qmi2_qmx).trans hf_qmi2
  have hf_qkp : f68 qkp = .inl (cy 3, 3, .inl (fun _ => 0)) := (hfm qkp hm_qkp ne_qkp_qmx).trans hf_qkp
  have hf_qsl : f68 qsl = .inr (6, [.ref qnu, .ref qwi, .ref qsi]) := (hfm qsl hm_qsl ne_qsl_qmx).trans hf_qsl
  have hf_qnu : f68 qnu = .inl (cy 6, 4, .inr (.inr (.inr (.inr qgn)))) := (hfm qnu hm_qnu ne_qnu_qmx).trans hf_qnu
  have hf_qr0 : f68 qr0 = .inl (cy 2, 60, .inr (.inl (fun _ => 0))) := (hfm qr0 hm_qr0 ne_qr0_qmx).trans hf_qr0
  have hf_qr1 : f68 qr1 = .inl (cy 2, 60, .inr (.inl (fun _ => 0))) := (hfm qr1 hm_qr1 ne_qr1_qmx).trans hf_qr1
  have hf_qr2 : f68 qr2 = .inl (cy 2, 60, .inr (.inl (fun _ => 0))) := (hfm qr2 hm_qr2 ne_qr2_qmx).trans hf_qr2
  have hf_qr3 : f68 qr3 = .inl (cy 2, 60, .inr (.inl (fun _ => 0))) := (hfm qr3 hm_qr3 ne_qr3_qmx).trans hf_qr3
  have hf_qwi : f68 qwi = .inl (cy 1, 4, .inl (fun _ => 0)) := (hfm qwi hm_qwi ne_qwi_qmx).trans hf_qwi
  have hf_qsi : f68 qsi = .inl (cy 1, 4, .inl qgs) := (hfm qsi hm_qsi ne_qsi_qmx).trans hf_qsi
  have hm_hs : hs ∈ L67 := hsb _ hm_hs
  have hm_qtp : qtp ∈ L67 := hsb _ hm_qtp
  have hm_qba : qba ∈ L67 := hsb _ hm_qba
  have hm_qmo : qmo ∈ L67 := hsb _ hm_qmo
  have hm_qla : qla ∈ L67 := hsb _ hm_qla
  have hm_qsa : qsa ∈ L67 := hsb _ hm_qsa
  have hm_qmi : qmi ∈ L67 := hsb _ hm_qmi
  have hm_qdr : qdr ∈ L67 := hsb _ hm_qdr
  have hm_qxla : qxla ∈ L67 := hsb _ hm_qxla
  have hm_qxsa : qxsa ∈ L67 := hsb _ hm_qxsa
  have hm_qxmi : qxmi ∈ L67 := hsb _ hm_qxmi
  have hm_qrd : qrd ∈ L67 := hsb _ hm_qrd
  have hm_qim : qim ∈ L67 := hsb _ hm_qim
  have hm_qi0 : qi0 ∈ L67 := hsb _ hm_qi0
  have hm_qla0 : qla0 ∈ L67 := hsb _ hm_qla0
  have hm_qsa0 : qsa0 ∈ L67 := hsb _ hm_qsa0
  have hm_qmi0 : qmi0 ∈ L67 := hsb _ hm_qmi0
  have hm_qi1 : qi1 ∈ L67 := hsb _ hm_qi1
  have hm_qla1 : qla1 ∈ L67 := hsb _ hm_qla1
  have hm_qsa1 : qsa1 ∈ L67 := hsb _ hm_qsa1
  have hm_qmi1 : qmi1 ∈ L67 := hsb _ hm_qmi1
  have hm_qi2 : qi2 ∈ L67 := hsb _ hm_qi2
  have hm_qla2 : qla2 ∈ L67 := hsb _ hm_qla2
  have hm_qsa2 : qsa2 ∈ L67 := hsb _ hm_qsa2
  have hm_qmi2 : qmi2 ∈ L67 := hsb _ hm_qmi2
  have hm_qkp : qkp ∈ L67 := hsb _ hm_qkp
  have hm_qsl : qsl ∈ L67 := hsb _ hm_qsl
  have hm_qnu : qnu ∈ L67 := hsb _ hm_qnu
  have hm_qr0 : qr0 ∈ L67 := hsb _ hm_qr0
  have hm_qr1 : qr1 ∈ L67 := hsb _ hm_qr1
  have hm_qr2 : qr2 ∈ L67 := hsb _ hm_qr2
  have hm_qr3 : qr3 ∈ L67 := hsb _ hm_qr3
  have hm_qwi : qwi ∈ L67 := hsb _ hm_qwi
  have hm_qsi : qsi ∈ L67 := hsb _ hm_qsi
  have hm_qmx : qmx ∈ L67 := hsb _ hm_qmx
  refine z_putF (C := RX9) (T := TX9) (N := 11) (ci := 9) (v := .ref qmx) (fs' := [.ref qtp, .ref qrd, .ref qmo, .ref qdr, .ref qim, .ref qkp, .ref qsl, .ref qwk, .ref qpl, .ref qex, .ref qmx]) hx hb hT zin_X9 tyX9_ok nmX9 hown hK hw hm_hs hf_hs rfl 10 (by decide) (hT _ kw_487) rfl hnm rfl rfl rfl (Nat.le_of_ble_eq_true rfl) rfl dX9_init_161 (fun H locs hw => ?_)
  obtain ⟨f69, e_f69⟩ : ∃ z, z = va_up f68 hs (.inr (9, [.ref qtp, .ref qrd, .ref qmo, .ref qdr, .ref qim, .ref qkp, .ref qsl, .ref qwk, .ref qpl, .ref qex, .ref qmx])) := ⟨_, rfl⟩
  rw [← e_f69] at hw
  have hf_qtp : f69 qtp = .inr (7, [.ref qba, .int 0]) := (congrFun e_f69 qtp).trans (z_up_ne (Ne.symm ne_hs_qtp) hf_qtp)
  have hf_qba : f69 qba = .inl (cy 0, 1600, .inl (fun _ => 0)) := (congrFun e_f69 qba).trans (z_up_ne (Ne.symm ne_hs_qba) hf_qba)
  have hf_qmo : f69 qmo = .inr (2, [.int 0, .int 0, .int 0, .int 0, .int 0, .int 0, .int 0, .ref qla, .ref qsa, .ref qmi, .ref qda]) := (congrFun e_f69 qmo).trans (z_up_ne (Ne.symm ne_hs_qmo) hf_qmo)
  have hf_qla : f69 qla = .inl (cy 1, 5, .inl (fun _ => 0)) := (congrFun e_f69 qla).trans (z_up_ne (Ne.symm ne_hs_qla) hf_qla)
  have hf_qsa : f69 qsa = .inl (cy 1, 4, .inl (fun _ => 0)) := (congrFun e_f69 qsa).trans (z_up_ne (Ne.symm ne_hs_qsa) hf_qsa)
  have hf_qmi : f69 qmi = .inl (cy 1, 36, .inl (fun _ => 0)) := (congrFun e_f69 qmi).trans (z_up_ne (Ne.symm ne_hs_qmi) hf_qmi)
  have hf_qdr : f69 qdr = .inr (2, [.int 0, .int 0, .int 0, .int 0, .int 0, .int 0, .int 0, .ref qxla, .ref qxsa, .ref qxmi, .ref qxda]) := (congrFun e_f69 qdr).trans (z_up_ne (Ne.symm ne_hs_qdr) hf_qdr)
  have hf_qxla : f69 qxla = .inl (cy 1, 5, .inl (fun _ => 0)) := (congrFun e_f69 qxla).trans (z_up_ne (Ne.symm ne_hs_qxla) hf_qxla)
  have hf_qxsa : f69 qxsa = .inl (cy 1, 4, .inl (fun _ => 0)) := (congrFun e_f69 qxsa).trans (z_up_ne (Ne.symm ne_hs_qxsa) hf_qxsa)
  have hf_qxmi : f69 qxmi = .inl (cy 1, 36, .inl (fun _ => 0)) := (congrFun e_f69 qxmi).trans (z_up_ne (Ne.symm ne_hs_qxmi) hf_qxmi)
  have hf_qrd : f69 qrd = .inr (5, [.int 0, .int (-1), .ref qtp, .ref qdr, .int 0, .int 0, .int 0, .int 0, .int 0]) := (congrFun e_f69 qrd).trans (z_up_ne (Ne.symm ne_hs_qrd) hf_qrd)
  have hf_qim : f69 qim = .inl (cy 5, 3, .inr (.inr (.inr (.inr g40)))) := (congrFun e_f69 qim).trans (z_up_ne (Ne.symm ne_hs_qim) hf_qim)
  have hf_qi0 : f69 qi0 = .inr (2, [.int 0, .int 0, .int 0, .int 0, .int 0, .int 0, .int 0, .ref qla0, .ref qsa0, .ref qmi0, .ref qda0]) := (congrFun e_f69 qi0).trans (z_up_ne (Ne.symm ne_hs_qi0) hf_qi0)
  have hf_qla0 : f69 qla0 = .inl (cy 1, 5, .inl (fun _ => 0)) := (congrFun e_f69 qla0).trans (z_up_ne (Ne.symm ne_hs_qla0) hf_qla0)
  have hf_qsa0 : f69 qsa0 = .inl (cy 1, 4, .inl (fun _ => 0)) := (congrFun e_f69 qsa0).trans (z_up_ne (Ne.symm ne_hs_qsa0) hf_qsa0)
  have hf_qmi0 : f69 qmi0 = .inl (cy 1, 36, .inl (fun _ => 0)) := (congrFun e_f69 qmi0).trans (z_up_ne (Ne.symm ne_hs_qmi0) hf_qmi0)
  have hf_qi1 : f69 qi1 = .inr (2, [.int 0, .int 0, .int 0, .int 0, .int 0, .int 0, .int 0, .ref qla1, .ref qsa1, .ref qmi1, .ref qda1]) := (congrFun e_f69 qi1).trans (z_up_ne (Ne.symm ne_hs_qi1) hf_qi1)
  have hf_qla1 : f69 qla1 = .inl (cy 1, 5, .inl (fun _ => 0)) := (congrFun e_f69 qla1).trans (z_up_ne (Ne.symm ne_hs_qla1) hf_qla1)
  have hf_qsa1 : f69 qsa1 = .inl (cy 1, 4, .inl (fun _ => 0)) := (congrFun e_f69 qsa1).trans (z_up_ne (Ne.symm ne_hs_qsa1) hf_qsa1)
  have hf_qmi1 : f69 qmi1 = .inl (cy 1, 36, .inl (fun _ => 0)) := (congrFun e_f69 qmi1).trans (z_up_ne (Ne.symm ne_hs_qmi1) hf_qmi1)
  have hf_qi2 : f69 qi2 = .inr (2, [.int 0, .int 0, .int 0, .int 0, .int 0, .int 0, .int 0, .ref qla2, .ref qsa2, .ref qmi2, .ref qda2]) := (congrFun e_f69 qi2).trans (z_up_ne (Ne.symm ne_hs_qi2) hf_qi2)
  have hf_qla2 : f69 qla2 = .inl (cy 1, 5, .inl (fun _ => 0)) := (congrFun e_f69 qla2).trans (z_up_ne (Ne.symm ne_hs_qla2) hf_qla2)
  have hf_qsa2 : f69 qsa2 = .inl (cy 1, 4, .inl (fun _ => 0)) := (congrFun e_f69 qsa2).trans (z_up_ne (Ne.symm ne_hs_qsa2) hf_qsa2)
  have hf_qmi2 : f69 qmi2 = .inl (cy 1, 36, .inl (fun _ => 0)) := (congrFun e_f69 qmi2).trans (z_up_ne (Ne.symm ne_hs_qmi2) hf_qmi2)
  have hf_qkp : f69 qkp = .inl (cy 3, 3, .inl (fun _ => 0)) := (congrFun e_f69 qkp).trans (z_up_ne (Ne.symm ne_hs_qkp) hf_qkp)
  have hf_qsl : f69 qsl = .inr (6, [.ref qnu, .ref qwi, .ref qsi]) := (congrFun e_f69 qsl).trans (z_up_ne (Ne.symm ne_hs_qsl) hf_qsl)
  have hf_qnu : f69 qnu = .inl (cy 6, 4, .inr (.inr (.inr (.inr qgn)))) := (congrFun e_f69 qnu).trans (z_up_ne (Ne.symm ne_hs_qnu) hf_qnu)
  have hf_qr0 : f69 qr0 = .inl (cy 2, 60, .inr (.inl (fun _ => 0))) := (congrFun e_f69 qr0).trans (z_up_ne (Ne.symm ne_hs_qr0) hf_qr0)
  have hf_qr1 : f69 qr1 = .inl (cy 2, 60, .inr (.inl (fun _ => 0))) := (congrFun e_f69 qr1).trans (z_up_ne (Ne.symm ne_hs_qr1) hf_qr1)
  have hf_qr2 : f69 qr2 = .inl (cy 2, 60, .inr (.inl (fun _ => 0))) := (congrFun e_f69 qr2).trans (z_up_ne (Ne.symm ne_hs_qr2) hf_qr2)
  have hf_qr3 : f69 qr3 = .inl (cy 2, 60, .inr (.inl (fun _ => 0))) := (congrFun e_f69 qr3).trans (z_up_ne (Ne.symm ne_hs_qr3) hf_qr3)
  have hf_qwi : f69 qwi = .inl (cy 1, 4, .inl (fun _ => 0)) := (congrFun e_f69 qwi).trans (z_up_ne (Ne.symm ne_hs_qwi) hf_qwi)
  have hf_qsi : f69 qsi = .inl (cy 1, 4, .inl qgs) := (congrFun e_f69 qsi).trans (z_up_ne (Ne.symm ne_hs_qsi) hf_qsi)
  have hf_hs : f69 hs = .inr (9, [.ref qtp, .ref qrd, .ref qmo, .ref qdr, .ref qim, .ref qkp, .ref qsl, .ref qwk, .ref qpl, .ref qex, .ref qmx]) := (congrFun e_f69 hs).trans z_up_self
  have hfr : ∀ b ∈ L, b ≠ hs → f69 b = f b := fun b hb h0 => (congrFun e_f69 b).trans (z_up_ne h0 (hfr b hb h0))
  exact z_vret hx hb hr hlk (by decide) (by decide) hw (⟨hsub, hfr, qtp, qba, qmo, qla, qsa, qmi, qda, qdr, qxla, qxsa, qxmi, qxda, qrd, qim, qi0, qla0, qsa0, qmi0, qda0, qi1, qla1, qsa1, qmi1, qda1, qi2, qla2, qsa2, qmi2, qda2, qkp, qsl, qnu, qr0, qr1, qr2, qr3, qwi, qsi, qwk, qpl, qex, qmx, g40, qgn, qgs, hf_hs, ⟨hn_qtp, hm_qtp, hf_qtp⟩, ⟨hn_qba, hm_qba, hf_qba⟩, ⟨hn_qmo, hm_qmo, hf_qmo⟩, ⟨hn_qla, hm_qla, hf_qla⟩, ⟨hn_qsa, hm_qsa, hf_qsa⟩, ⟨hn_qmi, hm_qmi, hf_qmi⟩, ⟨hn_qdr, hm_qdr, hf_qdr⟩, ⟨hn_qxla, hm_qxla, hf_qxla⟩, ⟨hn_qxsa, hm_qxsa, hf_qxsa⟩, ⟨hn_qxmi, hm_qxmi, hf_qxmi⟩, ⟨hn_qrd, hm_qrd, hf_qrd⟩, ⟨hn_qim, hm_qim, hf_qim⟩, ⟨hn_qi0, hm_qi0, hf_qi0⟩, ⟨hn_qla0, hm_qla0, hf_qla0⟩, ⟨hn_qsa0, hm_qsa0, hf_qsa0⟩, ⟨hn_qmi0, hm_qmi0, hf_qmi0⟩, ⟨hn_qi1, hm_qi1, hf_qi1⟩, ⟨hn_qla1, hm_qla1, hf_qla1⟩, ⟨hn_qsa1, hm_qsa1, hf_qsa1⟩, ⟨hn_qmi1, hm_qmi1, hf_qmi1⟩, ⟨hn_qi2, hm_qi2, hf_qi2⟩, ⟨hn_qla2, hm_qla2, hf_qla2⟩, ⟨hn_qsa2, hm_qsa2, hf_qsa2⟩, ⟨hn_qmi2, hm_qmi2, hf_qmi2⟩, ⟨hn_qkp, hm_qkp, hf_qkp⟩, ⟨hn_qsl, hm_qsl, hf_qsl⟩, ⟨hn_qnu, hm_qnu, hf_qnu⟩, ⟨hn_qr0, hm_qr0, hf_qr0⟩, ⟨hn_qr1, hm_qr1, hf_qr1⟩, ⟨hn_qr2, hm_qr2, hf_qr2⟩, ⟨hn_qr3, hm_qr3, hf_qr3⟩, ⟨hn_qwi, hm_qwi, hf_qwi⟩, ⟨hn_qsi, hm_qsi, hf_qsi⟩, ⟨(by rw [e_g40, e_g34, e_g28]; rfl), (by rw [e_g40, e_g34, e_g28]; rfl), (by rw [e_g40, e_g34, e_g28]; rfl), hpS.1, hpS.2.1, hpS.2.2.1, hpS.2.2.2.1, hpS.2.2.2.2.1, ne_qmo_qdr, ne_qla_qxla, ne_qsa_qxsa, ne_qmi_qxmi, (Ne.symm ne_qmo_qi0), (Ne.symm ne_qla_qla0), (Ne.symm ne_qsa_qsa0), (Ne.symm ne_qmi_qmi0), (Ne.symm ne_qmo_qi1), (Ne.symm ne_qla_qla1), (Ne.symm ne_qsa_qsa1), (Ne.symm ne_qmi_qmi1), (Ne.symm ne_qmo_qi2), (Ne.symm ne_qla_qla2), (Ne.symm ne_qsa_qsa2), (Ne.symm ne_qmi_qmi2), hpS.2.2.2.2.2⟩⟩) dX9_init_164
