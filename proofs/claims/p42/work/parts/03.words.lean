/-! every word of the tables that calls keep -/
def lw_all : List Cond := lw_tbl.filter goodWord
theorem z_all_good : ∀ w ∈ lw_all, (w.onTables && w.keeps) = true ∨ ∃ ty, w = .arrayClass ty := fun _ h => good_of_word (List.mem_filter.mp h).2
theorem z_all {w : Cond} (k : Nat) (h : lw_tbl[k]? = some w) (g : goodWord w = true) : w ∈ lw_all := List.mem_filter.mpr ⟨List.mem_of_getElem? h, g⟩
theorem z_all_in : ∀ w ∈ lw_all, w ∈ lw_tbl := fun _ h => (List.mem_filter.mp h).1
abbrev z_ws (y : MethodName) (c : ByteArray) (n : Nat) (ret : Option FieldType) : List Cond := .code y c n ret :: lw_all
theorem z_goodV {Ts : List Cond} (hT : ∀ w ∈ lw_all, w ∈ Ts) {own C : String} {idx : Nat} {y : MethodName} {c : ByteArray} {n : Nat} {ret : Option FieldType} (h1 : Cond.methodLink own idx y ∈ lw_all) (h2 : Cond.instanceMethod y ∈ lw_all) (h3 : Cond.selects C y y ∈ lw_all) (h4 : Cond.initialized C ∈ lw_all) (h5 : Cond.code y c n ret ∈ lw_all) : GoodIn Ts (wsV own idx C y (z_ws y c n ret)) := by
  intro w hw
  have hw : w ∈ lw_all := by
    simp only [wsV, z_ws, List.cons_append, List.nil_append, List.mem_cons] at hw
    rcases hw with rfl | rfl | rfl | rfl | rfl | h
    · exact h1
    · exact h2
    · exact h3
    · exact h4
    · exact h5
    · exact h
  exact ⟨hT w hw, z_all_good w hw⟩
theorem z_goodS {Ts : List Cond} (hT : ∀ w ∈ lw_all, w ∈ Ts) {own : String} {idx : Nat} {y : MethodName} {c : ByteArray} {n : Nat} {ret : Option FieldType} (h1 : Cond.methodLink own idx y ∈ lw_all) (h2 : Cond.static y ∈ lw_all) (h3 : Cond.initialized y.cls ∈ lw_all) (h5 : Cond.code y c n ret ∈ lw_all) : GoodIn Ts (va_wsS own idx y (z_ws y c n ret)) := by
  intro w hw
  have hw : w ∈ lw_all := by
    simp only [va_wsS, z_ws, List.cons_append, List.nil_append, List.mem_cons] at hw
    rcases hw with rfl | rfl | rfl | rfl | h
    · exact h1
    · exact h2
    · exact h3
    · exact h5
    · exact h
  exact ⟨hT w hw, z_all_good w hw⟩
theorem z_goodI {Ts : List Cond} (hT : ∀ w ∈ lw_all, w ∈ Ts) {y : MethodName} {c : ByteArray} {n : Nat} {ret : Option FieldType} (h5 : Cond.code y c n ret ∈ lw_all) : GoodIn Ts (z_ws y c n ret) := by
  intro w hw
  have hw : w ∈ lw_all := by
    rcases List.mem_cons.mp hw with rfl | h
    · exact h5
    · exact h
  exact ⟨hT w hw, z_all_good w hw⟩
theorem z_cons {w : Cond} : ∀ x ∈ lw_all, x ∈ w :: lw_all := fun _ h => List.mem_cons_of_mem _ h
theorem z_sub (ws : List Cond) (ps : List Nat) (h : ws = ps.filterMap (fun i => lw_tbl[i]?)) (g : ws.all goodWord = true) : ∀ w ∈ ws, w ∈ lw_all := by
  intro w hw
  have g1 := List.all_eq_true.mp g w hw
  rw [h] at hw
  obtain ⟨i, -, hi⟩ := List.mem_filterMap.mp hw
  exact List.mem_filter.mpr ⟨List.mem_of_getElem? hi, g1⟩
set_option maxRecDepth 20000 in
theorem kw_0 : Cond.selects RX5 yX5_step yX5_step ∈ lw_all := z_all 0 rfl rfl
set_option maxRecDepth 20000 in
theorem kw_1 : Cond.selects RX5 yX5_readMoor yX5_readMoor ∈ lw_all := z_all 1 rfl rfl
set_option maxRecDepth 20000 in
theorem kw_2 : Cond.selects RX5 yX5_take yX5_take ∈ lw_all := z_all 2 rfl rfl
set_option maxRecDepth 20000 in
theorem kw_3 : Cond.selects RX5 yX5_sees yX5_sees ∈ lw_all := z_all 3 rfl rfl
set_option maxRecDepth 20000 in
theorem kw_4 : Cond.selects RX5 yX5_refuse yX5_refuse ∈ lw_all := z_all 4 rfl rfl
set_option maxRecDepth 20000 in
theorem kw_5 : Cond.selects RX5 yX5_takeNamed yX5_takeNamed ∈ lw_all := z_all 5 rfl rfl
set_option maxRecDepth 20000 in
theorem kw_6 : Cond.selects RX5 yX5_take_ yX5_take_ ∈ lw_all := z_all 6 rfl rfl
set_option maxRecDepth 20000 in
theorem kw_7 : Cond.selects RX5 yX5_tries yX5_tries ∈ lw_all := z_all 7 rfl rfl
set_option maxRecDepth 20000 in
theorem kw_8 : Cond.selects RX5 yX5_readLaw yX5_readLaw ∈ lw_all := z_all 8 rfl rfl
set_option maxRecDepth 20000 in
theorem kw_9 : Cond.selects RX5 yX5_readOwners yX5_readOwners ∈ lw_all := z_all 9 rfl rfl
set_option maxRecDepth 20000 in
theorem kw_10 : Cond.selects RX5 yX5_readStart yX5_readStart ∈ lw_all := z_all 10 rfl rfl
set_option maxRecDepth 20000 in
theorem kw_11 : Cond.selects RX5 yX5_readDrive yX5_readDrive ∈ lw_all := z_all 11 rfl rfl
set_option maxRecDepth 20000 in
theorem kw_12 : Cond.selects RX5 yX5_takePainter yX5_takePainter ∈ lw_all := z_all 12 rfl rfl
set_option maxRecDepth 20000 in
theorem kw_13 : Cond.selects RX5 yX5_readFog yX5_readFog ∈ lw_all := z_all 13 rfl rfl
set_option maxRecDepth 20000 in
theorem kw_14 : Cond.selects RX5 yX5_takeSign yX5_takeSign ∈ lw_all := z_all 14 rfl rfl
set_option maxRecDepth 20000 in
theorem kw_15 : Cond.selects RX8 yX8_lineUp yX8_lineUp ∈ lw_all := z_all 15 rfl rfl
set_option maxRecDepth 20000 in
theorem kw_16 : Cond.selects RX8 yX8_placeOf yX8_placeOf ∈ lw_all := z_all 16 rfl rfl
set_option maxRecDepth 20000 in
theorem kw_17 : Cond.selects RX4 yX4_countOthers yX4_countOthers ∈ lw_all := z_all 17 rfl rfl
set_option maxRecDepth 20000 in
theorem kw_18 : Cond.selects RX4 yX4_differs yX4_differs ∈ lw_all := z_all 18 rfl rfl
set_option maxRecDepth 20000 in
theorem kw_19 : Cond.selects RX9 yX9_isRing yX9_isRing ∈ lw_all := z_all 19 rfl rfl
set_option maxRecDepth 20000 in
theorem kw_20 : Cond.selects RX9 yX9_explain yX9_explain ∈ lw_all := z_all 20 rfl rfl
set_option maxRecDepth 20000 in
theorem kw_21 : Cond.selects RX3 yX3_explains yX3_explains ∈ lw_all := z_all 21 rfl rfl
set_option maxRecDepth 20000 in
theorem kw_22 : Cond.selects RX3 yX3_note yX3_note ∈ lw_all := z_all 22 rfl rfl
set_option maxRecDepth 20000 in
theorem kw_23 : Cond.selects RX3 yX3_permute yX3_permute ∈ lw_all := z_all 23 rfl rfl
set_option maxRecDepth 20000 in
theorem kw_24 : Cond.selects RX3 yX3_change yX3_change ∈ lw_all := z_all 24 rfl rfl
set_option maxRecDepth 20000 in
theorem kw_25 : Cond.selects RX9 yX9_askTold yX9_askTold ∈ lw_all := z_all 25 rfl rfl
set_option maxRecDepth 20000 in
theorem kw_26 : Cond.selects RX1 yX1_addDrive yX1_addDrive ∈ lw_all := z_all 26 rfl rfl
set_option maxRecDepth 20000 in
theorem kw_27 : Cond.selects RX1 yX1_add yX1_add ∈ lw_all := z_all 27 rfl rfl
set_option maxRecDepth 20000 in
theorem kw_28 : Cond.selects RX1 yX1_shuffle yX1_shuffle ∈ lw_all := z_all 28 rfl rfl
set_option maxRecDepth 20000 in
theorem kw_29 : Cond.selects RX1 yX1_draw yX1_draw ∈ lw_all := z_all 29 rfl rfl
set_option maxRecDepth 20000 in
theorem kw_30 : Cond.selects RX1 yX1_passAll yX1_passAll ∈ lw_all := z_all 30 rfl rfl
set_option maxRecDepth 20000 in
theorem kw_31 : Cond.selects RX10 yX10_four yX10_four ∈ lw_all := z_all 31 rfl rfl
set_option maxRecDepth 20000 in
theorem kw_32 : Cond.selects RX10 yX10_clears yX10_clears ∈ lw_all := z_all 32 rfl rfl
set_option maxRecDepth 20000 in
theorem kw_33 : Cond.selects RX10 yX10_begins yX10_begins ∈ lw_all := z_all 33 rfl rfl
set_option maxRecDepth 20000 in
theorem kw_34 : Cond.selects RX10 yX10_next yX10_next ∈ lw_all := z_all 34 rfl rfl
set_option maxRecDepth 20000 in
theorem kw_35 : Cond.selects RX10 yX10_isByte yX10_isByte ∈ lw_all := z_all 35 rfl rfl
set_option maxRecDepth 20000 in
theorem kw_36 : Cond.selects RX10 yX10_isGood yX10_isGood ∈ lw_all := z_all 36 rfl rfl
set_option maxRecDepth 20000 in
theorem kw_37 : Cond.selects RX10 yX10_asks yX10_asks ∈ lw_all := z_all 37 rfl rfl
set_option maxRecDepth 20000 in
theorem kw_38 : Cond.selects RX10 yX10_takes yX10_takes ∈ lw_all := z_all 38 rfl rfl
set_option maxRecDepth 20000 in
theorem kw_39 : Cond.selects RX10 yX10_is yX10_is ∈ lw_all := z_all 39 rfl rfl
set_option maxRecDepth 20000 in
theorem kw_40 : Cond.selects RX10 yX10_fails yX10_fails ∈ lw_all := z_all 40 rfl rfl
set_option maxRecDepth 20000 in
theorem kw_41 : Cond.selects RX10 yX10_number_ yX10_number_ ∈ lw_all := z_all 41 rfl rfl
set_option maxRecDepth 20000 in
theorem kw_42 : Cond.selects RX10 yX10_number yX10_number ∈ lw_all := z_all 42 rfl rfl
set_option maxRecDepth 20000 in
theorem kw_43 : Cond.selects RX10 yX10_line yX10_line ∈ lw_all := z_all 43 rfl rfl
set_option maxRecDepth 20000 in
theorem kw_44 : Cond.selects RX10 yX10_hasRead yX10_hasRead ∈ lw_all := z_all 44 rfl rfl
set_option maxRecDepth 20000 in
theorem kw_45 : Cond.selects RX10 yX10_driveLine yX10_driveLine ∈ lw_all := z_all 45 rfl rfl
set_option maxRecDepth 20000 in
theorem kw_46 : Cond.selects RX10 yX10_lawLine yX10_lawLine ∈ lw_all := z_all 46 rfl rfl
set_option maxRecDepth 20000 in
theorem kw_47 : Cond.selects RX10 yX10_ends yX10_ends ∈ lw_all := z_all 47 rfl rfl
set_option maxRecDepth 20000 in
theorem kw_48 : Cond.selects RX10 yX10_isOver yX10_isOver ∈ lw_all := z_all 48 rfl rfl
set_option maxRecDepth 20000 in
theorem kw_49 : Cond.selects RX10 yX10_copyMoor yX10_copyMoor ∈ lw_all := z_all 49 rfl rfl
set_option maxRecDepth 20000 in
theorem kw_50 : Cond.selects RX10 yX10_isDrive yX10_isDrive ∈ lw_all := z_all 50 rfl rfl
set_option maxRecDepth 20000 in
theorem kw_51 : Cond.selects RX10 yX10_of yX10_of ∈ lw_all := z_all 51 rfl rfl
set_option maxRecDepth 20000 in
theorem kw_52 : Cond.selects RX10 yX10_timeOf yX10_timeOf ∈ lw_all := z_all 52 rfl rfl
set_option maxRecDepth 20000 in
theorem kw_53 : Cond.selects RX10 yX10_end_ yX10_end_ ∈ lw_all := z_all 53 rfl rfl
set_option maxRecDepth 20000 in
theorem kw_54 : Cond.selects RX10 yX10_isMoor yX10_isMoor ∈ lw_all := z_all 54 rfl rfl
set_option maxRecDepth 20000 in
theorem kw_55 : Cond.selects RX10 yX10_isGap yX10_isGap ∈ lw_all := z_all 55 rfl rfl
set_option maxRecDepth 20000 in
theorem kw_56 : Cond.selects RX10 yX10_goesTo yX10_goesTo ∈ lw_all := z_all 56 rfl rfl
set_option maxRecDepth 20000 in
theorem kw_57 : Cond.selects RX10 yX10_isDay yX10_isDay ∈ lw_all := z_all 57 rfl rfl
set_option maxRecDepth 20000 in
theorem kw_58 : Cond.selects RX10 yX10_plainly yX10_plainly ∈ lw_all := z_all 58 rfl rfl
set_option maxRecDepth 20000 in
theorem kw_59 : Cond.selects RX10 yX10_goes_ yX10_goes_ ∈ lw_all := z_all 59 rfl rfl
set_option maxRecDepth 20000 in
theorem kw_60 : Cond.selects RX10 yX10_sorts yX10_sorts ∈ lw_all := z_all 60 rfl rfl
set_option maxRecDepth 20000 in
theorem kw_61 : Cond.selects RX10 yX10_isAhead yX10_isAhead ∈ lw_all := z_all 61 rfl rfl
set_option maxRecDepth 20000 in
theorem kw_62 : Cond.selects RX10 yX10_begin yX10_begin ∈ lw_all := z_all 62 rfl rfl
set_option maxRecDepth 20000 in
theorem kw_63 : Cond.selects RX10 yX10_mixes yX10_mixes ∈ lw_all := z_all 63 rfl rfl
set_option maxRecDepth 20000 in
theorem kw_64 : Cond.selects RX10 yX10_drawn yX10_drawn ∈ lw_all := z_all 64 rfl rfl
set_option maxRecDepth 20000 in
theorem kw_65 : Cond.selects RX10 yX10_dawns yX10_dawns ∈ lw_all := z_all 65 rfl rfl
set_option maxRecDepth 20000 in
theorem kw_66 : Cond.selects RX10 yX10_passes yX10_passes ∈ lw_all := z_all 66 rfl rfl
set_option maxRecDepth 20000 in
theorem kw_67 : Cond.selects RX10 yX10_counterOf yX10_counterOf ∈ lw_all := z_all 67 rfl rfl
set_option maxRecDepth 20000 in
theorem kw_68 : Cond.selects RX10 yX10_asTold yX10_asTold ∈ lw_all := z_all 68 rfl rfl
set_option maxRecDepth 20000 in
theorem kw_69 : Cond.selects RX10 yX10_isOwner yX10_isOwner ∈ lw_all := z_all 69 rfl rfl
set_option maxRecDepth 20000 in
theorem kw_70 : Cond.selects RX10 yX10_paidBy yX10_paidBy ∈ lw_all := z_all 70 rfl rfl
set_option maxRecDepth 20000 in
theorem kw_71 : Cond.selects RX10 yX10_seeks yX10_seeks ∈ lw_all := z_all 71 rfl rfl
set_option maxRecDepth 20000 in
theorem kw_72 : Cond.selects RX10 yX10_adds yX10_adds ∈ lw_all := z_all 72 rfl rfl
set_option maxRecDepth 20000 in
theorem kw_73 : Cond.selects RX10 yX10_restless yX10_restless ∈ lw_all := z_all 73 rfl rfl
set_option maxRecDepth 20000 in
theorem kw_74 : Cond.selects RX10 yX10_restsBy yX10_restsBy ∈ lw_all := z_all 74 rfl rfl
set_option maxRecDepth 20000 in
theorem kw_75 : Cond.selects RX10 yX10_othersThan yX10_othersThan ∈ lw_all := z_all 75 rfl rfl
set_option maxRecDepth 20000 in
theorem kw_76 : Cond.selects RX10 yX10_eweOf yX10_eweOf ∈ lw_all := z_all 76 rfl rfl
set_option maxRecDepth 20000 in
theorem kw_77 : Cond.selects RX10 yX10_whyNotOrders yX10_whyNotOrders ∈ lw_all := z_all 77 rfl rfl
set_option maxRecDepth 20000 in
theorem kw_78 : Cond.selects RX10 yX10_goesAll yX10_goesAll ∈ lw_all := z_all 78 rfl rfl
set_option maxRecDepth 20000 in
theorem kw_79 : Cond.selects RX10 yX10_tries yX10_tries ∈ lw_all := z_all 79 rfl rfl
set_option maxRecDepth 20000 in
theorem kw_80 : Cond.selects RX10 yX10_agrees yX10_agrees ∈ lw_all := z_all 80 rfl rfl
set_option maxRecDepth 20000 in
theorem kw_81 : Cond.selects RX10 yX10_whyNotCounts yX10_whyNotCounts ∈ lw_all := z_all 81 rfl rfl
set_option maxRecDepth 20000 in
theorem kw_82 : Cond.selects RX10 yX10_leastPower yX10_leastPower ∈ lw_all := z_all 82 rfl rfl
set_option maxRecDepth 20000 in
theorem kw_83 : Cond.selects RX10 yX10_mixedOf yX10_mixedOf ∈ lw_all := z_all 83 rfl rfl
set_option maxRecDepth 20000 in
theorem kw_84 : Cond.initialized RL ∈ lw_all := z_all 84 rfl rfl
set_option maxRecDepth 20000 in
theorem kw_85 : Cond.initialized RX9 ∈ lw_all := z_all 85 rfl rfl
set_option maxRecDepth 20000 in
theorem kw_86 : Cond.initialized RX7 ∈ lw_all := z_all 86 rfl rfl
set_option maxRecDepth 20000 in
theorem kw_87 : Cond.initialized RX2 ∈ lw_all := z_all 87 rfl rfl
set_option maxRecDepth 20000 in
theorem kw_88 : Cond.initialized RX0 ∈ lw_all := z_all 88 rfl rfl
set_option maxRecDepth 20000 in
theorem kw_89 : Cond.initialized RX5 ∈ lw_all := z_all 89 rfl rfl
set_option maxRecDepth 20000 in
theorem kw_90 : Cond.initialized RX6 ∈ lw_all := z_all 90 rfl rfl
set_option maxRecDepth 20000 in
theorem kw_91 : Cond.initialized RJ7 ∈ lw_all := z_all 91 rfl rfl
set_option maxRecDepth 20000 in
theorem kw_92 : Cond.initialized RX8 ∈ lw_all := z_all 92 rfl rfl
set_option maxRecDepth 20000 in
theorem kw_93 : Cond.initialized RX4 ∈ lw_all := z_all 93 rfl rfl
set_option maxRecDepth 20000 in
theorem kw_94 : Cond.initialized RX3 ∈ lw_all := z_all 94 rfl rfl
set_option maxRecDepth 20000 in
theorem kw_95 : Cond.initialized RX1 ∈ lw_all := z_all 95 rfl rfl
set_option maxRecDepth 20000 in
theorem kw_96 : Cond.initialized RX10 ∈ lw_all := z_all 96 rfl rfl
set_option maxRecDepth 20000 in
theorem kw_97 : Cond.initialized RJ9 ∈ lw_all := z_all 97 rfl rfl
set_option maxRecDepth 20000 in
theorem kw_98 : Cond.initialized RJ0 ∈ lw_all := z_all 98 rfl rfl
set_option maxRecDepth 20000 in
theorem kw_99 : Cond.initialized RJ1 ∈ lw_all := z_all 99 rfl rfl
set_option maxRecDepth 20000 in
theorem kw_100 : Cond.initialized RJ3 ∈ lw_all := z_all 100 rfl rfl
set_option maxRecDepth 20000 in
theorem kw_101 : Cond.initialized RJ2 ∈ lw_all := z_all 101 rfl rfl
set_option maxRecDepth 20000 in
theorem kw_102 : Cond.initialized RJ10 ∈ lw_all := z_all 102 rfl rfl
set_option maxRecDepth 20000 in
theorem kw_103 : Cond.classLink RL 7 RX9 ∈ lw_all := z_all 103 rfl rfl
set_option maxRecDepth 20000 in
theorem kw_104 : Cond.instantiable RX9 11 ∈ lw_all := z_all 104 rfl rfl
set_option maxRecDepth 20000 in
theorem kw_105 : Cond.methodLink RL 9 yX9_init ∈ lw_all := z_all 105 rfl rfl
set_option maxRecDepth 20000 in
theorem kw_106 : Cond.instanceMethod yX9_init ∈ lw_all := z_all 106 rfl rfl
set_option maxRecDepth 20000 in
theorem kw_107 : Cond.code yX9_init cX9_init 2 none ∈ lw_all := z_all 107 rfl rfl
set_option maxRecDepth 20000 in
theorem kw_108 : Cond.methodLink RX9 1 ⟨"java/lang/Object", "<init>", "()V"⟩ ∈ lw_all := z_all 108 rfl rfl
set_option maxRecDepth 20000 in
theorem kw_109 : Cond.instanceMethod ⟨"java/lang/Object", "<init>", "()V"⟩ ∈ lw_all := z_all 109 rfl rfl
set_option maxRecDepth 20000 in
theorem kw_110 : Cond.code ⟨"java/lang/Object", "<init>", "()V"⟩ object_method_1_code 1 none ∈ lw_all := z_all 110 rfl rfl
set_option maxRecDepth 20000 in
theorem kw_111 : Cond.classLink RX9 7 RX7 ∈ lw_all := z_all 111 rfl rfl
set_option maxRecDepth 20000 in
theorem kw_112 : Cond.instantiable RX7 2 ∈ lw_all := z_all 112 rfl rfl
set_option maxRecDepth 20000 in
theorem kw_114 : Cond.instanceMethod yX7_init ∈ lw_all := z_all 114 rfl rfl
set_option maxRecDepth 20000 in
theorem kw_115 : Cond.code yX7_init cX7_init 1 none ∈ lw_all := z_all 115 rfl rfl
set_option maxRecDepth 20000 in
theorem kw_116 : Cond.methodLink RX7 3 ⟨"java/lang/Object", "<init>", "()V"⟩ ∈ lw_all := z_all 116 rfl rfl
set_option maxRecDepth 20000 in
theorem kw_117 : Cond.fieldLink RX7 9 "HundredthSheep$Tape" "bytes" "[B" ∈ lw_all := z_all 117 rfl rfl
set_option maxRecDepth 20000 in
theorem kw_118 : Cond.fieldLink RX5 47 "HundredthSheep$Tape" "bytes" "[B" ∈ lw_all := z_all 118 rfl rfl
set_option maxRecDepth 20000 in
theorem kw_119 : Cond.fieldLink RX9 80 "HundredthSheep$Tape" "length" "I" ∈ lw_all := z_all 119 rfl rfl
set_option maxRecDepth 20000 in
theorem kw_120 : Cond.fieldLink RX7 15 "HundredthSheep$Tape" "length" "I" ∈ lw_all := z_all 120 rfl rfl
set_option maxRecDepth 20000 in
theorem kw_121 : Cond.fieldLink RX5 53 "HundredthSheep$Tape" "length" "I" ∈ lw_all := z_all 121 rfl rfl
set_option maxRecDepth 20000 in
theorem kw_127 : Cond.arrayClass .byte ∈ lw_all := z_all 127 rfl rfl
set_option maxRecDepth 20000 in
theorem kw_128 : Cond.classLink RX9 16 RX2 ∈ lw_all := z_all 128 rfl rfl
set_option maxRecDepth 20000 in
theorem kw_129 : Cond.instantiable RX2 11 ∈ lw_all := z_all 129 rfl rfl
set_option maxRecDepth 20000 in
theorem kw_130 : Cond.methodLink RX9 18 yX2_init ∈ lw_all := z_all 130 rfl rfl
set_option maxRecDepth 20000 in
theorem kw_131 : Cond.instanceMethod yX2_init ∈ lw_all := z_all 131 rfl rfl
set_option maxRecDepth 20000 in
theorem kw_132 : Cond.code yX2_init cX2_init 2 none ∈ lw_all := z_all 132 rfl rfl
set_option maxRecDepth 20000 in
theorem kw_133 : Cond.methodLink RX2 3 ⟨"java/lang/Object", "<init>", "()V"⟩ ∈ lw_all := z_all 133 rfl rfl
set_option maxRecDepth 20000 in
theorem kw_134 : Cond.classLink RX2 21 RX0 ∈ lw_all := z_all 134 rfl rfl
set_option maxRecDepth 20000 in
theorem kw_136 : Cond.instantiable RX0 8 ∈ lw_all := z_all 136 rfl rfl
set_option maxRecDepth 20000 in
theorem kw_138 : Cond.instanceMethod yX0_init ∈ lw_all := z_all 138 rfl rfl
set_option maxRecDepth 20000 in
theorem kw_139 : Cond.code yX0_init cX0_init 1 none ∈ lw_all := z_all 139 rfl rfl
set_option maxRecDepth 20000 in
theorem kw_140 : Cond.methodLink RX0 1 ⟨"java/lang/Object", "<init>", "()V"⟩ ∈ lw_all := z_all 140 rfl rfl
set_option maxRecDepth 20000 in
theorem kw_141 : Cond.fieldLink RX0 7 "HundredthSheep$Drive" "owner" "I" ∈ lw_all := z_all 141 rfl rfl
set_option maxRecDepth 20000 in
theorem kw_142 : Cond.fieldLink RX4 67 "HundredthSheep$Drive" "owner" "I" ∈ lw_all := z_all 142 rfl rfl
set_option maxRecDepth 20000 in
theorem kw_143 : Cond.fieldLink RX9 119 "HundredthSheep$Drive" "owner" "I" ∈ lw_all := z_all 143 rfl rfl
set_option maxRecDepth 20000 in
theorem kw_144 : Cond.fieldLink RX5 186 "HundredthSheep$Drive" "owner" "I" ∈ lw_all := z_all 144 rfl rfl
set_option maxRecDepth 20000 in
theorem kw_145 : Cond.fieldLink RX0 13 "HundredthSheep$Drive" "gap" "I" ∈ lw_all := z_all 145 rfl rfl
set_option maxRecDepth 20000 in
theorem kw_146 : Cond.fieldLink RX4 34 "HundredthSheep$Drive" "gap" "I" ∈ lw_all := z_all 146 rfl rfl
set_option maxRecDepth 20000 in
theorem kw_147 : Cond.fieldLink RX3 83 "HundredthSheep$Drive" "gap" "I" ∈ lw_all := z_all 147 rfl rfl
set_option maxRecDepth 20000 in
theorem kw_148 : Cond.fieldLink RX8 41 "HundredthSheep$Drive" "gap" "I" ∈ lw_all := z_all 148 rfl rfl
set_option maxRecDepth 20000 in
theorem kw_149 : Cond.fieldLink RX9 124 "HundredthSheep$Drive" "gap" "I" ∈ lw_all := z_all 149 rfl rfl
set_option maxRecDepth 20000 in
theorem kw_150 : Cond.fieldLink RX2 79 "HundredthSheep$Drive" "gap" "I" ∈ lw_all := z_all 150 rfl rfl
set_option maxRecDepth 20000 in
theorem kw_151 : Cond.fieldLink RX5 193 "HundredthSheep$Drive" "gap" "I" ∈ lw_all := z_all 151 rfl rfl
set_option maxRecDepth 20000 in
theorem kw_152 : Cond.fieldLink RX0 16 "HundredthSheep$Drive" "day" "I" ∈ lw_all := z_all 152 rfl rfl
set_option maxRecDepth 20000 in
theorem kw_153 : Cond.fieldLink RX9 127 "HundredthSheep$Drive" "day" "I" ∈ lw_all := z_all 153 rfl rfl
set_option maxRecDepth 20000 in
theorem kw_154 : Cond.fieldLink RX4 132 "HundredthSheep$Drive" "day" "I" ∈ lw_all := z_all 154 rfl rfl
set_option maxRecDepth 20000 in
theorem kw_155 : Cond.fieldLink RX2 66 "HundredthSheep$Drive" "day" "I" ∈ lw_all := z_all 155 rfl rfl
set_option maxRecDepth 20000 in
theorem kw_156 : Cond.fieldLink RX5 197 "HundredthSheep$Drive" "day" "I" ∈ lw_all := z_all 156 rfl rfl
set_option maxRecDepth 20000 in
theorem kw_157 : Cond.fieldLink RX0 19 "HundredthSheep$Drive" "hour" "I" ∈ lw_all := z_all 157 rfl rfl
set_option maxRecDepth 20000 in
theorem kw_158 : Cond.fieldLink RX4 40 "HundredthSheep$Drive" "hour" "I" ∈ lw_all := z_all 158 rfl rfl
set_option maxRecDepth 20000 in
theorem kw_159 : Cond.fieldLink RX9 130 "HundredthSheep$Drive" "hour" "I" ∈ lw_all := z_all 159 rfl rfl
set_option maxRecDepth 20000 in
theorem kw_160 : Cond.fieldLink RX2 69 "HundredthSheep$Drive" "hour" "I" ∈ lw_all := z_all 160 rfl rfl
set_option maxRecDepth 20000 in
theorem kw_161 : Cond.fieldLink RX5 201 "HundredthSheep$Drive" "hour" "I" ∈ lw_all := z_all 161 rfl rfl
set_option maxRecDepth 20000 in
theorem kw_162 : Cond.fieldLink RX0 22 "HundredthSheep$Drive" "sheep" "I" ∈ lw_all := z_all 162 rfl rfl
set_option maxRecDepth 20000 in
theorem kw_163 : Cond.fieldLink RX1 62 "HundredthSheep$Drive" "sheep" "I" ∈ lw_all := z_all 163 rfl rfl
set_option maxRecDepth 20000 in
theorem kw_164 : Cond.fieldLink RX4 88 "HundredthSheep$Drive" "sheep" "I" ∈ lw_all := z_all 164 rfl rfl
set_option maxRecDepth 20000 in
theorem kw_165 : Cond.fieldLink RX9 133 "HundredthSheep$Drive" "sheep" "I" ∈ lw_all := z_all 165 rfl rfl
set_option maxRecDepth 20000 in
theorem kw_166 : Cond.fieldLink RX2 86 "HundredthSheep$Drive" "sheep" "I" ∈ lw_all := z_all 166 rfl rfl
set_option maxRecDepth 20000 in
theorem kw_167 : Cond.fieldLink RX5 206 "HundredthSheep$Drive" "sheep" "I" ∈ lw_all := z_all 167 rfl rfl
set_option maxRecDepth 20000 in
theorem kw_168 : Cond.fieldLink RX0 25 "HundredthSheep$Drive" "lambs" "I" ∈ lw_all := z_all 168 rfl rfl
set_option maxRecDepth 20000 in
theorem kw_169 : Cond.fieldLink RX1 71 "HundredthSheep$Drive" "lambs" "I" ∈ lw_all := z_all 169 rfl rfl
set_option maxRecDepth 20000 in
theorem kw_170 : Cond.fieldLink RX4 94 "HundredthSheep$Drive" "lambs" "I" ∈ lw_all := z_all 170 rfl rfl
set_option maxRecDepth 20000 in
theorem kw_171 : Cond.fieldLink RX9 136 "HundredthSheep$Drive" "lambs" "I" ∈ lw_all := z_all 171 rfl rfl
set_option maxRecDepth 20000 in
theorem kw_172 : Cond.fieldLink RX2 89 "HundredthSheep$Drive" "lambs" "I" ∈ lw_all := z_all 172 rfl rfl
set_option maxRecDepth 20000 in
theorem kw_173 : Cond.fieldLink RX5 208 "HundredthSheep$Drive" "lambs" "I" ∈ lw_all := z_all 173 rfl rfl
set_option maxRecDepth 20000 in
theorem kw_174 : Cond.fieldLink RX0 28 "HundredthSheep$Drive" "payer" "I" ∈ lw_all := z_all 174 rfl rfl
set_option maxRecDepth 20000 in
theorem kw_175 : Cond.fieldLink RX3 100 "HundredthSheep$Drive" "payer" "I" ∈ lw_all := z_all 175 rfl rfl
set_option maxRecDepth 20000 in
theorem kw_176 : Cond.fieldLink RX9 139 "HundredthSheep$Drive" "payer" "I" ∈ lw_all := z_all 176 rfl rfl
set_option maxRecDepth 20000 in
theorem kw_177 : Cond.fieldLink RX1 103 "HundredthSheep$Drive" "payer" "I" ∈ lw_all := z_all 177 rfl rfl
set_option maxRecDepth 20000 in
theorem kw_178 : Cond.fieldLink RX4 129 "HundredthSheep$Drive" "payer" "I" ∈ lw_all := z_all 178 rfl rfl
set_option maxRecDepth 20000 in
theorem kw_179 : Cond.fieldLink RX8 108 "HundredthSheep$Drive" "payer" "I" ∈ lw_all := z_all 179 rfl rfl
set_option maxRecDepth 20000 in
theorem kw_180 : Cond.fieldLink RX5 216 "HundredthSheep$Drive" "payer" "I" ∈ lw_all := z_all 180 rfl rfl
set_option maxRecDepth 20000 in
theorem kw_181 : Cond.fieldLink RX0 31 "HundredthSheep$Drive" "lame" "I" ∈ lw_all := z_all 181 rfl rfl
set_option maxRecDepth 20000 in
theorem kw_182 : Cond.fieldLink RX9 142 "HundredthSheep$Drive" "lame" "I" ∈ lw_all := z_all 182 rfl rfl
set_option maxRecDepth 20000 in
theorem kw_183 : Cond.fieldLink RX4 135 "HundredthSheep$Drive" "lame" "I" ∈ lw_all := z_all 183 rfl rfl
set_option maxRecDepth 20000 in
theorem kw_184 : Cond.fieldLink RX2 72 "HundredthSheep$Drive" "lame" "I" ∈ lw_all := z_all 184 rfl rfl
set_option maxRecDepth 20000 in
theorem kw_185 : Cond.fieldLink RX5 221 "HundredthSheep$Drive" "lame" "I" ∈ lw_all := z_all 185 rfl rfl
set_option maxRecDepth 20000 in
theorem kw_203 : Cond.arrayClass .int ∈ lw_all := z_all 203 rfl rfl
set_option maxRecDepth 20000 in
theorem kw_204 : Cond.fieldLink RX2 28 "HundredthSheep$Moor" "lines" "I" ∈ lw_all := z_all 204 rfl rfl
set_option maxRecDepth 20000 in
theorem kw_205 : Cond.fieldLink RX9 105 "HundredthSheep$Moor" "lines" "I" ∈ lw_all := z_all 205 rfl rfl
set_option maxRecDepth 20000 in
theorem kw_206 : Cond.fieldLink RX5 99 "HundredthSheep$Moor" "lines" "I" ∈ lw_all := z_all 206 rfl rfl
set_option maxRecDepth 20000 in
theorem kw_207 : Cond.fieldLink RX2 32 "HundredthSheep$Moor" "gaps" "I" ∈ lw_all := z_all 207 rfl rfl
set_option maxRecDepth 20000 in
theorem kw_208 : Cond.fieldLink RX4 51 "HundredthSheep$Moor" "gaps" "I" ∈ lw_all := z_all 208 rfl rfl
set_option maxRecDepth 20000 in
theorem kw_209 : Cond.fieldLink RX5 154 "HundredthSheep$Moor" "gaps" "I" ∈ lw_all := z_all 209 rfl rfl
set_option maxRecDepth 20000 in
theorem kw_210 : Cond.fieldLink RX9 313 "HundredthSheep$Moor" "gaps" "I" ∈ lw_all := z_all 210 rfl rfl
set_option maxRecDepth 20000 in
theorem kw_211 : Cond.fieldLink RX2 35 "HundredthSheep$Moor" "days" "I" ∈ lw_all := z_all 211 rfl rfl
set_option maxRecDepth 20000 in
theorem kw_212 : Cond.fieldLink RX5 127 "HundredthSheep$Moor" "days" "I" ∈ lw_all := z_all 212 rfl rfl
set_option maxRecDepth 20000 in
theorem kw_213 : Cond.fieldLink RX8 115 "HundredthSheep$Moor" "days" "I" ∈ lw_all := z_all 213 rfl rfl
set_option maxRecDepth 20000 in
theorem kw_214 : Cond.fieldLink RX9 329 "HundredthSheep$Moor" "days" "I" ∈ lw_all := z_all 214 rfl rfl
set_option maxRecDepth 20000 in
theorem kw_215 : Cond.fieldLink RX2 38 "HundredthSheep$Moor" "owners" "I" ∈ lw_all := z_all 215 rfl rfl
set_option maxRecDepth 20000 in
theorem kw_216 : Cond.fieldLink RX5 164 "HundredthSheep$Moor" "owners" "I" ∈ lw_all := z_all 216 rfl rfl
set_option maxRecDepth 20000 in
theorem kw_217 : Cond.fieldLink RX9 215 "HundredthSheep$Moor" "owners" "I" ∈ lw_all := z_all 217 rfl rfl
set_option maxRecDepth 20000 in
theorem kw_218 : Cond.fieldLink RX2 41 "HundredthSheep$Moor" "lambsFrom" "I" ∈ lw_all := z_all 218 rfl rfl
set_option maxRecDepth 20000 in
theorem kw_219 : Cond.fieldLink RX5 134 "HundredthSheep$Moor" "lambsFrom" "I" ∈ lw_all := z_all 219 rfl rfl
set_option maxRecDepth 20000 in
theorem kw_220 : Cond.fieldLink RX9 338 "HundredthSheep$Moor" "lambsFrom" "I" ∈ lw_all := z_all 220 rfl rfl
set_option maxRecDepth 20000 in
theorem kw_221 : Cond.fieldLink RX3 29 "HundredthSheep$Moor" "drives" "I" ∈ lw_all := z_all 221 rfl rfl
set_option maxRecDepth 20000 in
theorem kw_222 : Cond.fieldLink RX2 44 "HundredthSheep$Moor" "drives" "I" ∈ lw_all := z_all 222 rfl rfl
set_option maxRecDepth 20000 in
theorem kw_223 : Cond.fieldLink RX4 81 "HundredthSheep$Moor" "drives" "I" ∈ lw_all := z_all 223 rfl rfl
set_option maxRecDepth 20000 in
theorem kw_224 : Cond.fieldLink RX8 28 "HundredthSheep$Moor" "drives" "I" ∈ lw_all := z_all 224 rfl rfl
set_option maxRecDepth 20000 in
theorem kw_225 : Cond.fieldLink RX5 176 "HundredthSheep$Moor" "drives" "I" ∈ lw_all := z_all 225 rfl rfl
set_option maxRecDepth 20000 in
theorem kw_226 : Cond.fieldLink RX9 332 "HundredthSheep$Moor" "drives" "I" ∈ lw_all := z_all 226 rfl rfl
set_option maxRecDepth 20000 in
theorem kw_227 : Cond.fieldLink RX2 47 "HundredthSheep$Moor" "fogs" "I" ∈ lw_all := z_all 227 rfl rfl
set_option maxRecDepth 20000 in
theorem kw_228 : Cond.fieldLink RX5 223 "HundredthSheep$Moor" "fogs" "I" ∈ lw_all := z_all 228 rfl rfl
set_option maxRecDepth 20000 in
theorem kw_229 : Cond.fieldLink RX9 335 "HundredthSheep$Moor" "fogs" "I" ∈ lw_all := z_all 229 rfl rfl
set_option maxRecDepth 20000 in
theorem kw_230 : Cond.fieldLink RX2 9 "HundredthSheep$Moor" "law" "[I" ∈ lw_all := z_all 230 rfl rfl
set_option maxRecDepth 20000 in
theorem kw_231 : Cond.fieldLink RX1 59 "HundredthSheep$Moor" "law" "[I" ∈ lw_all := z_all 231 rfl rfl
set_option maxRecDepth 20000 in
theorem kw_232 : Cond.fieldLink RX4 70 "HundredthSheep$Moor" "law" "[I" ∈ lw_all := z_all 232 rfl rfl
set_option maxRecDepth 20000 in
theorem kw_233 : Cond.fieldLink RX8 69 "HundredthSheep$Moor" "law" "[I" ∈ lw_all := z_all 233 rfl rfl
set_option maxRecDepth 20000 in
theorem kw_234 : Cond.fieldLink RX9 156 "HundredthSheep$Moor" "law" "[I" ∈ lw_all := z_all 234 rfl rfl
set_option maxRecDepth 20000 in
theorem kw_235 : Cond.fieldLink RX5 157 "HundredthSheep$Moor" "law" "[I" ∈ lw_all := z_all 235 rfl rfl
set_option maxRecDepth 20000 in
theorem kw_236 : Cond.fieldLink RX2 15 "HundredthSheep$Moor" "start" "[I" ∈ lw_all := z_all 236 rfl rfl
set_option maxRecDepth 20000 in
theorem kw_237 : Cond.fieldLink RX8 60 "HundredthSheep$Moor" "start" "[I" ∈ lw_all := z_all 237 rfl rfl
set_option maxRecDepth 20000 in
theorem kw_238 : Cond.fieldLink RX5 181 "HundredthSheep$Moor" "start" "[I" ∈ lw_all := z_all 238 rfl rfl
set_option maxRecDepth 20000 in
theorem kw_239 : Cond.fieldLink RX2 18 "HundredthSheep$Moor" "misses" "[I" ∈ lw_all := z_all 239 rfl rfl
set_option maxRecDepth 20000 in
theorem kw_240 : Cond.fieldLink RX5 228 "HundredthSheep$Moor" "misses" "[I" ∈ lw_all := z_all 240 rfl rfl
set_option maxRecDepth 20000 in
theorem kw_241 : Cond.fieldLink RX2 23 "HundredthSheep$Moor" "drive" "[LHundredthSheep$Drive;" ∈ lw_all := z_all 241 rfl rfl
set_option maxRecDepth 20000 in
theorem kw_242 : Cond.fieldLink RX1 38 "HundredthSheep$Moor" "drive" "[LHundredthSheep$Drive;" ∈ lw_all := z_all 242 rfl rfl
set_option maxRecDepth 20000 in
theorem kw_243 : Cond.fieldLink RX4 30 "HundredthSheep$Moor" "drive" "[LHundredthSheep$Drive;" ∈ lw_all := z_all 243 rfl rfl
set_option maxRecDepth 20000 in
theorem kw_244 : Cond.fieldLink RX3 79 "HundredthSheep$Moor" "drive" "[LHundredthSheep$Drive;" ∈ lw_all := z_all 244 rfl rfl
set_option maxRecDepth 20000 in
theorem kw_245 : Cond.fieldLink RX9 115 "HundredthSheep$Moor" "drive" "[LHundredthSheep$Drive;" ∈ lw_all := z_all 245 rfl rfl
set_option maxRecDepth 20000 in
theorem kw_246 : Cond.fieldLink RX8 37 "HundredthSheep$Moor" "drive" "[LHundredthSheep$Drive;" ∈ lw_all := z_all 246 rfl rfl
set_option maxRecDepth 20000 in
theorem kw_247 : Cond.fieldLink RX5 183 "HundredthSheep$Moor" "drive" "[LHundredthSheep$Drive;" ∈ lw_all := z_all 247 rfl rfl
set_option maxRecDepth 20000 in
theorem kw_271 : Cond.classLink RX9 26 RX5 ∈ lw_all := z_all 271 rfl rfl
set_option maxRecDepth 20000 in
theorem kw_272 : Cond.instantiable RX5 9 ∈ lw_all := z_all 272 rfl rfl
set_option maxRecDepth 20000 in
theorem kw_273 : Cond.methodLink RX9 28 yX5_init ∈ lw_all := z_all 273 rfl rfl
set_option maxRecDepth 20000 in
theorem kw_274 : Cond.instanceMethod yX5_init ∈ lw_all := z_all 274 rfl rfl
set_option maxRecDepth 20000 in
theorem kw_275 : Cond.code yX5_init cX5_init 3 none ∈ lw_all := z_all 275 rfl rfl
set_option maxRecDepth 20000 in
theorem kw_276 : Cond.methodLink RX5 3 ⟨"java/lang/Object", "<init>", "()V"⟩ ∈ lw_all := z_all 276 rfl rfl
set_option maxRecDepth 20000 in
theorem kw_277 : Cond.fieldLink RX5 23 "HundredthSheep$Reader" "fault" "I" ∈ lw_all := z_all 277 rfl rfl
set_option maxRecDepth 20000 in
theorem kw_278 : Cond.fieldLink RX9 98 "HundredthSheep$Reader" "fault" "I" ∈ lw_all := z_all 278 rfl rfl
set_option maxRecDepth 20000 in
theorem kw_279 : Cond.fieldLink RX5 9 "HundredthSheep$Reader" "place" "I" ∈ lw_all := z_all 279 rfl rfl
set_option maxRecDepth 20000 in
theorem kw_280 : Cond.fieldLink RX9 108 "HundredthSheep$Reader" "place" "I" ∈ lw_all := z_all 280 rfl rfl
set_option maxRecDepth 20000 in
theorem kw_281 : Cond.fieldLink RX5 15 "HundredthSheep$Reader" "tape" "LHundredthSheep$Tape;" ∈ lw_all := z_all 281 rfl rfl
set_option maxRecDepth 20000 in
theorem kw_282 : Cond.fieldLink RX5 19 "HundredthSheep$Reader" "into" "LHundredthSheep$Moor;" ∈ lw_all := z_all 282 rfl rfl
set_option maxRecDepth 20000 in
theorem kw_283 : Cond.fieldLink RX5 26 "HundredthSheep$Reader" "ownersTold" "Z" ∈ lw_all := z_all 283 rfl rfl
set_option maxRecDepth 20000 in
theorem kw_284 : Cond.fieldLink RX5 41 "HundredthSheep$Reader" "kind" "I" ∈ lw_all := z_all 284 rfl rfl
set_option maxRecDepth 20000 in
theorem kw_285 : Cond.fieldLink RX5 44 "HundredthSheep$Reader" "at" "I" ∈ lw_all := z_all 285 rfl rfl
set_option maxRecDepth 20000 in
theorem kw_286 : Cond.fieldLink RX5 30 "HundredthSheep$Reader" "next" "I" ∈ lw_all := z_all 286 rfl rfl
set_option maxRecDepth 20000 in
theorem kw_287 : Cond.fieldLink RX5 72 "HundredthSheep$Reader" "value" "I" ∈ lw_all := z_all 287 rfl rfl
set_option maxRecDepth 20000 in
theorem kw_308 : Cond.classLink RX9 43 RX6 ∈ lw_all := z_all 308 rfl rfl
set_option maxRecDepth 20000 in
theorem kw_309 : Cond.instantiable RX6 3 ∈ lw_all := z_all 309 rfl rfl
set_option maxRecDepth 20000 in
theorem kw_310 : Cond.methodLink RX9 45 yX6_init ∈ lw_all := z_all 310 rfl rfl
set_option maxRecDepth 20000 in
theorem kw_311 : Cond.instanceMethod yX6_init ∈ lw_all := z_all 311 rfl rfl
set_option maxRecDepth 20000 in
theorem kw_312 : Cond.code yX6_init cX6_init 1 none ∈ lw_all := z_all 312 rfl rfl
set_option maxRecDepth 20000 in
theorem kw_313 : Cond.methodLink RX6 3 ⟨"java/lang/Object", "<init>", "()V"⟩ ∈ lw_all := z_all 313 rfl rfl
set_option maxRecDepth 20000 in
theorem kw_314 : Cond.classLink RX6 9 "[[J" ∈ lw_all := z_all 314 rfl rfl
set_option maxRecDepth 20000 in
theorem kw_316 : Cond.methodLink RX6 23 yJ7_fill_53178 ∈ lw_all := z_all 316 rfl rfl
set_option maxRecDepth 20000 in
theorem kw_317 : Cond.static yJ7_fill_53178 ∈ lw_all := z_all 317 rfl rfl
set_option maxRecDepth 20000 in
theorem kw_318 : Cond.code yJ7_fill_53178 cJ7_fill_53178 4 none ∈ lw_all := z_all 318 rfl rfl
set_option maxRecDepth 20000 in
theorem kw_319 : Cond.fieldLink RX6 11 "HundredthSheep$Slots" "numbers" "[[J" ∈ lw_all := z_all 319 rfl rfl
set_option maxRecDepth 20000 in
theorem kw_320 : Cond.fieldLink RX3 96 "HundredthSheep$Slots" "numbers" "[[J" ∈ lw_all := z_all 320 rfl rfl
set_option maxRecDepth 20000 in
theorem kw_321 : Cond.fieldLink RX9 316 "HundredthSheep$Slots" "numbers" "[[J" ∈ lw_all := z_all 321 rfl rfl
set_option maxRecDepth 20000 in
theorem kw_322 : Cond.fieldLink RX6 16 "HundredthSheep$Slots" "width" "[I" ∈ lw_all := z_all 322 rfl rfl
set_option maxRecDepth 20000 in
theorem kw_323 : Cond.fieldLink RX9 347 "HundredthSheep$Slots" "width" "[I" ∈ lw_all := z_all 323 rfl rfl
set_option maxRecDepth 20000 in
theorem kw_324 : Cond.fieldLink RX6 20 "HundredthSheep$Slots" "size" "[I" ∈ lw_all := z_all 324 rfl rfl
set_option maxRecDepth 20000 in
theorem kw_325 : Cond.fieldLink RX3 74 "HundredthSheep$Slots" "size" "[I" ∈ lw_all := z_all 325 rfl rfl
set_option maxRecDepth 20000 in
theorem kw_326 : Cond.fieldLink RX9 320 "HundredthSheep$Slots" "size" "[I" ∈ lw_all := z_all 326 rfl rfl
set_option maxRecDepth 20000 in
theorem kw_334 : Cond.arrayClass .boolean ∈ lw_all := z_all 334 rfl rfl
set_option maxRecDepth 20000 in
theorem kw_335 : Cond.arrayClass .long ∈ lw_all := z_all 335 rfl rfl
set_option maxRecDepth 20000 in
theorem kw_336 : Cond.classLink RX9 50 RX8 ∈ lw_all := z_all 336 rfl rfl
set_option maxRecDepth 20000 in
theorem kw_337 : Cond.instantiable RX8 8 ∈ lw_all := z_all 337 rfl rfl
set_option maxRecDepth 20000 in
theorem kw_339 : Cond.instanceMethod yX8_init ∈ lw_all := z_all 339 rfl rfl
set_option maxRecDepth 20000 in
theorem kw_340 : Cond.code yX8_init cX8_init 1 none ∈ lw_all := z_all 340 rfl rfl
set_option maxRecDepth 20000 in
theorem kw_341 : Cond.methodLink RX8 3 ⟨"java/lang/Object", "<init>", "()V"⟩ ∈ lw_all := z_all 341 rfl rfl
set_option maxRecDepth 20000 in
theorem kw_342 : Cond.fieldLink RX8 9 "HundredthSheep$Walk" "keys" "[I" ∈ lw_all := z_all 342 rfl rfl
set_option maxRecDepth 20000 in
theorem kw_343 : Cond.fieldLink RX1 34 "HundredthSheep$Walk" "keys" "[I" ∈ lw_all := z_all 343 rfl rfl
set_option maxRecDepth 20000 in
theorem kw_344 : Cond.fieldLink RX1 33 "HundredthSheep$Walk" "many" "I" ∈ lw_all := z_all 344 rfl rfl
set_option maxRecDepth 20000 in
theorem kw_345 : Cond.fieldLink RX8 24 "HundredthSheep$Walk" "many" "I" ∈ lw_all := z_all 345 rfl rfl
set_option maxRecDepth 20000 in
theorem kw_346 : Cond.fieldLink RX8 15 "HundredthSheep$Walk" "counter" "[I" ∈ lw_all := z_all 346 rfl rfl
set_option maxRecDepth 20000 in
theorem kw_347 : Cond.fieldLink RX3 57 "HundredthSheep$Walk" "counter" "[I" ∈ lw_all := z_all 347 rfl rfl
set_option maxRecDepth 20000 in
theorem kw_348 : Cond.fieldLink RX9 177 "HundredthSheep$Walk" "counter" "[I" ∈ lw_all := z_all 348 rfl rfl
set_option maxRecDepth 20000 in
theorem kw_349 : Cond.fieldLink RX8 18 "HundredthSheep$Walk" "seen" "[I" ∈ lw_all := z_all 349 rfl rfl
set_option maxRecDepth 20000 in
theorem kw_350 : Cond.fieldLink RX3 60 "HundredthSheep$Walk" "seen" "[I" ∈ lw_all := z_all 350 rfl rfl
set_option maxRecDepth 20000 in
theorem kw_351 : Cond.fieldLink RX8 21 "HundredthSheep$Walk" "owed" "[I" ∈ lw_all := z_all 351 rfl rfl
set_option maxRecDepth 20000 in
theorem kw_352 : Cond.fieldLink RX4 64 "HundredthSheep$Walk" "owed" "[I" ∈ lw_all := z_all 352 rfl rfl
set_option maxRecDepth 20000 in
theorem kw_353 : Cond.fieldLink RX9 218 "HundredthSheep$Walk" "owed" "[I" ∈ lw_all := z_all 353 rfl rfl
set_option maxRecDepth 20000 in
theorem kw_354 : Cond.fieldLink RX8 66 "HundredthSheep$Walk" "today" "I" ∈ lw_all := z_all 354 rfl rfl
set_option maxRecDepth 20000 in
theorem kw_355 : Cond.fieldLink RX9 198 "HundredthSheep$Walk" "foundDrive" "I" ∈ lw_all := z_all 355 rfl rfl
set_option maxRecDepth 20000 in
theorem kw_356 : Cond.fieldLink RX8 129 "HundredthSheep$Walk" "foundDrive" "I" ∈ lw_all := z_all 356 rfl rfl
set_option maxRecDepth 20000 in
theorem kw_357 : Cond.fieldLink RX9 201 "HundredthSheep$Walk" "foundPlace" "I" ∈ lw_all := z_all 357 rfl rfl
set_option maxRecDepth 20000 in
theorem kw_358 : Cond.fieldLink RX8 136 "HundredthSheep$Walk" "foundPlace" "I" ∈ lw_all := z_all 358 rfl rfl
set_option maxRecDepth 20000 in
theorem kw_376 : Cond.classLink RX9 57 RX4 ∈ lw_all := z_all 376 rfl rfl
set_option maxRecDepth 20000 in
theorem kw_377 : Cond.instantiable RX4 12 ∈ lw_all := z_all 377 rfl rfl
set_option maxRecDepth 20000 in
theorem kw_378 : Cond.methodLink RX9 59 yX4_init ∈ lw_all := z_all 378 rfl rfl
set_option maxRecDepth 20000 in
theorem kw_379 : Cond.instanceMethod yX4_init ∈ lw_all := z_all 379 rfl rfl
set_option maxRecDepth 20000 in
theorem kw_380 : Cond.code yX4_init cX4_init 2 none ∈ lw_all := z_all 380 rfl rfl
set_option maxRecDepth 20000 in
theorem kw_381 : Cond.methodLink RX4 3 ⟨"java/lang/Object", "<init>", "()V"⟩ ∈ lw_all := z_all 381 rfl rfl
set_option maxRecDepth 20000 in
theorem kw_382 : Cond.classLink RX4 9 RX2 ∈ lw_all := z_all 382 rfl rfl
set_option maxRecDepth 20000 in
theorem kw_383 : Cond.methodLink RX4 11 yX2_init ∈ lw_all := z_all 383 rfl rfl
set_option maxRecDepth 20000 in
theorem kw_384 : Cond.fieldLink RX4 12 "HundredthSheep$Plan" "thought" "LHundredthSheep$Moor;" ∈ lw_all := z_all 384 rfl rfl
set_option maxRecDepth 20000 in
theorem kw_385 : Cond.fieldLink RX9 256 "HundredthSheep$Plan" "thought" "LHundredthSheep$Moor;" ∈ lw_all := z_all 385 rfl rfl
set_option maxRecDepth 20000 in
theorem kw_386 : Cond.fieldLink RX4 22 "HundredthSheep$Plan" "walk" "LHundredthSheep$Walk;" ∈ lw_all := z_all 386 rfl rfl
set_option maxRecDepth 20000 in
theorem kw_387 : Cond.fieldLink RX4 18 "HundredthSheep$Plan" "others" "[I" ∈ lw_all := z_all 387 rfl rfl
set_option maxRecDepth 20000 in
theorem kw_388 : Cond.fieldLink RX4 48 "HundredthSheep$Plan" "least" "I" ∈ lw_all := z_all 388 rfl rfl
set_option maxRecDepth 20000 in
theorem kw_389 : Cond.fieldLink RX9 230 "HundredthSheep$Plan" "least" "I" ∈ lw_all := z_all 389 rfl rfl
set_option maxRecDepth 20000 in
theorem kw_390 : Cond.fieldLink RX4 73 "HundredthSheep$Plan" "gap" "I" ∈ lw_all := z_all 390 rfl rfl
set_option maxRecDepth 20000 in
theorem kw_391 : Cond.fieldLink RX9 233 "HundredthSheep$Plan" "gap" "I" ∈ lw_all := z_all 391 rfl rfl
set_option maxRecDepth 20000 in
theorem kw_392 : Cond.fieldLink RX4 74 "HundredthSheep$Plan" "hour" "I" ∈ lw_all := z_all 392 rfl rfl
set_option maxRecDepth 20000 in
theorem kw_393 : Cond.fieldLink RX9 234 "HundredthSheep$Plan" "hour" "I" ∈ lw_all := z_all 393 rfl rfl
set_option maxRecDepth 20000 in
theorem kw_394 : Cond.fieldLink RX4 97 "HundredthSheep$Plan" "splitLeast" "I" ∈ lw_all := z_all 394 rfl rfl
set_option maxRecDepth 20000 in
theorem kw_395 : Cond.fieldLink RX9 238 "HundredthSheep$Plan" "splitLeast" "I" ∈ lw_all := z_all 395 rfl rfl
set_option maxRecDepth 20000 in
theorem kw_396 : Cond.fieldLink RX4 103 "HundredthSheep$Plan" "splitStay" "I" ∈ lw_all := z_all 396 rfl rfl
set_option maxRecDepth 20000 in
theorem kw_397 : Cond.fieldLink RX9 241 "HundredthSheep$Plan" "splitStay" "I" ∈ lw_all := z_all 397 rfl rfl
set_option maxRecDepth 20000 in
theorem kw_398 : Cond.fieldLink RX4 106 "HundredthSheep$Plan" "splitGap" "I" ∈ lw_all := z_all 398 rfl rfl
set_option maxRecDepth 20000 in
theorem kw_399 : Cond.fieldLink RX9 244 "HundredthSheep$Plan" "splitGap" "I" ∈ lw_all := z_all 399 rfl rfl
set_option maxRecDepth 20000 in
theorem kw_400 : Cond.fieldLink RX4 109 "HundredthSheep$Plan" "splitHour" "I" ∈ lw_all := z_all 400 rfl rfl
set_option maxRecDepth 20000 in
theorem kw_401 : Cond.fieldLink RX9 247 "HundredthSheep$Plan" "splitHour" "I" ∈ lw_all := z_all 401 rfl rfl
set_option maxRecDepth 20000 in
theorem kw_402 : Cond.fieldLink RX4 120 "HundredthSheep$Plan" "eweOwner" "I" ∈ lw_all := z_all 402 rfl rfl
set_option maxRecDepth 20000 in
theorem kw_403 : Cond.fieldLink RX4 126 "HundredthSheep$Plan" "eweBefore" "I" ∈ lw_all := z_all 403 rfl rfl
set_option maxRecDepth 20000 in
theorem kw_429 : Cond.classLink RX9 66 RX3 ∈ lw_all := z_all 429 rfl rfl
set_option maxRecDepth 20000 in
theorem kw_430 : Cond.instantiable RX3 6 ∈ lw_all := z_all 430 rfl rfl
set_option maxRecDepth 20000 in
theorem kw_431 : Cond.methodLink RX9 68 yX3_init ∈ lw_all := z_all 431 rfl rfl
set_option maxRecDepth 20000 in
theorem kw_432 : Cond.instanceMethod yX3_init ∈ lw_all := z_all 432 rfl rfl
set_option maxRecDepth 20000 in
theorem kw_433 : Cond.code yX3_init cX3_init 2 none ∈ lw_all := z_all 433 rfl rfl
set_option maxRecDepth 20000 in
theorem kw_434 : Cond.methodLink RX3 3 ⟨"java/lang/Object", "<init>", "()V"⟩ ∈ lw_all := z_all 434 rfl rfl
set_option maxRecDepth 20000 in
theorem kw_435 : Cond.fieldLink RX3 21 "HundredthSheep$Orders" "walk" "LHundredthSheep$Walk;" ∈ lw_all := z_all 435 rfl rfl
set_option maxRecDepth 20000 in
theorem kw_436 : Cond.fieldLink RX3 9 "HundredthSheep$Orders" "line" "[I" ∈ lw_all := z_all 436 rfl rfl
set_option maxRecDepth 20000 in
theorem kw_437 : Cond.fieldLink RX3 15 "HundredthSheep$Orders" "first" "[I" ∈ lw_all := z_all 437 rfl rfl
set_option maxRecDepth 20000 in
theorem kw_438 : Cond.fieldLink RX9 288 "HundredthSheep$Orders" "first" "[I" ∈ lw_all := z_all 438 rfl rfl
set_option maxRecDepth 20000 in
theorem kw_439 : Cond.fieldLink RX3 18 "HundredthSheep$Orders" "spot" "[I" ∈ lw_all := z_all 439 rfl rfl
set_option maxRecDepth 20000 in
theorem kw_440 : Cond.fieldLink RX9 291 "HundredthSheep$Orders" "spot" "[I" ∈ lw_all := z_all 440 rfl rfl
set_option maxRecDepth 20000 in
theorem kw_441 : Cond.fieldLink RX3 25 "HundredthSheep$Orders" "many" "I" ∈ lw_all := z_all 441 rfl rfl
set_option maxRecDepth 20000 in
theorem kw_442 : Cond.fieldLink RX9 285 "HundredthSheep$Orders" "many" "I" ∈ lw_all := z_all 442 rfl rfl
set_option maxRecDepth 20000 in
theorem kw_443 : Cond.fieldLink RX3 38 "HundredthSheep$Orders" "found" "I" ∈ lw_all := z_all 443 rfl rfl
set_option maxRecDepth 20000 in
theorem kw_444 : Cond.fieldLink RX9 282 "HundredthSheep$Orders" "found" "I" ∈ lw_all := z_all 444 rfl rfl
set_option maxRecDepth 20000 in
theorem kw_458 : Cond.classLink RX9 73 RX1 ∈ lw_all := z_all 458 rfl rfl
set_option maxRecDepth 20000 in
theorem kw_459 : Cond.instantiable RX1 4 ∈ lw_all := z_all 459 rfl rfl
set_option maxRecDepth 20000 in
theorem kw_460 : Cond.methodLink RX9 75 yX1_init ∈ lw_all := z_all 460 rfl rfl
set_option maxRecDepth 20000 in
theorem kw_461 : Cond.instanceMethod yX1_init ∈ lw_all := z_all 461 rfl rfl
set_option maxRecDepth 20000 in
theorem kw_462 : Cond.code yX1_init cX1_init 2 none ∈ lw_all := z_all 462 rfl rfl
set_option maxRecDepth 20000 in
theorem kw_463 : Cond.methodLink RX1 3 ⟨"java/lang/Object", "<init>", "()V"⟩ ∈ lw_all := z_all 463 rfl rfl
set_option maxRecDepth 20000 in
theorem kw_464 : Cond.fieldLink RX1 15 "HundredthSheep$Mix" "walk" "LHundredthSheep$Walk;" ∈ lw_all := z_all 464 rfl rfl
set_option maxRecDepth 20000 in
theorem kw_465 : Cond.fieldLink RX1 9 "HundredthSheep$Mix" "beasts" "[B" ∈ lw_all := z_all 465 rfl rfl
set_option maxRecDepth 20000 in
theorem kw_466 : Cond.fieldLink RX1 29 "HundredthSheep$Mix" "many" "I" ∈ lw_all := z_all 466 rfl rfl
set_option maxRecDepth 20000 in
theorem kw_467 : Cond.fieldLink RX1 19 "HundredthSheep$Mix" "x" "J" ∈ lw_all := z_all 467 rfl rfl
set_option maxRecDepth 20000 in
theorem kw_477 : Cond.fieldLink RX9 10 "HundredthSheep" "tape" "LHundredthSheep$Tape;" ∈ lw_all := z_all 477 rfl rfl
set_option maxRecDepth 20000 in
theorem kw_478 : Cond.fieldLink RX9 31 "HundredthSheep" "reader" "LHundredthSheep$Reader;" ∈ lw_all := z_all 478 rfl rfl
set_option maxRecDepth 20000 in
theorem kw_479 : Cond.fieldLink RX9 19 "HundredthSheep" "moor" "LHundredthSheep$Moor;" ∈ lw_all := z_all 479 rfl rfl
set_option maxRecDepth 20000 in
theorem kw_480 : Cond.fieldLink RX9 23 "HundredthSheep" "draft" "LHundredthSheep$Moor;" ∈ lw_all := z_all 480 rfl rfl
set_option maxRecDepth 20000 in
theorem kw_481 : Cond.fieldLink RX9 35 "HundredthSheep" "images" "[LHundredthSheep$Moor;" ∈ lw_all := z_all 481 rfl rfl
set_option maxRecDepth 20000 in
theorem kw_482 : Cond.fieldLink RX9 39 "HundredthSheep" "kept" "[Z" ∈ lw_all := z_all 482 rfl rfl
set_option maxRecDepth 20000 in
theorem kw_483 : Cond.fieldLink RX9 46 "HundredthSheep" "slots" "LHundredthSheep$Slots;" ∈ lw_all := z_all 483 rfl rfl
set_option maxRecDepth 20000 in
theorem kw_484 : Cond.fieldLink RX9 53 "HundredthSheep" "walk" "LHundredthSheep$Walk;" ∈ lw_all := z_all 484 rfl rfl
set_option maxRecDepth 20000 in
theorem kw_485 : Cond.fieldLink RX9 62 "HundredthSheep" "plan" "LHundredthSheep$Plan;" ∈ lw_all := z_all 485 rfl rfl
set_option maxRecDepth 20000 in
theorem kw_486 : Cond.fieldLink RX9 69 "HundredthSheep" "explained" "LHundredthSheep$Orders;" ∈ lw_all := z_all 486 rfl rfl
set_option maxRecDepth 20000 in
theorem kw_487 : Cond.fieldLink RX9 76 "HundredthSheep" "mix" "LHundredthSheep$Mix;" ∈ lw_all := z_all 487 rfl rfl
set_option maxRecDepth 20000 in
theorem kw_511 : Cond.methodLink RL 13 yX9_feed ∈ lw_all := z_all 511 rfl rfl
set_option maxRecDepth 20000 in
theorem kw_512 : Cond.instanceMethod yX9_feed ∈ lw_all := z_all 512 rfl rfl
set_option maxRecDepth 20000 in
theorem kw_513 : Cond.selects RX9 yX9_feed yX9_feed ∈ lw_all := z_all 513 rfl rfl
set_option maxRecDepth 20000 in
theorem kw_514 : Cond.code yX9_feed cX9_feed 6 (some .int) ∈ lw_all := z_all 514 rfl rfl
set_option maxRecDepth 20000 in
theorem kw_515 : Cond.methodLink RX9 84 yX7_append ∈ lw_all := z_all 515 rfl rfl
set_option maxRecDepth 20000 in
theorem kw_516 : Cond.instanceMethod yX7_append ∈ lw_all := z_all 516 rfl rfl
set_option maxRecDepth 20000 in
theorem kw_517 : Cond.selects RX7 yX7_append yX7_append ∈ lw_all := z_all 517 rfl rfl
set_option maxRecDepth 20000 in
theorem kw_518 : Cond.code yX7_append cX7_append 3 none ∈ lw_all := z_all 518 rfl rfl
set_option maxRecDepth 20000 in
theorem kw_519 : Cond.methodLink RL 18 yX9_end ∈ lw_all := z_all 519 rfl rfl
set_option maxRecDepth 20000 in
theorem kw_520 : Cond.instanceMethod yX9_end ∈ lw_all := z_all 520 rfl rfl
set_option maxRecDepth 20000 in
theorem kw_521 : Cond.selects RX9 yX9_end yX9_end ∈ lw_all := z_all 521 rfl rfl
set_option maxRecDepth 20000 in
theorem kw_522 : Cond.code yX9_end cX9_end 2 (some .int) ∈ lw_all := z_all 522 rfl rfl
set_option maxRecDepth 20000 in
theorem kw_523 : Cond.methodLink RL 23 yX9_moor ∈ lw_all := z_all 523 rfl rfl
set_option maxRecDepth 20000 in
theorem kw_524 : Cond.instanceMethod yX9_moor ∈ lw_all := z_all 524 rfl rfl
set_option maxRecDepth 20000 in
theorem kw_525 : Cond.selects RX9 yX9_moor yX9_moor ∈ lw_all := z_all 525 rfl rfl
set_option maxRecDepth 20000 in
theorem kw_526 : Cond.code yX9_moor cX9_moor 2 (some .int) ∈ lw_all := z_all 526 rfl rfl
set_option maxRecDepth 20000 in
theorem kw_527 : Cond.methodLink RX9 88 yX5_begin ∈ lw_all := z_all 527 rfl rfl
set_option maxRecDepth 20000 in
theorem kw_528 : Cond.instanceMethod yX5_begin ∈ lw_all := z_all 528 rfl rfl
set_option maxRecDepth 20000 in
theorem kw_529 : Cond.selects RX5 yX5_begin yX5_begin ∈ lw_all := z_all 529 rfl rfl
set_option maxRecDepth 20000 in
theorem kw_530 : Cond.code yX5_begin cX5_begin 1 none ∈ lw_all := z_all 530 rfl rfl
set_option maxRecDepth 20000 in
theorem kw_531 : Cond.methodLink RX5 33 yX2_forget ∈ lw_all := z_all 531 rfl rfl
set_option maxRecDepth 20000 in
theorem kw_532 : Cond.instanceMethod yX2_forget ∈ lw_all := z_all 532 rfl rfl
set_option maxRecDepth 20000 in
theorem kw_533 : Cond.selects RX2 yX2_forget yX2_forget ∈ lw_all := z_all 533 rfl rfl
set_option maxRecDepth 20000 in
theorem kw_534 : Cond.code yX2_forget cX2_forget 1 none ∈ lw_all := z_all 534 rfl rfl
set_option maxRecDepth 20000 in
theorem kw_535 : Cond.methodLink RX2 50 yJ7_fill_53178 ∈ lw_all := z_all 535 rfl rfl
set_option maxRecDepth 20000 in
theorem kw_536 : Cond.methodLink RX5 38 yX5_step ∈ lw_all := z_all 536 rfl rfl
set_option maxRecDepth 20000 in
theorem kw_538 : Cond.instanceMethod yX5_step ∈ lw_all := z_all 538 rfl rfl
set_option maxRecDepth 20000 in
theorem kw_539 : Cond.code yX5_step cX5_step 3 none ∈ lw_all := z_all 539 rfl rfl
set_option maxRecDepth 20000 in
theorem kw_540 : Cond.methodLink RX5 56 yJ9_min_7cf53 ∈ lw_all := z_all 540 rfl rfl
set_option maxRecDepth 20000 in
theorem kw_541 : Cond.static yJ9_min_7cf53 ∈ lw_all := z_all 541 rfl rfl
set_option maxRecDepth 20000 in
theorem kw_542 : Cond.code yJ9_min_7cf53 cJ9_min_7cf53 2 (some .int) ∈ lw_all := z_all 542 rfl rfl
set_option maxRecDepth 20000 in
theorem kw_543 : Cond.methodLink RX5 62 yX5_isBlank ∈ lw_all := z_all 543 rfl rfl
set_option maxRecDepth 20000 in
theorem kw_544 : Cond.static yX5_isBlank ∈ lw_all := z_all 544 rfl rfl
set_option maxRecDepth 20000 in
theorem kw_545 : Cond.code yX5_isBlank cX5_isBlank 1 (some .boolean) ∈ lw_all := z_all 545 rfl rfl
set_option maxRecDepth 20000 in
theorem kw_546 : Cond.methodLink RX5 66 yX5_isLetter ∈ lw_all := z_all 546 rfl rfl
set_option maxRecDepth 20000 in
theorem kw_547 : Cond.static yX5_isLetter ∈ lw_all := z_all 547 rfl rfl
set_option maxRecDepth 20000 in
theorem kw_548 : Cond.code yX5_isLetter cX5_isLetter 1 (some .boolean) ∈ lw_all := z_all 548 rfl rfl
set_option maxRecDepth 20000 in
theorem kw_549 : Cond.methodLink RX5 69 yX5_isDigit ∈ lw_all := z_all 549 rfl rfl
set_option maxRecDepth 20000 in
theorem kw_550 : Cond.static yX5_isDigit ∈ lw_all := z_all 550 rfl rfl
set_option maxRecDepth 20000 in
theorem kw_551 : Cond.code yX5_isDigit cX5_isDigit 1 (some .boolean) ∈ lw_all := z_all 551 rfl rfl
set_option maxRecDepth 20000 in
theorem kw_552 : Cond.constant RX5 75 (100000) ∈ lw_all := z_all 552 rfl rfl
set_option maxRecDepth 20000 in
theorem kw_553 : Cond.methodLink RX9 91 yX5_hasMore ∈ lw_all := z_all 553 rfl rfl
set_option maxRecDepth 20000 in
theorem kw_554 : Cond.instanceMethod yX5_hasMore ∈ lw_all := z_all 554 rfl rfl
set_option maxRecDepth 20000 in
theorem kw_555 : Cond.selects RX5 yX5_hasMore yX5_hasMore ∈ lw_all := z_all 555 rfl rfl
set_option maxRecDepth 20000 in
theorem kw_556 : Cond.code yX5_hasMore cX5_hasMore 1 (some .boolean) ∈ lw_all := z_all 556 rfl rfl
set_option maxRecDepth 20000 in
theorem kw_557 : Cond.methodLink RX9 95 yX5_readLine ∈ lw_all := z_all 557 rfl rfl
set_option maxRecDepth 20000 in
theorem kw_558 : Cond.instanceMethod yX5_readLine ∈ lw_all := z_all 558 rfl rfl
set_option maxRecDepth 20000 in
theorem kw_559 : Cond.selects RX5 yX5_readLine yX5_readLine ∈ lw_all := z_all 559 rfl rfl
set_option maxRecDepth 20000 in
theorem kw_560 : Cond.code yX5_readLine cX5_readLine 1 none ∈ lw_all := z_all 560 rfl rfl
set_option maxRecDepth 20000 in
theorem kw_561 : Cond.methodLink RX5 102 yX5_readMoor ∈ lw_all := z_all 561 rfl rfl
set_option maxRecDepth 20000 in
theorem kw_563 : Cond.instanceMethod yX5_readMoor ∈ lw_all := z_all 563 rfl rfl
set_option maxRecDepth 20000 in
theorem kw_564 : Cond.code yX5_readMoor cX5_readMoor 1 none ∈ lw_all := z_all 564 rfl rfl
set_option maxRecDepth 20000 in
theorem kw_566 : Cond.methodLink RX5 93 yX5_take ∈ lw_all := z_all 566 rfl rfl
set_option maxRecDepth 20000 in
theorem kw_568 : Cond.instanceMethod yX5_take ∈ lw_all := z_all 568 rfl rfl
set_option maxRecDepth 20000 in
theorem kw_569 : Cond.code yX5_take cX5_take 2 none ∈ lw_all := z_all 569 rfl rfl
set_option maxRecDepth 20000 in
theorem kw_570 : Cond.methodLink RX5 85 yX5_sees ∈ lw_all := z_all 570 rfl rfl
set_option maxRecDepth 20000 in
theorem kw_572 : Cond.instanceMethod yX5_sees ∈ lw_all := z_all 572 rfl rfl
set_option maxRecDepth 20000 in
theorem kw_573 : Cond.code yX5_sees cX5_sees 3 (some .boolean) ∈ lw_all := z_all 573 rfl rfl
set_option maxRecDepth 20000 in
theorem kw_574 : Cond.methodLink RX5 76 yJ0_length_8abf5 ∈ lw_all := z_all 574 rfl rfl
set_option maxRecDepth 20000 in
theorem kw_575 : Cond.instanceMethod yJ0_length_8abf5 ∈ lw_all := z_all 575 rfl rfl
set_option maxRecDepth 20000 in
theorem kw_576 : Cond.selects RJ0 yJ0_length_8abf5 yJ0_length_8abf5 ∈ lw_all := z_all 576 rfl rfl
set_option maxRecDepth 20000 in
theorem kw_577 : Cond.code yJ0_length_8abf5 cJ0_length_8abf5 1 (some .int) ∈ lw_all := z_all 577 rfl rfl
set_option maxRecDepth 20000 in
theorem kw_578 : Cond.methodLink RJ0 335 yJ0_coder_7d493 ∈ lw_all := z_all 578 rfl rfl
set_option maxRecDepth 20000 in
theorem kw_579 : Cond.instanceMethod yJ0_coder_7d493 ∈ lw_all := z_all 579 rfl rfl
set_option maxRecDepth 20000 in
theorem kw_580 : Cond.selects RJ0 yJ0_coder_7d493 yJ0_coder_7d493 ∈ lw_all := z_all 580 rfl rfl
set_option maxRecDepth 20000 in
theorem kw_581 : Cond.code yJ0_coder_7d493 cJ0_coder_7d493 1 (some .byte) ∈ lw_all := z_all 581 rfl rfl
set_option maxRecDepth 20000 in
theorem kw_582 : Cond.fieldLink RJ0 38 "java/lang/String" "COMPACT_STRINGS" "Z" ∈ lw_all := z_all 582 rfl rfl
set_option maxRecDepth 20000 in
theorem kw_584 : Cond.methodLink RX5 81 yJ0_charAt_5068e ∈ lw_all := z_all 584 rfl rfl
set_option maxRecDepth 20000 in
theorem kw_585 : Cond.instanceMethod yJ0_charAt_5068e ∈ lw_all := z_all 585 rfl rfl
set_option maxRecDepth 20000 in
theorem kw_586 : Cond.selects RJ0 yJ0_charAt_5068e yJ0_charAt_5068e ∈ lw_all := z_all 586 rfl rfl
set_option maxRecDepth 20000 in
theorem kw_587 : Cond.code yJ0_charAt_5068e cJ0_charAt_5068e 2 (some .char) ∈ lw_all := z_all 587 rfl rfl
set_option maxRecDepth 20000 in
theorem kw_588 : Cond.methodLink RJ0 492 yJ0_isLatin1_aae02 ∈ lw_all := z_all 588 rfl rfl
set_option maxRecDepth 20000 in
theorem kw_589 : Cond.instanceMethod yJ0_isLatin1_aae02 ∈ lw_all := z_all 589 rfl rfl
set_option maxRecDepth 20000 in
theorem kw_590 : Cond.selects RJ0 yJ0_isLatin1_aae02 yJ0_isLatin1_aae02 ∈ lw_all := z_all 590 rfl rfl
set_option maxRecDepth 20000 in
theorem kw_591 : Cond.code yJ0_isLatin1_aae02 cJ0_isLatin1_aae02 1 (some .boolean) ∈ lw_all := z_all 591 rfl rfl
set_option maxRecDepth 20000 in
theorem kw_592 : Cond.methodLink RJ0 495 yJ1_charAt_3b067 ∈ lw_all := z_all 592 rfl rfl
set_option maxRecDepth 20000 in
theorem kw_593 : Cond.static yJ1_charAt_3b067 ∈ lw_all := z_all 593 rfl rfl
set_option maxRecDepth 20000 in
theorem kw_594 : Cond.code yJ1_charAt_3b067 cJ1_charAt_3b067 2 (some .char) ∈ lw_all := z_all 594 rfl rfl
set_option maxRecDepth 20000 in
theorem kw_595 : Cond.methodLink RJ1 9 yJ0_checkIndex_df160 ∈ lw_all := z_all 595 rfl rfl
set_option maxRecDepth 20000 in
theorem kw_596 : Cond.static yJ0_checkIndex_df160 ∈ lw_all := z_all 596 rfl rfl
set_option maxRecDepth 20000 in
theorem kw_597 : Cond.code yJ0_checkIndex_df160 cJ0_checkIndex_df160 2 none ∈ lw_all := z_all 597 rfl rfl
set_option maxRecDepth 20000 in
theorem kw_598 : Cond.fieldLink RJ0 1053 "jdk/internal/util/Preconditions" "SIOOBE_FORMATTER" "Ljava/util/function/BiFunction;" ∈ lw_all := z_all 598 rfl rfl
set_option maxRecDepth 20000 in
theorem kw_600 : Cond.methodLink RJ0 1059 yJ3_checkIndex_8e157 ∈ lw_all := z_all 600 rfl rfl
set_option maxRecDepth 20000 in
theorem kw_601 : Cond.static yJ3_checkIndex_8e157 ∈ lw_all := z_all 601 rfl rfl
set_option maxRecDepth 20000 in
theorem kw_602 : Cond.code yJ3_checkIndex_8e157 cJ3_checkIndex_8e157 3 (some .int) ∈ lw_all := z_all 602 rfl rfl
set_option maxRecDepth 20000 in
theorem kw_603 : Cond.methodLink RJ0 498 yJ2_charAt_3b067 ∈ lw_all := z_all 603 rfl rfl
set_option maxRecDepth 20000 in
theorem kw_604 : Cond.static yJ2_charAt_3b067 ∈ lw_all := z_all 604 rfl rfl
set_option maxRecDepth 20000 in
theorem kw_605 : Cond.code yJ2_charAt_3b067 cJ2_charAt_3b067 2 (some .char) ∈ lw_all := z_all 605 rfl rfl
set_option maxRecDepth 20000 in
theorem kw_606 : Cond.methodLink RJ2 67 yJ2_checkIndex_2214a ∈ lw_all := z_all 606 rfl rfl
set_option maxRecDepth 20000 in
theorem kw_607 : Cond.static yJ2_checkIndex_2214a ∈ lw_all := z_all 607 rfl rfl
set_option maxRecDepth 20000 in
theorem kw_608 : Cond.code yJ2_checkIndex_2214a cJ2_checkIndex_2214a 2 none ∈ lw_all := z_all 608 rfl rfl
set_option maxRecDepth 20000 in
theorem kw_609 : Cond.methodLink RJ2 48 yJ2_length_9d52b ∈ lw_all := z_all 609 rfl rfl
set_option maxRecDepth 20000 in
theorem kw_610 : Cond.static yJ2_length_9d52b ∈ lw_all := z_all 610 rfl rfl
set_option maxRecDepth 20000 in
theorem kw_611 : Cond.code yJ2_length_9d52b cJ2_length_9d52b 1 (some .int) ∈ lw_all := z_all 611 rfl rfl
set_option maxRecDepth 20000 in
theorem kw_612 : Cond.methodLink RJ2 414 yJ0_checkIndex_df160 ∈ lw_all := z_all 612 rfl rfl
set_option maxRecDepth 20000 in
theorem kw_613 : Cond.methodLink RJ2 71 yJ2_getChar_3b067 ∈ lw_all := z_all 613 rfl rfl
set_option maxRecDepth 20000 in
theorem kw_614 : Cond.static yJ2_getChar_3b067 ∈ lw_all := z_all 614 rfl rfl
set_option maxRecDepth 20000 in
theorem kw_615 : Cond.code yJ2_getChar_3b067 cJ2_getChar_3b067 2 (some .char) ∈ lw_all := z_all 615 rfl rfl
set_option maxRecDepth 20000 in
theorem kw_616 : Cond.fieldLink RJ2 44 "java/lang/StringUTF16" "$assertionsDisabled" "Z" ∈ lw_all := z_all 616 rfl rfl
set_option maxRecDepth 20000 in
theorem kw_618 : Cond.fieldLink RJ2 59 "java/lang/StringUTF16" "HI_BYTE_SHIFT" "I" ∈ lw_all := z_all 618 rfl rfl
set_option maxRecDepth 20000 in
theorem kw_620 : Cond.fieldLink RJ2 63 "java/lang/StringUTF16" "LO_BYTE_SHIFT" "I" ∈ lw_all := z_all 620 rfl rfl
set_option maxRecDepth 20000 in
theorem kw_622 : Cond.methodLink RX5 89 yX5_refuse ∈ lw_all := z_all 622 rfl rfl
set_option maxRecDepth 20000 in
theorem kw_624 : Cond.instanceMethod yX5_refuse ∈ lw_all := z_all 624 rfl rfl
set_option maxRecDepth 20000 in
theorem kw_625 : Cond.code yX5_refuse cX5_refuse 2 none ∈ lw_all := z_all 625 rfl rfl
set_option maxRecDepth 20000 in
theorem kw_627 : Cond.methodLink RX5 130 yX5_takeNamed ∈ lw_all := z_all 627 rfl rfl
set_option maxRecDepth 20000 in
theorem kw_629 : Cond.instanceMethod yX5_takeNamed ∈ lw_all := z_all 629 rfl rfl
set_option maxRecDepth 20000 in
theorem kw_630 : Cond.code yX5_takeNamed cX5_takeNamed 4 (some .int) ∈ lw_all := z_all 630 rfl rfl
set_option maxRecDepth 20000 in
theorem kw_631 : Cond.methodLink RX5 97 yX5_take_ ∈ lw_all := z_all 631 rfl rfl
set_option maxRecDepth 20000 in
theorem kw_633 : Cond.instanceMethod yX5_take_ ∈ lw_all := z_all 633 rfl rfl
set_option maxRecDepth 20000 in
theorem kw_634 : Cond.code yX5_take_ cX5_take_ 4 (some .int) ∈ lw_all := z_all 634 rfl rfl
set_option maxRecDepth 20000 in
theorem kw_639 : Cond.methodLink RX5 107 yX5_tries ∈ lw_all := z_all 639 rfl rfl
set_option maxRecDepth 20000 in
theorem kw_641 : Cond.instanceMethod yX5_tries ∈ lw_all := z_all 641 rfl rfl
set_option maxRecDepth 20000 in
theorem kw_642 : Cond.code yX5_tries cX5_tries 2 (some .boolean) ∈ lw_all := z_all 642 rfl rfl
set_option maxRecDepth 20000 in
theorem kw_643 : Cond.methodLink RX5 110 yX5_readLaw ∈ lw_all := z_all 643 rfl rfl
set_option maxRecDepth 20000 in
theorem kw_645 : Cond.instanceMethod yX5_readLaw ∈ lw_all := z_all 645 rfl rfl
set_option maxRecDepth 20000 in
theorem kw_646 : Cond.code yX5_readLaw cX5_readLaw 1 none ∈ lw_all := z_all 646 rfl rfl
set_option maxRecDepth 20000 in
theorem kw_653 : Cond.methodLink RX5 115 yX5_readOwners ∈ lw_all := z_all 653 rfl rfl
set_option maxRecDepth 20000 in
theorem kw_655 : Cond.instanceMethod yX5_readOwners ∈ lw_all := z_all 655 rfl rfl
set_option maxRecDepth 20000 in
theorem kw_656 : Cond.code yX5_readOwners cX5_readOwners 1 none ∈ lw_all := z_all 656 rfl rfl
set_option maxRecDepth 20000 in
theorem kw_658 : Cond.methodLink RX5 120 yX5_readStart ∈ lw_all := z_all 658 rfl rfl
set_option maxRecDepth 20000 in
theorem kw_660 : Cond.instanceMethod yX5_readStart ∈ lw_all := z_all 660 rfl rfl
set_option maxRecDepth 20000 in
theorem kw_661 : Cond.code yX5_readStart cX5_readStart 3 none ∈ lw_all := z_all 661 rfl rfl
set_option maxRecDepth 20000 in
theorem kw_666 : Cond.methodLink RX5 139 yX5_readDrive ∈ lw_all := z_all 666 rfl rfl
set_option maxRecDepth 20000 in
theorem kw_668 : Cond.instanceMethod yX5_readDrive ∈ lw_all := z_all 668 rfl rfl
set_option maxRecDepth 20000 in
theorem kw_669 : Cond.code yX5_readDrive cX5_readDrive 2 none ∈ lw_all := z_all 669 rfl rfl
set_option maxRecDepth 20000 in
theorem kw_675 : Cond.methodLink RX5 212 yX5_takePainter ∈ lw_all := z_all 675 rfl rfl
set_option maxRecDepth 20000 in
theorem kw_677 : Cond.instanceMethod yX5_takePainter ∈ lw_all := z_all 677 rfl rfl
set_option maxRecDepth 20000 in
theorem kw_678 : Cond.code yX5_takePainter cX5_takePainter 2 (some .int) ∈ lw_all := z_all 678 rfl rfl
set_option maxRecDepth 20000 in
theorem kw_681 : Cond.methodLink RX5 144 yX5_readFog ∈ lw_all := z_all 681 rfl rfl
set_option maxRecDepth 20000 in
theorem kw_683 : Cond.instanceMethod yX5_readFog ∈ lw_all := z_all 683 rfl rfl
set_option maxRecDepth 20000 in
theorem kw_684 : Cond.code yX5_readFog cX5_readFog 4 none ∈ lw_all := z_all 684 rfl rfl
set_option maxRecDepth 20000 in
theorem kw_686 : Cond.methodLink RX5 147 yX5_takeSign ∈ lw_all := z_all 686 rfl rfl
set_option maxRecDepth 20000 in
theorem kw_688 : Cond.instanceMethod yX5_takeSign ∈ lw_all := z_all 688 rfl rfl
set_option maxRecDepth 20000 in
theorem kw_689 : Cond.code yX5_takeSign cX5_takeSign 1 none ∈ lw_all := z_all 689 rfl rfl
set_option maxRecDepth 20000 in
theorem kw_690 : Cond.methodLink RX9 101 yX2_copy ∈ lw_all := z_all 690 rfl rfl
set_option maxRecDepth 20000 in
theorem kw_691 : Cond.instanceMethod yX2_copy ∈ lw_all := z_all 691 rfl rfl
set_option maxRecDepth 20000 in
theorem kw_692 : Cond.selects RX2 yX2_copy yX2_copy ∈ lw_all := z_all 692 rfl rfl
set_option maxRecDepth 20000 in
theorem kw_693 : Cond.code yX2_copy cX2_copy 3 none ∈ lw_all := z_all 693 rfl rfl
set_option maxRecDepth 20000 in
theorem kw_694 : Cond.methodLink RX2 56 ⟨"java/lang/System", "arraycopy", "(Ljava/lang/Object;ILjava/lang/Object;II)V"⟩ ∈ lw_all := z_all 694 rfl rfl
set_option maxRecDepth 20000 in
theorem kw_695 : Cond.static ⟨"java/lang/System", "arraycopy", "(Ljava/lang/Object;ILjava/lang/Object;II)V"⟩ ∈ lw_all := z_all 695 rfl rfl
set_option maxRecDepth 20000 in
theorem kw_696 : Cond.native ⟨"java/lang/System", "arraycopy", "(Ljava/lang/Object;ILjava/lang/Object;II)V"⟩ ∈ lw_all := z_all 696 rfl rfl
set_option maxRecDepth 20000 in
theorem kw_697 : Cond.methodLink RX2 62 yX0_copy ∈ lw_all := z_all 697 rfl rfl
set_option maxRecDepth 20000 in
theorem kw_698 : Cond.instanceMethod yX0_copy ∈ lw_all := z_all 698 rfl rfl
set_option maxRecDepth 20000 in
theorem kw_699 : Cond.selects RX0 yX0_copy yX0_copy ∈ lw_all := z_all 699 rfl rfl
set_option maxRecDepth 20000 in
theorem kw_700 : Cond.code yX0_copy cX0_copy 2 none ∈ lw_all := z_all 700 rfl rfl
set_option maxRecDepth 20000 in
theorem kw_701 : Cond.methodLink RL 28 yX9_fault ∈ lw_all := z_all 701 rfl rfl
set_option maxRecDepth 20000 in
theorem kw_702 : Cond.instanceMethod yX9_fault ∈ lw_all := z_all 702 rfl rfl
set_option maxRecDepth 20000 in
theorem kw_703 : Cond.selects RX9 yX9_fault yX9_fault ∈ lw_all := z_all 703 rfl rfl
set_option maxRecDepth 20000 in
theorem kw_704 : Cond.code yX9_fault cX9_fault 2 (some .int) ∈ lw_all := z_all 704 rfl rfl
set_option maxRecDepth 20000 in
theorem kw_705 : Cond.methodLink RL 32 yX9_drive ∈ lw_all := z_all 705 rfl rfl
set_option maxRecDepth 20000 in
theorem kw_706 : Cond.instanceMethod yX9_drive ∈ lw_all := z_all 706 rfl rfl
set_option maxRecDepth 20000 in
theorem kw_707 : Cond.selects RX9 yX9_drive yX9_drive ∈ lw_all := z_all 707 rfl rfl
set_option maxRecDepth 20000 in
theorem kw_708 : Cond.code yX9_drive cX9_drive 4 (some .int) ∈ lw_all := z_all 708 rfl rfl
set_option maxRecDepth 20000 in
theorem kw_709 : Cond.methodLink RX9 111 yX2_hasDrive ∈ lw_all := z_all 709 rfl rfl
set_option maxRecDepth 20000 in
theorem kw_710 : Cond.instanceMethod yX2_hasDrive ∈ lw_all := z_all 710 rfl rfl
set_option maxRecDepth 20000 in
theorem kw_711 : Cond.selects RX2 yX2_hasDrive yX2_hasDrive ∈ lw_all := z_all 711 rfl rfl
set_option maxRecDepth 20000 in
theorem kw_712 : Cond.code yX2_hasDrive cX2_hasDrive 2 (some .boolean) ∈ lw_all := z_all 712 rfl rfl
set_option maxRecDepth 20000 in
theorem kw_713 : Cond.methodLink RL 37 yX9_goes ∈ lw_all := z_all 713 rfl rfl
set_option maxRecDepth 20000 in
theorem kw_714 : Cond.instanceMethod yX9_goes ∈ lw_all := z_all 714 rfl rfl
set_option maxRecDepth 20000 in
theorem kw_715 : Cond.selects RX9 yX9_goes yX9_goes ∈ lw_all := z_all 715 rfl rfl
set_option maxRecDepth 20000 in
theorem kw_716 : Cond.code yX9_goes cX9_goes 2 (some .int) ∈ lw_all := z_all 716 rfl rfl
set_option maxRecDepth 20000 in
theorem kw_717 : Cond.methodLink RX9 145 yX2_passage ∈ lw_all := z_all 717 rfl rfl
set_option maxRecDepth 20000 in
theorem kw_718 : Cond.instanceMethod yX2_passage ∈ lw_all := z_all 718 rfl rfl
set_option maxRecDepth 20000 in
theorem kw_719 : Cond.selects RX2 yX2_passage yX2_passage ∈ lw_all := z_all 719 rfl rfl
set_option maxRecDepth 20000 in
theorem kw_720 : Cond.code yX2_passage cX2_passage 4 (some .int) ∈ lw_all := z_all 720 rfl rfl
set_option maxRecDepth 20000 in
theorem kw_721 : Cond.methodLink RL 41 yX9_law ∈ lw_all := z_all 721 rfl rfl
set_option maxRecDepth 20000 in
theorem kw_722 : Cond.instanceMethod yX9_law ∈ lw_all := z_all 722 rfl rfl
set_option maxRecDepth 20000 in
theorem kw_723 : Cond.selects RX9 yX9_law yX9_law ∈ lw_all := z_all 723 rfl rfl
set_option maxRecDepth 20000 in
theorem kw_724 : Cond.code yX9_law cX9_law 4 (some .int) ∈ lw_all := z_all 724 rfl rfl
set_option maxRecDepth 20000 in
theorem kw_725 : Cond.methodLink RX9 149 yX2_isTold ∈ lw_all := z_all 725 rfl rfl
set_option maxRecDepth 20000 in
theorem kw_726 : Cond.instanceMethod yX2_isTold ∈ lw_all := z_all 726 rfl rfl
set_option maxRecDepth 20000 in
theorem kw_727 : Cond.selects RX2 yX2_isTold yX2_isTold ∈ lw_all := z_all 727 rfl rfl
set_option maxRecDepth 20000 in
theorem kw_728 : Cond.code yX2_isTold cX2_isTold 1 (some .boolean) ∈ lw_all := z_all 728 rfl rfl
set_option maxRecDepth 20000 in
theorem kw_729 : Cond.methodLink RX9 152 yX9_isLaw ∈ lw_all := z_all 729 rfl rfl
set_option maxRecDepth 20000 in
theorem kw_730 : Cond.static yX9_isLaw ∈ lw_all := z_all 730 rfl rfl
set_option maxRecDepth 20000 in
theorem kw_731 : Cond.code yX9_isLaw cX9_isLaw 2 (some .boolean) ∈ lw_all := z_all 731 rfl rfl
set_option maxRecDepth 20000 in
theorem kw_732 : Cond.methodLink RL 45 yX9_sets ∈ lw_all := z_all 732 rfl rfl
set_option maxRecDepth 20000 in
theorem kw_733 : Cond.instanceMethod yX9_sets ∈ lw_all := z_all 733 rfl rfl
set_option maxRecDepth 20000 in
theorem kw_734 : Cond.selects RX9 yX9_sets yX9_sets ∈ lw_all := z_all 734 rfl rfl
set_option maxRecDepth 20000 in
theorem kw_735 : Cond.code yX9_sets cX9_sets 6 (some .int) ∈ lw_all := z_all 735 rfl rfl
set_option maxRecDepth 20000 in
theorem kw_736 : Cond.methodLink RX9 160 yX2_hasGap ∈ lw_all := z_all 736 rfl rfl
set_option maxRecDepth 20000 in
theorem kw_737 : Cond.instanceMethod yX2_hasGap ∈ lw_all := z_all 737 rfl rfl
set_option maxRecDepth 20000 in
theorem kw_738 : Cond.selects RX2 yX2_hasGap yX2_hasGap ∈ lw_all := z_all 738 rfl rfl
set_option maxRecDepth 20000 in
theorem kw_739 : Cond.code yX2_hasGap cX2_hasGap 2 (some .boolean) ∈ lw_all := z_all 739 rfl rfl
set_option maxRecDepth 20000 in
theorem kw_740 : Cond.methodLink RX9 163 yX9_isHour ∈ lw_all := z_all 740 rfl rfl
set_option maxRecDepth 20000 in
theorem kw_741 : Cond.static yX9_isHour ∈ lw_all := z_all 741 rfl rfl
set_option maxRecDepth 20000 in
theorem kw_742 : Cond.code yX9_isHour cX9_isHour 1 (some .boolean) ∈ lw_all := z_all 742 rfl rfl
set_option maxRecDepth 20000 in
theorem kw_743 : Cond.methodLink RX9 166 yX0_whither ∈ lw_all := z_all 743 rfl rfl
set_option maxRecDepth 20000 in
theorem kw_744 : Cond.instanceMethod yX0_whither ∈ lw_all := z_all 744 rfl rfl
set_option maxRecDepth 20000 in
theorem kw_745 : Cond.selects RX0 yX0_whither yX0_whither ∈ lw_all := z_all 745 rfl rfl
set_option maxRecDepth 20000 in
theorem kw_746 : Cond.code yX0_whither cX0_whither 1 (some .int) ∈ lw_all := z_all 746 rfl rfl
set_option maxRecDepth 20000 in
theorem kw_747 : Cond.methodLink RL 50 yX9_counter ∈ lw_all := z_all 747 rfl rfl
set_option maxRecDepth 20000 in
theorem kw_748 : Cond.instanceMethod yX9_counter ∈ lw_all := z_all 748 rfl rfl
set_option maxRecDepth 20000 in
theorem kw_749 : Cond.selects RX9 yX9_counter yX9_counter ∈ lw_all := z_all 749 rfl rfl
set_option maxRecDepth 20000 in
theorem kw_750 : Cond.code yX9_counter cX9_counter 4 (some .int) ∈ lw_all := z_all 750 rfl rfl
set_option maxRecDepth 20000 in
theorem kw_751 : Cond.methodLink RX9 170 yX2_hasDay ∈ lw_all := z_all 751 rfl rfl
set_option maxRecDepth 20000 in
theorem kw_752 : Cond.instanceMethod yX2_hasDay ∈ lw_all := z_all 752 rfl rfl
set_option maxRecDepth 20000 in
theorem kw_753 : Cond.selects RX2 yX2_hasDay yX2_hasDay ∈ lw_all := z_all 753 rfl rfl
set_option maxRecDepth 20000 in
theorem kw_754 : Cond.code yX2_hasDay cX2_hasDay 2 (some .boolean) ∈ lw_all := z_all 754 rfl rfl
set_option maxRecDepth 20000 in
theorem kw_755 : Cond.methodLink RX9 173 yX8_goUntil ∈ lw_all := z_all 755 rfl rfl
set_option maxRecDepth 20000 in
theorem kw_756 : Cond.instanceMethod yX8_goUntil ∈ lw_all := z_all 756 rfl rfl
set_option maxRecDepth 20000 in
theorem kw_757 : Cond.selects RX8 yX8_goUntil yX8_goUntil ∈ lw_all := z_all 757 rfl rfl
set_option maxRecDepth 20000 in
theorem kw_758 : Cond.code yX8_goUntil cX8_goUntil 4 none ∈ lw_all := z_all 758 rfl rfl
set_option maxRecDepth 20000 in
theorem kw_759 : Cond.methodLink RX8 100 yX8_begin ∈ lw_all := z_all 759 rfl rfl
set_option maxRecDepth 20000 in
theorem kw_760 : Cond.instanceMethod yX8_begin ∈ lw_all := z_all 760 rfl rfl
set_option maxRecDepth 20000 in
theorem kw_761 : Cond.selects RX8 yX8_begin yX8_begin ∈ lw_all := z_all 761 rfl rfl
set_option maxRecDepth 20000 in
theorem kw_762 : Cond.code yX8_begin cX8_begin 4 none ∈ lw_all := z_all 762 rfl rfl
set_option maxRecDepth 20000 in
theorem kw_763 : Cond.methodLink RX8 33 yX2_passage ∈ lw_all := z_all 763 rfl rfl
set_option maxRecDepth 20000 in
theorem kw_764 : Cond.methodLink RX8 46 yX8_keyOf ∈ lw_all := z_all 764 rfl rfl
set_option maxRecDepth 20000 in
theorem kw_765 : Cond.static yX8_keyOf ∈ lw_all := z_all 765 rfl rfl
set_option maxRecDepth 20000 in
theorem kw_766 : Cond.code yX8_keyOf cX8_keyOf 3 (some .int) ∈ lw_all := z_all 766 rfl rfl
set_option maxRecDepth 20000 in
theorem kw_767 : Cond.methodLink RX8 50 yX8_lineUp ∈ lw_all := z_all 767 rfl rfl
set_option maxRecDepth 20000 in
theorem kw_769 : Cond.instanceMethod yX8_lineUp ∈ lw_all := z_all 769 rfl rfl
set_option maxRecDepth 20000 in
theorem kw_770 : Cond.code yX8_lineUp cX8_lineUp 3 none ∈ lw_all := z_all 770 rfl rfl
set_option maxRecDepth 20000 in
theorem kw_771 : Cond.methodLink RX8 54 yJ7_fill_53178 ∈ lw_all := z_all 771 rfl rfl
set_option maxRecDepth 20000 in
theorem kw_772 : Cond.methodLink RX8 63 yX2_counterOf ∈ lw_all := z_all 772 rfl rfl
set_option maxRecDepth 20000 in
theorem kw_773 : Cond.instanceMethod yX2_counterOf ∈ lw_all := z_all 773 rfl rfl
set_option maxRecDepth 20000 in
theorem kw_774 : Cond.selects RX2 yX2_counterOf yX2_counterOf ∈ lw_all := z_all 774 rfl rfl
set_option maxRecDepth 20000 in
theorem kw_775 : Cond.code yX2_counterOf cX2_counterOf 2 (some .int) ∈ lw_all := z_all 775 rfl rfl
set_option maxRecDepth 20000 in
theorem kw_776 : Cond.methodLink RX8 75 yX8_timeOf ∈ lw_all := z_all 776 rfl rfl
set_option maxRecDepth 20000 in
theorem kw_777 : Cond.static yX8_timeOf ∈ lw_all := z_all 777 rfl rfl
set_option maxRecDepth 20000 in
theorem kw_778 : Cond.code yX8_timeOf cX8_timeOf 1 (some .int) ∈ lw_all := z_all 778 rfl rfl
set_option maxRecDepth 20000 in
theorem kw_779 : Cond.methodLink RX8 104 yX8_pass ∈ lw_all := z_all 779 rfl rfl
set_option maxRecDepth 20000 in
theorem kw_780 : Cond.instanceMethod yX8_pass ∈ lw_all := z_all 780 rfl rfl
set_option maxRecDepth 20000 in
theorem kw_781 : Cond.selects RX8 yX8_pass yX8_pass ∈ lw_all := z_all 781 rfl rfl
set_option maxRecDepth 20000 in
theorem kw_782 : Cond.code yX8_pass cX8_pass 8 (some .int) ∈ lw_all := z_all 782 rfl rfl
set_option maxRecDepth 20000 in
theorem kw_783 : Cond.methodLink RX8 72 yX8_gapOf ∈ lw_all := z_all 783 rfl rfl
set_option maxRecDepth 20000 in
theorem kw_784 : Cond.static yX8_gapOf ∈ lw_all := z_all 784 rfl rfl
set_option maxRecDepth 20000 in
theorem kw_785 : Cond.code yX8_gapOf cX8_gapOf 1 (some .int) ∈ lw_all := z_all 785 rfl rfl
set_option maxRecDepth 20000 in
theorem kw_786 : Cond.methodLink RX8 78 yX8_dawn ∈ lw_all := z_all 786 rfl rfl
set_option maxRecDepth 20000 in
theorem kw_787 : Cond.instanceMethod yX8_dawn ∈ lw_all := z_all 787 rfl rfl
set_option maxRecDepth 20000 in
theorem kw_788 : Cond.selects RX8 yX8_dawn yX8_dawn ∈ lw_all := z_all 788 rfl rfl
set_option maxRecDepth 20000 in
theorem kw_789 : Cond.code yX8_dawn cX8_dawn 3 none ∈ lw_all := z_all 789 rfl rfl
set_option maxRecDepth 20000 in
theorem kw_790 : Cond.methodLink RX8 82 yX8_numberOf ∈ lw_all := z_all 790 rfl rfl
set_option maxRecDepth 20000 in
theorem kw_791 : Cond.static yX8_numberOf ∈ lw_all := z_all 791 rfl rfl
set_option maxRecDepth 20000 in
theorem kw_792 : Cond.code yX8_numberOf cX8_numberOf 1 (some .int) ∈ lw_all := z_all 792 rfl rfl
set_option maxRecDepth 20000 in
theorem kw_793 : Cond.methodLink RX8 85 yX2_lambsCount ∈ lw_all := z_all 793 rfl rfl
set_option maxRecDepth 20000 in
theorem kw_794 : Cond.instanceMethod yX2_lambsCount ∈ lw_all := z_all 794 rfl rfl
set_option maxRecDepth 20000 in
theorem kw_795 : Cond.selects RX2 yX2_lambsCount yX2_lambsCount ∈ lw_all := z_all 795 rfl rfl
set_option maxRecDepth 20000 in
theorem kw_796 : Cond.code yX2_lambsCount cX2_lambsCount 2 (some .boolean) ∈ lw_all := z_all 796 rfl rfl
set_option maxRecDepth 20000 in
theorem kw_797 : Cond.methodLink RX8 89 yX0_countable ∈ lw_all := z_all 797 rfl rfl
set_option maxRecDepth 20000 in
theorem kw_798 : Cond.instanceMethod yX0_countable ∈ lw_all := z_all 798 rfl rfl
set_option maxRecDepth 20000 in
theorem kw_799 : Cond.selects RX0 yX0_countable yX0_countable ∈ lw_all := z_all 799 rfl rfl
set_option maxRecDepth 20000 in
theorem kw_800 : Cond.code yX0_countable cX0_countable 2 (some .int) ∈ lw_all := z_all 800 rfl rfl
set_option maxRecDepth 20000 in
theorem kw_801 : Cond.methodLink RX8 93 yX2_fogOf ∈ lw_all := z_all 801 rfl rfl
set_option maxRecDepth 20000 in
theorem kw_802 : Cond.instanceMethod yX2_fogOf ∈ lw_all := z_all 802 rfl rfl
set_option maxRecDepth 20000 in
theorem kw_803 : Cond.selects RX2 yX2_fogOf yX2_fogOf ∈ lw_all := z_all 803 rfl rfl
set_option maxRecDepth 20000 in
theorem kw_804 : Cond.code yX2_fogOf cX2_fogOf 3 (some .int) ∈ lw_all := z_all 804 rfl rfl
set_option maxRecDepth 20000 in
theorem kw_805 : Cond.methodLink RX8 97 yX8_raise ∈ lw_all := z_all 805 rfl rfl
set_option maxRecDepth 20000 in
theorem kw_806 : Cond.instanceMethod yX8_raise ∈ lw_all := z_all 806 rfl rfl
set_option maxRecDepth 20000 in
theorem kw_807 : Cond.selects RX8 yX8_raise yX8_raise ∈ lw_all := z_all 807 rfl rfl
set_option maxRecDepth 20000 in
theorem kw_808 : Cond.code yX8_raise cX8_raise 5 (some .int) ∈ lw_all := z_all 808 rfl rfl
set_option maxRecDepth 20000 in
theorem kw_809 : Cond.methodLink RX9 180 yX2_counterOf ∈ lw_all := z_all 809 rfl rfl
set_option maxRecDepth 20000 in
theorem kw_810 : Cond.methodLink RL 54 yX9_through ∈ lw_all := z_all 810 rfl rfl
set_option maxRecDepth 20000 in
theorem kw_811 : Cond.instanceMethod yX9_through ∈ lw_all := z_all 811 rfl rfl
set_option maxRecDepth 20000 in
theorem kw_812 : Cond.selects RX9 yX9_through yX9_through ∈ lw_all := z_all 812 rfl rfl
set_option maxRecDepth 20000 in
theorem kw_813 : Cond.code yX9_through cX9_through 4 (some .int) ∈ lw_all := z_all 813 rfl rfl
set_option maxRecDepth 20000 in
theorem kw_814 : Cond.methodLink RX9 183 yX2_beastsThrough ∈ lw_all := z_all 814 rfl rfl
set_option maxRecDepth 20000 in
theorem kw_815 : Cond.instanceMethod yX2_beastsThrough ∈ lw_all := z_all 815 rfl rfl
set_option maxRecDepth 20000 in
theorem kw_816 : Cond.selects RX2 yX2_beastsThrough yX2_beastsThrough ∈ lw_all := z_all 816 rfl rfl
set_option maxRecDepth 20000 in
theorem kw_817 : Cond.code yX2_beastsThrough cX2_beastsThrough 5 (some .int) ∈ lw_all := z_all 817 rfl rfl
set_option maxRecDepth 20000 in
theorem kw_818 : Cond.methodLink RX2 82 yX2_goesBy ∈ lw_all := z_all 818 rfl rfl
set_option maxRecDepth 20000 in
theorem kw_819 : Cond.instanceMethod yX2_goesBy ∈ lw_all := z_all 819 rfl rfl
set_option maxRecDepth 20000 in
theorem kw_820 : Cond.selects RX2 yX2_goesBy yX2_goesBy ∈ lw_all := z_all 820 rfl rfl
set_option maxRecDepth 20000 in
theorem kw_821 : Cond.code yX2_goesBy cX2_goesBy 5 (some .boolean) ∈ lw_all := z_all 821 rfl rfl
set_option maxRecDepth 20000 in
theorem kw_822 : Cond.methodLink RX2 75 yX2_passage ∈ lw_all := z_all 822 rfl rfl
set_option maxRecDepth 20000 in
theorem kw_823 : Cond.methodLink RX9 187 yX2_countedThrough ∈ lw_all := z_all 823 rfl rfl
set_option maxRecDepth 20000 in
theorem kw_824 : Cond.instanceMethod yX2_countedThrough ∈ lw_all := z_all 824 rfl rfl
set_option maxRecDepth 20000 in
theorem kw_825 : Cond.selects RX2 yX2_countedThrough yX2_countedThrough ∈ lw_all := z_all 825 rfl rfl
set_option maxRecDepth 20000 in
theorem kw_826 : Cond.code yX2_countedThrough cX2_countedThrough 5 (some .int) ∈ lw_all := z_all 826 rfl rfl
set_option maxRecDepth 20000 in
theorem kw_827 : Cond.methodLink RX2 92 yX2_lambsCount ∈ lw_all := z_all 827 rfl rfl
set_option maxRecDepth 20000 in
theorem kw_828 : Cond.methodLink RX2 96 yX0_countable ∈ lw_all := z_all 828 rfl rfl
set_option maxRecDepth 20000 in
theorem kw_829 : Cond.methodLink RX2 100 yX2_fogOf ∈ lw_all := z_all 829 rfl rfl
set_option maxRecDepth 20000 in
theorem kw_830 : Cond.methodLink RL 58 yX9_dues ∈ lw_all := z_all 830 rfl rfl
set_option maxRecDepth 20000 in
theorem kw_831 : Cond.instanceMethod yX9_dues ∈ lw_all := z_all 831 rfl rfl
set_option maxRecDepth 20000 in
theorem kw_832 : Cond.selects RX9 yX9_dues yX9_dues ∈ lw_all := z_all 832 rfl rfl
set_option maxRecDepth 20000 in
theorem kw_833 : Cond.code yX9_dues cX9_dues 1 (some .int) ∈ lw_all := z_all 833 rfl rfl
set_option maxRecDepth 20000 in
theorem kw_834 : Cond.methodLink RX9 190 yX8_tally ∈ lw_all := z_all 834 rfl rfl
set_option maxRecDepth 20000 in
theorem kw_835 : Cond.instanceMethod yX8_tally ∈ lw_all := z_all 835 rfl rfl
set_option maxRecDepth 20000 in
theorem kw_836 : Cond.selects RX8 yX8_tally yX8_tally ∈ lw_all := z_all 836 rfl rfl
set_option maxRecDepth 20000 in
theorem kw_837 : Cond.code yX8_tally cX8_tally 5 (some .int) ∈ lw_all := z_all 837 rfl rfl
set_option maxRecDepth 20000 in
theorem kw_838 : Cond.methodLink RL 62 yX9_due ∈ lw_all := z_all 838 rfl rfl
set_option maxRecDepth 20000 in
theorem kw_839 : Cond.instanceMethod yX9_due ∈ lw_all := z_all 839 rfl rfl
set_option maxRecDepth 20000 in
theorem kw_840 : Cond.selects RX9 yX9_due yX9_due ∈ lw_all := z_all 840 rfl rfl
set_option maxRecDepth 20000 in
theorem kw_841 : Cond.code yX9_due cX9_due 4 (some .int) ∈ lw_all := z_all 841 rfl rfl
set_option maxRecDepth 20000 in
theorem kw_842 : Cond.methodLink RX9 194 yX8_findDue ∈ lw_all := z_all 842 rfl rfl
set_option maxRecDepth 20000 in
theorem kw_843 : Cond.instanceMethod yX8_findDue ∈ lw_all := z_all 843 rfl rfl
set_option maxRecDepth 20000 in
theorem kw_844 : Cond.selects RX8 yX8_findDue yX8_findDue ∈ lw_all := z_all 844 rfl rfl
set_option maxRecDepth 20000 in
theorem kw_845 : Cond.code yX8_findDue cX8_findDue 10 (some .boolean) ∈ lw_all := z_all 845 rfl rfl
set_option maxRecDepth 20000 in
theorem kw_846 : Cond.methodLink RX8 132 yX8_placeOf ∈ lw_all := z_all 846 rfl rfl
set_option maxRecDepth 20000 in
theorem kw_848 : Cond.instanceMethod yX8_placeOf ∈ lw_all := z_all 848 rfl rfl
set_option maxRecDepth 20000 in
theorem kw_849 : Cond.code yX8_placeOf cX8_placeOf 8 (some .int) ∈ lw_all := z_all 849 rfl rfl
set_option maxRecDepth 20000 in
theorem kw_850 : Cond.methodLink RX8 139 yX8_passOne ∈ lw_all := z_all 850 rfl rfl
set_option maxRecDepth 20000 in
theorem kw_851 : Cond.instanceMethod yX8_passOne ∈ lw_all := z_all 851 rfl rfl
set_option maxRecDepth 20000 in
theorem kw_852 : Cond.selects RX8 yX8_passOne yX8_passOne ∈ lw_all := z_all 852 rfl rfl
set_option maxRecDepth 20000 in
theorem kw_853 : Cond.code yX8_passOne cX8_passOne 5 (some .boolean) ∈ lw_all := z_all 853 rfl rfl
set_option maxRecDepth 20000 in
theorem kw_854 : Cond.methodLink RL 66 yX9_paid ∈ lw_all := z_all 854 rfl rfl
set_option maxRecDepth 20000 in
theorem kw_855 : Cond.instanceMethod yX9_paid ∈ lw_all := z_all 855 rfl rfl
set_option maxRecDepth 20000 in
theorem kw_856 : Cond.selects RX9 yX9_paid yX9_paid ∈ lw_all := z_all 856 rfl rfl
set_option maxRecDepth 20000 in
theorem kw_857 : Cond.code yX9_paid cX9_paid 2 (some .int) ∈ lw_all := z_all 857 rfl rfl
set_option maxRecDepth 20000 in
theorem kw_858 : Cond.methodLink RX9 204 yX2_hasOwner ∈ lw_all := z_all 858 rfl rfl
set_option maxRecDepth 20000 in
theorem kw_859 : Cond.instanceMethod yX2_hasOwner ∈ lw_all := z_all 859 rfl rfl
set_option maxRecDepth 20000 in
theorem kw_860 : Cond.selects RX2 yX2_hasOwner yX2_hasOwner ∈ lw_all := z_all 860 rfl rfl
set_option maxRecDepth 20000 in
theorem kw_861 : Cond.code yX2_hasOwner cX2_hasOwner 2 (some .boolean) ∈ lw_all := z_all 861 rfl rfl
set_option maxRecDepth 20000 in
theorem kw_862 : Cond.methodLink RX9 207 yX8_sumOf ∈ lw_all := z_all 862 rfl rfl
set_option maxRecDepth 20000 in
theorem kw_863 : Cond.instanceMethod yX8_sumOf ∈ lw_all := z_all 863 rfl rfl
set_option maxRecDepth 20000 in
theorem kw_864 : Cond.selects RX8 yX8_sumOf yX8_sumOf ∈ lw_all := z_all 864 rfl rfl
set_option maxRecDepth 20000 in
theorem kw_865 : Cond.code yX8_sumOf cX8_sumOf 3 (some .int) ∈ lw_all := z_all 865 rfl rfl
set_option maxRecDepth 20000 in
theorem kw_866 : Cond.methodLink RX8 111 yX8_tally ∈ lw_all := z_all 866 rfl rfl
set_option maxRecDepth 20000 in
theorem kw_867 : Cond.methodLink RL 70 yX9_pays ∈ lw_all := z_all 867 rfl rfl
set_option maxRecDepth 20000 in
theorem kw_868 : Cond.instanceMethod yX9_pays ∈ lw_all := z_all 868 rfl rfl
set_option maxRecDepth 20000 in
theorem kw_869 : Cond.selects RX9 yX9_pays yX9_pays ∈ lw_all := z_all 869 rfl rfl
set_option maxRecDepth 20000 in
theorem kw_870 : Cond.code yX9_pays cX9_pays 3 (some .int) ∈ lw_all := z_all 870 rfl rfl
set_option maxRecDepth 20000 in
theorem kw_871 : Cond.methodLink RX9 211 yX8_duesOn ∈ lw_all := z_all 871 rfl rfl
set_option maxRecDepth 20000 in
theorem kw_872 : Cond.instanceMethod yX8_duesOn ∈ lw_all := z_all 872 rfl rfl
set_option maxRecDepth 20000 in
theorem kw_873 : Cond.selects RX8 yX8_duesOn yX8_duesOn ∈ lw_all := z_all 873 rfl rfl
set_option maxRecDepth 20000 in
theorem kw_874 : Cond.code yX8_duesOn cX8_duesOn 8 (some .int) ∈ lw_all := z_all 874 rfl rfl
set_option maxRecDepth 20000 in
theorem kw_875 : Cond.methodLink RL 74 yX9_worst ∈ lw_all := z_all 875 rfl rfl
set_option maxRecDepth 20000 in
theorem kw_876 : Cond.instanceMethod yX9_worst ∈ lw_all := z_all 876 rfl rfl
set_option maxRecDepth 20000 in
theorem kw_877 : Cond.selects RX9 yX9_worst yX9_worst ∈ lw_all := z_all 877 rfl rfl
set_option maxRecDepth 20000 in
theorem kw_878 : Cond.code yX9_worst cX9_worst 4 (some .int) ∈ lw_all := z_all 878 rfl rfl
set_option maxRecDepth 20000 in
theorem kw_879 : Cond.methodLink RL 78 yX9_left ∈ lw_all := z_all 879 rfl rfl
set_option maxRecDepth 20000 in
theorem kw_880 : Cond.instanceMethod yX9_left ∈ lw_all := z_all 880 rfl rfl
set_option maxRecDepth 20000 in
theorem kw_881 : Cond.selects RX9 yX9_left yX9_left ∈ lw_all := z_all 881 rfl rfl
set_option maxRecDepth 20000 in
theorem kw_882 : Cond.code yX9_left cX9_left 2 (some .int) ∈ lw_all := z_all 882 rfl rfl
set_option maxRecDepth 20000 in
theorem kw_883 : Cond.methodLink RX9 221 yX8_stillFree ∈ lw_all := z_all 883 rfl rfl
set_option maxRecDepth 20000 in
theorem kw_884 : Cond.instanceMethod yX8_stillFree ∈ lw_all := z_all 884 rfl rfl
set_option maxRecDepth 20000 in
theorem kw_885 : Cond.selects RX8 yX8_stillFree yX8_stillFree ∈ lw_all := z_all 885 rfl rfl
set_option maxRecDepth 20000 in
theorem kw_886 : Cond.code yX8_stillFree cX8_stillFree 3 (some .int) ∈ lw_all := z_all 886 rfl rfl
set_option maxRecDepth 20000 in
theorem kw_887 : Cond.methodLink RX8 121 yX8_goThrough ∈ lw_all := z_all 887 rfl rfl
set_option maxRecDepth 20000 in
theorem kw_888 : Cond.instanceMethod yX8_goThrough ∈ lw_all := z_all 888 rfl rfl
set_option maxRecDepth 20000 in
theorem kw_889 : Cond.selects RX8 yX8_goThrough yX8_goThrough ∈ lw_all := z_all 889 rfl rfl
set_option maxRecDepth 20000 in
theorem kw_890 : Cond.code yX8_goThrough cX8_goThrough 2 none ∈ lw_all := z_all 890 rfl rfl
set_option maxRecDepth 20000 in
theorem kw_891 : Cond.methodLink RX8 118 yX8_goUntil ∈ lw_all := z_all 891 rfl rfl
set_option maxRecDepth 20000 in
theorem kw_892 : Cond.methodLink RX8 124 yJ9_max_7cf53 ∈ lw_all := z_all 892 rfl rfl
set_option maxRecDepth 20000 in
theorem kw_893 : Cond.static yJ9_max_7cf53 ∈ lw_all := z_all 893 rfl rfl
set_option maxRecDepth 20000 in
theorem kw_894 : Cond.code yJ9_max_7cf53 cJ9_max_7cf53 2 (some .int) ∈ lw_all := z_all 894 rfl rfl
set_option maxRecDepth 20000 in
theorem kw_895 : Cond.methodLink RL 82 yX9_best ∈ lw_all := z_all 895 rfl rfl
set_option maxRecDepth 20000 in
theorem kw_896 : Cond.instanceMethod yX9_best ∈ lw_all := z_all 896 rfl rfl
set_option maxRecDepth 20000 in
theorem kw_897 : Cond.selects RX9 yX9_best yX9_best ∈ lw_all := z_all 897 rfl rfl
set_option maxRecDepth 20000 in
theorem kw_898 : Cond.code yX9_best cX9_best 3 (some .int) ∈ lw_all := z_all 898 rfl rfl
set_option maxRecDepth 20000 in
theorem kw_899 : Cond.methodLink RX9 224 yX4_think ∈ lw_all := z_all 899 rfl rfl
set_option maxRecDepth 20000 in
theorem kw_900 : Cond.instanceMethod yX4_think ∈ lw_all := z_all 900 rfl rfl
set_option maxRecDepth 20000 in
theorem kw_901 : Cond.selects RX4 yX4_think yX4_think ∈ lw_all := z_all 901 rfl rfl
set_option maxRecDepth 20000 in
theorem kw_902 : Cond.code yX4_think cX4_think 2 none ∈ lw_all := z_all 902 rfl rfl
set_option maxRecDepth 20000 in
theorem kw_903 : Cond.methodLink RX4 26 yX2_copy ∈ lw_all := z_all 903 rfl rfl
set_option maxRecDepth 20000 in
theorem kw_904 : Cond.methodLink RX9 227 yX4_seekBest ∈ lw_all := z_all 904 rfl rfl
set_option maxRecDepth 20000 in
theorem kw_905 : Cond.instanceMethod yX4_seekBest ∈ lw_all := z_all 905 rfl rfl
set_option maxRecDepth 20000 in
theorem kw_906 : Cond.selects RX4 yX4_seekBest yX4_seekBest ∈ lw_all := z_all 906 rfl rfl
set_option maxRecDepth 20000 in
theorem kw_907 : Cond.code yX4_seekBest cX4_seekBest 8 none ∈ lw_all := z_all 907 rfl rfl
set_option maxRecDepth 20000 in
theorem kw_908 : Cond.methodLink RX4 43 yX4_countOthers ∈ lw_all := z_all 908 rfl rfl
set_option maxRecDepth 20000 in
theorem kw_910 : Cond.instanceMethod yX4_countOthers ∈ lw_all := z_all 910 rfl rfl
set_option maxRecDepth 20000 in
theorem kw_911 : Cond.code yX4_countOthers cX4_countOthers 4 none ∈ lw_all := z_all 911 rfl rfl
set_option maxRecDepth 20000 in
theorem kw_912 : Cond.methodLink RX4 75 yJ7_fill_53178 ∈ lw_all := z_all 912 rfl rfl
set_option maxRecDepth 20000 in
theorem kw_913 : Cond.methodLink RX4 84 yX2_passage ∈ lw_all := z_all 913 rfl rfl
set_option maxRecDepth 20000 in
theorem kw_914 : Cond.constant RX4 47 (1000000000) ∈ lw_all := z_all 914 rfl rfl
set_option maxRecDepth 20000 in
theorem kw_915 : Cond.methodLink RX4 54 yX4_differs ∈ lw_all := z_all 915 rfl rfl
set_option maxRecDepth 20000 in
theorem kw_917 : Cond.instanceMethod yX4_differs ∈ lw_all := z_all 917 rfl rfl
set_option maxRecDepth 20000 in
theorem kw_918 : Cond.code yX4_differs cX4_differs 3 (some .boolean) ∈ lw_all := z_all 918 rfl rfl
set_option maxRecDepth 20000 in
theorem kw_919 : Cond.methodLink RX4 58 yX8_tally ∈ lw_all := z_all 919 rfl rfl
set_option maxRecDepth 20000 in
theorem kw_920 : Cond.methodLink RL 86 yX9_split ∈ lw_all := z_all 920 rfl rfl
set_option maxRecDepth 20000 in
theorem kw_921 : Cond.instanceMethod yX9_split ∈ lw_all := z_all 921 rfl rfl
set_option maxRecDepth 20000 in
theorem kw_922 : Cond.selects RX9 yX9_split yX9_split ∈ lw_all := z_all 922 rfl rfl
set_option maxRecDepth 20000 in
theorem kw_923 : Cond.code yX9_split cX9_split 3 (some .int) ∈ lw_all := z_all 923 rfl rfl
set_option maxRecDepth 20000 in
theorem kw_924 : Cond.methodLink RX9 235 yX4_seekSplit ∈ lw_all := z_all 924 rfl rfl
set_option maxRecDepth 20000 in
theorem kw_925 : Cond.instanceMethod yX4_seekSplit ∈ lw_all := z_all 925 rfl rfl
set_option maxRecDepth 20000 in
theorem kw_926 : Cond.selects RX4 yX4_seekSplit yX4_seekSplit ∈ lw_all := z_all 926 rfl rfl
set_option maxRecDepth 20000 in
theorem kw_927 : Cond.code yX4_seekSplit cX4_seekSplit 6 none ∈ lw_all := z_all 927 rfl rfl
set_option maxRecDepth 20000 in
theorem kw_928 : Cond.methodLink RX4 91 yX0_copy ∈ lw_all := z_all 928 rfl rfl
set_option maxRecDepth 20000 in
theorem kw_929 : Cond.methodLink RX4 100 yX4_seekBest ∈ lw_all := z_all 929 rfl rfl
set_option maxRecDepth 20000 in
theorem kw_930 : Cond.methodLink RL 90 yX9_rest ∈ lw_all := z_all 930 rfl rfl
set_option maxRecDepth 20000 in
theorem kw_931 : Cond.instanceMethod yX9_rest ∈ lw_all := z_all 931 rfl rfl
set_option maxRecDepth 20000 in
theorem kw_932 : Cond.selects RX9 yX9_rest yX9_rest ∈ lw_all := z_all 932 rfl rfl
set_option maxRecDepth 20000 in
theorem kw_933 : Cond.code yX9_rest cX9_rest 1 (some .int) ∈ lw_all := z_all 933 rfl rfl
set_option maxRecDepth 20000 in
theorem kw_934 : Cond.methodLink RX9 250 yX4_restless ∈ lw_all := z_all 934 rfl rfl
set_option maxRecDepth 20000 in
theorem kw_935 : Cond.instanceMethod yX4_restless ∈ lw_all := z_all 935 rfl rfl
set_option maxRecDepth 20000 in
theorem kw_936 : Cond.selects RX4 yX4_restless yX4_restless ∈ lw_all := z_all 936 rfl rfl
set_option maxRecDepth 20000 in
theorem kw_937 : Cond.code yX4_restless cX4_restless 3 (some .int) ∈ lw_all := z_all 937 rfl rfl
set_option maxRecDepth 20000 in
theorem kw_938 : Cond.methodLink RX4 112 yX8_sumOf ∈ lw_all := z_all 938 rfl rfl
set_option maxRecDepth 20000 in
theorem kw_939 : Cond.methodLink RL 94 yX9_rests ∈ lw_all := z_all 939 rfl rfl
set_option maxRecDepth 20000 in
theorem kw_940 : Cond.instanceMethod yX9_rests ∈ lw_all := z_all 940 rfl rfl
set_option maxRecDepth 20000 in
theorem kw_941 : Cond.selects RX9 yX9_rests yX9_rests ∈ lw_all := z_all 941 rfl rfl
set_option maxRecDepth 20000 in
theorem kw_942 : Cond.code yX9_rests cX9_rests 2 (some .int) ∈ lw_all := z_all 942 rfl rfl
set_option maxRecDepth 20000 in
theorem kw_943 : Cond.methodLink RX9 253 yX4_settle ∈ lw_all := z_all 943 rfl rfl
set_option maxRecDepth 20000 in
theorem kw_944 : Cond.instanceMethod yX4_settle ∈ lw_all := z_all 944 rfl rfl
set_option maxRecDepth 20000 in
theorem kw_945 : Cond.selects RX4 yX4_settle yX4_settle ∈ lw_all := z_all 945 rfl rfl
set_option maxRecDepth 20000 in
theorem kw_946 : Cond.code yX4_settle cX4_settle 4 (some .int) ∈ lw_all := z_all 946 rfl rfl
set_option maxRecDepth 20000 in
theorem kw_947 : Cond.methodLink RX4 116 yX4_restless ∈ lw_all := z_all 947 rfl rfl
set_option maxRecDepth 20000 in
theorem kw_948 : Cond.methodLink RL 98 yX9_sent ∈ lw_all := z_all 948 rfl rfl
set_option maxRecDepth 20000 in
theorem kw_949 : Cond.instanceMethod yX9_sent ∈ lw_all := z_all 949 rfl rfl
set_option maxRecDepth 20000 in
theorem kw_950 : Cond.selects RX9 yX9_sent yX9_sent ∈ lw_all := z_all 950 rfl rfl
set_option maxRecDepth 20000 in
theorem kw_951 : Cond.code yX9_sent cX9_sent 3 (some .int) ∈ lw_all := z_all 951 rfl rfl
set_option maxRecDepth 20000 in
theorem kw_952 : Cond.methodLink RL 102 yX9_harm ∈ lw_all := z_all 952 rfl rfl
set_option maxRecDepth 20000 in
theorem kw_953 : Cond.instanceMethod yX9_harm ∈ lw_all := z_all 953 rfl rfl
set_option maxRecDepth 20000 in
theorem kw_954 : Cond.selects RX9 yX9_harm yX9_harm ∈ lw_all := z_all 954 rfl rfl
set_option maxRecDepth 20000 in
theorem kw_955 : Cond.code yX9_harm cX9_harm 4 (some .int) ∈ lw_all := z_all 955 rfl rfl
set_option maxRecDepth 20000 in
theorem kw_956 : Cond.methodLink RX9 259 yX8_sumOfOthers ∈ lw_all := z_all 956 rfl rfl
set_option maxRecDepth 20000 in
theorem kw_957 : Cond.instanceMethod yX8_sumOfOthers ∈ lw_all := z_all 957 rfl rfl
set_option maxRecDepth 20000 in
theorem kw_958 : Cond.selects RX8 yX8_sumOfOthers yX8_sumOfOthers ∈ lw_all := z_all 958 rfl rfl
set_option maxRecDepth 20000 in
theorem kw_959 : Cond.code yX8_sumOfOthers cX8_sumOfOthers 4 (some .int) ∈ lw_all := z_all 959 rfl rfl
set_option maxRecDepth 20000 in
theorem kw_960 : Cond.methodLink RL 106 yX9_ewe ∈ lw_all := z_all 960 rfl rfl
set_option maxRecDepth 20000 in
theorem kw_961 : Cond.instanceMethod yX9_ewe ∈ lw_all := z_all 961 rfl rfl
set_option maxRecDepth 20000 in
theorem kw_962 : Cond.selects RX9 yX9_ewe yX9_ewe ∈ lw_all := z_all 962 rfl rfl
set_option maxRecDepth 20000 in
theorem kw_963 : Cond.code yX9_ewe cX9_ewe 5 (some .int) ∈ lw_all := z_all 963 rfl rfl
set_option maxRecDepth 20000 in
theorem kw_964 : Cond.methodLink RX9 262 yX4_tellEwe ∈ lw_all := z_all 964 rfl rfl
set_option maxRecDepth 20000 in
theorem kw_965 : Cond.instanceMethod yX4_tellEwe ∈ lw_all := z_all 965 rfl rfl
set_option maxRecDepth 20000 in
theorem kw_966 : Cond.selects RX4 yX4_tellEwe yX4_tellEwe ∈ lw_all := z_all 966 rfl rfl
set_option maxRecDepth 20000 in
theorem kw_967 : Cond.code yX4_tellEwe cX4_tellEwe 5 none ∈ lw_all := z_all 967 rfl rfl
set_option maxRecDepth 20000 in
theorem kw_968 : Cond.methodLink RX4 123 yX8_sumOfOthers ∈ lw_all := z_all 968 rfl rfl
set_option maxRecDepth 20000 in
theorem kw_969 : Cond.methodLink RX9 266 yX4_worthAt ∈ lw_all := z_all 969 rfl rfl
set_option maxRecDepth 20000 in
theorem kw_970 : Cond.instanceMethod yX4_worthAt ∈ lw_all := z_all 970 rfl rfl
set_option maxRecDepth 20000 in
theorem kw_971 : Cond.selects RX4 yX4_worthAt yX4_worthAt ∈ lw_all := z_all 971 rfl rfl
set_option maxRecDepth 20000 in
theorem kw_972 : Cond.code yX4_worthAt cX4_worthAt 2 (some .int) ∈ lw_all := z_all 972 rfl rfl
set_option maxRecDepth 20000 in
theorem kw_973 : Cond.methodLink RL 111 yX9_waits ∈ lw_all := z_all 973 rfl rfl
set_option maxRecDepth 20000 in
theorem kw_974 : Cond.instanceMethod yX9_waits ∈ lw_all := z_all 974 rfl rfl
set_option maxRecDepth 20000 in
theorem kw_975 : Cond.selects RX9 yX9_waits yX9_waits ∈ lw_all := z_all 975 rfl rfl
set_option maxRecDepth 20000 in
theorem kw_976 : Cond.code yX9_waits cX9_waits 9 (some .int) ∈ lw_all := z_all 976 rfl rfl
set_option maxRecDepth 20000 in
theorem kw_977 : Cond.methodLink RL 115 yX9_ring ∈ lw_all := z_all 977 rfl rfl
set_option maxRecDepth 20000 in
theorem kw_978 : Cond.instanceMethod yX9_ring ∈ lw_all := z_all 978 rfl rfl
set_option maxRecDepth 20000 in
theorem kw_979 : Cond.selects RX9 yX9_ring yX9_ring ∈ lw_all := z_all 979 rfl rfl
set_option maxRecDepth 20000 in
theorem kw_980 : Cond.code yX9_ring cX9_ring 4 (some .int) ∈ lw_all := z_all 980 rfl rfl
set_option maxRecDepth 20000 in
theorem kw_981 : Cond.methodLink RX9 269 yX9_isRing ∈ lw_all := z_all 981 rfl rfl
set_option maxRecDepth 20000 in
theorem kw_983 : Cond.instanceMethod yX9_isRing ∈ lw_all := z_all 983 rfl rfl
set_option maxRecDepth 20000 in
theorem kw_984 : Cond.code yX9_isRing cX9_isRing 3 (some .boolean) ∈ lw_all := z_all 984 rfl rfl
set_option maxRecDepth 20000 in
theorem kw_985 : Cond.methodLink RX9 272 yX8_goThrough ∈ lw_all := z_all 985 rfl rfl
set_option maxRecDepth 20000 in
theorem kw_986 : Cond.methodLink RX9 275 yX8_raise ∈ lw_all := z_all 986 rfl rfl
set_option maxRecDepth 20000 in
theorem kw_987 : Cond.methodLink RL 119 yX9_rounds ∈ lw_all := z_all 987 rfl rfl
set_option maxRecDepth 20000 in
theorem kw_988 : Cond.instanceMethod yX9_rounds ∈ lw_all := z_all 988 rfl rfl
set_option maxRecDepth 20000 in
theorem kw_989 : Cond.selects RX9 yX9_rounds yX9_rounds ∈ lw_all := z_all 989 rfl rfl
set_option maxRecDepth 20000 in
theorem kw_990 : Cond.code yX9_rounds cX9_rounds 6 (some .int) ∈ lw_all := z_all 990 rfl rfl
set_option maxRecDepth 20000 in
theorem kw_991 : Cond.methodLink RL 123 yX9_orders ∈ lw_all := z_all 991 rfl rfl
set_option maxRecDepth 20000 in
theorem kw_992 : Cond.instanceMethod yX9_orders ∈ lw_all := z_all 992 rfl rfl
set_option maxRecDepth 20000 in
theorem kw_993 : Cond.selects RX9 yX9_orders yX9_orders ∈ lw_all := z_all 993 rfl rfl
set_option maxRecDepth 20000 in
theorem kw_994 : Cond.code yX9_orders cX9_orders 5 (some .int) ∈ lw_all := z_all 994 rfl rfl
set_option maxRecDepth 20000 in
theorem kw_995 : Cond.methodLink RX9 279 yX9_explain ∈ lw_all := z_all 995 rfl rfl
set_option maxRecDepth 20000 in
theorem kw_997 : Cond.instanceMethod yX9_explain ∈ lw_all := z_all 997 rfl rfl
set_option maxRecDepth 20000 in
theorem kw_998 : Cond.code yX9_explain cX9_explain 4 (some .int) ∈ lw_all := z_all 998 rfl rfl
set_option maxRecDepth 20000 in
theorem kw_999 : Cond.methodLink RX9 294 yX6_isSlot ∈ lw_all := z_all 999 rfl rfl
set_option maxRecDepth 20000 in
theorem kw_1000 : Cond.static yX6_isSlot ∈ lw_all := z_all 1000 rfl rfl
set_option maxRecDepth 20000 in
theorem kw_1001 : Cond.code yX6_isSlot cX6_isSlot 1 (some .boolean) ∈ lw_all := z_all 1001 rfl rfl
set_option maxRecDepth 20000 in
theorem kw_1002 : Cond.methodLink RX9 297 yX6_hasRow ∈ lw_all := z_all 1002 rfl rfl
set_option maxRecDepth 20000 in
theorem kw_1003 : Cond.instanceMethod yX6_hasRow ∈ lw_all := z_all 1003 rfl rfl
set_option maxRecDepth 20000 in
theorem kw_1004 : Cond.selects RX6 yX6_hasRow yX6_hasRow ∈ lw_all := z_all 1004 rfl rfl
set_option maxRecDepth 20000 in
theorem kw_1005 : Cond.code yX6_hasRow cX6_hasRow 2 (some .boolean) ∈ lw_all := z_all 1005 rfl rfl
set_option maxRecDepth 20000 in
theorem kw_1006 : Cond.methodLink RX9 300 yX3_gather ∈ lw_all := z_all 1006 rfl rfl
set_option maxRecDepth 20000 in
theorem kw_1007 : Cond.instanceMethod yX3_gather ∈ lw_all := z_all 1007 rfl rfl
set_option maxRecDepth 20000 in
theorem kw_1008 : Cond.selects RX3 yX3_gather yX3_gather ∈ lw_all := z_all 1008 rfl rfl
set_option maxRecDepth 20000 in
theorem kw_1009 : Cond.code yX3_gather cX3_gather 6 (some .int) ∈ lw_all := z_all 1009 rfl rfl
set_option maxRecDepth 20000 in
theorem kw_1010 : Cond.methodLink RX3 34 yX2_goesBy ∈ lw_all := z_all 1010 rfl rfl
set_option maxRecDepth 20000 in
theorem kw_1011 : Cond.methodLink RX9 303 yX6_isWithin ∈ lw_all := z_all 1011 rfl rfl
set_option maxRecDepth 20000 in
theorem kw_1012 : Cond.instanceMethod yX6_isWithin ∈ lw_all := z_all 1012 rfl rfl
set_option maxRecDepth 20000 in
theorem kw_1013 : Cond.selects RX6 yX6_isWithin yX6_isWithin ∈ lw_all := z_all 1013 rfl rfl
set_option maxRecDepth 20000 in
theorem kw_1014 : Cond.code yX6_isWithin cX6_isWithin 4 (some .boolean) ∈ lw_all := z_all 1014 rfl rfl
set_option maxRecDepth 20000 in
theorem kw_1015 : Cond.methodLink RX9 306 yX3_search ∈ lw_all := z_all 1015 rfl rfl
set_option maxRecDepth 20000 in
theorem kw_1016 : Cond.instanceMethod yX3_search ∈ lw_all := z_all 1016 rfl rfl
set_option maxRecDepth 20000 in
theorem kw_1017 : Cond.selects RX3 yX3_search yX3_search ∈ lw_all := z_all 1017 rfl rfl
set_option maxRecDepth 20000 in
theorem kw_1018 : Cond.code yX3_search cX3_search 10 none ∈ lw_all := z_all 1018 rfl rfl
set_option maxRecDepth 20000 in
theorem kw_1019 : Cond.methodLink RX3 41 yJ7_fill_53178 ∈ lw_all := z_all 1019 rfl rfl
set_option maxRecDepth 20000 in
theorem kw_1020 : Cond.methodLink RX3 47 yX8_goAhead ∈ lw_all := z_all 1020 rfl rfl
set_option maxRecDepth 20000 in
theorem kw_1021 : Cond.instanceMethod yX8_goAhead ∈ lw_all := z_all 1021 rfl rfl
set_option maxRecDepth 20000 in
theorem kw_1022 : Cond.selects RX8 yX8_goAhead yX8_goAhead ∈ lw_all := z_all 1022 rfl rfl
set_option maxRecDepth 20000 in
theorem kw_1023 : Cond.code yX8_goAhead cX8_goAhead 6 none ∈ lw_all := z_all 1023 rfl rfl
set_option maxRecDepth 20000 in
theorem kw_1024 : Cond.methodLink RX3 53 yX2_counterOf ∈ lw_all := z_all 1024 rfl rfl
set_option maxRecDepth 20000 in
theorem kw_1025 : Cond.methodLink RX3 63 yX3_explains ∈ lw_all := z_all 1025 rfl rfl
set_option maxRecDepth 20000 in
theorem kw_1027 : Cond.instanceMethod yX3_explains ∈ lw_all := z_all 1027 rfl rfl
set_option maxRecDepth 20000 in
theorem kw_1028 : Cond.code yX3_explains cX3_explains 11 (some .boolean) ∈ lw_all := z_all 1028 rfl rfl
set_option maxRecDepth 20000 in
theorem kw_1029 : Cond.methodLink RX3 88 yX8_keyOf ∈ lw_all := z_all 1029 rfl rfl
set_option maxRecDepth 20000 in
theorem kw_1030 : Cond.methodLink RX3 92 yX8_pass ∈ lw_all := z_all 1030 rfl rfl
set_option maxRecDepth 20000 in
theorem kw_1031 : Cond.methodLink RX3 67 yX3_note ∈ lw_all := z_all 1031 rfl rfl
set_option maxRecDepth 20000 in
theorem kw_1033 : Cond.instanceMethod yX3_note ∈ lw_all := z_all 1033 rfl rfl
set_option maxRecDepth 20000 in
theorem kw_1034 : Cond.code yX3_note cX3_note 2 none ∈ lw_all := z_all 1034 rfl rfl
set_option maxRecDepth 20000 in
theorem kw_1035 : Cond.methodLink RX3 70 yX3_permute ∈ lw_all := z_all 1035 rfl rfl
set_option maxRecDepth 20000 in
theorem kw_1037 : Cond.instanceMethod yX3_permute ∈ lw_all := z_all 1037 rfl rfl
set_option maxRecDepth 20000 in
theorem kw_1038 : Cond.code yX3_permute cX3_permute 5 (some .boolean) ∈ lw_all := z_all 1038 rfl rfl
set_option maxRecDepth 20000 in
theorem kw_1039 : Cond.methodLink RX3 103 yX3_change ∈ lw_all := z_all 1039 rfl rfl
set_option maxRecDepth 20000 in
theorem kw_1041 : Cond.instanceMethod yX3_change ∈ lw_all := z_all 1041 rfl rfl
set_option maxRecDepth 20000 in
theorem kw_1042 : Cond.code yX3_change cX3_change 4 none ∈ lw_all := z_all 1042 rfl rfl
set_option maxRecDepth 20000 in
theorem kw_1043 : Cond.methodLink RL 127 yX9_order ∈ lw_all := z_all 1043 rfl rfl
set_option maxRecDepth 20000 in
theorem kw_1044 : Cond.instanceMethod yX9_order ∈ lw_all := z_all 1044 rfl rfl
set_option maxRecDepth 20000 in
theorem kw_1045 : Cond.selects RX9 yX9_order yX9_order ∈ lw_all := z_all 1045 rfl rfl
set_option maxRecDepth 20000 in
theorem kw_1046 : Cond.code yX9_order cX9_order 6 (some .int) ∈ lw_all := z_all 1046 rfl rfl
set_option maxRecDepth 20000 in
theorem kw_1047 : Cond.methodLink RL 131 yX9_sure ∈ lw_all := z_all 1047 rfl rfl
set_option maxRecDepth 20000 in
theorem kw_1048 : Cond.instanceMethod yX9_sure ∈ lw_all := z_all 1048 rfl rfl
set_option maxRecDepth 20000 in
theorem kw_1049 : Cond.selects RX9 yX9_sure yX9_sure ∈ lw_all := z_all 1049 rfl rfl
set_option maxRecDepth 20000 in
theorem kw_1050 : Cond.code yX9_sure cX9_sure 6 (some .int) ∈ lw_all := z_all 1050 rfl rfl
set_option maxRecDepth 20000 in
theorem kw_1051 : Cond.methodLink RL 135 yX9_wrong ∈ lw_all := z_all 1051 rfl rfl
set_option maxRecDepth 20000 in
theorem kw_1052 : Cond.instanceMethod yX9_wrong ∈ lw_all := z_all 1052 rfl rfl
set_option maxRecDepth 20000 in
theorem kw_1053 : Cond.selects RX9 yX9_wrong yX9_wrong ∈ lw_all := z_all 1053 rfl rfl
set_option maxRecDepth 20000 in
theorem kw_1054 : Cond.code yX9_wrong cX9_wrong 6 (some .int) ∈ lw_all := z_all 1054 rfl rfl
set_option maxRecDepth 20000 in
theorem kw_1055 : Cond.methodLink RX9 310 yX9_askTold ∈ lw_all := z_all 1055 rfl rfl
set_option maxRecDepth 20000 in
theorem kw_1057 : Cond.instanceMethod yX9_askTold ∈ lw_all := z_all 1057 rfl rfl
set_option maxRecDepth 20000 in
theorem kw_1058 : Cond.code yX9_askTold cX9_askTold 3 (some .int) ∈ lw_all := z_all 1058 rfl rfl
set_option maxRecDepth 20000 in
theorem kw_1059 : Cond.methodLink RL 139 yX9_anew ∈ lw_all := z_all 1059 rfl rfl
set_option maxRecDepth 20000 in
theorem kw_1060 : Cond.instanceMethod yX9_anew ∈ lw_all := z_all 1060 rfl rfl
set_option maxRecDepth 20000 in
theorem kw_1061 : Cond.selects RX9 yX9_anew yX9_anew ∈ lw_all := z_all 1061 rfl rfl
set_option maxRecDepth 20000 in
theorem kw_1062 : Cond.code yX9_anew cX9_anew 7 (some .int) ∈ lw_all := z_all 1062 rfl rfl
set_option maxRecDepth 20000 in
theorem kw_1063 : Cond.methodLink RL 143 yX9_mixed ∈ lw_all := z_all 1063 rfl rfl
set_option maxRecDepth 20000 in
theorem kw_1064 : Cond.instanceMethod yX9_mixed ∈ lw_all := z_all 1064 rfl rfl
set_option maxRecDepth 20000 in
theorem kw_1065 : Cond.selects RX9 yX9_mixed yX9_mixed ∈ lw_all := z_all 1065 rfl rfl
set_option maxRecDepth 20000 in
theorem kw_1066 : Cond.code yX9_mixed cX9_mixed 3 (some .int) ∈ lw_all := z_all 1066 rfl rfl
set_option maxRecDepth 20000 in
theorem kw_1067 : Cond.methodLink RX9 323 yX9_isSeed ∈ lw_all := z_all 1067 rfl rfl
set_option maxRecDepth 20000 in
theorem kw_1068 : Cond.static yX9_isSeed ∈ lw_all := z_all 1068 rfl rfl
set_option maxRecDepth 20000 in
theorem kw_1069 : Cond.code yX9_isSeed cX9_isSeed 1 (some .boolean) ∈ lw_all := z_all 1069 rfl rfl
set_option maxRecDepth 20000 in
theorem kw_1070 : Cond.constant RX9 328 (2000000000) ∈ lw_all := z_all 1070 rfl rfl
set_option maxRecDepth 20000 in
theorem kw_1071 : Cond.methodLink RX9 326 yX1_sumOf ∈ lw_all := z_all 1071 rfl rfl
set_option maxRecDepth 20000 in
theorem kw_1072 : Cond.instanceMethod yX1_sumOf ∈ lw_all := z_all 1072 rfl rfl
set_option maxRecDepth 20000 in
theorem kw_1073 : Cond.selects RX1 yX1_sumOf yX1_sumOf ∈ lw_all := z_all 1073 rfl rfl
set_option maxRecDepth 20000 in
theorem kw_1074 : Cond.code yX1_sumOf cX1_sumOf 7 (some .int) ∈ lw_all := z_all 1074 rfl rfl
set_option maxRecDepth 20000 in
theorem kw_1075 : Cond.methodLink RX1 23 yX8_begin ∈ lw_all := z_all 1075 rfl rfl
set_option maxRecDepth 20000 in
theorem kw_1076 : Cond.methodLink RX1 44 yX8_numberOf ∈ lw_all := z_all 1076 rfl rfl
set_option maxRecDepth 20000 in
theorem kw_1077 : Cond.methodLink RX1 48 yX1_addDrive ∈ lw_all := z_all 1077 rfl rfl
set_option maxRecDepth 20000 in
theorem kw_1079 : Cond.instanceMethod yX1_addDrive ∈ lw_all := z_all 1079 rfl rfl
set_option maxRecDepth 20000 in
theorem kw_1080 : Cond.code yX1_addDrive cX1_addDrive 3 none ∈ lw_all := z_all 1080 rfl rfl
set_option maxRecDepth 20000 in
theorem kw_1081 : Cond.methodLink RX1 67 yX1_add ∈ lw_all := z_all 1081 rfl rfl
set_option maxRecDepth 20000 in
theorem kw_1083 : Cond.instanceMethod yX1_add ∈ lw_all := z_all 1083 rfl rfl
set_option maxRecDepth 20000 in
theorem kw_1084 : Cond.code yX1_add cX1_add 4 none ∈ lw_all := z_all 1084 rfl rfl
set_option maxRecDepth 20000 in
theorem kw_1085 : Cond.methodLink RX1 52 yX1_shuffle ∈ lw_all := z_all 1085 rfl rfl
set_option maxRecDepth 20000 in
theorem kw_1087 : Cond.instanceMethod yX1_shuffle ∈ lw_all := z_all 1087 rfl rfl
set_option maxRecDepth 20000 in
theorem kw_1088 : Cond.code yX1_shuffle cX1_shuffle 4 none ∈ lw_all := z_all 1088 rfl rfl
set_option maxRecDepth 20000 in
theorem kw_1089 : Cond.methodLink RX1 82 yX1_draw ∈ lw_all := z_all 1089 rfl rfl
set_option maxRecDepth 20000 in
theorem kw_1091 : Cond.instanceMethod yX1_draw ∈ lw_all := z_all 1091 rfl rfl
set_option maxRecDepth 20000 in
theorem kw_1092 : Cond.code yX1_draw cX1_draw 2 (some .int) ∈ lw_all := z_all 1092 rfl rfl
set_option maxRecDepth 20000 in
theorem kw_1093 : Cond.constantLong RX1 74 (1103515245) ∈ lw_all := z_all 1093 rfl rfl
set_option maxRecDepth 20000 in
theorem kw_1094 : Cond.constantLong RX1 76 (12345) ∈ lw_all := z_all 1094 rfl rfl
set_option maxRecDepth 20000 in
theorem kw_1095 : Cond.constantLong RX1 78 (2147483648) ∈ lw_all := z_all 1095 rfl rfl
set_option maxRecDepth 20000 in
theorem kw_1096 : Cond.constantLong RX1 80 (65536) ∈ lw_all := z_all 1096 rfl rfl
set_option maxRecDepth 20000 in
theorem kw_1097 : Cond.methodLink RX1 55 yX1_passAll ∈ lw_all := z_all 1097 rfl rfl
set_option maxRecDepth 20000 in
theorem kw_1099 : Cond.instanceMethod yX1_passAll ∈ lw_all := z_all 1099 rfl rfl
set_option maxRecDepth 20000 in
theorem kw_1100 : Cond.code yX1_passAll cX1_passAll 8 (some .int) ∈ lw_all := z_all 1100 rfl rfl
set_option maxRecDepth 20000 in
theorem kw_1101 : Cond.methodLink RX1 85 yX8_timeOf ∈ lw_all := z_all 1101 rfl rfl
set_option maxRecDepth 20000 in
theorem kw_1102 : Cond.methodLink RX1 88 yX8_dawn ∈ lw_all := z_all 1102 rfl rfl
set_option maxRecDepth 20000 in
theorem kw_1103 : Cond.methodLink RX1 92 yX2_lambsCount ∈ lw_all := z_all 1103 rfl rfl
set_option maxRecDepth 20000 in
theorem kw_1104 : Cond.methodLink RX1 96 yX8_gapOf ∈ lw_all := z_all 1104 rfl rfl
set_option maxRecDepth 20000 in
theorem kw_1105 : Cond.methodLink RX1 99 yX8_passOne ∈ lw_all := z_all 1105 rfl rfl
set_option maxRecDepth 20000 in
theorem kw_1106 : Cond.methodLink RL 147 yX9_luck ∈ lw_all := z_all 1106 rfl rfl
set_option maxRecDepth 20000 in
theorem kw_1107 : Cond.instanceMethod yX9_luck ∈ lw_all := z_all 1107 rfl rfl
set_option maxRecDepth 20000 in
theorem kw_1108 : Cond.selects RX9 yX9_luck yX9_luck ∈ lw_all := z_all 1108 rfl rfl
set_option maxRecDepth 20000 in
theorem kw_1109 : Cond.code yX9_luck cX9_luck 7 (some .int) ∈ lw_all := z_all 1109 rfl rfl
set_option maxRecDepth 20000 in
theorem kw_1110 : Cond.methodLink RL 151 yX9_free ∈ lw_all := z_all 1110 rfl rfl
set_option maxRecDepth 20000 in
theorem kw_1111 : Cond.instanceMethod yX9_free ∈ lw_all := z_all 1111 rfl rfl
set_option maxRecDepth 20000 in
theorem kw_1112 : Cond.selects RX9 yX9_free yX9_free ∈ lw_all := z_all 1112 rfl rfl
set_option maxRecDepth 20000 in
theorem kw_1113 : Cond.code yX9_free cX9_free 3 (some .int) ∈ lw_all := z_all 1113 rfl rfl
set_option maxRecDepth 20000 in
theorem kw_1114 : Cond.methodLink RL 155 yX9_all ∈ lw_all := z_all 1114 rfl rfl
set_option maxRecDepth 20000 in
theorem kw_1115 : Cond.instanceMethod yX9_all ∈ lw_all := z_all 1115 rfl rfl
set_option maxRecDepth 20000 in
theorem kw_1116 : Cond.selects RX9 yX9_all yX9_all ∈ lw_all := z_all 1116 rfl rfl
set_option maxRecDepth 20000 in
theorem kw_1117 : Cond.code yX9_all cX9_all 2 (some .int) ∈ lw_all := z_all 1117 rfl rfl
set_option maxRecDepth 20000 in
theorem kw_1118 : Cond.methodLink RL 159 yX9_count ∈ lw_all := z_all 1118 rfl rfl
set_option maxRecDepth 20000 in
theorem kw_1119 : Cond.instanceMethod yX9_count ∈ lw_all := z_all 1119 rfl rfl
set_option maxRecDepth 20000 in
theorem kw_1120 : Cond.selects RX9 yX9_count yX9_count ∈ lw_all := z_all 1120 rfl rfl
set_option maxRecDepth 20000 in
theorem kw_1121 : Cond.code yX9_count cX9_count 2 (some .int) ∈ lw_all := z_all 1121 rfl rfl
set_option maxRecDepth 20000 in
theorem kw_1122 : Cond.methodLink RX9 341 yX6_rows ∈ lw_all := z_all 1122 rfl rfl
set_option maxRecDepth 20000 in
theorem kw_1123 : Cond.instanceMethod yX6_rows ∈ lw_all := z_all 1123 rfl rfl
set_option maxRecDepth 20000 in
theorem kw_1124 : Cond.selects RX6 yX6_rows yX6_rows ∈ lw_all := z_all 1124 rfl rfl
set_option maxRecDepth 20000 in
theorem kw_1125 : Cond.code yX6_rows cX6_rows 3 (some .int) ∈ lw_all := z_all 1125 rfl rfl
set_option maxRecDepth 20000 in
theorem kw_1126 : Cond.methodLink RX6 29 yX6_hasRow ∈ lw_all := z_all 1126 rfl rfl
set_option maxRecDepth 20000 in
theorem kw_1127 : Cond.methodLink RL 163 yX9_keep ∈ lw_all := z_all 1127 rfl rfl
set_option maxRecDepth 20000 in
theorem kw_1128 : Cond.instanceMethod yX9_keep ∈ lw_all := z_all 1128 rfl rfl
set_option maxRecDepth 20000 in
theorem kw_1129 : Cond.selects RX9 yX9_keep yX9_keep ∈ lw_all := z_all 1129 rfl rfl
set_option maxRecDepth 20000 in
theorem kw_1130 : Cond.code yX9_keep cX9_keep 2 (some .int) ∈ lw_all := z_all 1130 rfl rfl
set_option maxRecDepth 20000 in
theorem kw_1131 : Cond.methodLink RL 167 yX9_back ∈ lw_all := z_all 1131 rfl rfl
set_option maxRecDepth 20000 in
theorem kw_1132 : Cond.instanceMethod yX9_back ∈ lw_all := z_all 1132 rfl rfl
set_option maxRecDepth 20000 in
theorem kw_1133 : Cond.selects RX9 yX9_back yX9_back ∈ lw_all := z_all 1133 rfl rfl
set_option maxRecDepth 20000 in
theorem kw_1134 : Cond.code yX9_back cX9_back 2 (some .int) ∈ lw_all := z_all 1134 rfl rfl
set_option maxRecDepth 20000 in
theorem kw_1135 : Cond.methodLink RL 171 yX9_row ∈ lw_all := z_all 1135 rfl rfl
set_option maxRecDepth 20000 in
theorem kw_1136 : Cond.instanceMethod yX9_row ∈ lw_all := z_all 1136 rfl rfl
set_option maxRecDepth 20000 in
theorem kw_1137 : Cond.selects RX9 yX9_row yX9_row ∈ lw_all := z_all 1137 rfl rfl
set_option maxRecDepth 20000 in
theorem kw_1138 : Cond.code yX9_row cX9_row 4 (some .int) ∈ lw_all := z_all 1138 rfl rfl
set_option maxRecDepth 20000 in
theorem kw_1139 : Cond.methodLink RX9 344 yX6_lay ∈ lw_all := z_all 1139 rfl rfl
set_option maxRecDepth 20000 in
theorem kw_1140 : Cond.instanceMethod yX6_lay ∈ lw_all := z_all 1140 rfl rfl
set_option maxRecDepth 20000 in
theorem kw_1141 : Cond.selects RX6 yX6_lay yX6_lay ∈ lw_all := z_all 1141 rfl rfl
set_option maxRecDepth 20000 in
theorem kw_1142 : Cond.code yX6_lay cX6_lay 4 none ∈ lw_all := z_all 1142 rfl rfl
set_option maxRecDepth 20000 in
theorem kw_1143 : Cond.methodLink RX6 33 yJ7_fill_d0a16 ∈ lw_all := z_all 1143 rfl rfl
set_option maxRecDepth 20000 in
theorem kw_1144 : Cond.static yJ7_fill_d0a16 ∈ lw_all := z_all 1144 rfl rfl
set_option maxRecDepth 20000 in
theorem kw_1145 : Cond.code yJ7_fill_d0a16 cJ7_fill_d0a16 5 none ∈ lw_all := z_all 1145 rfl rfl
set_option maxRecDepth 20000 in
theorem kw_1146 : Cond.methodLink RL 177 yX9_write ∈ lw_all := z_all 1146 rfl rfl
set_option maxRecDepth 20000 in
theorem kw_1147 : Cond.instanceMethod yX9_write ∈ lw_all := z_all 1147 rfl rfl
set_option maxRecDepth 20000 in
theorem kw_1148 : Cond.selects RX9 yX9_write yX9_write ∈ lw_all := z_all 1148 rfl rfl
set_option maxRecDepth 20000 in
theorem kw_1149 : Cond.code yX9_write cX9_write 5 (some .int) ∈ lw_all := z_all 1149 rfl rfl
set_option maxRecDepth 20000 in
theorem kw_1150 : Cond.methodLink RX9 350 yX6_cut ∈ lw_all := z_all 1150 rfl rfl
set_option maxRecDepth 20000 in
theorem kw_1151 : Cond.static yX6_cut ∈ lw_all := z_all 1151 rfl rfl
set_option maxRecDepth 20000 in
theorem kw_1152 : Cond.code yX6_cut cX6_cut 3 (some .long) ∈ lw_all := z_all 1152 rfl rfl
set_option maxRecDepth 20000 in
theorem kw_1153 : Cond.methodLink RL 182 yX9_paste ∈ lw_all := z_all 1153 rfl rfl
set_option maxRecDepth 20000 in
theorem kw_1154 : Cond.instanceMethod yX9_paste ∈ lw_all := z_all 1154 rfl rfl
set_option maxRecDepth 20000 in
theorem kw_1155 : Cond.selects RX9 yX9_paste yX9_paste ∈ lw_all := z_all 1155 rfl rfl
set_option maxRecDepth 20000 in
theorem kw_1156 : Cond.code yX9_paste cX9_paste 6 (some .int) ∈ lw_all := z_all 1156 rfl rfl
set_option maxRecDepth 20000 in
theorem kw_1157 : Cond.methodLink RX9 354 yX6_reaches ∈ lw_all := z_all 1157 rfl rfl
set_option maxRecDepth 20000 in
theorem kw_1158 : Cond.instanceMethod yX6_reaches ∈ lw_all := z_all 1158 rfl rfl
set_option maxRecDepth 20000 in
theorem kw_1159 : Cond.selects RX6 yX6_reaches yX6_reaches ∈ lw_all := z_all 1159 rfl rfl
set_option maxRecDepth 20000 in
theorem kw_1160 : Cond.code yX6_reaches cX6_reaches 4 (some .boolean) ∈ lw_all := z_all 1160 rfl rfl
set_option maxRecDepth 20000 in
theorem kw_1161 : Cond.methodLink RX9 358 ⟨"java/lang/System", "arraycopy", "(Ljava/lang/Object;ILjava/lang/Object;II)V"⟩ ∈ lw_all := z_all 1161 rfl rfl
set_option maxRecDepth 20000 in
theorem kw_1162 : Cond.classLink RL 10 RX10 ∈ lw_all := z_all 1162 rfl rfl
set_option maxRecDepth 20000 in
theorem kw_1163 : Cond.instantiable RX10 54 ∈ lw_all := z_all 1163 rfl rfl
set_option maxRecDepth 20000 in
theorem kw_1164 : Cond.methodLink RL 12 yX10_init ∈ lw_all := z_all 1164 rfl rfl
set_option maxRecDepth 20000 in
theorem kw_1165 : Cond.instanceMethod yX10_init ∈ lw_all := z_all 1165 rfl rfl
set_option maxRecDepth 20000 in
theorem kw_1166 : Cond.code yX10_init cX10_init 2 none ∈ lw_all := z_all 1166 rfl rfl
set_option maxRecDepth 20000 in
theorem kw_1167 : Cond.methodLink RX10 1 ⟨"java/lang/Object", "<init>", "()V"⟩ ∈ lw_all := z_all 1167 rfl rfl
set_option maxRecDepth 20000 in
theorem kw_1168 : Cond.fieldLink RX10 104 "HundredthSheepModel" "thrown" "I" ∈ lw_all := z_all 1168 rfl rfl
set_option maxRecDepth 20000 in
theorem kw_1169 : Cond.fieldLink RX10 7 "HundredthSheepModel" "width" "[I" ∈ lw_all := z_all 1169 rfl rfl
set_option maxRecDepth 20000 in
theorem kw_1170 : Cond.fieldLink RX10 13 "HundredthSheepModel" "many" "[I" ∈ lw_all := z_all 1170 rfl rfl
set_option maxRecDepth 20000 in
theorem kw_1171 : Cond.fieldLink RX10 16 "HundredthSheepModel" "cells" "[J" ∈ lw_all := z_all 1171 rfl rfl
set_option maxRecDepth 20000 in
theorem kw_1172 : Cond.fieldLink RX10 20 "HundredthSheepModel" "moved" "[J" ∈ lw_all := z_all 1172 rfl rfl
set_option maxRecDepth 20000 in
theorem kw_1173 : Cond.fieldLink RX10 23 "HundredthSheepModel" "tape" "[B" ∈ lw_all := z_all 1173 rfl rfl
set_option maxRecDepth 20000 in
theorem kw_1174 : Cond.fieldLink RX10 121 "HundredthSheepModel" "taped" "I" ∈ lw_all := z_all 1174 rfl rfl
set_option maxRecDepth 20000 in
theorem kw_1175 : Cond.fieldLink RX10 128 "HundredthSheepModel" "at" "I" ∈ lw_all := z_all 1175 rfl rfl
set_option maxRecDepth 20000 in
theorem kw_1176 : Cond.fieldLink RX10 145 "HundredthSheepModel" "token" "I" ∈ lw_all := z_all 1176 rfl rfl
set_option maxRecDepth 20000 in
theorem kw_1177 : Cond.fieldLink RX10 135 "HundredthSheepModel" "place" "I" ∈ lw_all := z_all 1177 rfl rfl
set_option maxRecDepth 20000 in
theorem kw_1178 : Cond.fieldLink RX10 138 "HundredthSheepModel" "value" "I" ∈ lw_all := z_all 1178 rfl rfl
set_option maxRecDepth 20000 in
theorem kw_1179 : Cond.fieldLink RX10 141 "HundredthSheepModel" "word" "J" ∈ lw_all := z_all 1179 rfl rfl
set_option maxRecDepth 20000 in
theorem kw_1180 : Cond.fieldLink RX10 156 "HundredthSheepModel" "bad" "I" ∈ lw_all := z_all 1180 rfl rfl
set_option maxRecDepth 20000 in
theorem kw_1181 : Cond.fieldLink RX10 159 "HundredthSheepModel" "badPlace" "I" ∈ lw_all := z_all 1181 rfl rfl
set_option maxRecDepth 20000 in
theorem kw_1182 : Cond.fieldLink RX10 183 "HundredthSheepModel" "fault" "I" ∈ lw_all := z_all 1182 rfl rfl
set_option maxRecDepth 20000 in
theorem kw_1183 : Cond.fieldLink RX10 27 "HundredthSheepModel" "faultPlace" "I" ∈ lw_all := z_all 1183 rfl rfl
set_option maxRecDepth 20000 in
theorem kw_1184 : Cond.fieldLink RX10 31 "HundredthSheepModel" "lines" "[I" ∈ lw_all := z_all 1184 rfl rfl
set_option maxRecDepth 20000 in
theorem kw_1185 : Cond.fieldLink RX10 34 "HundredthSheepModel" "has" "[I" ∈ lw_all := z_all 1185 rfl rfl
set_option maxRecDepth 20000 in
theorem kw_1186 : Cond.fieldLink RX10 37 "HundredthSheepModel" "law" "[I" ∈ lw_all := z_all 1186 rfl rfl
set_option maxRecDepth 20000 in
theorem kw_1187 : Cond.fieldLink RX10 40 "HundredthSheepModel" "start" "[I" ∈ lw_all := z_all 1187 rfl rfl
set_option maxRecDepth 20000 in
theorem kw_1188 : Cond.fieldLink RX10 43 "HundredthSheepModel" "fog" "[I" ∈ lw_all := z_all 1188 rfl rfl
set_option maxRecDepth 20000 in
theorem kw_1189 : Cond.fieldLink RX10 46 "HundredthSheepModel" "drive" "[I" ∈ lw_all := z_all 1189 rfl rfl
set_option maxRecDepth 20000 in
theorem kw_1190 : Cond.fieldLink RX10 225 "HundredthSheepModel" "areOwnersTold" "Z" ∈ lw_all := z_all 1190 rfl rfl
set_option maxRecDepth 20000 in
theorem kw_1191 : Cond.fieldLink RX10 49 "HundredthSheepModel" "isKept" "[Z" ∈ lw_all := z_all 1191 rfl rfl
set_option maxRecDepth 20000 in
theorem kw_1192 : Cond.fieldLink RX10 53 "HundredthSheepModel" "without" "I" ∈ lw_all := z_all 1192 rfl rfl
set_option maxRecDepth 20000 in
theorem kw_1193 : Cond.fieldLink RX10 321 "HundredthSheepModel" "manyNow" "I" ∈ lw_all := z_all 1193 rfl rfl
set_option maxRecDepth 20000 in
theorem kw_1194 : Cond.fieldLink RX10 339 "HundredthSheepModel" "x" "J" ∈ lw_all := z_all 1194 rfl rfl
set_option maxRecDepth 20000 in
theorem kw_1195 : Cond.fieldLink RX10 357 "HundredthSheepModel" "isMixed" "Z" ∈ lw_all := z_all 1195 rfl rfl
set_option maxRecDepth 20000 in
theorem kw_1196 : Cond.fieldLink RX10 354 "HundredthSheepModel" "upTo" "I" ∈ lw_all := z_all 1196 rfl rfl
set_option maxRecDepth 20000 in
theorem kw_1197 : Cond.fieldLink RX10 56 "HundredthSheepModel" "row" "[I" ∈ lw_all := z_all 1197 rfl rfl
set_option maxRecDepth 20000 in
theorem kw_1198 : Cond.fieldLink RX10 318 "HundredthSheepModel" "rowMany" "I" ∈ lw_all := z_all 1198 rfl rfl
set_option maxRecDepth 20000 in
theorem kw_1199 : Cond.fieldLink RX10 59 "HundredthSheepModel" "counter" "[I" ∈ lw_all := z_all 1199 rfl rfl
set_option maxRecDepth 20000 in
theorem kw_1200 : Cond.fieldLink RX10 62 "HundredthSheepModel" "seen" "[I" ∈ lw_all := z_all 1200 rfl rfl
set_option maxRecDepth 20000 in
theorem kw_1201 : Cond.fieldLink RX10 65 "HundredthSheepModel" "through" "[I" ∈ lw_all := z_all 1201 rfl rfl
set_option maxRecDepth 20000 in
theorem kw_1202 : Cond.fieldLink RX10 68 "HundredthSheepModel" "counted" "[I" ∈ lw_all := z_all 1202 rfl rfl
set_option maxRecDepth 20000 in
theorem kw_1203 : Cond.fieldLink RX10 71 "HundredthSheepModel" "beast" "[I" ∈ lw_all := z_all 1203 rfl rfl
set_option maxRecDepth 20000 in
theorem kw_1204 : Cond.fieldLink RX10 331 "HundredthSheepModel" "dayNow" "I" ∈ lw_all := z_all 1204 rfl rfl
set_option maxRecDepth 20000 in
theorem kw_1205 : Cond.fieldLink RX10 74 "HundredthSheepModel" "dueOf" "[I" ∈ lw_all := z_all 1205 rfl rfl
set_option maxRecDepth 20000 in
theorem kw_1206 : Cond.fieldLink RX10 328 "HundredthSheepModel" "dueMany" "I" ∈ lw_all := z_all 1206 rfl rfl
set_option maxRecDepth 20000 in
theorem kw_1207 : Cond.fieldLink RX10 77 "HundredthSheepModel" "duesBy" "[I" ∈ lw_all := z_all 1207 rfl rfl
set_option maxRecDepth 20000 in
theorem kw_1208 : Cond.fieldLink RX10 392 "HundredthSheepModel" "bestPaid" "I" ∈ lw_all := z_all 1208 rfl rfl
set_option maxRecDepth 20000 in
theorem kw_1209 : Cond.fieldLink RX10 395 "HundredthSheepModel" "bestGap" "I" ∈ lw_all := z_all 1209 rfl rfl
set_option maxRecDepth 20000 in
theorem kw_1210 : Cond.fieldLink RX10 398 "HundredthSheepModel" "bestHour" "I" ∈ lw_all := z_all 1210 rfl rfl
set_option maxRecDepth 20000 in
theorem kw_1211 : Cond.fieldLink RX10 80 "HundredthSheepModel" "paidNow" "[I" ∈ lw_all := z_all 1211 rfl rfl
set_option maxRecDepth 20000 in
theorem kw_1212 : Cond.fieldLink RX10 83 "HundredthSheepModel" "wasGap" "[I" ∈ lw_all := z_all 1212 rfl rfl
set_option maxRecDepth 20000 in
theorem kw_1213 : Cond.fieldLink RX10 86 "HundredthSheepModel" "wasHour" "[I" ∈ lw_all := z_all 1213 rfl rfl
set_option maxRecDepth 20000 in
theorem kw_1214 : Cond.fieldLink RX10 89 "HundredthSheepModel" "then" "[I" ∈ lw_all := z_all 1214 rfl rfl
set_option maxRecDepth 20000 in
theorem kw_1215 : Cond.fieldLink RX10 92 "HundredthSheepModel" "here" "[I" ∈ lw_all := z_all 1215 rfl rfl
set_option maxRecDepth 20000 in
theorem kw_1216 : Cond.fieldLink RX10 425 "HundredthSheepModel" "hereMany" "I" ∈ lw_all := z_all 1216 rfl rfl
set_option maxRecDepth 20000 in
theorem kw_1217 : Cond.fieldLink RX10 95 "HundredthSheepModel" "tried" "[I" ∈ lw_all := z_all 1217 rfl rfl
set_option maxRecDepth 20000 in
theorem kw_1218 : Cond.fieldLink RX10 98 "HundredthSheepModel" "foundOrder" "[I" ∈ lw_all := z_all 1218 rfl rfl
set_option maxRecDepth 20000 in
theorem kw_1219 : Cond.fieldLink RX10 101 "HundredthSheepModel" "placeOf" "[I" ∈ lw_all := z_all 1219 rfl rfl
set_option maxRecDepth 20000 in
theorem kw_1220 : Cond.fieldLink RX10 434 "HundredthSheepModel" "ordersMet" "I" ∈ lw_all := z_all 1220 rfl rfl
set_option maxRecDepth 20000 in
theorem kw_1221 : Cond.fieldLink RX10 431 "HundredthSheepModel" "startHere" "I" ∈ lw_all := z_all 1221 rfl rfl
set_option maxRecDepth 20000 in
theorem kw_1331 : Cond.methodLink RL 174 yX10_row ∈ lw_all := z_all 1331 rfl rfl
set_option maxRecDepth 20000 in
theorem kw_1332 : Cond.instanceMethod yX10_row ∈ lw_all := z_all 1332 rfl rfl
set_option maxRecDepth 20000 in
theorem kw_1333 : Cond.selects RX10 yX10_row yX10_row ∈ lw_all := z_all 1333 rfl rfl
set_option maxRecDepth 20000 in
theorem kw_1334 : Cond.code yX10_row cX10_row 5 (some .int) ∈ lw_all := z_all 1334 rfl rfl
set_option maxRecDepth 20000 in
theorem kw_1335 : Cond.methodLink RX10 113 yX10_isSlot ∈ lw_all := z_all 1335 rfl rfl
set_option maxRecDepth 20000 in
theorem kw_1336 : Cond.static yX10_isSlot ∈ lw_all := z_all 1336 rfl rfl
set_option maxRecDepth 20000 in
theorem kw_1337 : Cond.code yX10_isSlot cX10_isSlot 1 (some .boolean) ∈ lw_all := z_all 1337 rfl rfl
set_option maxRecDepth 20000 in
theorem kw_1338 : Cond.constantLong RX10 107 (3) ∈ lw_all := z_all 1338 rfl rfl
set_option maxRecDepth 20000 in
theorem kw_1339 : Cond.methodLink RX10 109 yX10_in ∈ lw_all := z_all 1339 rfl rfl
set_option maxRecDepth 20000 in
theorem kw_1340 : Cond.static yX10_in ∈ lw_all := z_all 1340 rfl rfl
set_option maxRecDepth 20000 in
theorem kw_1341 : Cond.code yX10_in cX10_in 6 (some .boolean) ∈ lw_all := z_all 1341 rfl rfl
set_option maxRecDepth 20000 in
theorem kw_1342 : Cond.methodLink RL 181 yX10_write ∈ lw_all := z_all 1342 rfl rfl
set_option maxRecDepth 20000 in
theorem kw_1343 : Cond.instanceMethod yX10_write ∈ lw_all := z_all 1343 rfl rfl
set_option maxRecDepth 20000 in
theorem kw_1344 : Cond.selects RX10 yX10_write yX10_write ∈ lw_all := z_all 1344 rfl rfl
set_option maxRecDepth 20000 in
theorem kw_1345 : Cond.code yX10_write cX10_write 5 (some .int) ∈ lw_all := z_all 1345 rfl rfl
set_option maxRecDepth 20000 in
theorem kw_1346 : Cond.methodLink RX10 117 yX10_cut ∈ lw_all := z_all 1346 rfl rfl
set_option maxRecDepth 20000 in
theorem kw_1347 : Cond.static yX10_cut ∈ lw_all := z_all 1347 rfl rfl
set_option maxRecDepth 20000 in
theorem kw_1348 : Cond.code yX10_cut cX10_cut 3 (some .long) ∈ lw_all := z_all 1348 rfl rfl
set_option maxRecDepth 20000 in
theorem kw_1349 : Cond.methodLink RL 185 yX10_paste ∈ lw_all := z_all 1349 rfl rfl
set_option maxRecDepth 20000 in
theorem kw_1350 : Cond.instanceMethod yX10_paste ∈ lw_all := z_all 1350 rfl rfl
set_option maxRecDepth 20000 in
theorem kw_1351 : Cond.selects RX10 yX10_paste yX10_paste ∈ lw_all := z_all 1351 rfl rfl
set_option maxRecDepth 20000 in
theorem kw_1352 : Cond.code yX10_paste cX10_paste 7 (some .int) ∈ lw_all := z_all 1352 rfl rfl
set_option maxRecDepth 20000 in
theorem kw_1353 : Cond.methodLink RL 17 yX10_feed ∈ lw_all := z_all 1353 rfl rfl
set_option maxRecDepth 20000 in
theorem kw_1354 : Cond.instanceMethod yX10_feed ∈ lw_all := z_all 1354 rfl rfl
set_option maxRecDepth 20000 in
theorem kw_1355 : Cond.selects RX10 yX10_feed yX10_feed ∈ lw_all := z_all 1355 rfl rfl
set_option maxRecDepth 20000 in
theorem kw_1356 : Cond.code yX10_feed cX10_feed 6 (some .int) ∈ lw_all := z_all 1356 rfl rfl
set_option maxRecDepth 20000 in
theorem kw_1357 : Cond.methodLink RX10 124 yX10_four ∈ lw_all := z_all 1357 rfl rfl
set_option maxRecDepth 20000 in
theorem kw_1359 : Cond.instanceMethod yX10_four ∈ lw_all := z_all 1359 rfl rfl
set_option maxRecDepth 20000 in
theorem kw_1360 : Cond.code yX10_four cX10_four 3 none ∈ lw_all := z_all 1360 rfl rfl
set_option maxRecDepth 20000 in
theorem kw_1361 : Cond.methodLink RL 22 yX10_end ∈ lw_all := z_all 1361 rfl rfl
set_option maxRecDepth 20000 in
theorem kw_1362 : Cond.instanceMethod yX10_end ∈ lw_all := z_all 1362 rfl rfl
set_option maxRecDepth 20000 in
theorem kw_1363 : Cond.selects RX10 yX10_end yX10_end ∈ lw_all := z_all 1363 rfl rfl
set_option maxRecDepth 20000 in
theorem kw_1364 : Cond.code yX10_end cX10_end 2 (some .int) ∈ lw_all := z_all 1364 rfl rfl
set_option maxRecDepth 20000 in
theorem kw_1365 : Cond.methodLink RL 31 yX10_fault ∈ lw_all := z_all 1365 rfl rfl
set_option maxRecDepth 20000 in
theorem kw_1366 : Cond.instanceMethod yX10_fault ∈ lw_all := z_all 1366 rfl rfl
set_option maxRecDepth 20000 in
theorem kw_1367 : Cond.selects RX10 yX10_fault yX10_fault ∈ lw_all := z_all 1367 rfl rfl
set_option maxRecDepth 20000 in
theorem kw_1368 : Cond.code yX10_fault cX10_fault 2 (some .int) ∈ lw_all := z_all 1368 rfl rfl
set_option maxRecDepth 20000 in
theorem kw_1369 : Cond.methodLink RL 27 yX10_moor ∈ lw_all := z_all 1369 rfl rfl
set_option maxRecDepth 20000 in
theorem kw_1370 : Cond.instanceMethod yX10_moor ∈ lw_all := z_all 1370 rfl rfl
set_option maxRecDepth 20000 in
theorem kw_1371 : Cond.selects RX10 yX10_moor yX10_moor ∈ lw_all := z_all 1371 rfl rfl
set_option maxRecDepth 20000 in
theorem kw_1372 : Cond.code yX10_moor cX10_moor 1 (some .int) ∈ lw_all := z_all 1372 rfl rfl
set_option maxRecDepth 20000 in
theorem kw_1373 : Cond.methodLink RX10 249 yX10_clears ∈ lw_all := z_all 1373 rfl rfl
set_option maxRecDepth 20000 in
theorem kw_1375 : Cond.instanceMethod yX10_clears ∈ lw_all := z_all 1375 rfl rfl
set_option maxRecDepth 20000 in
theorem kw_1376 : Cond.code yX10_clears cX10_clears 2 none ∈ lw_all := z_all 1376 rfl rfl
set_option maxRecDepth 20000 in
theorem kw_1377 : Cond.methodLink RX10 252 yX10_begins ∈ lw_all := z_all 1377 rfl rfl
set_option maxRecDepth 20000 in
theorem kw_1379 : Cond.instanceMethod yX10_begins ∈ lw_all := z_all 1379 rfl rfl
set_option maxRecDepth 20000 in
theorem kw_1380 : Cond.code yX10_begins cX10_begins 1 none ∈ lw_all := z_all 1380 rfl rfl
set_option maxRecDepth 20000 in
theorem kw_1381 : Cond.methodLink RX10 166 yX10_next ∈ lw_all := z_all 1381 rfl rfl
set_option maxRecDepth 20000 in
theorem kw_1383 : Cond.instanceMethod yX10_next ∈ lw_all := z_all 1383 rfl rfl
set_option maxRecDepth 20000 in
theorem kw_1384 : Cond.code yX10_next cX10_next 2 none ∈ lw_all := z_all 1384 rfl rfl
set_option maxRecDepth 20000 in
theorem kw_1385 : Cond.methodLink RX10 131 yX10_isByte ∈ lw_all := z_all 1385 rfl rfl
set_option maxRecDepth 20000 in
theorem kw_1387 : Cond.instanceMethod yX10_isByte ∈ lw_all := z_all 1387 rfl rfl
set_option maxRecDepth 20000 in
theorem kw_1388 : Cond.code yX10_isByte cX10_isByte 4 (some .boolean) ∈ lw_all := z_all 1388 rfl rfl
set_option maxRecDepth 20000 in
theorem kw_1389 : Cond.constantLong RX10 148 (-1) ∈ lw_all := z_all 1389 rfl rfl
set_option maxRecDepth 20000 in
theorem kw_1390 : Cond.constantLong RX10 150 (27) ∈ lw_all := z_all 1390 rfl rfl
set_option maxRecDepth 20000 in
theorem kw_1391 : Cond.constantLong RX10 152 (96) ∈ lw_all := z_all 1391 rfl rfl
set_option maxRecDepth 20000 in
theorem kw_1392 : Cond.constant RX10 154 (100000) ∈ lw_all := z_all 1392 rfl rfl
set_option maxRecDepth 20000 in
theorem kw_1393 : Cond.constant RX10 155 (1000000) ∈ lw_all := z_all 1393 rfl rfl
set_option maxRecDepth 20000 in
theorem kw_1394 : Cond.methodLink RX10 234 yX10_isGood ∈ lw_all := z_all 1394 rfl rfl
set_option maxRecDepth 20000 in
theorem kw_1396 : Cond.instanceMethod yX10_isGood ∈ lw_all := z_all 1396 rfl rfl
set_option maxRecDepth 20000 in
theorem kw_1397 : Cond.code yX10_isGood cX10_isGood 1 (some .boolean) ∈ lw_all := z_all 1397 rfl rfl
set_option maxRecDepth 20000 in
theorem kw_1398 : Cond.constantLong RX10 255 (267237) ∈ lw_all := z_all 1398 rfl rfl
set_option maxRecDepth 20000 in
theorem kw_1399 : Cond.methodLink RX10 175 yX10_asks ∈ lw_all := z_all 1399 rfl rfl
set_option maxRecDepth 20000 in
theorem kw_1401 : Cond.instanceMethod yX10_asks ∈ lw_all := z_all 1401 rfl rfl
set_option maxRecDepth 20000 in
theorem kw_1402 : Cond.code yX10_asks cX10_asks 3 none ∈ lw_all := z_all 1402 rfl rfl
set_option maxRecDepth 20000 in
theorem kw_1403 : Cond.methodLink RX10 169 yX10_takes ∈ lw_all := z_all 1403 rfl rfl
set_option maxRecDepth 20000 in
theorem kw_1405 : Cond.instanceMethod yX10_takes ∈ lw_all := z_all 1405 rfl rfl
set_option maxRecDepth 20000 in
theorem kw_1406 : Cond.code yX10_takes cX10_takes 3 (some .boolean) ∈ lw_all := z_all 1406 rfl rfl
set_option maxRecDepth 20000 in
theorem kw_1407 : Cond.methodLink RX10 162 yX10_is ∈ lw_all := z_all 1407 rfl rfl
set_option maxRecDepth 20000 in
theorem kw_1409 : Cond.instanceMethod yX10_is ∈ lw_all := z_all 1409 rfl rfl
set_option maxRecDepth 20000 in
theorem kw_1410 : Cond.code yX10_is cX10_is 3 (some .boolean) ∈ lw_all := z_all 1410 rfl rfl
set_option maxRecDepth 20000 in
theorem kw_1411 : Cond.methodLink RX10 172 yX10_fails ∈ lw_all := z_all 1411 rfl rfl
set_option maxRecDepth 20000 in
theorem kw_1413 : Cond.instanceMethod yX10_fails ∈ lw_all := z_all 1413 rfl rfl
set_option maxRecDepth 20000 in
theorem kw_1414 : Cond.code yX10_fails cX10_fails 2 none ∈ lw_all := z_all 1414 rfl rfl
set_option maxRecDepth 20000 in
theorem kw_1415 : Cond.constantLong RX10 186 (138961) ∈ lw_all := z_all 1415 rfl rfl
set_option maxRecDepth 20000 in
theorem kw_1416 : Cond.methodLink RX10 204 yX10_number_ ∈ lw_all := z_all 1416 rfl rfl
set_option maxRecDepth 20000 in
theorem kw_1418 : Cond.instanceMethod yX10_number_ ∈ lw_all := z_all 1418 rfl rfl
set_option maxRecDepth 20000 in
theorem kw_1419 : Cond.code yX10_number_ cX10_number_ 5 (some .int) ∈ lw_all := z_all 1419 rfl rfl
set_option maxRecDepth 20000 in
theorem kw_1420 : Cond.methodLink RX10 179 yX10_number ∈ lw_all := z_all 1420 rfl rfl
set_option maxRecDepth 20000 in
theorem kw_1422 : Cond.instanceMethod yX10_number ∈ lw_all := z_all 1422 rfl rfl
set_option maxRecDepth 20000 in
theorem kw_1423 : Cond.code yX10_number cX10_number 4 (some .int) ∈ lw_all := z_all 1423 rfl rfl
set_option maxRecDepth 20000 in
theorem kw_1424 : Cond.constantLong RX10 257 (80155) ∈ lw_all := z_all 1424 rfl rfl
set_option maxRecDepth 20000 in
theorem kw_1425 : Cond.constantLong RX10 259 (99233) ∈ lw_all := z_all 1425 rfl rfl
set_option maxRecDepth 20000 in
theorem kw_1426 : Cond.constantLong RX10 261 (3488) ∈ lw_all := z_all 1426 rfl rfl
set_option maxRecDepth 20000 in
theorem kw_1427 : Cond.methodLink RX10 263 yX10_line ∈ lw_all := z_all 1427 rfl rfl
set_option maxRecDepth 20000 in
theorem kw_1429 : Cond.instanceMethod yX10_line ∈ lw_all := z_all 1429 rfl rfl
set_option maxRecDepth 20000 in
theorem kw_1430 : Cond.code yX10_line cX10_line 7 none ∈ lw_all := z_all 1430 rfl rfl
set_option maxRecDepth 20000 in
theorem kw_1431 : Cond.constantLong RX10 219 (2487218) ∈ lw_all := z_all 1431 rfl rfl
set_option maxRecDepth 20000 in
theorem kw_1432 : Cond.constantLong RX10 221 (4786) ∈ lw_all := z_all 1432 rfl rfl
set_option maxRecDepth 20000 in
theorem kw_1433 : Cond.constantLong RX10 223 (227736460) ∈ lw_all := z_all 1433 rfl rfl
set_option maxRecDepth 20000 in
theorem kw_1434 : Cond.methodLink RX10 198 yX10_hasRead ∈ lw_all := z_all 1434 rfl rfl
set_option maxRecDepth 20000 in
theorem kw_1436 : Cond.instanceMethod yX10_hasRead ∈ lw_all := z_all 1436 rfl rfl
set_option maxRecDepth 20000 in
theorem kw_1437 : Cond.code yX10_hasRead cX10_hasRead 2 (some .int) ∈ lw_all := z_all 1437 rfl rfl
set_option maxRecDepth 20000 in
theorem kw_1438 : Cond.methodLink RX10 229 yX10_driveLine ∈ lw_all := z_all 1438 rfl rfl
set_option maxRecDepth 20000 in
theorem kw_1440 : Cond.instanceMethod yX10_driveLine ∈ lw_all := z_all 1440 rfl rfl
set_option maxRecDepth 20000 in
theorem kw_1441 : Cond.code yX10_driveLine cX10_driveLine 3 none ∈ lw_all := z_all 1441 rfl rfl
set_option maxRecDepth 20000 in
theorem kw_1442 : Cond.constantLong RX10 202 (5146) ∈ lw_all := z_all 1442 rfl rfl
set_option maxRecDepth 20000 in
theorem kw_1443 : Cond.constantLong RX10 207 (419) ∈ lw_all := z_all 1443 rfl rfl
set_option maxRecDepth 20000 in
theorem kw_1444 : Cond.constantLong RX10 209 (47) ∈ lw_all := z_all 1444 rfl rfl
set_option maxRecDepth 20000 in
theorem kw_1445 : Cond.constantLong RX10 211 (10258639) ∈ lw_all := z_all 1445 rfl rfl
set_option maxRecDepth 20000 in
theorem kw_1446 : Cond.constantLong RX10 213 (6406525) ∈ lw_all := z_all 1446 rfl rfl
set_option maxRecDepth 20000 in
theorem kw_1447 : Cond.constantLong RX10 215 (6218149981) ∈ lw_all := z_all 1447 rfl rfl
set_option maxRecDepth 20000 in
theorem kw_1448 : Cond.constantLong RX10 217 (237281) ∈ lw_all := z_all 1448 rfl rfl
set_option maxRecDepth 20000 in
theorem kw_1449 : Cond.constantLong RX10 232 (191706742) ∈ lw_all := z_all 1449 rfl rfl
set_option maxRecDepth 20000 in
theorem kw_1450 : Cond.constantLong RX10 238 (8798) ∈ lw_all := z_all 1450 rfl rfl
set_option maxRecDepth 20000 in
theorem kw_1451 : Cond.methodLink RX10 240 yX10_lawLine ∈ lw_all := z_all 1451 rfl rfl
set_option maxRecDepth 20000 in
theorem kw_1453 : Cond.instanceMethod yX10_lawLine ∈ lw_all := z_all 1453 rfl rfl
set_option maxRecDepth 20000 in
theorem kw_1454 : Cond.code yX10_lawLine cX10_lawLine 2 none ∈ lw_all := z_all 1454 rfl rfl
set_option maxRecDepth 20000 in
theorem kw_1455 : Cond.constantLong RX10 188 (1065) ∈ lw_all := z_all 1455 rfl rfl
set_option maxRecDepth 20000 in
theorem kw_1456 : Cond.constantLong RX10 190 (220309) ∈ lw_all := z_all 1456 rfl rfl
set_option maxRecDepth 20000 in
theorem kw_1457 : Cond.constantLong RX10 192 (1834209) ∈ lw_all := z_all 1457 rfl rfl
set_option maxRecDepth 20000 in
theorem kw_1458 : Cond.constantLong RX10 194 (1905275) ∈ lw_all := z_all 1458 rfl rfl
set_option maxRecDepth 20000 in
theorem kw_1459 : Cond.constantLong RX10 196 (316189) ∈ lw_all := z_all 1459 rfl rfl
set_option maxRecDepth 20000 in
theorem kw_1460 : Cond.constantLong RX10 243 (10492274) ∈ lw_all := z_all 1460 rfl rfl
set_option maxRecDepth 20000 in
theorem kw_1461 : Cond.constantLong RX10 245 (262) ∈ lw_all := z_all 1461 rfl rfl
set_option maxRecDepth 20000 in
theorem kw_1462 : Cond.constantLong RX10 247 (131638) ∈ lw_all := z_all 1462 rfl rfl
set_option maxRecDepth 20000 in
theorem kw_1463 : Cond.methodLink RX10 266 yX10_ends ∈ lw_all := z_all 1463 rfl rfl
set_option maxRecDepth 20000 in
theorem kw_1465 : Cond.instanceMethod yX10_ends ∈ lw_all := z_all 1465 rfl rfl
set_option maxRecDepth 20000 in
theorem kw_1466 : Cond.code yX10_ends cX10_ends 1 none ∈ lw_all := z_all 1466 rfl rfl
set_option maxRecDepth 20000 in
theorem kw_1467 : Cond.methodLink RX10 269 yX10_isOver ∈ lw_all := z_all 1467 rfl rfl
set_option maxRecDepth 20000 in
theorem kw_1469 : Cond.instanceMethod yX10_isOver ∈ lw_all := z_all 1469 rfl rfl
set_option maxRecDepth 20000 in
theorem kw_1470 : Cond.code yX10_isOver cX10_isOver 1 none ∈ lw_all := z_all 1470 rfl rfl
set_option maxRecDepth 20000 in
theorem kw_1471 : Cond.methodLink RX10 272 yX10_copyMoor ∈ lw_all := z_all 1471 rfl rfl
set_option maxRecDepth 20000 in
theorem kw_1473 : Cond.instanceMethod yX10_copyMoor ∈ lw_all := z_all 1473 rfl rfl
set_option maxRecDepth 20000 in
theorem kw_1474 : Cond.code yX10_copyMoor cX10_copyMoor 3 none ∈ lw_all := z_all 1474 rfl rfl
set_option maxRecDepth 20000 in
theorem kw_1475 : Cond.methodLink RX10 276 yX10_copyRow ∈ lw_all := z_all 1475 rfl rfl
set_option maxRecDepth 20000 in
theorem kw_1476 : Cond.static yX10_copyRow ∈ lw_all := z_all 1476 rfl rfl
set_option maxRecDepth 20000 in
theorem kw_1477 : Cond.code yX10_copyRow cX10_copyRow 5 none ∈ lw_all := z_all 1477 rfl rfl
set_option maxRecDepth 20000 in
theorem kw_1478 : Cond.methodLink RL 36 yX10_drive ∈ lw_all := z_all 1478 rfl rfl
set_option maxRecDepth 20000 in
theorem kw_1479 : Cond.instanceMethod yX10_drive ∈ lw_all := z_all 1479 rfl rfl
set_option maxRecDepth 20000 in
theorem kw_1480 : Cond.selects RX10 yX10_drive yX10_drive ∈ lw_all := z_all 1480 rfl rfl
set_option maxRecDepth 20000 in
theorem kw_1481 : Cond.code yX10_drive cX10_drive 3 (some .int) ∈ lw_all := z_all 1481 rfl rfl
set_option maxRecDepth 20000 in
theorem kw_1482 : Cond.methodLink RX10 288 yX10_isDrive ∈ lw_all := z_all 1482 rfl rfl
set_option maxRecDepth 20000 in
theorem kw_1484 : Cond.instanceMethod yX10_isDrive ∈ lw_all := z_all 1484 rfl rfl
set_option maxRecDepth 20000 in
theorem kw_1485 : Cond.code yX10_isDrive cX10_isDrive 2 (some .boolean) ∈ lw_all := z_all 1485 rfl rfl
set_option maxRecDepth 20000 in
theorem kw_1486 : Cond.constantLong RX10 291 (7) ∈ lw_all := z_all 1486 rfl rfl
set_option maxRecDepth 20000 in
theorem kw_1487 : Cond.methodLink RX10 285 yX10_of ∈ lw_all := z_all 1487 rfl rfl
set_option maxRecDepth 20000 in
theorem kw_1489 : Cond.instanceMethod yX10_of ∈ lw_all := z_all 1489 rfl rfl
set_option maxRecDepth 20000 in
theorem kw_1490 : Cond.code yX10_of cX10_of 3 (some .int) ∈ lw_all := z_all 1490 rfl rfl
set_option maxRecDepth 20000 in
theorem kw_1491 : Cond.methodLink RL 40 yX10_goes ∈ lw_all := z_all 1491 rfl rfl
set_option maxRecDepth 20000 in
theorem kw_1492 : Cond.instanceMethod yX10_goes ∈ lw_all := z_all 1492 rfl rfl
set_option maxRecDepth 20000 in
theorem kw_1493 : Cond.selects RX10 yX10_goes yX10_goes ∈ lw_all := z_all 1493 rfl rfl
set_option maxRecDepth 20000 in
theorem kw_1494 : Cond.code yX10_goes cX10_goes 2 (some .int) ∈ lw_all := z_all 1494 rfl rfl
set_option maxRecDepth 20000 in
theorem kw_1495 : Cond.methodLink RX10 293 yX10_timeOf ∈ lw_all := z_all 1495 rfl rfl
set_option maxRecDepth 20000 in
theorem kw_1497 : Cond.instanceMethod yX10_timeOf ∈ lw_all := z_all 1497 rfl rfl
set_option maxRecDepth 20000 in
theorem kw_1498 : Cond.code yX10_timeOf cX10_timeOf 2 (some .int) ∈ lw_all := z_all 1498 rfl rfl
set_option maxRecDepth 20000 in
theorem kw_1499 : Cond.methodLink RX10 296 yX10_end_ ∈ lw_all := z_all 1499 rfl rfl
set_option maxRecDepth 20000 in
theorem kw_1501 : Cond.instanceMethod yX10_end_ ∈ lw_all := z_all 1501 rfl rfl
set_option maxRecDepth 20000 in
theorem kw_1502 : Cond.code yX10_end_ cX10_end_ 1 (some .int) ∈ lw_all := z_all 1502 rfl rfl
set_option maxRecDepth 20000 in
theorem kw_1503 : Cond.methodLink RL 44 yX10_law ∈ lw_all := z_all 1503 rfl rfl
set_option maxRecDepth 20000 in
theorem kw_1504 : Cond.instanceMethod yX10_law ∈ lw_all := z_all 1504 rfl rfl
set_option maxRecDepth 20000 in
theorem kw_1505 : Cond.selects RX10 yX10_law yX10_law ∈ lw_all := z_all 1505 rfl rfl
set_option maxRecDepth 20000 in
theorem kw_1506 : Cond.code yX10_law cX10_law 4 (some .int) ∈ lw_all := z_all 1506 rfl rfl
set_option maxRecDepth 20000 in
theorem kw_1507 : Cond.methodLink RX10 280 yX10_isMoor ∈ lw_all := z_all 1507 rfl rfl
set_option maxRecDepth 20000 in
theorem kw_1509 : Cond.instanceMethod yX10_isMoor ∈ lw_all := z_all 1509 rfl rfl
set_option maxRecDepth 20000 in
theorem kw_1510 : Cond.code yX10_isMoor cX10_isMoor 1 (some .boolean) ∈ lw_all := z_all 1510 rfl rfl
set_option maxRecDepth 20000 in
theorem kw_1511 : Cond.constantLong RX10 300 (4) ∈ lw_all := z_all 1511 rfl rfl
set_option maxRecDepth 20000 in
theorem kw_1512 : Cond.constantLong RX10 302 (2) ∈ lw_all := z_all 1512 rfl rfl
set_option maxRecDepth 20000 in
theorem kw_1513 : Cond.constantLong RX10 304 (100) ∈ lw_all := z_all 1513 rfl rfl
set_option maxRecDepth 20000 in
theorem kw_1514 : Cond.constantLong RX10 306 (999) ∈ lw_all := z_all 1514 rfl rfl
set_option maxRecDepth 20000 in
theorem kw_1515 : Cond.methodLink RL 49 yX10_sets ∈ lw_all := z_all 1515 rfl rfl
set_option maxRecDepth 20000 in
theorem kw_1516 : Cond.instanceMethod yX10_sets ∈ lw_all := z_all 1516 rfl rfl
set_option maxRecDepth 20000 in
theorem kw_1517 : Cond.selects RX10 yX10_sets yX10_sets ∈ lw_all := z_all 1517 rfl rfl
set_option maxRecDepth 20000 in
theorem kw_1518 : Cond.code yX10_sets cX10_sets 5 (some .int) ∈ lw_all := z_all 1518 rfl rfl
set_option maxRecDepth 20000 in
theorem kw_1519 : Cond.methodLink RX10 308 yX10_isGap ∈ lw_all := z_all 1519 rfl rfl
set_option maxRecDepth 20000 in
theorem kw_1521 : Cond.instanceMethod yX10_isGap ∈ lw_all := z_all 1521 rfl rfl
set_option maxRecDepth 20000 in
theorem kw_1522 : Cond.code yX10_isGap cX10_isGap 2 (some .boolean) ∈ lw_all := z_all 1522 rfl rfl
set_option maxRecDepth 20000 in
theorem kw_1523 : Cond.methodLink RX10 311 yX10_isHour ∈ lw_all := z_all 1523 rfl rfl
set_option maxRecDepth 20000 in
theorem kw_1524 : Cond.static yX10_isHour ∈ lw_all := z_all 1524 rfl rfl
set_option maxRecDepth 20000 in
theorem kw_1525 : Cond.code yX10_isHour cX10_isHour 1 (some .boolean) ∈ lw_all := z_all 1525 rfl rfl
set_option maxRecDepth 20000 in
theorem kw_1526 : Cond.constantLong RX10 283 (23) ∈ lw_all := z_all 1526 rfl rfl
set_option maxRecDepth 20000 in
theorem kw_1527 : Cond.methodLink RX10 314 yX10_goesTo ∈ lw_all := z_all 1527 rfl rfl
set_option maxRecDepth 20000 in
theorem kw_1529 : Cond.instanceMethod yX10_goesTo ∈ lw_all := z_all 1529 rfl rfl
set_option maxRecDepth 20000 in
theorem kw_1530 : Cond.code yX10_goesTo cX10_goesTo 4 none ∈ lw_all := z_all 1530 rfl rfl
set_option maxRecDepth 20000 in
theorem kw_1531 : Cond.methodLink RL 53 yX10_counter ∈ lw_all := z_all 1531 rfl rfl
set_option maxRecDepth 20000 in
theorem kw_1532 : Cond.instanceMethod yX10_counter ∈ lw_all := z_all 1532 rfl rfl
set_option maxRecDepth 20000 in
theorem kw_1533 : Cond.selects RX10 yX10_counter yX10_counter ∈ lw_all := z_all 1533 rfl rfl
set_option maxRecDepth 20000 in
theorem kw_1534 : Cond.code yX10_counter cX10_counter 4 (some .int) ∈ lw_all := z_all 1534 rfl rfl
set_option maxRecDepth 20000 in
theorem kw_1535 : Cond.methodLink RX10 381 yX10_isDay ∈ lw_all := z_all 1535 rfl rfl
set_option maxRecDepth 20000 in
theorem kw_1537 : Cond.instanceMethod yX10_isDay ∈ lw_all := z_all 1537 rfl rfl
set_option maxRecDepth 20000 in
theorem kw_1538 : Cond.code yX10_isDay cX10_isDay 2 (some .boolean) ∈ lw_all := z_all 1538 rfl rfl
set_option maxRecDepth 20000 in
theorem kw_1539 : Cond.methodLink RX10 372 yX10_plainly ∈ lw_all := z_all 1539 rfl rfl
set_option maxRecDepth 20000 in
theorem kw_1541 : Cond.instanceMethod yX10_plainly ∈ lw_all := z_all 1541 rfl rfl
set_option maxRecDepth 20000 in
theorem kw_1542 : Cond.code yX10_plainly cX10_plainly 1 none ∈ lw_all := z_all 1542 rfl rfl
set_option maxRecDepth 20000 in
theorem kw_1543 : Cond.methodLink RX10 375 yX10_goes_ ∈ lw_all := z_all 1543 rfl rfl
set_option maxRecDepth 20000 in
theorem kw_1545 : Cond.instanceMethod yX10_goes_ ∈ lw_all := z_all 1545 rfl rfl
set_option maxRecDepth 20000 in
theorem kw_1546 : Cond.code yX10_goes_ cX10_goes_ 7 none ∈ lw_all := z_all 1546 rfl rfl
set_option maxRecDepth 20000 in
theorem kw_1547 : Cond.methodLink RX10 348 yX10_sorts ∈ lw_all := z_all 1547 rfl rfl
set_option maxRecDepth 20000 in
theorem kw_1549 : Cond.instanceMethod yX10_sorts ∈ lw_all := z_all 1549 rfl rfl
set_option maxRecDepth 20000 in
theorem kw_1550 : Cond.code yX10_sorts cX10_sorts 3 none ∈ lw_all := z_all 1550 rfl rfl
set_option maxRecDepth 20000 in
theorem kw_1551 : Cond.methodLink RX10 324 yX10_isAhead ∈ lw_all := z_all 1551 rfl rfl
set_option maxRecDepth 20000 in
theorem kw_1553 : Cond.instanceMethod yX10_isAhead ∈ lw_all := z_all 1553 rfl rfl
set_option maxRecDepth 20000 in
theorem kw_1554 : Cond.code yX10_isAhead cX10_isAhead 3 (some .boolean) ∈ lw_all := z_all 1554 rfl rfl
set_option maxRecDepth 20000 in
theorem kw_1555 : Cond.methodLink RX10 351 yX10_begin ∈ lw_all := z_all 1555 rfl rfl
set_option maxRecDepth 20000 in
theorem kw_1557 : Cond.instanceMethod yX10_begin ∈ lw_all := z_all 1557 rfl rfl
set_option maxRecDepth 20000 in
theorem kw_1558 : Cond.code yX10_begin cX10_begin 2 none ∈ lw_all := z_all 1558 rfl rfl
set_option maxRecDepth 20000 in
theorem kw_1559 : Cond.methodLink RX10 360 yX10_mixes ∈ lw_all := z_all 1559 rfl rfl
set_option maxRecDepth 20000 in
theorem kw_1561 : Cond.instanceMethod yX10_mixes ∈ lw_all := z_all 1561 rfl rfl
set_option maxRecDepth 20000 in
theorem kw_1562 : Cond.code yX10_mixes cX10_mixes 5 none ∈ lw_all := z_all 1562 rfl rfl
set_option maxRecDepth 20000 in
theorem kw_1563 : Cond.methodLink RX10 369 yX10_drawn ∈ lw_all := z_all 1563 rfl rfl
set_option maxRecDepth 20000 in
theorem kw_1565 : Cond.instanceMethod yX10_drawn ∈ lw_all := z_all 1565 rfl rfl
set_option maxRecDepth 20000 in
theorem kw_1566 : Cond.code yX10_drawn cX10_drawn 2 (some .int) ∈ lw_all := z_all 1566 rfl rfl
set_option maxRecDepth 20000 in
theorem kw_1567 : Cond.constantLong RX10 337 (1103515245) ∈ lw_all := z_all 1567 rfl rfl
set_option maxRecDepth 20000 in
theorem kw_1568 : Cond.constantLong RX10 342 (12345) ∈ lw_all := z_all 1568 rfl rfl
set_option maxRecDepth 20000 in
theorem kw_1569 : Cond.constantLong RX10 344 (2147483648) ∈ lw_all := z_all 1569 rfl rfl
set_option maxRecDepth 20000 in
theorem kw_1570 : Cond.constantLong RX10 346 (65536) ∈ lw_all := z_all 1570 rfl rfl
set_option maxRecDepth 20000 in
theorem kw_1571 : Cond.methodLink RX10 363 yX10_dawns ∈ lw_all := z_all 1571 rfl rfl
set_option maxRecDepth 20000 in
theorem kw_1573 : Cond.instanceMethod yX10_dawns ∈ lw_all := z_all 1573 rfl rfl
set_option maxRecDepth 20000 in
theorem kw_1574 : Cond.code yX10_dawns cX10_dawns 3 none ∈ lw_all := z_all 1574 rfl rfl
set_option maxRecDepth 20000 in
theorem kw_1575 : Cond.methodLink RX10 366 yX10_passes ∈ lw_all := z_all 1575 rfl rfl
set_option maxRecDepth 20000 in
theorem kw_1577 : Cond.instanceMethod yX10_passes ∈ lw_all := z_all 1577 rfl rfl
set_option maxRecDepth 20000 in
theorem kw_1578 : Cond.code yX10_passes cX10_passes 7 none ∈ lw_all := z_all 1578 rfl rfl
set_option maxRecDepth 20000 in
theorem kw_1579 : Cond.methodLink RX10 334 yX10_counterOf ∈ lw_all := z_all 1579 rfl rfl
set_option maxRecDepth 20000 in
theorem kw_1581 : Cond.instanceMethod yX10_counterOf ∈ lw_all := z_all 1581 rfl rfl
set_option maxRecDepth 20000 in
theorem kw_1582 : Cond.code yX10_counterOf cX10_counterOf 2 (some .int) ∈ lw_all := z_all 1582 rfl rfl
set_option maxRecDepth 20000 in
theorem kw_1583 : Cond.methodLink RL 57 yX10_through ∈ lw_all := z_all 1583 rfl rfl
set_option maxRecDepth 20000 in
theorem kw_1584 : Cond.instanceMethod yX10_through ∈ lw_all := z_all 1584 rfl rfl
set_option maxRecDepth 20000 in
theorem kw_1585 : Cond.selects RX10 yX10_through yX10_through ∈ lw_all := z_all 1585 rfl rfl
set_option maxRecDepth 20000 in
theorem kw_1586 : Cond.code yX10_through cX10_through 4 (some .int) ∈ lw_all := z_all 1586 rfl rfl
set_option maxRecDepth 20000 in
theorem kw_1587 : Cond.methodLink RX10 384 yX10_asTold ∈ lw_all := z_all 1587 rfl rfl
set_option maxRecDepth 20000 in
theorem kw_1589 : Cond.instanceMethod yX10_asTold ∈ lw_all := z_all 1589 rfl rfl
set_option maxRecDepth 20000 in
theorem kw_1590 : Cond.code yX10_asTold cX10_asTold 1 none ∈ lw_all := z_all 1590 rfl rfl
set_option maxRecDepth 20000 in
theorem kw_1591 : Cond.methodLink RL 61 yX10_dues ∈ lw_all := z_all 1591 rfl rfl
set_option maxRecDepth 20000 in
theorem kw_1592 : Cond.instanceMethod yX10_dues ∈ lw_all := z_all 1592 rfl rfl
set_option maxRecDepth 20000 in
theorem kw_1593 : Cond.selects RX10 yX10_dues yX10_dues ∈ lw_all := z_all 1593 rfl rfl
set_option maxRecDepth 20000 in
theorem kw_1594 : Cond.code yX10_dues cX10_dues 1 (some .int) ∈ lw_all := z_all 1594 rfl rfl
set_option maxRecDepth 20000 in
theorem kw_1595 : Cond.methodLink RL 65 yX10_due ∈ lw_all := z_all 1595 rfl rfl
set_option maxRecDepth 20000 in
theorem kw_1596 : Cond.instanceMethod yX10_due ∈ lw_all := z_all 1596 rfl rfl
set_option maxRecDepth 20000 in
theorem kw_1597 : Cond.selects RX10 yX10_due yX10_due ∈ lw_all := z_all 1597 rfl rfl
set_option maxRecDepth 20000 in
theorem kw_1598 : Cond.code yX10_due cX10_due 5 (some .int) ∈ lw_all := z_all 1598 rfl rfl
set_option maxRecDepth 20000 in
theorem kw_1599 : Cond.constantLong RX10 387 (5) ∈ lw_all := z_all 1599 rfl rfl
set_option maxRecDepth 20000 in
theorem kw_1600 : Cond.methodLink RL 69 yX10_paid ∈ lw_all := z_all 1600 rfl rfl
set_option maxRecDepth 20000 in
theorem kw_1601 : Cond.instanceMethod yX10_paid ∈ lw_all := z_all 1601 rfl rfl
set_option maxRecDepth 20000 in
theorem kw_1602 : Cond.selects RX10 yX10_paid yX10_paid ∈ lw_all := z_all 1602 rfl rfl
set_option maxRecDepth 20000 in
theorem kw_1603 : Cond.code yX10_paid cX10_paid 2 (some .int) ∈ lw_all := z_all 1603 rfl rfl
set_option maxRecDepth 20000 in
theorem kw_1604 : Cond.methodLink RX10 389 yX10_isOwner ∈ lw_all := z_all 1604 rfl rfl
set_option maxRecDepth 20000 in
theorem kw_1606 : Cond.instanceMethod yX10_isOwner ∈ lw_all := z_all 1606 rfl rfl
set_option maxRecDepth 20000 in
theorem kw_1607 : Cond.code yX10_isOwner cX10_isOwner 3 (some .boolean) ∈ lw_all := z_all 1607 rfl rfl
set_option maxRecDepth 20000 in
theorem kw_1608 : Cond.methodLink RX10 378 yX10_paidBy ∈ lw_all := z_all 1608 rfl rfl
set_option maxRecDepth 20000 in
theorem kw_1610 : Cond.instanceMethod yX10_paidBy ∈ lw_all := z_all 1610 rfl rfl
set_option maxRecDepth 20000 in
theorem kw_1611 : Cond.code yX10_paidBy cX10_paidBy 2 (some .int) ∈ lw_all := z_all 1611 rfl rfl
set_option maxRecDepth 20000 in
theorem kw_1612 : Cond.methodLink RL 73 yX10_pays ∈ lw_all := z_all 1612 rfl rfl
set_option maxRecDepth 20000 in
theorem kw_1613 : Cond.instanceMethod yX10_pays ∈ lw_all := z_all 1613 rfl rfl
set_option maxRecDepth 20000 in
theorem kw_1614 : Cond.selects RX10 yX10_pays yX10_pays ∈ lw_all := z_all 1614 rfl rfl
set_option maxRecDepth 20000 in
theorem kw_1615 : Cond.code yX10_pays cX10_pays 5 (some .int) ∈ lw_all := z_all 1615 rfl rfl
set_option maxRecDepth 20000 in
theorem kw_1616 : Cond.methodLink RL 77 yX10_worst ∈ lw_all := z_all 1616 rfl rfl
set_option maxRecDepth 20000 in
theorem kw_1617 : Cond.instanceMethod yX10_worst ∈ lw_all := z_all 1617 rfl rfl
set_option maxRecDepth 20000 in
theorem kw_1618 : Cond.selects RX10 yX10_worst yX10_worst ∈ lw_all := z_all 1618 rfl rfl
set_option maxRecDepth 20000 in
theorem kw_1619 : Cond.code yX10_worst cX10_worst 3 (some .int) ∈ lw_all := z_all 1619 rfl rfl
set_option maxRecDepth 20000 in
theorem kw_1620 : Cond.methodLink RL 81 yX10_left ∈ lw_all := z_all 1620 rfl rfl
set_option maxRecDepth 20000 in
theorem kw_1621 : Cond.instanceMethod yX10_left ∈ lw_all := z_all 1621 rfl rfl
set_option maxRecDepth 20000 in
theorem kw_1622 : Cond.selects RX10 yX10_left yX10_left ∈ lw_all := z_all 1622 rfl rfl
set_option maxRecDepth 20000 in
theorem kw_1623 : Cond.code yX10_left cX10_left 3 (some .int) ∈ lw_all := z_all 1623 rfl rfl
set_option maxRecDepth 20000 in
theorem kw_1624 : Cond.methodLink RL 85 yX10_best ∈ lw_all := z_all 1624 rfl rfl
set_option maxRecDepth 20000 in
theorem kw_1625 : Cond.instanceMethod yX10_best ∈ lw_all := z_all 1625 rfl rfl
set_option maxRecDepth 20000 in
theorem kw_1626 : Cond.selects RX10 yX10_best yX10_best ∈ lw_all := z_all 1626 rfl rfl
set_option maxRecDepth 20000 in
theorem kw_1627 : Cond.code yX10_best cX10_best 3 (some .int) ∈ lw_all := z_all 1627 rfl rfl
set_option maxRecDepth 20000 in
theorem kw_1628 : Cond.methodLink RX10 401 yX10_seeks ∈ lw_all := z_all 1628 rfl rfl
set_option maxRecDepth 20000 in
theorem kw_1630 : Cond.instanceMethod yX10_seeks ∈ lw_all := z_all 1630 rfl rfl
set_option maxRecDepth 20000 in
theorem kw_1631 : Cond.code yX10_seeks cX10_seeks 7 none ∈ lw_all := z_all 1631 rfl rfl
set_option maxRecDepth 20000 in
theorem kw_1632 : Cond.methodLink RL 89 yX10_split ∈ lw_all := z_all 1632 rfl rfl
set_option maxRecDepth 20000 in
theorem kw_1633 : Cond.instanceMethod yX10_split ∈ lw_all := z_all 1633 rfl rfl
set_option maxRecDepth 20000 in
theorem kw_1634 : Cond.selects RX10 yX10_split yX10_split ∈ lw_all := z_all 1634 rfl rfl
set_option maxRecDepth 20000 in
theorem kw_1635 : Cond.code yX10_split cX10_split 10 (some .int) ∈ lw_all := z_all 1635 rfl rfl
set_option maxRecDepth 20000 in
theorem kw_1636 : Cond.methodLink RX10 404 yX10_adds ∈ lw_all := z_all 1636 rfl rfl
set_option maxRecDepth 20000 in
theorem kw_1638 : Cond.instanceMethod yX10_adds ∈ lw_all := z_all 1638 rfl rfl
set_option maxRecDepth 20000 in
theorem kw_1639 : Cond.code yX10_adds cX10_adds 10 none ∈ lw_all := z_all 1639 rfl rfl
set_option maxRecDepth 20000 in
theorem kw_1640 : Cond.methodLink RL 93 yX10_rest ∈ lw_all := z_all 1640 rfl rfl
set_option maxRecDepth 20000 in
theorem kw_1641 : Cond.instanceMethod yX10_rest ∈ lw_all := z_all 1641 rfl rfl
set_option maxRecDepth 20000 in
theorem kw_1642 : Cond.selects RX10 yX10_rest yX10_rest ∈ lw_all := z_all 1642 rfl rfl
set_option maxRecDepth 20000 in
theorem kw_1643 : Cond.code yX10_rest cX10_rest 1 (some .int) ∈ lw_all := z_all 1643 rfl rfl
set_option maxRecDepth 20000 in
theorem kw_1644 : Cond.methodLink RX10 408 yX10_restless ∈ lw_all := z_all 1644 rfl rfl
set_option maxRecDepth 20000 in
theorem kw_1646 : Cond.instanceMethod yX10_restless ∈ lw_all := z_all 1646 rfl rfl
set_option maxRecDepth 20000 in
theorem kw_1647 : Cond.code yX10_restless cX10_restless 2 (some .int) ∈ lw_all := z_all 1647 rfl rfl
set_option maxRecDepth 20000 in
theorem kw_1648 : Cond.methodLink RL 97 yX10_rests ∈ lw_all := z_all 1648 rfl rfl
set_option maxRecDepth 20000 in
theorem kw_1649 : Cond.instanceMethod yX10_rests ∈ lw_all := z_all 1649 rfl rfl
set_option maxRecDepth 20000 in
theorem kw_1650 : Cond.selects RX10 yX10_rests yX10_rests ∈ lw_all := z_all 1650 rfl rfl
set_option maxRecDepth 20000 in
theorem kw_1651 : Cond.code yX10_rests cX10_rests 2 (some .int) ∈ lw_all := z_all 1651 rfl rfl
set_option maxRecDepth 20000 in
theorem kw_1652 : Cond.constantLong RX10 411 (30) ∈ lw_all := z_all 1652 rfl rfl
set_option maxRecDepth 20000 in
theorem kw_1653 : Cond.methodLink RX10 413 yX10_restsBy ∈ lw_all := z_all 1653 rfl rfl
set_option maxRecDepth 20000 in
theorem kw_1655 : Cond.instanceMethod yX10_restsBy ∈ lw_all := z_all 1655 rfl rfl
set_option maxRecDepth 20000 in
theorem kw_1656 : Cond.code yX10_restsBy cX10_restsBy 5 (some .int) ∈ lw_all := z_all 1656 rfl rfl
set_option maxRecDepth 20000 in
theorem kw_1657 : Cond.methodLink RL 101 yX10_sent ∈ lw_all := z_all 1657 rfl rfl
set_option maxRecDepth 20000 in
theorem kw_1658 : Cond.instanceMethod yX10_sent ∈ lw_all := z_all 1658 rfl rfl
set_option maxRecDepth 20000 in
theorem kw_1659 : Cond.selects RX10 yX10_sent yX10_sent ∈ lw_all := z_all 1659 rfl rfl
set_option maxRecDepth 20000 in
theorem kw_1660 : Cond.code yX10_sent cX10_sent 3 (some .int) ∈ lw_all := z_all 1660 rfl rfl
set_option maxRecDepth 20000 in
theorem kw_1661 : Cond.methodLink RL 105 yX10_harm ∈ lw_all := z_all 1661 rfl rfl
set_option maxRecDepth 20000 in
theorem kw_1662 : Cond.instanceMethod yX10_harm ∈ lw_all := z_all 1662 rfl rfl
set_option maxRecDepth 20000 in
theorem kw_1663 : Cond.selects RX10 yX10_harm yX10_harm ∈ lw_all := z_all 1663 rfl rfl
set_option maxRecDepth 20000 in
theorem kw_1664 : Cond.code yX10_harm cX10_harm 3 (some .int) ∈ lw_all := z_all 1664 rfl rfl
set_option maxRecDepth 20000 in
theorem kw_1665 : Cond.methodLink RX10 416 yX10_othersThan ∈ lw_all := z_all 1665 rfl rfl
set_option maxRecDepth 20000 in
theorem kw_1667 : Cond.instanceMethod yX10_othersThan ∈ lw_all := z_all 1667 rfl rfl
set_option maxRecDepth 20000 in
theorem kw_1668 : Cond.code yX10_othersThan cX10_othersThan 4 (some .int) ∈ lw_all := z_all 1668 rfl rfl
set_option maxRecDepth 20000 in
theorem kw_1669 : Cond.methodLink RL 110 yX10_ewe ∈ lw_all := z_all 1669 rfl rfl
set_option maxRecDepth 20000 in
theorem kw_1670 : Cond.instanceMethod yX10_ewe ∈ lw_all := z_all 1670 rfl rfl
set_option maxRecDepth 20000 in
theorem kw_1671 : Cond.selects RX10 yX10_ewe yX10_ewe ∈ lw_all := z_all 1671 rfl rfl
set_option maxRecDepth 20000 in
theorem kw_1672 : Cond.code yX10_ewe cX10_ewe 5 (some .int) ∈ lw_all := z_all 1672 rfl rfl
set_option maxRecDepth 20000 in
theorem kw_1673 : Cond.methodLink RX10 419 yX10_eweOf ∈ lw_all := z_all 1673 rfl rfl
set_option maxRecDepth 20000 in
theorem kw_1675 : Cond.instanceMethod yX10_eweOf ∈ lw_all := z_all 1675 rfl rfl
set_option maxRecDepth 20000 in
theorem kw_1676 : Cond.code yX10_eweOf cX10_eweOf 6 (some .int) ∈ lw_all := z_all 1676 rfl rfl
set_option maxRecDepth 20000 in
theorem kw_1677 : Cond.methodLink RL 114 yX10_waits ∈ lw_all := z_all 1677 rfl rfl
set_option maxRecDepth 20000 in
theorem kw_1678 : Cond.instanceMethod yX10_waits ∈ lw_all := z_all 1678 rfl rfl
set_option maxRecDepth 20000 in
theorem kw_1679 : Cond.selects RX10 yX10_waits yX10_waits ∈ lw_all := z_all 1679 rfl rfl
set_option maxRecDepth 20000 in
theorem kw_1680 : Cond.code yX10_waits cX10_waits 9 (some .int) ∈ lw_all := z_all 1680 rfl rfl
set_option maxRecDepth 20000 in
theorem kw_1681 : Cond.methodLink RL 118 yX10_ring ∈ lw_all := z_all 1681 rfl rfl
set_option maxRecDepth 20000 in
theorem kw_1682 : Cond.instanceMethod yX10_ring ∈ lw_all := z_all 1682 rfl rfl
set_option maxRecDepth 20000 in
theorem kw_1683 : Cond.selects RX10 yX10_ring yX10_ring ∈ lw_all := z_all 1683 rfl rfl
set_option maxRecDepth 20000 in
theorem kw_1684 : Cond.code yX10_ring cX10_ring 7 (some .int) ∈ lw_all := z_all 1684 rfl rfl
set_option maxRecDepth 20000 in
theorem kw_1685 : Cond.constantLong RX10 423 (99) ∈ lw_all := z_all 1685 rfl rfl
set_option maxRecDepth 20000 in
theorem kw_1686 : Cond.methodLink RL 122 yX10_rounds ∈ lw_all := z_all 1686 rfl rfl
set_option maxRecDepth 20000 in
theorem kw_1687 : Cond.instanceMethod yX10_rounds ∈ lw_all := z_all 1687 rfl rfl
set_option maxRecDepth 20000 in
theorem kw_1688 : Cond.selects RX10 yX10_rounds yX10_rounds ∈ lw_all := z_all 1688 rfl rfl
set_option maxRecDepth 20000 in
theorem kw_1689 : Cond.code yX10_rounds cX10_rounds 6 (some .int) ∈ lw_all := z_all 1689 rfl rfl
set_option maxRecDepth 20000 in
theorem kw_1690 : Cond.methodLink RL 126 yX10_orders ∈ lw_all := z_all 1690 rfl rfl
set_option maxRecDepth 20000 in
theorem kw_1691 : Cond.instanceMethod yX10_orders ∈ lw_all := z_all 1691 rfl rfl
set_option maxRecDepth 20000 in
theorem kw_1692 : Cond.selects RX10 yX10_orders yX10_orders ∈ lw_all := z_all 1692 rfl rfl
set_option maxRecDepth 20000 in
theorem kw_1693 : Cond.code yX10_orders cX10_orders 5 (some .int) ∈ lw_all := z_all 1693 rfl rfl
set_option maxRecDepth 20000 in
theorem kw_1694 : Cond.methodLink RX10 444 yX10_whyNotOrders ∈ lw_all := z_all 1694 rfl rfl
set_option maxRecDepth 20000 in
theorem kw_1696 : Cond.instanceMethod yX10_whyNotOrders ∈ lw_all := z_all 1696 rfl rfl
set_option maxRecDepth 20000 in
theorem kw_1697 : Cond.code yX10_whyNotOrders cX10_whyNotOrders 5 (some .int) ∈ lw_all := z_all 1697 rfl rfl
set_option maxRecDepth 20000 in
theorem kw_1698 : Cond.methodLink RX10 428 yX10_goesAll ∈ lw_all := z_all 1698 rfl rfl
set_option maxRecDepth 20000 in
theorem kw_1700 : Cond.instanceMethod yX10_goesAll ∈ lw_all := z_all 1700 rfl rfl
set_option maxRecDepth 20000 in
theorem kw_1701 : Cond.code yX10_goesAll cX10_goesAll 3 none ∈ lw_all := z_all 1701 rfl rfl
set_option maxRecDepth 20000 in
theorem kw_1702 : Cond.methodLink RX10 437 yX10_tries ∈ lw_all := z_all 1702 rfl rfl
set_option maxRecDepth 20000 in
theorem kw_1704 : Cond.instanceMethod yX10_tries ∈ lw_all := z_all 1704 rfl rfl
set_option maxRecDepth 20000 in
theorem kw_1705 : Cond.code yX10_tries cX10_tries 7 none ∈ lw_all := z_all 1705 rfl rfl
set_option maxRecDepth 20000 in
theorem kw_1706 : Cond.methodLink RX10 441 yX10_agrees ∈ lw_all := z_all 1706 rfl rfl
set_option maxRecDepth 20000 in
theorem kw_1708 : Cond.instanceMethod yX10_agrees ∈ lw_all := z_all 1708 rfl rfl
set_option maxRecDepth 20000 in
theorem kw_1709 : Cond.code yX10_agrees cX10_agrees 5 (some .boolean) ∈ lw_all := z_all 1709 rfl rfl
set_option maxRecDepth 20000 in
theorem kw_1710 : Cond.methodLink RL 130 yX10_order ∈ lw_all := z_all 1710 rfl rfl
set_option maxRecDepth 20000 in
theorem kw_1711 : Cond.instanceMethod yX10_order ∈ lw_all := z_all 1711 rfl rfl
set_option maxRecDepth 20000 in
theorem kw_1712 : Cond.selects RX10 yX10_order yX10_order ∈ lw_all := z_all 1712 rfl rfl
set_option maxRecDepth 20000 in
theorem kw_1713 : Cond.code yX10_order cX10_order 6 (some .int) ∈ lw_all := z_all 1713 rfl rfl
set_option maxRecDepth 20000 in
theorem kw_1714 : Cond.methodLink RL 134 yX10_sure ∈ lw_all := z_all 1714 rfl rfl
set_option maxRecDepth 20000 in
theorem kw_1715 : Cond.instanceMethod yX10_sure ∈ lw_all := z_all 1715 rfl rfl
set_option maxRecDepth 20000 in
theorem kw_1716 : Cond.selects RX10 yX10_sure yX10_sure ∈ lw_all := z_all 1716 rfl rfl
set_option maxRecDepth 20000 in
theorem kw_1717 : Cond.code yX10_sure cX10_sure 6 (some .int) ∈ lw_all := z_all 1717 rfl rfl
set_option maxRecDepth 20000 in
theorem kw_1718 : Cond.methodLink RL 138 yX10_wrong ∈ lw_all := z_all 1718 rfl rfl
set_option maxRecDepth 20000 in
theorem kw_1719 : Cond.instanceMethod yX10_wrong ∈ lw_all := z_all 1719 rfl rfl
set_option maxRecDepth 20000 in
theorem kw_1720 : Cond.selects RX10 yX10_wrong yX10_wrong ∈ lw_all := z_all 1720 rfl rfl
set_option maxRecDepth 20000 in
theorem kw_1721 : Cond.code yX10_wrong cX10_wrong 6 (some .int) ∈ lw_all := z_all 1721 rfl rfl
set_option maxRecDepth 20000 in
theorem kw_1722 : Cond.methodLink RX10 450 yX10_whyNotCounts ∈ lw_all := z_all 1722 rfl rfl
set_option maxRecDepth 20000 in
theorem kw_1724 : Cond.instanceMethod yX10_whyNotCounts ∈ lw_all := z_all 1724 rfl rfl
set_option maxRecDepth 20000 in
theorem kw_1725 : Cond.code yX10_whyNotCounts cX10_whyNotCounts 4 (some .int) ∈ lw_all := z_all 1725 rfl rfl
set_option maxRecDepth 20000 in
theorem kw_1726 : Cond.constantLong RX10 448 (9999) ∈ lw_all := z_all 1726 rfl rfl
set_option maxRecDepth 20000 in
theorem kw_1727 : Cond.methodLink RL 142 yX10_anew ∈ lw_all := z_all 1727 rfl rfl
set_option maxRecDepth 20000 in
theorem kw_1728 : Cond.instanceMethod yX10_anew ∈ lw_all := z_all 1728 rfl rfl
set_option maxRecDepth 20000 in
theorem kw_1729 : Cond.selects RX10 yX10_anew yX10_anew ∈ lw_all := z_all 1729 rfl rfl
set_option maxRecDepth 20000 in
theorem kw_1730 : Cond.code yX10_anew cX10_anew 7 (some .int) ∈ lw_all := z_all 1730 rfl rfl
set_option maxRecDepth 20000 in
theorem kw_1731 : Cond.methodLink RX10 453 yX10_leastPower ∈ lw_all := z_all 1731 rfl rfl
set_option maxRecDepth 20000 in
theorem kw_1733 : Cond.instanceMethod yX10_leastPower ∈ lw_all := z_all 1733 rfl rfl
set_option maxRecDepth 20000 in
theorem kw_1734 : Cond.code yX10_leastPower cX10_leastPower 2 (some .int) ∈ lw_all := z_all 1734 rfl rfl
set_option maxRecDepth 20000 in
theorem kw_1735 : Cond.methodLink RL 146 yX10_mixed ∈ lw_all := z_all 1735 rfl rfl
set_option maxRecDepth 20000 in
theorem kw_1736 : Cond.instanceMethod yX10_mixed ∈ lw_all := z_all 1736 rfl rfl
set_option maxRecDepth 20000 in
theorem kw_1737 : Cond.selects RX10 yX10_mixed yX10_mixed ∈ lw_all := z_all 1737 rfl rfl
set_option maxRecDepth 20000 in
theorem kw_1738 : Cond.code yX10_mixed cX10_mixed 3 (some .int) ∈ lw_all := z_all 1738 rfl rfl
set_option maxRecDepth 20000 in
theorem kw_1739 : Cond.methodLink RX10 458 yX10_isSeed ∈ lw_all := z_all 1739 rfl rfl
set_option maxRecDepth 20000 in
theorem kw_1740 : Cond.static yX10_isSeed ∈ lw_all := z_all 1740 rfl rfl
set_option maxRecDepth 20000 in
theorem kw_1741 : Cond.code yX10_isSeed cX10_isSeed 1 (some .boolean) ∈ lw_all := z_all 1741 rfl rfl
set_option maxRecDepth 20000 in
theorem kw_1742 : Cond.constantLong RX10 456 (2000000000) ∈ lw_all := z_all 1742 rfl rfl
set_option maxRecDepth 20000 in
theorem kw_1743 : Cond.methodLink RX10 461 yX10_mixedOf ∈ lw_all := z_all 1743 rfl rfl
set_option maxRecDepth 20000 in
theorem kw_1745 : Cond.instanceMethod yX10_mixedOf ∈ lw_all := z_all 1745 rfl rfl
set_option maxRecDepth 20000 in
theorem kw_1746 : Cond.code yX10_mixedOf cX10_mixedOf 4 (some .int) ∈ lw_all := z_all 1746 rfl rfl
set_option maxRecDepth 20000 in
theorem kw_1747 : Cond.methodLink RL 150 yX10_luck ∈ lw_all := z_all 1747 rfl rfl
set_option maxRecDepth 20000 in
theorem kw_1748 : Cond.instanceMethod yX10_luck ∈ lw_all := z_all 1748 rfl rfl
set_option maxRecDepth 20000 in
theorem kw_1749 : Cond.selects RX10 yX10_luck yX10_luck ∈ lw_all := z_all 1749 rfl rfl
set_option maxRecDepth 20000 in
theorem kw_1750 : Cond.code yX10_luck cX10_luck 7 (some .int) ∈ lw_all := z_all 1750 rfl rfl
set_option maxRecDepth 20000 in
theorem kw_1751 : Cond.constantLong RX10 465 (20) ∈ lw_all := z_all 1751 rfl rfl
set_option maxRecDepth 20000 in
theorem kw_1752 : Cond.methodLink RL 154 yX10_free ∈ lw_all := z_all 1752 rfl rfl
set_option maxRecDepth 20000 in
theorem kw_1753 : Cond.instanceMethod yX10_free ∈ lw_all := z_all 1753 rfl rfl
set_option maxRecDepth 20000 in
theorem kw_1754 : Cond.selects RX10 yX10_free yX10_free ∈ lw_all := z_all 1754 rfl rfl
set_option maxRecDepth 20000 in
theorem kw_1755 : Cond.code yX10_free cX10_free 5 (some .int) ∈ lw_all := z_all 1755 rfl rfl
set_option maxRecDepth 20000 in
theorem kw_1756 : Cond.methodLink RL 158 yX10_all ∈ lw_all := z_all 1756 rfl rfl
set_option maxRecDepth 20000 in
theorem kw_1757 : Cond.instanceMethod yX10_all ∈ lw_all := z_all 1757 rfl rfl
set_option maxRecDepth 20000 in
theorem kw_1758 : Cond.selects RX10 yX10_all yX10_all ∈ lw_all := z_all 1758 rfl rfl
set_option maxRecDepth 20000 in
theorem kw_1759 : Cond.code yX10_all cX10_all 4 (some .int) ∈ lw_all := z_all 1759 rfl rfl
set_option maxRecDepth 20000 in
theorem kw_1760 : Cond.methodLink RL 162 yX10_count ∈ lw_all := z_all 1760 rfl rfl
set_option maxRecDepth 20000 in
theorem kw_1761 : Cond.instanceMethod yX10_count ∈ lw_all := z_all 1761 rfl rfl
set_option maxRecDepth 20000 in
theorem kw_1762 : Cond.selects RX10 yX10_count yX10_count ∈ lw_all := z_all 1762 rfl rfl
set_option maxRecDepth 20000 in
theorem kw_1763 : Cond.code yX10_count cX10_count 4 (some .int) ∈ lw_all := z_all 1763 rfl rfl
set_option maxRecDepth 20000 in
theorem kw_1764 : Cond.methodLink RL 166 yX10_keep ∈ lw_all := z_all 1764 rfl rfl
set_option maxRecDepth 20000 in
theorem kw_1765 : Cond.instanceMethod yX10_keep ∈ lw_all := z_all 1765 rfl rfl
set_option maxRecDepth 20000 in
theorem kw_1766 : Cond.selects RX10 yX10_keep yX10_keep ∈ lw_all := z_all 1766 rfl rfl
set_option maxRecDepth 20000 in
theorem kw_1767 : Cond.code yX10_keep cX10_keep 2 (some .int) ∈ lw_all := z_all 1767 rfl rfl
set_option maxRecDepth 20000 in
theorem kw_1768 : Cond.methodLink RL 170 yX10_back ∈ lw_all := z_all 1768 rfl rfl
set_option maxRecDepth 20000 in
theorem kw_1769 : Cond.instanceMethod yX10_back ∈ lw_all := z_all 1769 rfl rfl
set_option maxRecDepth 20000 in
theorem kw_1770 : Cond.selects RX10 yX10_back yX10_back ∈ lw_all := z_all 1770 rfl rfl
set_option maxRecDepth 20000 in
theorem kw_1771 : Cond.code yX10_back cX10_back 2 (some .int) ∈ lw_all := z_all 1771 rfl rfl
set_option maxRecDepth 20000 in
theorem kw_1772 : Cond.constantLong RL 175 (4294967295) ∈ lw_all := z_all 1772 rfl rfl
set_option maxRecDepth 20000 in
theorem kw_1773 : Cond.fieldLink RJ0 9 "java/lang/String" "value" "[B" ∈ lw_all := z_all 1773 rfl rfl
set_option maxRecDepth 20000 in
theorem kw_1774 : Cond.fieldLink RJ0 15 "java/lang/String" "coder" "B" ∈ lw_all := z_all 1774 rfl rfl
set_option maxRecDepth 20000 in
theorem zin_X0 : ∀ w ∈ u_ws RX0 TX0 8, w ∈ lw_all := z_sub _ [186, 188, 190, 192, 194, 196, 198, 200] rfl rfl
set_option maxRecDepth 20000 in
theorem zin_X1 : ∀ w ∈ u_ws RX1 TX1 4, w ∈ lw_all := z_sub _ [468, 470, 472, 474] rfl rfl
set_option maxRecDepth 20000 in
theorem zin_X2 : ∀ w ∈ u_ws RX2 TX2 11, w ∈ lw_all := z_sub _ [248, 250, 252, 254, 256, 258, 260, 262, 264, 266, 268] rfl rfl
set_option maxRecDepth 20000 in
theorem zin_X3 : ∀ w ∈ u_ws RX3 TX3 6, w ∈ lw_all := z_sub _ [445, 447, 449, 451, 453, 455] rfl rfl
set_option maxRecDepth 20000 in
theorem zin_X4 : ∀ w ∈ u_ws RX4 TX4 12, w ∈ lw_all := z_sub _ [404, 406, 408, 410, 412, 414, 416, 418, 420, 422, 424, 426] rfl rfl
set_option maxRecDepth 20000 in
theorem zin_X5 : ∀ w ∈ u_ws RX5 TX5 9, w ∈ lw_all := z_sub _ [288, 290, 292, 294, 296, 298, 300, 302, 304] rfl rfl
set_option maxRecDepth 20000 in
theorem zin_X6 : ∀ w ∈ u_ws RX6 TX6 3, w ∈ lw_all := z_sub _ [327, 329, 331] rfl rfl
set_option maxRecDepth 20000 in
theorem zin_X7 : ∀ w ∈ u_ws RX7 TX7 2, w ∈ lw_all := z_sub _ [122, 124] rfl rfl
set_option maxRecDepth 20000 in
theorem zin_X8 : ∀ w ∈ u_ws RX8 TX8 8, w ∈ lw_all := z_sub _ [359, 361, 363, 365, 367, 369, 371, 373] rfl rfl
set_option maxRecDepth 20000 in
theorem zin_X9 : ∀ w ∈ u_ws RX9 TX9 11, w ∈ lw_all := z_sub _ [488, 490, 492, 494, 496, 498, 500, 502, 504, 506, 508] rfl rfl
set_option maxRecDepth 20000 in
theorem zin_X10 : ∀ w ∈ u_ws RX10 TX10 54, w ∈ lw_all := z_sub _ [1222, 1224, 1226, 1228, 1230, 1232, 1234, 1236, 1238, 1240, 1242, 1244, 1246, 1248, 1250, 1252, 1254, 1256, 1258, 1260, 1262, 1264, 1266, 1268, 1270, 1272, 1274, 1276, 1278, 1280, 1282, 1284, 1286, 1288, 1290, 1292, 1294, 1296, 1298, 1300, 1302, 1304, 1306, 1308, 1310, 1312, 1314, 1316, 1318, 1320, 1322, 1324, 1326, 1328] rfl rfl
