set_option maxRecDepth 20000 in
theorem ko_RX9 : Cond.methodLink RX9 1 objectInit ∈ lw_all := z_all 108 rfl rfl
set_option maxRecDepth 20000 in
theorem ko_RX7 : Cond.methodLink RX7 3 objectInit ∈ lw_all := z_all 116 rfl rfl
set_option maxRecDepth 20000 in
theorem ko_RX2 : Cond.methodLink RX2 3 objectInit ∈ lw_all := z_all 133 rfl rfl
set_option maxRecDepth 20000 in
theorem ko_RX0 : Cond.methodLink RX0 1 objectInit ∈ lw_all := z_all 140 rfl rfl
set_option maxRecDepth 20000 in
theorem ko_RX5 : Cond.methodLink RX5 3 objectInit ∈ lw_all := z_all 276 rfl rfl
set_option maxRecDepth 20000 in
theorem ko_RX6 : Cond.methodLink RX6 3 objectInit ∈ lw_all := z_all 313 rfl rfl
set_option maxRecDepth 20000 in
theorem ko_RX8 : Cond.methodLink RX8 3 objectInit ∈ lw_all := z_all 341 rfl rfl
set_option maxRecDepth 20000 in
theorem ko_RX4 : Cond.methodLink RX4 3 objectInit ∈ lw_all := z_all 381 rfl rfl
set_option maxRecDepth 20000 in
theorem ko_RX3 : Cond.methodLink RX3 3 objectInit ∈ lw_all := z_all 434 rfl rfl
set_option maxRecDepth 20000 in
theorem ko_RX1 : Cond.methodLink RX1 3 objectInit ∈ lw_all := z_all 463 rfl rfl
set_option maxRecDepth 20000 in
theorem ko_RX10 : Cond.methodLink RX10 1 objectInit ∈ lw_all := z_all 1167 rfl rfl
set_option maxRecDepth 20000 in
theorem ko_i : Cond.instanceMethod objectInit ∈ lw_all := z_all 109 rfl rfl
set_option maxRecDepth 20000 in
theorem ko_c : Cond.code objectInit ⟨#[0xb1]⟩ 1 none ∈ lw_all := z_all 110 rfl rfl
set_option maxRecDepth 20000 in
theorem km_l : Cond.methodLink RX5 56 Lib.Math.min.name ∈ lw_all := z_all 540 rfl rfl
set_option maxRecDepth 20000 in
theorem km_s : Cond.static Lib.Math.min.name ∈ lw_all := z_all 541 rfl rfl
set_option maxRecDepth 20000 in
theorem km_i : Cond.initialized "java/lang/Math" ∈ lw_all := z_all 97 rfl rfl
set_option maxRecDepth 20000 in
theorem km_c : Cond.code Lib.Math.min.name Lib.Math.min.code 2 (some .int) ∈ lw_all := z_all 542 rfl rfl
set_option maxRecDepth 20000 in
theorem kc_lX2 : Cond.methodLink RX2 56 arraycopyName ∈ lw_all := z_all 694 rfl rfl
set_option maxRecDepth 20000 in
theorem kc_lX9 : Cond.methodLink RX9 358 arraycopyName ∈ lw_all := z_all 1161 rfl rfl
set_option maxRecDepth 20000 in
theorem kc_s : Cond.static arraycopyName ∈ lw_all := z_all 695 rfl rfl
set_option maxRecDepth 20000 in
theorem kc_n : Cond.native arraycopyName ∈ lw_all := z_all 696 rfl rfl
set_option maxRecDepth 20000 in
theorem kc_i : Cond.initialized "java/lang/System" ∈ lw_all := z_all 102 rfl rfl
