theorem ll_t1 {w : Cond} {i : Nat} (h : tables_1_1[i]? = some w) : w ∈ lw_tbl := by
  show w ∈ k2_sels lw_privs ++ (tables_1_1 ++ (tables_1_2 ++ tables_1_3))
  exact List.mem_append_right _ (List.mem_append_left _ (List.mem_of_getElem? h))
theorem ll_t2 {w : Cond} {i : Nat} (h : tables_1_2[i]? = some w) : w ∈ lw_tbl := by
  show w ∈ k2_sels lw_privs ++ (tables_1_1 ++ (tables_1_2 ++ tables_1_3))
  exact List.mem_append_right _ (List.mem_append_right _ (List.mem_append_left _ (List.mem_of_getElem? h)))
theorem ll_t3 {w : Cond} {i : Nat} (h : tables_1_3[i]? = some w) : w ∈ lw_tbl := by
  show w ∈ k2_sels lw_privs ++ (tables_1_1 ++ (tables_1_2 ++ tables_1_3))
  exact List.mem_append_right _ (List.mem_append_right _ (List.mem_append_right _ (List.mem_of_getElem? h)))
theorem ll_ts {w : Cond} (h : w ∈ k2_sels lw_privs) : w ∈ lw_tbl := List.mem_append_left _ h

theorem mini_La : Cond.initialized "LoaderLab" ∈ ll_xt := ll_in (ll_t1 (i := 1) (by decide +kernel)) rfl
theorem mini_Lb : Cond.initialized "LoaderLab$Loaders" ∈ ll_xt := ll_in (ll_t1 (i := 2) (by decide +kernel)) rfl
theorem mini_Lc : Cond.initialized "LoaderLab$Classes" ∈ ll_xt := ll_in (ll_t1 (i := 3) (by decide +kernel)) rfl
theorem mini_Lm : Cond.initialized "LoaderLabModel" ∈ ll_xt := ll_in (ll_t1 (i := 4) (by decide +kernel)) rfl
theorem mini_Lw : Cond.initialized "LoaderLabLaw" ∈ ll_xt := ll_in (ll_t1 (i := 0) (by decide +kernel)) rfl
theorem minst_La : Cond.instantiable "LoaderLab" 6 ∈ ll_xt := ll_in (ll_t1 (i := 6) (by decide +kernel)) rfl
theorem mlay_La_loaders : Cond.laysFinal "LoaderLab" "LoaderLab" "loaders" "LLoaderLab$Loaders;" ∈ ll_xt := ll_in (ll_t1 (i := 86) (by decide +kernel)) rfl
theorem mlay_La_classes : Cond.laysFinal "LoaderLab" "LoaderLab" "classes" "LLoaderLab$Classes;" ∈ ll_xt := ll_in (ll_t1 (i := 88) (by decide +kernel)) rfl
theorem mlay_La_begun : Cond.lays "LoaderLab" "LoaderLab" "begun" "I" ∈ ll_xt := ll_in (ll_t1 (i := 90) (by decide +kernel)) rfl
theorem mlay_La_risingCause : Cond.lays "LoaderLab" "LoaderLab" "risingCause" "I" ∈ ll_xt := ll_in (ll_t1 (i := 92) (by decide +kernel)) rfl
theorem mlay_La_lastFailure : Cond.lays "LoaderLab" "LoaderLab" "lastFailure" "I" ∈ ll_xt := ll_in (ll_t1 (i := 94) (by decide +kernel)) rfl
theorem mlay_La_lastCause : Cond.lays "LoaderLab" "LoaderLab" "lastCause" "I" ∈ ll_xt := ll_in (ll_t1 (i := 96) (by decide +kernel)) rfl
theorem in_La : ∀ w ∈ u_ws R_La T_La 6, w ∈ ll_xt := by
  intro w hw
  obtain ⟨k, hk, rfl⟩ := List.mem_map.mp hw
  have hk := List.mem_range.mp hk
  match k, hk with
  | 0, _ => exact mlay_La_loaders
  | 1, _ => exact mlay_La_classes
  | 2, _ => exact mlay_La_begun
  | 3, _ => exact mlay_La_risingCause
  | 4, _ => exact mlay_La_lastFailure
  | 5, _ => exact mlay_La_lastCause
  | k + 6, hk => omega
theorem mc_La_init : Cond.code y_La_init b_La_init 1 none ∈ lw_tbl := ll_t1 (i := 9) (by rfl)
theorem mi_La_init : Cond.instanceMethod y_La_init ∈ ll_xt := ll_in (ll_t1 (i := 8) (by decide +kernel)) rfl
theorem mc_La_parent : Cond.code y_La_parent b_La_parent 3 (some .int) ∈ lw_tbl := ll_t1 (i := 102) (by rfl)
theorem mi_La_parent : Cond.instanceMethod y_La_parent ∈ ll_xt := ll_in (ll_t1 (i := 100) (by decide +kernel)) rfl
theorem ms_La_parent : Cond.selects R_La y_La_parent y_La_parent ∈ ll_xt := ll_in (ll_t1 (i := 101) (by decide +kernel)) rfl
theorem mc_La_file : Cond.code y_La_file b_La_file 5 (some .int) ∈ lw_tbl := ll_t1 (i := 110) (by rfl)
theorem mi_La_file : Cond.instanceMethod y_La_file ∈ ll_xt := ll_in (ll_t1 (i := 108) (by decide +kernel)) rfl
theorem ms_La_file : Cond.selects R_La y_La_file y_La_file ∈ ll_xt := ll_in (ll_t1 (i := 109) (by decide +kernel)) rfl
theorem mc_La_noFile : Cond.code y_La_noFile b_La_noFile 3 (some .int) ∈ lw_tbl := ll_t1 (i := 133) (by rfl)
theorem mi_La_noFile : Cond.instanceMethod y_La_noFile ∈ ll_xt := ll_in (ll_t1 (i := 131) (by decide +kernel)) rfl
theorem ms_La_noFile : Cond.selects R_La y_La_noFile y_La_noFile ∈ ll_xt := ll_in (ll_t1 (i := 132) (by decide +kernel)) rfl
theorem mc_La_script : Cond.code y_La_script b_La_script 5 (some .int) ∈ lw_tbl := ll_t1 (i := 145) (by rfl)
theorem mi_La_script : Cond.instanceMethod y_La_script ∈ ll_xt := ll_in (ll_t1 (i := 143) (by decide +kernel)) rfl
theorem ms_La_script : Cond.selects R_La y_La_script y_La_script ∈ ll_xt := ll_in (ll_t1 (i := 144) (by decide +kernel)) rfl
theorem mc_La_load : Cond.code y_La_load b_La_load 4 (some .int) ∈ lw_tbl := ll_t1 (i := 158) (by rfl)
theorem mi_La_load : Cond.instanceMethod y_La_load ∈ ll_xt := ll_in (ll_t1 (i := 156) (by decide +kernel)) rfl
theorem ms_La_load : Cond.selects R_La y_La_load y_La_load ∈ ll_xt := ll_in (ll_t1 (i := 157) (by decide +kernel)) rfl
theorem mc_La_refer : Cond.code y_La_refer b_La_refer 4 (some .int) ∈ lw_tbl := ll_t2 (i := 38) (by rfl)
theorem mi_La_refer : Cond.instanceMethod y_La_refer ∈ ll_xt := ll_in (ll_t2 (i := 36) (by decide +kernel)) rfl
theorem ms_La_refer : Cond.selects R_La y_La_refer y_La_refer ∈ ll_xt := ll_in (ll_t2 (i := 37) (by decide +kernel)) rfl
theorem mc_La_resolve : Cond.code y_La_resolve b_La_resolve 4 (some .int) ∈ lw_tbl := ll_t2 (i := 61) (by rfl)
theorem mi_La_resolve : Cond.instanceMethod y_La_resolve ∈ ll_xt := ll_in (ll_t2 (i := 59) (by decide +kernel)) rfl
theorem ms_La_resolve : Cond.selects R_La y_La_resolve y_La_resolve ∈ ll_xt := ll_in (ll_t2 (i := 60) (by decide +kernel)) rfl
theorem mc_La_constrain : Cond.code y_La_constrain b_La_constrain 4 (some .int) ∈ lw_tbl := ll_t2 (i := 86) (by rfl)
theorem mi_La_constrain : Cond.instanceMethod y_La_constrain ∈ ll_xt := ll_in (ll_t2 (i := 84) (by decide +kernel)) rfl
theorem ms_La_constrain : Cond.selects R_La y_La_constrain y_La_constrain ∈ ll_xt := ll_in (ll_t2 (i := 85) (by decide +kernel)) rfl
theorem mc_La_agree : Cond.code y_La_agree b_La_agree 4 (some .boolean) ∈ lw_tbl := ll_t2 (i := 98) (by rfl)
theorem mi_La_agree : Cond.instanceMethod y_La_agree ∈ ll_xt := ll_in (ll_t2 (i := 96) (by decide +kernel)) rfl
theorem ms_La_agree : Cond.selects R_La y_La_agree y_La_agree ∈ ll_xt := ll_in (ll_t2 (i := 97) (by decide +kernel)) rfl
theorem mc_La_cause : Cond.code y_La_cause b_La_cause 3 (some .int) ∈ lw_tbl := ll_t2 (i := 106) (by rfl)
theorem mi_La_cause : Cond.instanceMethod y_La_cause ∈ ll_xt := ll_in (ll_t2 (i := 104) (by decide +kernel)) rfl
theorem ms_La_cause : Cond.selects R_La y_La_cause y_La_cause ∈ ll_xt := ll_in (ll_t2 (i := 105) (by decide +kernel)) rfl
theorem mc_La_requests : Cond.code y_La_requests b_La_requests 1 (some .int) ∈ lw_tbl := ll_t2 (i := 110) (by rfl)
theorem mi_La_requests : Cond.instanceMethod y_La_requests ∈ ll_xt := ll_in (ll_t2 (i := 108) (by decide +kernel)) rfl
theorem ms_La_requests : Cond.selects R_La y_La_requests y_La_requests ∈ ll_xt := ll_in (ll_t2 (i := 109) (by decide +kernel)) rfl
theorem mc_La_recorded : Cond.code y_La_recorded b_La_recorded 3 (some .int) ∈ lw_tbl := ll_t2 (i := 114) (by rfl)
theorem mi_La_recorded : Cond.instanceMethod y_La_recorded ∈ ll_xt := ll_in (ll_t2 (i := 112) (by decide +kernel)) rfl
theorem ms_La_recorded : Cond.selects R_La y_La_recorded y_La_recorded ∈ ll_xt := ll_in (ll_t2 (i := 113) (by decide +kernel)) rfl
theorem mc_La_of : Cond.code y_La_of b_La_of 3 (some .int) ∈ lw_tbl := ll_t2 (i := 118) (by rfl)
theorem mi_La_of : Cond.instanceMethod y_La_of ∈ ll_xt := ll_in (ll_t2 (i := 116) (by decide +kernel)) rfl
theorem ms_La_of : Cond.selects R_La y_La_of y_La_of ∈ ll_xt := ll_in (ll_t2 (i := 117) (by decide +kernel)) rfl
theorem mc_La_isA : Cond.code y_La_isA b_La_isA 3 (some .boolean) ∈ lw_tbl := ll_t2 (i := 131) (by rfl)
theorem mi_La_isA : Cond.instanceMethod y_La_isA ∈ ll_xt := ll_in (ll_t2 (i := 129) (by decide +kernel)) rfl
theorem ms_La_isA : Cond.selects R_La y_La_isA y_La_isA ∈ ll_xt := ll_in (ll_t2 (i := 130) (by decide +kernel)) rfl
theorem mc_La_count : Cond.code y_La_count b_La_count 2 (some .int) ∈ lw_tbl := ll_t2 (i := 139) (by rfl)
theorem mi_La_count : Cond.instanceMethod y_La_count ∈ ll_xt := ll_in (ll_t2 (i := 137) (by decide +kernel)) rfl
theorem ms_La_count : Cond.selects R_La y_La_count y_La_count ∈ ll_xt := ll_in (ll_t2 (i := 138) (by decide +kernel)) rfl
theorem mc_La_isWay : Cond.code y_La_isWay b_La_isWay 2 (some .boolean) ∈ lw_tbl := ll_t1 (i := 148) (by rfl)
theorem mi_La_isWay : Cond.static y_La_isWay ∈ ll_xt := ll_in (ll_t1 (i := 147) (by decide +kernel)) rfl
theorem mc_La_endWith : Cond.code y_La_endWith b_La_endWith 3 (some .int) ∈ lw_tbl := ll_t2 (i := 34) (by rfl)
theorem mi_La_endWith : Cond.instanceMethod y_La_endWith ∈ ll_xt := ll_in (ll_t2 (i := 33) (by decide +kernel)) rfl
theorem ms_La_endWith : Cond.selects R_La y_La_endWith y_La_endWith ∈ ll_xt := ll_in (ll_ts (by decide +kernel)) rfl
theorem mc_La_fail : Cond.code y_La_fail b_La_fail 2 (some .int) ∈ lw_tbl := ll_t1 (i := 174) (by rfl)
theorem mi_La_fail : Cond.instanceMethod y_La_fail ∈ ll_xt := ll_in (ll_t1 (i := 173) (by decide +kernel)) rfl
theorem ms_La_fail : Cond.selects R_La y_La_fail y_La_fail ∈ ll_xt := ll_in (ll_ts (by decide +kernel)) rfl
theorem mc_La_failBecause : Cond.code y_La_failBecause b_La_failBecause 3 (some .int) ∈ lw_tbl := ll_t1 (i := 178) (by rfl)
theorem mi_La_failBecause : Cond.instanceMethod y_La_failBecause ∈ ll_xt := ll_in (ll_t1 (i := 177) (by decide +kernel)) rfl
theorem ms_La_failBecause : Cond.selects R_La y_La_failBecause y_La_failBecause ∈ ll_xt := ll_in (ll_ts (by decide +kernel)) rfl
theorem mc_La_request : Cond.code y_La_request b_La_request 6 (some .int) ∈ lw_tbl := ll_t1 (i := 162) (by rfl)
theorem mi_La_request : Cond.instanceMethod y_La_request ∈ ll_xt := ll_in (ll_t1 (i := 161) (by decide +kernel)) rfl
theorem ms_La_request : Cond.selects R_La y_La_request y_La_request ∈ ll_xt := ll_in (ll_ts (by decide +kernel)) rfl
theorem mc_La_accept : Cond.code y_La_accept b_La_accept 4 (some .int) ∈ lw_tbl := ll_t2 (i := 10) (by rfl)
theorem mi_La_accept : Cond.instanceMethod y_La_accept ∈ ll_xt := ll_in (ll_t2 (i := 9) (by decide +kernel)) rfl
theorem ms_La_accept : Cond.selects R_La y_La_accept y_La_accept ∈ ll_xt := ll_in (ll_ts (by decide +kernel)) rfl
theorem mc_La_followScript : Cond.code y_La_followScript b_La_followScript 6 (some .int) ∈ lw_tbl := ll_t1 (i := 186) (by rfl)
theorem mi_La_followScript : Cond.instanceMethod y_La_followScript ∈ ll_xt := ll_in (ll_t1 (i := 185) (by decide +kernel)) rfl
theorem ms_La_followScript : Cond.selects R_La y_La_followScript y_La_followScript ∈ ll_xt := ll_in (ll_ts (by decide +kernel)) rfl
theorem mc_La_askParentThenDefine : Cond.code y_La_askParentThenDefine b_La_askParentThenDefine 5 (some .int) ∈ lw_tbl := ll_t2 (i := 6) (by rfl)
theorem mi_La_askParentThenDefine : Cond.instanceMethod y_La_askParentThenDefine ∈ ll_xt := ll_in (ll_t2 (i := 5) (by decide +kernel)) rfl
theorem ms_La_askParentThenDefine : Cond.selects R_La y_La_askParentThenDefine y_La_askParentThenDefine ∈ ll_xt := ll_in (ll_ts (by decide +kernel)) rfl
theorem mc_La_askParent : Cond.code y_La_askParent b_La_askParent 5 (some .int) ∈ lw_tbl := ll_t1 (i := 238) (by rfl)
theorem mi_La_askParent : Cond.instanceMethod y_La_askParent ∈ ll_xt := ll_in (ll_t1 (i := 237) (by decide +kernel)) rfl
theorem ms_La_askParent : Cond.selects R_La y_La_askParent y_La_askParent ∈ ll_xt := ll_in (ll_ts (by decide +kernel)) rfl
theorem mc_La_define : Cond.code y_La_define b_La_define 7 (some .int) ∈ lw_tbl := ll_t1 (i := 198) (by rfl)
theorem mi_La_define : Cond.instanceMethod y_La_define ∈ ll_xt := ll_in (ll_t1 (i := 197) (by decide +kernel)) rfl
theorem ms_La_define : Cond.selects R_La y_La_define y_La_define ∈ ll_xt := ll_in (ll_ts (by decide +kernel)) rfl
theorem mc_La_resolvePart : Cond.code y_La_resolvePart b_La_resolvePart 4 (some .int) ∈ lw_tbl := ll_t1 (i := 214) (by rfl)
theorem mi_La_resolvePart : Cond.instanceMethod y_La_resolvePart ∈ ll_xt := ll_in (ll_t1 (i := 213) (by decide +kernel)) rfl
theorem ms_La_resolvePart : Cond.selects R_La y_La_resolvePart y_La_resolvePart ∈ ll_xt := ll_in (ll_ts (by decide +kernel)) rfl
theorem mc_La_resolveFrom : Cond.code y_La_resolveFrom b_La_resolveFrom 5 (some .int) ∈ lw_tbl := ll_t1 (i := 218) (by rfl)
theorem mi_La_resolveFrom : Cond.instanceMethod y_La_resolveFrom ∈ ll_xt := ll_in (ll_t1 (i := 217) (by decide +kernel)) rfl
theorem ms_La_resolveFrom : Cond.selects R_La y_La_resolveFrom y_La_resolveFrom ∈ ll_xt := ll_in (ll_ts (by decide +kernel)) rfl
theorem minst_Lb : Cond.instantiable "LoaderLab$Loaders" 8 ∈ ll_xt := ll_in (ll_t1 (i := 14) (by decide +kernel)) rfl
theorem mlay_Lb_parents : Cond.laysFinal "LoaderLab$Loaders" "LoaderLab$Loaders" "parents" "[I" ∈ ll_xt := ll_in (ll_t1 (i := 27) (by decide +kernel)) rfl
theorem mlay_Lb_parts : Cond.laysFinal "LoaderLab$Loaders" "LoaderLab$Loaders" "parts" "[I" ∈ ll_xt := ll_in (ll_t1 (i := 29) (by decide +kernel)) rfl
theorem mlay_Lb_marks : Cond.laysFinal "LoaderLab$Loaders" "LoaderLab$Loaders" "marks" "[I" ∈ ll_xt := ll_in (ll_t1 (i := 31) (by decide +kernel)) rfl
theorem mlay_Lb_ways : Cond.laysFinal "LoaderLab$Loaders" "LoaderLab$Loaders" "ways" "[I" ∈ ll_xt := ll_in (ll_t1 (i := 33) (by decide +kernel)) rfl
theorem mlay_Lb_numbers : Cond.laysFinal "LoaderLab$Loaders" "LoaderLab$Loaders" "numbers" "[I" ∈ ll_xt := ll_in (ll_t1 (i := 35) (by decide +kernel)) rfl
theorem mlay_Lb_records : Cond.laysFinal "LoaderLab$Loaders" "LoaderLab$Loaders" "records" "[I" ∈ ll_xt := ll_in (ll_t1 (i := 37) (by decide +kernel)) rfl
theorem mlay_Lb_underWay : Cond.laysFinal "LoaderLab$Loaders" "LoaderLab$Loaders" "underWay" "[Z" ∈ ll_xt := ll_in (ll_t1 (i := 39) (by decide +kernel)) rfl
theorem mlay_Lb_peers : Cond.laysFinal "LoaderLab$Loaders" "LoaderLab$Loaders" "peers" "[I" ∈ ll_xt := ll_in (ll_t1 (i := 41) (by decide +kernel)) rfl
theorem in_Lb : ∀ w ∈ u_ws R_Lb T_Lb 8, w ∈ ll_xt := by
  intro w hw
  obtain ⟨k, hk, rfl⟩ := List.mem_map.mp hw
  have hk := List.mem_range.mp hk
  match k, hk with
  | 0, _ => exact mlay_Lb_parents
  | 1, _ => exact mlay_Lb_parts
  | 2, _ => exact mlay_Lb_marks
  | 3, _ => exact mlay_Lb_ways
  | 4, _ => exact mlay_Lb_numbers
  | 5, _ => exact mlay_Lb_records
  | 6, _ => exact mlay_Lb_underWay
  | 7, _ => exact mlay_Lb_peers
  | k + 8, hk => omega
theorem mc_Lb_init : Cond.code y_Lb_init b_Lb_init 2 none ∈ lw_tbl := ll_t1 (i := 17) (by rfl)
theorem mi_Lb_init : Cond.instanceMethod y_Lb_init ∈ ll_xt := ll_in (ll_t1 (i := 16) (by decide +kernel)) rfl
theorem mc_Lb_isLoader : Cond.code y_Lb_isLoader b_Lb_isLoader 1 (some .boolean) ∈ lw_tbl := ll_t1 (i := 116) (by rfl)
theorem mi_Lb_isLoader : Cond.static y_Lb_isLoader ∈ ll_xt := ll_in (ll_t1 (i := 115) (by decide +kernel)) rfl
theorem mc_Lb_isName : Cond.code y_Lb_isName b_Lb_isName 1 (some .boolean) ∈ lw_tbl := ll_t1 (i := 119) (by rfl)
theorem mi_Lb_isName : Cond.static y_Lb_isName ∈ ll_xt := ll_in (ll_t1 (i := 118) (by decide +kernel)) rfl
theorem mc_Lb_inRange : Cond.code y_Lb_inRange b_Lb_inRange 2 (some .boolean) ∈ lw_tbl := ll_t1 (i := 113) (by rfl)
theorem mi_Lb_inRange : Cond.static y_Lb_inRange ∈ ll_xt := ll_in (ll_t1 (i := 112) (by decide +kernel)) rfl
theorem mc_Lb_isFile : Cond.code y_Lb_isFile b_Lb_isFile 2 (some .boolean) ∈ lw_tbl := ll_t1 (i := 122) (by rfl)
theorem mi_Lb_isFile : Cond.static y_Lb_isFile ∈ ll_xt := ll_in (ll_t1 (i := 121) (by decide +kernel)) rfl
theorem mc_Lb_cell : Cond.code y_Lb_cell b_Lb_cell 2 (some .int) ∈ lw_tbl := ll_t1 (i := 129) (by rfl)
theorem mi_Lb_cell : Cond.static y_Lb_cell ∈ ll_xt := ll_in (ll_t1 (i := 128) (by decide +kernel)) rfl
theorem mc_Lb_parentOf : Cond.code y_Lb_parentOf b_Lb_parentOf 2 (some .int) ∈ lw_tbl := ll_t2 (i := 2) (by rfl)
theorem mi_Lb_parentOf : Cond.instanceMethod y_Lb_parentOf ∈ ll_xt := ll_in (ll_t2 (i := 0) (by decide +kernel)) rfl
theorem ms_Lb_parentOf : Cond.selects R_Lb y_Lb_parentOf y_Lb_parentOf ∈ ll_xt := ll_in (ll_t2 (i := 1) (by decide +kernel)) rfl
theorem mc_Lb_setParent : Cond.code y_Lb_setParent b_Lb_setParent 3 none ∈ lw_tbl := ll_t1 (i := 106) (by rfl)
theorem mi_Lb_setParent : Cond.instanceMethod y_Lb_setParent ∈ ll_xt := ll_in (ll_t1 (i := 104) (by decide +kernel)) rfl
theorem ms_Lb_setParent : Cond.selects R_Lb y_Lb_setParent y_Lb_setParent ∈ ll_xt := ll_in (ll_t1 (i := 105) (by decide +kernel)) rfl
theorem mc_Lb_hasFile : Cond.code y_Lb_hasFile b_Lb_hasFile 3 (some .boolean) ∈ lw_tbl := ll_t1 (i := 137) (by rfl)
theorem mi_Lb_hasFile : Cond.instanceMethod y_Lb_hasFile ∈ ll_xt := ll_in (ll_t1 (i := 135) (by decide +kernel)) rfl
theorem ms_Lb_hasFile : Cond.selects R_Lb y_Lb_hasFile y_Lb_hasFile ∈ ll_xt := ll_in (ll_t1 (i := 136) (by decide +kernel)) rfl
theorem mc_Lb_putFile : Cond.code y_Lb_putFile b_Lb_putFile 5 none ∈ lw_tbl := ll_t1 (i := 126) (by rfl)
theorem mi_Lb_putFile : Cond.instanceMethod y_Lb_putFile ∈ ll_xt := ll_in (ll_t1 (i := 124) (by decide +kernel)) rfl
theorem ms_Lb_putFile : Cond.selects R_Lb y_Lb_putFile y_Lb_putFile ∈ ll_xt := ll_in (ll_t1 (i := 125) (by decide +kernel)) rfl
theorem mc_Lb_dropFile : Cond.code y_Lb_dropFile b_Lb_dropFile 3 none ∈ lw_tbl := ll_t1 (i := 141) (by rfl)
theorem mi_Lb_dropFile : Cond.instanceMethod y_Lb_dropFile ∈ ll_xt := ll_in (ll_t1 (i := 139) (by decide +kernel)) rfl
theorem ms_Lb_dropFile : Cond.selects R_Lb y_Lb_dropFile y_Lb_dropFile ∈ ll_xt := ll_in (ll_t1 (i := 140) (by decide +kernel)) rfl
theorem mc_Lb_fileSays : Cond.code y_Lb_fileSays b_Lb_fileSays 3 (some .int) ∈ lw_tbl := ll_t1 (i := 206) (by rfl)
theorem mi_Lb_fileSays : Cond.instanceMethod y_Lb_fileSays ∈ ll_xt := ll_in (ll_t1 (i := 204) (by decide +kernel)) rfl
theorem ms_Lb_fileSays : Cond.selects R_Lb y_Lb_fileSays y_Lb_fileSays ∈ ll_xt := ll_in (ll_t1 (i := 205) (by decide +kernel)) rfl
theorem mc_Lb_fileSuperclass : Cond.code y_Lb_fileSuperclass b_Lb_fileSuperclass 3 (some .int) ∈ lw_tbl := ll_t1 (i := 210) (by rfl)
theorem mi_Lb_fileSuperclass : Cond.instanceMethod y_Lb_fileSuperclass ∈ ll_xt := ll_in (ll_t1 (i := 208) (by decide +kernel)) rfl
theorem ms_Lb_fileSuperclass : Cond.selects R_Lb y_Lb_fileSuperclass y_Lb_fileSuperclass ∈ ll_xt := ll_in (ll_t1 (i := 209) (by decide +kernel)) rfl
theorem mc_Lb_fileInterface : Cond.code y_Lb_fileInterface b_Lb_fileInterface 3 (some .int) ∈ lw_tbl := ll_t1 (i := 226) (by rfl)
theorem mi_Lb_fileInterface : Cond.instanceMethod y_Lb_fileInterface ∈ ll_xt := ll_in (ll_t1 (i := 224) (by decide +kernel)) rfl
theorem ms_Lb_fileInterface : Cond.selects R_Lb y_Lb_fileInterface y_Lb_fileInterface ∈ ll_xt := ll_in (ll_t1 (i := 225) (by decide +kernel)) rfl
theorem mc_Lb_fileMarks : Cond.code y_Lb_fileMarks b_Lb_fileMarks 3 (some .int) ∈ lw_tbl := ll_t1 (i := 202) (by rfl)
theorem mi_Lb_fileMarks : Cond.instanceMethod y_Lb_fileMarks ∈ ll_xt := ll_in (ll_t1 (i := 200) (by decide +kernel)) rfl
theorem ms_Lb_fileMarks : Cond.selects R_Lb y_Lb_fileMarks y_Lb_fileMarks ∈ ll_xt := ll_in (ll_t1 (i := 201) (by decide +kernel)) rfl
theorem mc_Lb_scriptWay : Cond.code y_Lb_scriptWay b_Lb_scriptWay 3 (some .int) ∈ lw_tbl := ll_t1 (i := 194) (by rfl)
theorem mi_Lb_scriptWay : Cond.instanceMethod y_Lb_scriptWay ∈ ll_xt := ll_in (ll_t1 (i := 192) (by decide +kernel)) rfl
theorem ms_Lb_scriptWay : Cond.selects R_Lb y_Lb_scriptWay y_Lb_scriptWay ∈ ll_xt := ll_in (ll_t1 (i := 193) (by decide +kernel)) rfl
theorem mc_Lb_scriptNumber : Cond.code y_Lb_scriptNumber b_Lb_scriptNumber 3 (some .int) ∈ lw_tbl := ll_t1 (i := 190) (by rfl)
theorem mi_Lb_scriptNumber : Cond.instanceMethod y_Lb_scriptNumber ∈ ll_xt := ll_in (ll_t1 (i := 188) (by decide +kernel)) rfl
theorem ms_Lb_scriptNumber : Cond.selects R_Lb y_Lb_scriptNumber y_Lb_scriptNumber ∈ ll_xt := ll_in (ll_t1 (i := 189) (by decide +kernel)) rfl
theorem mc_Lb_setScript : Cond.code y_Lb_setScript b_Lb_setScript 5 none ∈ lw_tbl := ll_t1 (i := 154) (by rfl)
theorem mi_Lb_setScript : Cond.instanceMethod y_Lb_setScript ∈ ll_xt := ll_in (ll_t1 (i := 152) (by decide +kernel)) rfl
theorem ms_Lb_setScript : Cond.selects R_Lb y_Lb_setScript y_Lb_setScript ∈ ll_xt := ll_in (ll_t1 (i := 153) (by decide +kernel)) rfl
theorem mc_Lb_recordOf : Cond.code y_Lb_recordOf b_Lb_recordOf 3 (some .int) ∈ lw_tbl := ll_t1 (i := 166) (by rfl)
theorem mi_Lb_recordOf : Cond.instanceMethod y_Lb_recordOf ∈ ll_xt := ll_in (ll_t1 (i := 164) (by decide +kernel)) rfl
theorem ms_Lb_recordOf : Cond.selects R_Lb y_Lb_recordOf y_Lb_recordOf ∈ ll_xt := ll_in (ll_t1 (i := 165) (by decide +kernel)) rfl
theorem mc_Lb_putRecord : Cond.code y_Lb_putRecord b_Lb_putRecord 4 none ∈ lw_tbl := ll_t2 (i := 30) (by rfl)
theorem mi_Lb_putRecord : Cond.instanceMethod y_Lb_putRecord ∈ ll_xt := ll_in (ll_t2 (i := 28) (by decide +kernel)) rfl
theorem ms_Lb_putRecord : Cond.selects R_Lb y_Lb_putRecord y_Lb_putRecord ∈ ll_xt := ll_in (ll_t2 (i := 29) (by decide +kernel)) rfl
theorem mc_Lb_isUnderWay : Cond.code y_Lb_isUnderWay b_Lb_isUnderWay 3 (some .boolean) ∈ lw_tbl := ll_t1 (i := 170) (by rfl)
theorem mi_Lb_isUnderWay : Cond.instanceMethod y_Lb_isUnderWay ∈ ll_xt := ll_in (ll_t1 (i := 168) (by decide +kernel)) rfl
theorem ms_Lb_isUnderWay : Cond.selects R_Lb y_Lb_isUnderWay y_Lb_isUnderWay ∈ ll_xt := ll_in (ll_t1 (i := 169) (by decide +kernel)) rfl
theorem mc_Lb_setUnderWay : Cond.code y_Lb_setUnderWay b_Lb_setUnderWay 4 none ∈ lw_tbl := ll_t1 (i := 182) (by rfl)
theorem mi_Lb_setUnderWay : Cond.instanceMethod y_Lb_setUnderWay ∈ ll_xt := ll_in (ll_t1 (i := 180) (by decide +kernel)) rfl
theorem ms_Lb_setUnderWay : Cond.selects R_Lb y_Lb_setUnderWay y_Lb_setUnderWay ∈ ll_xt := ll_in (ll_t1 (i := 181) (by decide +kernel)) rfl
theorem mc_Lb_arePeers : Cond.code y_Lb_arePeers b_Lb_arePeers 4 (some .boolean) ∈ lw_tbl := ll_t2 (i := 102) (by rfl)
theorem mi_Lb_arePeers : Cond.instanceMethod y_Lb_arePeers ∈ ll_xt := ll_in (ll_t2 (i := 100) (by decide +kernel)) rfl
theorem ms_Lb_arePeers : Cond.selects R_Lb y_Lb_arePeers y_Lb_arePeers ∈ ll_xt := ll_in (ll_t2 (i := 101) (by decide +kernel)) rfl
theorem mc_Lb_peersDiffer : Cond.code y_Lb_peersDiffer b_Lb_peersDiffer 4 (some .boolean) ∈ lw_tbl := ll_t2 (i := 18) (by rfl)
theorem mi_Lb_peersDiffer : Cond.instanceMethod y_Lb_peersDiffer ∈ ll_xt := ll_in (ll_t2 (i := 16) (by decide +kernel)) rfl
theorem ms_Lb_peersDiffer : Cond.selects R_Lb y_Lb_peersDiffer y_Lb_peersDiffer ∈ ll_xt := ll_in (ll_t2 (i := 17) (by decide +kernel)) rfl
theorem mc_Lb_join : Cond.code y_Lb_join b_Lb_join 6 (some .boolean) ∈ lw_tbl := ll_t2 (i := 90) (by rfl)
theorem mi_Lb_join : Cond.instanceMethod y_Lb_join ∈ ll_xt := ll_in (ll_t2 (i := 88) (by decide +kernel)) rfl
theorem ms_Lb_join : Cond.selects R_Lb y_Lb_join y_Lb_join ∈ ll_xt := ll_in (ll_t2 (i := 89) (by decide +kernel)) rfl
theorem mc_Lb_countRecords : Cond.code y_Lb_countRecords b_Lb_countRecords 3 (some .int) ∈ lw_tbl := ll_t2 (i := 143) (by rfl)
theorem mi_Lb_countRecords : Cond.instanceMethod y_Lb_countRecords ∈ ll_xt := ll_in (ll_t2 (i := 141) (by decide +kernel)) rfl
theorem ms_Lb_countRecords : Cond.selects R_Lb y_Lb_countRecords y_Lb_countRecords ∈ ll_xt := ll_in (ll_t2 (i := 142) (by decide +kernel)) rfl
theorem mc_Lb_countFiles : Cond.code y_Lb_countFiles b_Lb_countFiles 3 (some .int) ∈ lw_tbl := ll_t2 (i := 147) (by rfl)
theorem mi_Lb_countFiles : Cond.instanceMethod y_Lb_countFiles ∈ ll_xt := ll_in (ll_t2 (i := 145) (by decide +kernel)) rfl
theorem ms_Lb_countFiles : Cond.selects R_Lb y_Lb_countFiles y_Lb_countFiles ∈ ll_xt := ll_in (ll_t2 (i := 146) (by decide +kernel)) rfl
theorem mc_Lb_countPeers : Cond.code y_Lb_countPeers b_Lb_countPeers 4 (some .int) ∈ lw_tbl := ll_t2 (i := 151) (by rfl)
theorem mi_Lb_countPeers : Cond.instanceMethod y_Lb_countPeers ∈ ll_xt := ll_in (ll_t2 (i := 149) (by decide +kernel)) rfl
theorem ms_Lb_countPeers : Cond.selects R_Lb y_Lb_countPeers y_Lb_countPeers ∈ ll_xt := ll_in (ll_t2 (i := 150) (by decide +kernel)) rfl
theorem mc_Lb_holds : Cond.code y_Lb_holds b_Lb_holds 2 (some .boolean) ∈ lw_tbl := ll_t2 (i := 26) (by rfl)
theorem mi_Lb_holds : Cond.static y_Lb_holds ∈ ll_xt := ll_in (ll_t2 (i := 25) (by decide +kernel)) rfl
theorem mc_Lb_anyRecord : Cond.code y_Lb_anyRecord b_Lb_anyRecord 5 (some .int) ∈ lw_tbl := ll_t2 (i := 94) (by rfl)
theorem mi_Lb_anyRecord : Cond.instanceMethod y_Lb_anyRecord ∈ ll_xt := ll_in (ll_t2 (i := 93) (by decide +kernel)) rfl
theorem ms_Lb_anyRecord : Cond.selects R_Lb y_Lb_anyRecord y_Lb_anyRecord ∈ ll_xt := ll_in (ll_ts (by decide +kernel)) rfl
theorem mc_Lb_differ : Cond.code y_Lb_differ b_Lb_differ 6 (some .boolean) ∈ lw_tbl := ll_t2 (i := 22) (by rfl)
theorem mi_Lb_differ : Cond.instanceMethod y_Lb_differ ∈ ll_xt := ll_in (ll_t2 (i := 21) (by decide +kernel)) rfl
theorem ms_Lb_differ : Cond.selects R_Lb y_Lb_differ y_Lb_differ ∈ ll_xt := ll_in (ll_ts (by decide +kernel)) rfl
theorem minst_Lc : Cond.instantiable "LoaderLab$Classes" 9 ∈ ll_xt := ll_in (ll_t1 (i := 47) (by decide +kernel)) rfl
theorem mlay_Lc_defined : Cond.lays "LoaderLab$Classes" "LoaderLab$Classes" "defined" "I" ∈ ll_xt := ll_in (ll_t1 (i := 61) (by decide +kernel)) rfl
theorem mlay_Lc_names : Cond.laysFinal "LoaderLab$Classes" "LoaderLab$Classes" "names" "[I" ∈ ll_xt := ll_in (ll_t1 (i := 63) (by decide +kernel)) rfl
theorem mlay_Lc_definers : Cond.laysFinal "LoaderLab$Classes" "LoaderLab$Classes" "definers" "[I" ∈ ll_xt := ll_in (ll_t1 (i := 65) (by decide +kernel)) rfl
theorem mlay_Lc_superclasses : Cond.laysFinal "LoaderLab$Classes" "LoaderLab$Classes" "superclasses" "[I" ∈ ll_xt := ll_in (ll_t1 (i := 67) (by decide +kernel)) rfl
theorem mlay_Lc_interfaces : Cond.laysFinal "LoaderLab$Classes" "LoaderLab$Classes" "interfaces" "[I" ∈ ll_xt := ll_in (ll_t1 (i := 69) (by decide +kernel)) rfl
theorem mlay_Lc_marks : Cond.laysFinal "LoaderLab$Classes" "LoaderLab$Classes" "marks" "[I" ∈ ll_xt := ll_in (ll_t1 (i := 71) (by decide +kernel)) rfl
theorem mlay_Lc_referred : Cond.laysFinal "LoaderLab$Classes" "LoaderLab$Classes" "referred" "[I" ∈ ll_xt := ll_in (ll_t1 (i := 73) (by decide +kernel)) rfl
theorem mlay_Lc_kept : Cond.laysFinal "LoaderLab$Classes" "LoaderLab$Classes" "kept" "[I" ∈ ll_xt := ll_in (ll_t1 (i := 75) (by decide +kernel)) rfl
theorem mlay_Lc_keptCauses : Cond.laysFinal "LoaderLab$Classes" "LoaderLab$Classes" "keptCauses" "[I" ∈ ll_xt := ll_in (ll_t1 (i := 77) (by decide +kernel)) rfl
theorem in_Lc : ∀ w ∈ u_ws R_Lc T_Lc 9, w ∈ ll_xt := by
  intro w hw
  obtain ⟨k, hk, rfl⟩ := List.mem_map.mp hw
  have hk := List.mem_range.mp hk
  match k, hk with
  | 0, _ => exact mlay_Lc_defined
  | 1, _ => exact mlay_Lc_names
  | 2, _ => exact mlay_Lc_definers
  | 3, _ => exact mlay_Lc_superclasses
  | 4, _ => exact mlay_Lc_interfaces
  | 5, _ => exact mlay_Lc_marks
  | 6, _ => exact mlay_Lc_referred
  | 7, _ => exact mlay_Lc_kept
  | 8, _ => exact mlay_Lc_keptCauses
  | k + 9, hk => omega
theorem mc_Lc_init : Cond.code y_Lc_init b_Lc_init 2 none ∈ lw_tbl := ll_t1 (i := 50) (by rfl)
theorem mi_Lc_init : Cond.instanceMethod y_Lc_init ∈ ll_xt := ll_in (ll_t1 (i := 49) (by decide +kernel)) rfl
theorem mc_Lc_size : Cond.code y_Lc_size b_Lc_size 1 (some .int) ∈ lw_tbl := ll_t1 (i := 230) (by rfl)
theorem mi_Lc_size : Cond.instanceMethod y_Lc_size ∈ ll_xt := ll_in (ll_t1 (i := 228) (by decide +kernel)) rfl
theorem ms_Lc_size : Cond.selects R_Lc y_Lc_size y_Lc_size ∈ ll_xt := ll_in (ll_t1 (i := 229) (by decide +kernel)) rfl
theorem mc_Lc_has : Cond.code y_Lc_has b_Lc_has 2 (some .boolean) ∈ lw_tbl := ll_t2 (i := 46) (by rfl)
theorem mi_Lc_has : Cond.instanceMethod y_Lc_has ∈ ll_xt := ll_in (ll_t2 (i := 44) (by decide +kernel)) rfl
theorem ms_Lc_has : Cond.selects R_Lc y_Lc_has y_Lc_has ∈ ll_xt := ll_in (ll_t2 (i := 45) (by decide +kernel)) rfl
theorem mc_Lc_add : Cond.code y_Lc_add b_Lc_add 6 (some .int) ∈ lw_tbl := ll_t1 (i := 234) (by rfl)
theorem mi_Lc_add : Cond.instanceMethod y_Lc_add ∈ ll_xt := ll_in (ll_t1 (i := 232) (by decide +kernel)) rfl
theorem ms_Lc_add : Cond.selects R_Lc y_Lc_add y_Lc_add ∈ ll_xt := ll_in (ll_t1 (i := 233) (by decide +kernel)) rfl
theorem mc_Lc_nameOf : Cond.code y_Lc_nameOf b_Lc_nameOf 2 (some .int) ∈ lw_tbl := ll_t2 (i := 14) (by rfl)
theorem mi_Lc_nameOf : Cond.instanceMethod y_Lc_nameOf ∈ ll_xt := ll_in (ll_t2 (i := 12) (by decide +kernel)) rfl
theorem ms_Lc_nameOf : Cond.selects R_Lc y_Lc_nameOf y_Lc_nameOf ∈ ll_xt := ll_in (ll_t2 (i := 13) (by decide +kernel)) rfl
theorem mc_Lc_loaderOf : Cond.code y_Lc_loaderOf b_Lc_loaderOf 2 (some .int) ∈ lw_tbl := ll_t2 (i := 73) (by rfl)
theorem mi_Lc_loaderOf : Cond.instanceMethod y_Lc_loaderOf ∈ ll_xt := ll_in (ll_t2 (i := 71) (by decide +kernel)) rfl
theorem ms_Lc_loaderOf : Cond.selects R_Lc y_Lc_loaderOf y_Lc_loaderOf ∈ ll_xt := ll_in (ll_t2 (i := 72) (by decide +kernel)) rfl
theorem mc_Lc_superclassOf : Cond.code y_Lc_superclassOf b_Lc_superclassOf 2 (some .int) ∈ lw_tbl := ll_t2 (i := 123) (by rfl)
theorem mi_Lc_superclassOf : Cond.instanceMethod y_Lc_superclassOf ∈ ll_xt := ll_in (ll_t2 (i := 121) (by decide +kernel)) rfl
theorem ms_Lc_superclassOf : Cond.selects R_Lc y_Lc_superclassOf y_Lc_superclassOf ∈ ll_xt := ll_in (ll_t2 (i := 122) (by decide +kernel)) rfl
theorem mc_Lc_interfaceOf : Cond.code y_Lc_interfaceOf b_Lc_interfaceOf 2 (some .int) ∈ lw_tbl := ll_t2 (i := 127) (by rfl)
theorem mi_Lc_interfaceOf : Cond.instanceMethod y_Lc_interfaceOf ∈ ll_xt := ll_in (ll_t2 (i := 125) (by decide +kernel)) rfl
theorem ms_Lc_interfaceOf : Cond.selects R_Lc y_Lc_interfaceOf y_Lc_interfaceOf ∈ ll_xt := ll_in (ll_t2 (i := 126) (by decide +kernel)) rfl
theorem mc_Lc_marksOf : Cond.code y_Lc_marksOf b_Lc_marksOf 2 (some .int) ∈ lw_tbl := ll_t1 (i := 222) (by rfl)
theorem mi_Lc_marksOf : Cond.instanceMethod y_Lc_marksOf ∈ ll_xt := ll_in (ll_t1 (i := 220) (by decide +kernel)) rfl
theorem ms_Lc_marksOf : Cond.selects R_Lc y_Lc_marksOf y_Lc_marksOf ∈ ll_xt := ll_in (ll_t1 (i := 221) (by decide +kernel)) rfl
theorem mc_Lc_leadsTo : Cond.code y_Lc_leadsTo b_Lc_leadsTo 5 (some .boolean) ∈ lw_tbl := ll_t2 (i := 135) (by rfl)
theorem mi_Lc_leadsTo : Cond.instanceMethod y_Lc_leadsTo ∈ ll_xt := ll_in (ll_t2 (i := 133) (by decide +kernel)) rfl
theorem ms_Lc_leadsTo : Cond.selects R_Lc y_Lc_leadsTo y_Lc_leadsTo ∈ ll_xt := ll_in (ll_t2 (i := 134) (by decide +kernel)) rfl
theorem mc_Lc_hasPlace : Cond.code y_Lc_hasPlace b_Lc_hasPlace 3 (some .boolean) ∈ lw_tbl := ll_t2 (i := 42) (by rfl)
theorem mi_Lc_hasPlace : Cond.instanceMethod y_Lc_hasPlace ∈ ll_xt := ll_in (ll_t2 (i := 40) (by decide +kernel)) rfl
theorem ms_Lc_hasPlace : Cond.selects R_Lc y_Lc_hasPlace y_Lc_hasPlace ∈ ll_xt := ll_in (ll_t2 (i := 41) (by decide +kernel)) rfl
theorem mc_Lc_hasReference : Cond.code y_Lc_hasReference b_Lc_hasReference 3 (some .boolean) ∈ lw_tbl := ll_t2 (i := 65) (by rfl)
theorem mi_Lc_hasReference : Cond.instanceMethod y_Lc_hasReference ∈ ll_xt := ll_in (ll_t2 (i := 63) (by decide +kernel)) rfl
theorem ms_Lc_hasReference : Cond.selects R_Lc y_Lc_hasReference y_Lc_hasReference ∈ ll_xt := ll_in (ll_t2 (i := 64) (by decide +kernel)) rfl
theorem mc_Lc_referredName : Cond.code y_Lc_referredName b_Lc_referredName 3 (some .int) ∈ lw_tbl := ll_t2 (i := 69) (by rfl)
theorem mi_Lc_referredName : Cond.instanceMethod y_Lc_referredName ∈ ll_xt := ll_in (ll_t2 (i := 67) (by decide +kernel)) rfl
theorem ms_Lc_referredName : Cond.selects R_Lc y_Lc_referredName y_Lc_referredName ∈ ll_xt := ll_in (ll_t2 (i := 68) (by decide +kernel)) rfl
theorem mc_Lc_setReference : Cond.code y_Lc_setReference b_Lc_setReference 4 none ∈ lw_tbl := ll_t2 (i := 57) (by rfl)
theorem mi_Lc_setReference : Cond.instanceMethod y_Lc_setReference ∈ ll_xt := ll_in (ll_t2 (i := 55) (by decide +kernel)) rfl
theorem ms_Lc_setReference : Cond.selects R_Lc y_Lc_setReference y_Lc_setReference ∈ ll_xt := ll_in (ll_t2 (i := 56) (by decide +kernel)) rfl
theorem mc_Lc_keptFor : Cond.code y_Lc_keptFor b_Lc_keptFor 3 (some .int) ∈ lw_tbl := ll_t2 (i := 50) (by rfl)
theorem mi_Lc_keptFor : Cond.instanceMethod y_Lc_keptFor ∈ ll_xt := ll_in (ll_t2 (i := 48) (by decide +kernel)) rfl
theorem ms_Lc_keptFor : Cond.selects R_Lc y_Lc_keptFor y_Lc_keptFor ∈ ll_xt := ll_in (ll_t2 (i := 49) (by decide +kernel)) rfl
theorem mc_Lc_keptCause : Cond.code y_Lc_keptCause b_Lc_keptCause 3 (some .int) ∈ lw_tbl := ll_t2 (i := 82) (by rfl)
theorem mi_Lc_keptCause : Cond.instanceMethod y_Lc_keptCause ∈ ll_xt := ll_in (ll_t2 (i := 80) (by decide +kernel)) rfl
theorem ms_Lc_keptCause : Cond.selects R_Lc y_Lc_keptCause y_Lc_keptCause ∈ ll_xt := ll_in (ll_t2 (i := 81) (by decide +kernel)) rfl
theorem mc_Lc_keep : Cond.code y_Lc_keep b_Lc_keep 5 none ∈ lw_tbl := ll_t2 (i := 78) (by rfl)
theorem mi_Lc_keep : Cond.instanceMethod y_Lc_keep ∈ ll_xt := ll_in (ll_t2 (i := 76) (by decide +kernel)) rfl
theorem ms_Lc_keep : Cond.selects R_Lc y_Lc_keep y_Lc_keep ∈ ll_xt := ll_in (ll_t2 (i := 77) (by decide +kernel)) rfl
theorem mc_Lc_place : Cond.code y_Lc_place b_Lc_place 2 (some .int) ∈ lw_tbl := ll_t2 (i := 53) (by rfl)
theorem mi_Lc_place : Cond.static y_Lc_place ∈ ll_xt := ll_in (ll_t2 (i := 52) (by decide +kernel)) rfl
theorem minst_Lm : Cond.instantiable "LoaderLabModel" 29 ∈ ll_xt := ll_in (ll_t2 (i := 153) (by decide +kernel)) rfl
theorem mlay_Lm_parents : Cond.laysFinal "LoaderLabModel" "LoaderLabModel" "parents" "[I" ∈ ll_xt := ll_in (ll_t2 (i := 187) (by decide +kernel)) rfl
theorem mlay_Lm_hasFile : Cond.laysFinal "LoaderLabModel" "LoaderLabModel" "hasFile" "[Z" ∈ ll_xt := ll_in (ll_t2 (i := 189) (by decide +kernel)) rfl
theorem mlay_Lm_says : Cond.laysFinal "LoaderLabModel" "LoaderLabModel" "says" "[I" ∈ ll_xt := ll_in (ll_t2 (i := 191) (by decide +kernel)) rfl
theorem mlay_Lm_fileSuper : Cond.laysFinal "LoaderLabModel" "LoaderLabModel" "fileSuper" "[I" ∈ ll_xt := ll_in (ll_t2 (i := 193) (by decide +kernel)) rfl
theorem mlay_Lm_fileInterface : Cond.laysFinal "LoaderLabModel" "LoaderLabModel" "fileInterface" "[I" ∈ ll_xt := ll_in (ll_t2 (i := 195) (by decide +kernel)) rfl
theorem mlay_Lm_fileMarks : Cond.laysFinal "LoaderLabModel" "LoaderLabModel" "fileMarks" "[I" ∈ ll_xt := ll_in (ll_t2 (i := 197) (by decide +kernel)) rfl
theorem mlay_Lm_way : Cond.laysFinal "LoaderLabModel" "LoaderLabModel" "way" "[I" ∈ ll_xt := ll_in (ll_t2 (i := 199) (by decide +kernel)) rfl
theorem mlay_Lm_number : Cond.laysFinal "LoaderLabModel" "LoaderLabModel" "number" "[I" ∈ ll_xt := ll_in (ll_t2 (i := 201) (by decide +kernel)) rfl
theorem mlay_Lm_noted : Cond.laysFinal "LoaderLabModel" "LoaderLabModel" "noted" "[I" ∈ ll_xt := ll_in (ll_t2 (i := 203) (by decide +kernel)) rfl
theorem mlay_Lm_busy : Cond.laysFinal "LoaderLabModel" "LoaderLabModel" "busy" "[Z" ∈ ll_xt := ll_in (ll_t2 (i := 205) (by decide +kernel)) rfl
theorem mlay_Lm_group : Cond.laysFinal "LoaderLabModel" "LoaderLabModel" "group" "[I" ∈ ll_xt := ll_in (ll_t2 (i := 207) (by decide +kernel)) rfl
theorem mlay_Lm_classes : Cond.lays "LoaderLabModel" "LoaderLabModel" "classes" "I" ∈ ll_xt := ll_in (ll_t2 (i := 209) (by decide +kernel)) rfl
theorem mlay_Lm_name : Cond.laysFinal "LoaderLabModel" "LoaderLabModel" "name" "[I" ∈ ll_xt := ll_in (ll_t2 (i := 211) (by decide +kernel)) rfl
theorem mlay_Lm_owner : Cond.laysFinal "LoaderLabModel" "LoaderLabModel" "owner" "[I" ∈ ll_xt := ll_in (ll_t2 (i := 213) (by decide +kernel)) rfl
theorem mlay_Lm_parentOf : Cond.laysFinal "LoaderLabModel" "LoaderLabModel" "parentOf" "[I" ∈ ll_xt := ll_in (ll_t2 (i := 215) (by decide +kernel)) rfl
theorem mlay_Lm_interfaceOf : Cond.laysFinal "LoaderLabModel" "LoaderLabModel" "interfaceOf" "[I" ∈ ll_xt := ll_in (ll_t2 (i := 217) (by decide +kernel)) rfl
theorem mlay_Lm_marks : Cond.laysFinal "LoaderLabModel" "LoaderLabModel" "marks" "[I" ∈ ll_xt := ll_in (ll_t2 (i := 219) (by decide +kernel)) rfl
theorem mlay_Lm_refers : Cond.laysFinal "LoaderLabModel" "LoaderLabModel" "refers" "[I" ∈ ll_xt := ll_in (ll_t2 (i := 221) (by decide +kernel)) rfl
theorem mlay_Lm_kept : Cond.laysFinal "LoaderLabModel" "LoaderLabModel" "kept" "[I" ∈ ll_xt := ll_in (ll_t2 (i := 223) (by decide +kernel)) rfl
theorem mlay_Lm_keptCause : Cond.laysFinal "LoaderLabModel" "LoaderLabModel" "keptCause" "[I" ∈ ll_xt := ll_in (ll_t2 (i := 225) (by decide +kernel)) rfl
theorem mlay_Lm_depth : Cond.lays "LoaderLabModel" "LoaderLabModel" "depth" "I" ∈ ll_xt := ll_in (ll_t2 (i := 227) (by decide +kernel)) rfl
theorem mlay_Lm_at : Cond.laysFinal "LoaderLabModel" "LoaderLabModel" "at" "[I" ∈ ll_xt := ll_in (ll_t2 (i := 229) (by decide +kernel)) rfl
theorem mlay_Lm_step : Cond.laysFinal "LoaderLabModel" "LoaderLabModel" "step" "[I" ∈ ll_xt := ll_in (ll_t2 (i := 231) (by decide +kernel)) rfl
theorem mlay_Lm_above : Cond.laysFinal "LoaderLabModel" "LoaderLabModel" "above" "[I" ∈ ll_xt := ll_in (ll_t2 (i := 233) (by decide +kernel)) rfl
theorem mlay_Lm_got : Cond.lays "LoaderLabModel" "LoaderLabModel" "got" "I" ∈ ll_xt := ll_in (ll_t2 (i := 235) (by decide +kernel)) rfl
theorem mlay_Lm_gotCause : Cond.lays "LoaderLabModel" "LoaderLabModel" "gotCause" "I" ∈ ll_xt := ll_in (ll_t2 (i := 237) (by decide +kernel)) rfl
theorem mlay_Lm_begun : Cond.lays "LoaderLabModel" "LoaderLabModel" "begun" "I" ∈ ll_xt := ll_in (ll_t2 (i := 239) (by decide +kernel)) rfl
theorem mlay_Lm_lastCode : Cond.lays "LoaderLabModel" "LoaderLabModel" "lastCode" "I" ∈ ll_xt := ll_in (ll_t3 (i := 1) (by decide +kernel)) rfl
theorem mlay_Lm_lastCause : Cond.lays "LoaderLabModel" "LoaderLabModel" "lastCause" "I" ∈ ll_xt := ll_in (ll_t3 (i := 3) (by decide +kernel)) rfl
theorem in_Lm : ∀ w ∈ u_ws R_Lm T_Lm 29, w ∈ ll_xt := by
  intro w hw
  obtain ⟨k, hk, rfl⟩ := List.mem_map.mp hw
  have hk := List.mem_range.mp hk
  match k, hk with
  | 0, _ => exact mlay_Lm_parents
  | 1, _ => exact mlay_Lm_hasFile
  | 2, _ => exact mlay_Lm_says
  | 3, _ => exact mlay_Lm_fileSuper
  | 4, _ => exact mlay_Lm_fileInterface
  | 5, _ => exact mlay_Lm_fileMarks
  | 6, _ => exact mlay_Lm_way
  | 7, _ => exact mlay_Lm_number
  | 8, _ => exact mlay_Lm_noted
  | 9, _ => exact mlay_Lm_busy
  | 10, _ => exact mlay_Lm_group
  | 11, _ => exact mlay_Lm_classes
  | 12, _ => exact mlay_Lm_name
  | 13, _ => exact mlay_Lm_owner
  | 14, _ => exact mlay_Lm_parentOf
  | 15, _ => exact mlay_Lm_interfaceOf
  | 16, _ => exact mlay_Lm_marks
  | 17, _ => exact mlay_Lm_refers
  | 18, _ => exact mlay_Lm_kept
  | 19, _ => exact mlay_Lm_keptCause
  | 20, _ => exact mlay_Lm_depth
  | 21, _ => exact mlay_Lm_at
  | 22, _ => exact mlay_Lm_step
  | 23, _ => exact mlay_Lm_above
  | 24, _ => exact mlay_Lm_got
  | 25, _ => exact mlay_Lm_gotCause
  | 26, _ => exact mlay_Lm_begun
  | 27, _ => exact mlay_Lm_lastCode
  | 28, _ => exact mlay_Lm_lastCause
  | k + 29, hk => omega
theorem mc_Lm_init : Cond.code y_Lm_init b_Lm_init 2 none ∈ lw_tbl := ll_t2 (i := 156) (by rfl)
theorem mi_Lm_init : Cond.instanceMethod y_Lm_init ∈ ll_xt := ll_in (ll_t2 (i := 155) (by decide +kernel)) rfl
theorem mc_Lm_in : Cond.code y_Lm_in b_Lm_in 3 (some .boolean) ∈ lw_tbl := ll_t3 (i := 12) (by rfl)
theorem mi_Lm_in : Cond.static y_Lm_in ∈ ll_xt := ll_in (ll_t3 (i := 11) (by decide +kernel)) rfl
theorem mc_Lm_place : Cond.code y_Lm_place b_Lm_place 2 (some .boolean) ∈ lw_tbl := ll_t3 (i := 19) (by rfl)
theorem mi_Lm_place : Cond.static y_Lm_place ∈ ll_xt := ll_in (ll_t3 (i := 18) (by decide +kernel)) rfl
theorem mc_Lm_parent : Cond.code y_Lm_parent b_Lm_parent 3 (some .int) ∈ lw_tbl := ll_t3 (i := 9) (by rfl)
theorem mi_Lm_parent : Cond.instanceMethod y_Lm_parent ∈ ll_xt := ll_in (ll_t3 (i := 7) (by decide +kernel)) rfl
theorem ms_Lm_parent : Cond.selects R_Lm y_Lm_parent y_Lm_parent ∈ ll_xt := ll_in (ll_t3 (i := 8) (by decide +kernel)) rfl
theorem mc_Lm_file : Cond.code y_Lm_file b_Lm_file 6 (some .int) ∈ lw_tbl := ll_t3 (i := 16) (by rfl)
theorem mi_Lm_file : Cond.instanceMethod y_Lm_file ∈ ll_xt := ll_in (ll_t3 (i := 14) (by decide +kernel)) rfl
theorem ms_Lm_file : Cond.selects R_Lm y_Lm_file y_Lm_file ∈ ll_xt := ll_in (ll_t3 (i := 15) (by decide +kernel)) rfl
theorem mc_Lm_noFile : Cond.code y_Lm_noFile b_Lm_noFile 3 (some .int) ∈ lw_tbl := ll_t3 (i := 23) (by rfl)
theorem mi_Lm_noFile : Cond.instanceMethod y_Lm_noFile ∈ ll_xt := ll_in (ll_t3 (i := 21) (by decide +kernel)) rfl
theorem ms_Lm_noFile : Cond.selects R_Lm y_Lm_noFile y_Lm_noFile ∈ ll_xt := ll_in (ll_t3 (i := 22) (by decide +kernel)) rfl
theorem mc_Lm_script : Cond.code y_Lm_script b_Lm_script 5 (some .int) ∈ lw_tbl := ll_t3 (i := 27) (by rfl)
theorem mi_Lm_script : Cond.instanceMethod y_Lm_script ∈ ll_xt := ll_in (ll_t3 (i := 25) (by decide +kernel)) rfl
theorem ms_Lm_script : Cond.selects R_Lm y_Lm_script y_Lm_script ∈ ll_xt := ll_in (ll_t3 (i := 26) (by decide +kernel)) rfl
theorem mc_Lm_come : Cond.code y_Lm_come b_Lm_come 3 none ∈ lw_tbl := ll_t3 (i := 39) (by rfl)
theorem mi_Lm_come : Cond.instanceMethod y_Lm_come ∈ ll_xt := ll_in (ll_t3 (i := 38) (by decide +kernel)) rfl
theorem ms_Lm_come : Cond.selects R_Lm y_Lm_come y_Lm_come ∈ ll_xt := ll_in (ll_ts (by decide +kernel)) rfl
theorem mc_Lm_begin : Cond.code y_Lm_begin b_Lm_begin 4 none ∈ lw_tbl := ll_t3 (i := 35) (by rfl)
theorem mi_Lm_begin : Cond.instanceMethod y_Lm_begin ∈ ll_xt := ll_in (ll_t3 (i := 34) (by decide +kernel)) rfl
theorem ms_Lm_begin : Cond.selects R_Lm y_Lm_begin y_Lm_begin ∈ ll_xt := ll_in (ll_ts (by decide +kernel)) rfl
theorem mc_Lm_end : Cond.code y_Lm_end b_Lm_end 3 none ∈ lw_tbl := ll_t3 (i := 63) (by rfl)
theorem mi_Lm_end : Cond.instanceMethod y_Lm_end ∈ ll_xt := ll_in (ll_t3 (i := 62) (by decide +kernel)) rfl
theorem ms_Lm_end : Cond.selects R_Lm y_Lm_end y_Lm_end ∈ ll_xt := ll_in (ll_ts (by decide +kernel)) rfl
theorem mc_Lm_run : Cond.code y_Lm_run b_Lm_run 3 none ∈ lw_tbl := ll_t3 (i := 43) (by rfl)
theorem mi_Lm_run : Cond.instanceMethod y_Lm_run ∈ ll_xt := ll_in (ll_t3 (i := 42) (by decide +kernel)) rfl
theorem ms_Lm_run : Cond.selects R_Lm y_Lm_run y_Lm_run ∈ ll_xt := ll_in (ll_ts (by decide +kernel)) rfl
theorem mc_Lm_go : Cond.code y_Lm_go b_Lm_go 2 none ∈ lw_tbl := ll_t3 (i := 55) (by rfl)
theorem mi_Lm_go : Cond.instanceMethod y_Lm_go ∈ ll_xt := ll_in (ll_t3 (i := 54) (by decide +kernel)) rfl
theorem ms_Lm_go : Cond.selects R_Lm y_Lm_go y_Lm_go ∈ ll_xt := ll_in (ll_ts (by decide +kernel)) rfl
theorem mc_Lm_start : Cond.code y_Lm_start b_Lm_start 4 none ∈ lw_tbl := ll_t3 (i := 47) (by rfl)
theorem mi_Lm_start : Cond.instanceMethod y_Lm_start ∈ ll_xt := ll_in (ll_t3 (i := 46) (by decide +kernel)) rfl
theorem ms_Lm_start : Cond.selects R_Lm y_Lm_start y_Lm_start ∈ ll_xt := ll_in (ll_ts (by decide +kernel)) rfl
theorem mc_Lm_ask : Cond.code y_Lm_ask b_Lm_ask 4 none ∈ lw_tbl := ll_t3 (i := 59) (by rfl)
theorem mi_Lm_ask : Cond.instanceMethod y_Lm_ask ∈ ll_xt := ll_in (ll_t3 (i := 58) (by decide +kernel)) rfl
theorem ms_Lm_ask : Cond.selects R_Lm y_Lm_ask y_Lm_ask ∈ ll_xt := ll_in (ll_ts (by decide +kernel)) rfl
theorem mc_Lm_toParent : Cond.code y_Lm_toParent b_Lm_toParent 3 none ∈ lw_tbl := ll_t3 (i := 51) (by rfl)
theorem mi_Lm_toParent : Cond.instanceMethod y_Lm_toParent ∈ ll_xt := ll_in (ll_t3 (i := 50) (by decide +kernel)) rfl
theorem ms_Lm_toParent : Cond.selects R_Lm y_Lm_toParent y_Lm_toParent ∈ ll_xt := ll_in (ll_ts (by decide +kernel)) rfl
theorem mc_Lm_parentAnswers : Cond.code y_Lm_parentAnswers b_Lm_parentAnswers 1 none ∈ lw_tbl := ll_t3 (i := 67) (by rfl)
theorem mi_Lm_parentAnswers : Cond.instanceMethod y_Lm_parentAnswers ∈ ll_xt := ll_in (ll_t3 (i := 66) (by decide +kernel)) rfl
theorem ms_Lm_parentAnswers : Cond.selects R_Lm y_Lm_parentAnswers y_Lm_parentAnswers ∈ ll_xt := ll_in (ll_ts (by decide +kernel)) rfl
theorem mc_Lm_unused : Cond.code y_Lm_unused b_Lm_unused 2 none ∈ lw_tbl := ll_t3 (i := 79) (by rfl)
theorem mi_Lm_unused : Cond.instanceMethod y_Lm_unused ∈ ll_xt := ll_in (ll_t3 (i := 78) (by decide +kernel)) rfl
theorem ms_Lm_unused : Cond.selects R_Lm y_Lm_unused y_Lm_unused ∈ ll_xt := ll_in (ll_ts (by decide +kernel)) rfl
theorem mc_Lm_answered : Cond.code y_Lm_answered b_Lm_answered 2 none ∈ lw_tbl := ll_t3 (i := 71) (by rfl)
theorem mi_Lm_answered : Cond.instanceMethod y_Lm_answered ∈ ll_xt := ll_in (ll_t3 (i := 70) (by decide +kernel)) rfl
theorem ms_Lm_answered : Cond.selects R_Lm y_Lm_answered y_Lm_answered ∈ ll_xt := ll_in (ll_ts (by decide +kernel)) rfl
theorem mc_Lm_breaks : Cond.code y_Lm_breaks b_Lm_breaks 5 (some .boolean) ∈ lw_tbl := ll_t3 (i := 75) (by rfl)
theorem mi_Lm_breaks : Cond.instanceMethod y_Lm_breaks ∈ ll_xt := ll_in (ll_t3 (i := 74) (by decide +kernel)) rfl
theorem ms_Lm_breaks : Cond.selects R_Lm y_Lm_breaks y_Lm_breaks ∈ ll_xt := ll_in (ll_ts (by decide +kernel)) rfl
theorem mc_Lm_define : Cond.code y_Lm_define b_Lm_define 2 none ∈ lw_tbl := ll_t3 (i := 83) (by rfl)
theorem mi_Lm_define : Cond.instanceMethod y_Lm_define ∈ ll_xt := ll_in (ll_t3 (i := 82) (by decide +kernel)) rfl
theorem ms_Lm_define : Cond.selects R_Lm y_Lm_define y_Lm_define ∈ ll_xt := ll_in (ll_ts (by decide +kernel)) rfl
theorem mc_Lm_askFor : Cond.code y_Lm_askFor b_Lm_askFor 4 none ∈ lw_tbl := ll_t3 (i := 87) (by rfl)
theorem mi_Lm_askFor : Cond.instanceMethod y_Lm_askFor ∈ ll_xt := ll_in (ll_t3 (i := 86) (by decide +kernel)) rfl
theorem ms_Lm_askFor : Cond.selects R_Lm y_Lm_askFor y_Lm_askFor ∈ ll_xt := ll_in (ll_ts (by decide +kernel)) rfl
theorem mc_Lm_resolved : Cond.code y_Lm_resolved b_Lm_resolved 3 none ∈ lw_tbl := ll_t3 (i := 91) (by rfl)
theorem mi_Lm_resolved : Cond.instanceMethod y_Lm_resolved ∈ ll_xt := ll_in (ll_t3 (i := 90) (by decide +kernel)) rfl
theorem ms_Lm_resolved : Cond.selects R_Lm y_Lm_resolved y_Lm_resolved ∈ ll_xt := ll_in (ll_ts (by decide +kernel)) rfl
theorem mc_Lm_make : Cond.code y_Lm_make b_Lm_make 2 none ∈ lw_tbl := ll_t3 (i := 95) (by rfl)
theorem mi_Lm_make : Cond.instanceMethod y_Lm_make ∈ ll_xt := ll_in (ll_t3 (i := 94) (by decide +kernel)) rfl
theorem ms_Lm_make : Cond.selects R_Lm y_Lm_make y_Lm_make ∈ ll_xt := ll_in (ll_ts (by decide +kernel)) rfl
theorem mc_Lm_finish : Cond.code y_Lm_finish b_Lm_finish 1 (some .int) ∈ lw_tbl := ll_t3 (i := 99) (by rfl)
theorem mi_Lm_finish : Cond.instanceMethod y_Lm_finish ∈ ll_xt := ll_in (ll_t3 (i := 98) (by decide +kernel)) rfl
theorem ms_Lm_finish : Cond.selects R_Lm y_Lm_finish y_Lm_finish ∈ ll_xt := ll_in (ll_ts (by decide +kernel)) rfl
theorem mc_Lm_load : Cond.code y_Lm_load b_Lm_load 3 (some .int) ∈ lw_tbl := ll_t3 (i := 31) (by rfl)
theorem mi_Lm_load : Cond.instanceMethod y_Lm_load ∈ ll_xt := ll_in (ll_t3 (i := 29) (by decide +kernel)) rfl
theorem ms_Lm_load : Cond.selects R_Lm y_Lm_load y_Lm_load ∈ ll_xt := ll_in (ll_t3 (i := 30) (by decide +kernel)) rfl
theorem mc_Lm_refer : Cond.code y_Lm_refer b_Lm_refer 4 (some .int) ∈ lw_tbl := ll_t3 (i := 103) (by rfl)
theorem mi_Lm_refer : Cond.instanceMethod y_Lm_refer ∈ ll_xt := ll_in (ll_t3 (i := 101) (by decide +kernel)) rfl
theorem ms_Lm_refer : Cond.selects R_Lm y_Lm_refer y_Lm_refer ∈ ll_xt := ll_in (ll_t3 (i := 102) (by decide +kernel)) rfl
theorem mc_Lm_resolve : Cond.code y_Lm_resolve b_Lm_resolve 4 (some .int) ∈ lw_tbl := ll_t3 (i := 107) (by rfl)
theorem mi_Lm_resolve : Cond.instanceMethod y_Lm_resolve ∈ ll_xt := ll_in (ll_t3 (i := 105) (by decide +kernel)) rfl
theorem ms_Lm_resolve : Cond.selects R_Lm y_Lm_resolve y_Lm_resolve ∈ ll_xt := ll_in (ll_t3 (i := 106) (by decide +kernel)) rfl
theorem mc_Lm_constrain : Cond.code y_Lm_constrain b_Lm_constrain 9 (some .int) ∈ lw_tbl := ll_t3 (i := 111) (by rfl)
theorem mi_Lm_constrain : Cond.instanceMethod y_Lm_constrain ∈ ll_xt := ll_in (ll_t3 (i := 109) (by decide +kernel)) rfl
theorem ms_Lm_constrain : Cond.selects R_Lm y_Lm_constrain y_Lm_constrain ∈ ll_xt := ll_in (ll_t3 (i := 110) (by decide +kernel)) rfl
theorem mc_Lm_agree : Cond.code y_Lm_agree b_Lm_agree 4 (some .boolean) ∈ lw_tbl := ll_t3 (i := 115) (by rfl)
theorem mi_Lm_agree : Cond.instanceMethod y_Lm_agree ∈ ll_xt := ll_in (ll_t3 (i := 113) (by decide +kernel)) rfl
theorem ms_Lm_agree : Cond.selects R_Lm y_Lm_agree y_Lm_agree ∈ ll_xt := ll_in (ll_t3 (i := 114) (by decide +kernel)) rfl
theorem mc_Lm_cause : Cond.code y_Lm_cause b_Lm_cause 2 (some .int) ∈ lw_tbl := ll_t3 (i := 119) (by rfl)
theorem mi_Lm_cause : Cond.instanceMethod y_Lm_cause ∈ ll_xt := ll_in (ll_t3 (i := 117) (by decide +kernel)) rfl
theorem ms_Lm_cause : Cond.selects R_Lm y_Lm_cause y_Lm_cause ∈ ll_xt := ll_in (ll_t3 (i := 118) (by decide +kernel)) rfl
theorem mc_Lm_requests : Cond.code y_Lm_requests b_Lm_requests 1 (some .int) ∈ lw_tbl := ll_t3 (i := 123) (by rfl)
theorem mi_Lm_requests : Cond.instanceMethod y_Lm_requests ∈ ll_xt := ll_in (ll_t3 (i := 121) (by decide +kernel)) rfl
theorem ms_Lm_requests : Cond.selects R_Lm y_Lm_requests y_Lm_requests ∈ ll_xt := ll_in (ll_t3 (i := 122) (by decide +kernel)) rfl
theorem mc_Lm_recorded : Cond.code y_Lm_recorded b_Lm_recorded 3 (some .int) ∈ lw_tbl := ll_t3 (i := 127) (by rfl)
theorem mi_Lm_recorded : Cond.instanceMethod y_Lm_recorded ∈ ll_xt := ll_in (ll_t3 (i := 125) (by decide +kernel)) rfl
theorem ms_Lm_recorded : Cond.selects R_Lm y_Lm_recorded y_Lm_recorded ∈ ll_xt := ll_in (ll_t3 (i := 126) (by decide +kernel)) rfl
theorem mc_Lm_of : Cond.code y_Lm_of b_Lm_of 3 (some .int) ∈ lw_tbl := ll_t3 (i := 131) (by rfl)
theorem mi_Lm_of : Cond.instanceMethod y_Lm_of ∈ ll_xt := ll_in (ll_t3 (i := 129) (by decide +kernel)) rfl
theorem ms_Lm_of : Cond.selects R_Lm y_Lm_of y_Lm_of ∈ ll_xt := ll_in (ll_t3 (i := 130) (by decide +kernel)) rfl
theorem mc_Lm_isA : Cond.code y_Lm_isA b_Lm_isA 5 (some .boolean) ∈ lw_tbl := ll_t3 (i := 135) (by rfl)
theorem mi_Lm_isA : Cond.instanceMethod y_Lm_isA ∈ ll_xt := ll_in (ll_t3 (i := 133) (by decide +kernel)) rfl
theorem ms_Lm_isA : Cond.selects R_Lm y_Lm_isA y_Lm_isA ∈ ll_xt := ll_in (ll_t3 (i := 134) (by decide +kernel)) rfl
theorem mc_Lm_count : Cond.code y_Lm_count b_Lm_count 5 (some .int) ∈ lw_tbl := ll_t3 (i := 139) (by rfl)
theorem mi_Lm_count : Cond.instanceMethod y_Lm_count ∈ ll_xt := ll_in (ll_t3 (i := 137) (by decide +kernel)) rfl
theorem ms_Lm_count : Cond.selects R_Lm y_Lm_count y_Lm_count ∈ ll_xt := ll_in (ll_t3 (i := 138) (by decide +kernel)) rfl
theorem ml_La_3 : Cond.methodLink "LoaderLab" 3 Lib.objectInit ∈ ll_xt := ll_in (ll_t1 (i := 10) (by decide +kernel)) rfl
theorem mn_La_1 : Cond.classLink "LoaderLab" 1 "LoaderLab$Loaders" ∈ ll_xt := ll_in (ll_t1 (i := 13) (by decide +kernel)) rfl
theorem ml_La_9 : Cond.methodLink "LoaderLab" 9 y_Lb_init ∈ ll_xt := ll_in (ll_t1 (i := 15) (by decide +kernel)) rfl
theorem mf_La_loaders : Cond.fieldLink "LoaderLab" 10 "LoaderLab" "loaders" "LLoaderLab$Loaders;" ∈ ll_xt := ll_in (ll_t1 (i := 80) (by decide +kernel)) rfl
theorem mn_La_16 : Cond.classLink "LoaderLab" 16 "LoaderLab$Classes" ∈ ll_xt := ll_in (ll_t1 (i := 46) (by decide +kernel)) rfl
theorem ml_La_18 : Cond.methodLink "LoaderLab" 18 y_Lc_init ∈ ll_xt := ll_in (ll_t1 (i := 48) (by decide +kernel)) rfl
theorem mf_La_classes : Cond.fieldLink "LoaderLab" 19 "LoaderLab" "classes" "LLoaderLab$Classes;" ∈ ll_xt := ll_in (ll_t1 (i := 81) (by decide +kernel)) rfl
theorem mf_La_begun : Cond.fieldLink "LoaderLab" 23 "LoaderLab" "begun" "I" ∈ ll_xt := ll_in (ll_t1 (i := 82) (by decide +kernel)) rfl
theorem mf_La_risingCause : Cond.fieldLink "LoaderLab" 27 "LoaderLab" "risingCause" "I" ∈ ll_xt := ll_in (ll_t1 (i := 83) (by decide +kernel)) rfl
theorem mf_La_lastFailure : Cond.fieldLink "LoaderLab" 30 "LoaderLab" "lastFailure" "I" ∈ ll_xt := ll_in (ll_t1 (i := 84) (by decide +kernel)) rfl
theorem mf_La_lastCause : Cond.fieldLink "LoaderLab" 33 "LoaderLab" "lastCause" "I" ∈ ll_xt := ll_in (ll_t1 (i := 85) (by decide +kernel)) rfl
theorem ml_La_36 : Cond.methodLink "LoaderLab" 36 y_Lb_setParent ∈ ll_xt := ll_in (ll_t1 (i := 103) (by decide +kernel)) rfl
theorem cw_La_36 {s : State} {args : Array Value} {R : Room} {r : Nat} (hts : ∀ w ∈ ll_xt, w.before args s = true) (hR : (ll_rk r).frames + 1 ≤ R.frames ∧ 8 + (3 + 11) + (ll_rk r).locals ≤ R.locals) : CallW R s args "LoaderLab" R_Lb 36 y_Lb_setParent b_Lb_setParent 3 none (Cond.code y_Lb_setParent b_Lb_setParent 3 none :: ll_xt) (ll_rk r) 0 0 2 :=
  ⟨callB_of 2 hts (ll_good mc_Lb_setParent) rfl rfl rfl (hts _ mini_Lb) (hts _ ml_La_36) (by decide +kernel) hR, hts _ mi_Lb_setParent, hts _ ms_Lb_setParent⟩
theorem ml_La_40 : Cond.methodLink "LoaderLab" 40 y_Lb_inRange ∈ ll_xt := ll_in (ll_t1 (i := 111) (by decide +kernel)) rfl
theorem cw_La_40 {s : State} {args : Array Value} {R : Room} {r : Nat} (hts : ∀ w ∈ ll_xt, w.before args s = true) (hR : (ll_rk r).frames + 1 ≤ R.frames ∧ 8 + (2 + 11) + (ll_rk r).locals ≤ R.locals) : CallB R s args "LoaderLab" 40 y_Lb_inRange b_Lb_inRange 2 (some .boolean) (Cond.code y_Lb_inRange b_Lb_inRange 2 (some .boolean) :: ll_xt) (ll_rk r) 0 0 2 ∧ (Cond.static y_Lb_inRange).before args s = true :=
  ⟨callB_of 2 hts (ll_good mc_Lb_inRange) rfl rfl rfl (hts _ mini_Lb) (hts _ ml_La_40) (by decide +kernel) hR, hts _ mi_Lb_inRange⟩
theorem ml_La_44 : Cond.methodLink "LoaderLab" 44 y_Lb_isFile ∈ ll_xt := ll_in (ll_t1 (i := 120) (by decide +kernel)) rfl
theorem cw_La_44 {s : State} {args : Array Value} {R : Room} {r : Nat} (hts : ∀ w ∈ ll_xt, w.before args s = true) (hR : (ll_rk r).frames + 1 ≤ R.frames ∧ 8 + (2 + 11) + (ll_rk r).locals ≤ R.locals) : CallB R s args "LoaderLab" 44 y_Lb_isFile b_Lb_isFile 2 (some .boolean) (Cond.code y_Lb_isFile b_Lb_isFile 2 (some .boolean) :: ll_xt) (ll_rk r) 0 0 2 ∧ (Cond.static y_Lb_isFile).before args s = true :=
  ⟨callB_of 2 hts (ll_good mc_Lb_isFile) rfl rfl rfl (hts _ mini_Lb) (hts _ ml_La_44) (by decide +kernel) hR, hts _ mi_Lb_isFile⟩
theorem ml_La_47 : Cond.methodLink "LoaderLab" 47 y_Lb_putFile ∈ ll_xt := ll_in (ll_t1 (i := 123) (by decide +kernel)) rfl
theorem cw_La_47 {s : State} {args : Array Value} {R : Room} {r : Nat} (hts : ∀ w ∈ ll_xt, w.before args s = true) (hR : (ll_rk r).frames + 1 ≤ R.frames ∧ 8 + (5 + 11) + (ll_rk r).locals ≤ R.locals) : CallW R s args "LoaderLab" R_Lb 47 y_Lb_putFile b_Lb_putFile 5 none (Cond.code y_Lb_putFile b_Lb_putFile 5 none :: ll_xt) (ll_rk r) 0 0 4 :=
  ⟨callB_of 4 hts (ll_good mc_Lb_putFile) rfl rfl rfl (hts _ mini_Lb) (hts _ ml_La_47) (by decide +kernel) hR, hts _ mi_Lb_putFile, hts _ ms_Lb_putFile⟩
theorem ml_La_51 : Cond.methodLink "LoaderLab" 51 y_Lb_hasFile ∈ ll_xt := ll_in (ll_t1 (i := 134) (by decide +kernel)) rfl
theorem cw_La_51 {s : State} {args : Array Value} {R : Room} {r : Nat} (hts : ∀ w ∈ ll_xt, w.before args s = true) (hR : (ll_rk r).frames + 1 ≤ R.frames ∧ 8 + (3 + 11) + (ll_rk r).locals ≤ R.locals) : CallW R s args "LoaderLab" R_Lb 51 y_Lb_hasFile b_Lb_hasFile 3 (some .boolean) (Cond.code y_Lb_hasFile b_Lb_hasFile 3 (some .boolean) :: ll_xt) (ll_rk r) 0 0 2 :=
  ⟨callB_of 2 hts (ll_good mc_Lb_hasFile) rfl rfl rfl (hts _ mini_Lb) (hts _ ml_La_51) (by decide +kernel) hR, hts _ mi_Lb_hasFile, hts _ ms_Lb_hasFile⟩
theorem ml_La_54 : Cond.methodLink "LoaderLab" 54 y_Lb_dropFile ∈ ll_xt := ll_in (ll_t1 (i := 138) (by decide +kernel)) rfl
theorem cw_La_54 {s : State} {args : Array Value} {R : Room} {r : Nat} (hts : ∀ w ∈ ll_xt, w.before args s = true) (hR : (ll_rk r).frames + 1 ≤ R.frames ∧ 8 + (3 + 11) + (ll_rk r).locals ≤ R.locals) : CallW R s args "LoaderLab" R_Lb 54 y_Lb_dropFile b_Lb_dropFile 3 none (Cond.code y_Lb_dropFile b_Lb_dropFile 3 none :: ll_xt) (ll_rk r) 0 0 2 :=
  ⟨callB_of 2 hts (ll_good mc_Lb_dropFile) rfl rfl rfl (hts _ mini_Lb) (hts _ ml_La_54) (by decide +kernel) hR, hts _ mi_Lb_dropFile, hts _ ms_Lb_dropFile⟩
theorem ml_La_57 : Cond.methodLink "LoaderLab" 57 y_La_isWay ∈ ll_xt := ll_in (ll_t1 (i := 146) (by decide +kernel)) rfl
theorem cw_La_57 {s : State} {args : Array Value} {R : Room} {r : Nat} (hts : ∀ w ∈ ll_xt, w.before args s = true) (hR : (ll_rk r).frames + 1 ≤ R.frames ∧ 8 + (2 + 11) + (ll_rk r).locals ≤ R.locals) : CallB R s args "LoaderLab" 57 y_La_isWay b_La_isWay 2 (some .boolean) (Cond.code y_La_isWay b_La_isWay 2 (some .boolean) :: ll_xt) (ll_rk r) 0 0 2 ∧ (Cond.static y_La_isWay).before args s = true :=
  ⟨callB_of 2 hts (ll_good mc_La_isWay) rfl rfl rfl (hts _ mini_La) (hts _ ml_La_57) (by decide +kernel) hR, hts _ mi_La_isWay⟩
theorem ml_La_60 : Cond.methodLink "LoaderLab" 60 y_Lb_setScript ∈ ll_xt := ll_in (ll_t1 (i := 151) (by decide +kernel)) rfl
theorem cw_La_60 {s : State} {args : Array Value} {R : Room} {r : Nat} (hts : ∀ w ∈ ll_xt, w.before args s = true) (hR : (ll_rk r).frames + 1 ≤ R.frames ∧ 8 + (5 + 11) + (ll_rk r).locals ≤ R.locals) : CallW R s args "LoaderLab" R_Lb 60 y_Lb_setScript b_Lb_setScript 5 none (Cond.code y_Lb_setScript b_Lb_setScript 5 none :: ll_xt) (ll_rk r) 0 0 4 :=
  ⟨callB_of 4 hts (ll_good mc_Lb_setScript) rfl rfl rfl (hts _ mini_Lb) (hts _ ml_La_60) (by decide +kernel) hR, hts _ mi_Lb_setScript, hts _ ms_Lb_setScript⟩
theorem ml_La_63 : Cond.methodLink "LoaderLab" 63 y_La_request ∈ ll_xt := ll_in (ll_t1 (i := 159) (by decide +kernel)) rfl
theorem cw_La_63 {s : State} {args : Array Value} {R : Room} {r : Nat} (hts : ∀ w ∈ ll_xt, w.before args s = true) (hR : (ll_rk r).frames + 1 ≤ R.frames ∧ 8 + (6 + 11) + (ll_rk r).locals ≤ R.locals) : CallW R s args "LoaderLab" R_La 63 y_La_request b_La_request 6 (some .int) (Cond.code y_La_request b_La_request 6 (some .int) :: ll_xt) (ll_rk r) 0 0 3 :=
  ⟨callB_of 3 hts (ll_good mc_La_request) rfl rfl rfl (hts _ mini_La) (hts _ ml_La_63) (by decide +kernel) hR, hts _ mi_La_request, hts _ ms_La_request⟩
theorem ml_La_67 : Cond.methodLink "LoaderLab" 67 y_La_endWith ∈ ll_xt := ll_in (ll_t2 (i := 31) (by decide +kernel)) rfl
theorem cw_La_67 {s : State} {args : Array Value} {R : Room} {r : Nat} (hts : ∀ w ∈ ll_xt, w.before args s = true) (hR : (ll_rk r).frames + 1 ≤ R.frames ∧ 8 + (3 + 11) + (ll_rk r).locals ≤ R.locals) : CallW R s args "LoaderLab" R_La 67 y_La_endWith b_La_endWith 3 (some .int) (Cond.code y_La_endWith b_La_endWith 3 (some .int) :: ll_xt) (ll_rk r) 0 0 2 :=
  ⟨callB_of 2 hts (ll_good mc_La_endWith) rfl rfl rfl (hts _ mini_La) (hts _ ml_La_67) (by decide +kernel) hR, hts _ mi_La_endWith, hts _ ms_La_endWith⟩
theorem ml_La_71 : Cond.methodLink "LoaderLab" 71 y_Lc_hasPlace ∈ ll_xt := ll_in (ll_t2 (i := 39) (by decide +kernel)) rfl
theorem cw_La_71 {s : State} {args : Array Value} {R : Room} {r : Nat} (hts : ∀ w ∈ ll_xt, w.before args s = true) (hR : (ll_rk r).frames + 1 ≤ R.frames ∧ 8 + (3 + 11) + (ll_rk r).locals ≤ R.locals) : CallW R s args "LoaderLab" R_Lc 71 y_Lc_hasPlace b_Lc_hasPlace 3 (some .boolean) (Cond.code y_Lc_hasPlace b_Lc_hasPlace 3 (some .boolean) :: ll_xt) (ll_rk r) 0 0 2 :=
  ⟨callB_of 2 hts (ll_good mc_Lc_hasPlace) rfl rfl rfl (hts _ mini_Lc) (hts _ ml_La_71) (by decide +kernel) hR, hts _ mi_Lc_hasPlace, hts _ ms_Lc_hasPlace⟩
theorem ml_La_74 : Cond.methodLink "LoaderLab" 74 y_Lb_isName ∈ ll_xt := ll_in (ll_t1 (i := 150) (by decide +kernel)) rfl
theorem cw_La_74 {s : State} {args : Array Value} {R : Room} {r : Nat} (hts : ∀ w ∈ ll_xt, w.before args s = true) (hR : (ll_rk r).frames + 1 ≤ R.frames ∧ 8 + (1 + 11) + (ll_rk r).locals ≤ R.locals) : CallB R s args "LoaderLab" 74 y_Lb_isName b_Lb_isName 1 (some .boolean) (Cond.code y_Lb_isName b_Lb_isName 1 (some .boolean) :: ll_xt) (ll_rk r) 0 0 1 ∧ (Cond.static y_Lb_isName).before args s = true :=
  ⟨callB_of 1 hts (ll_good mc_Lb_isName) rfl rfl rfl (hts _ mini_Lb) (hts _ ml_La_74) (by decide +kernel) hR, hts _ mi_Lb_isName⟩
theorem ml_La_78 : Cond.methodLink "LoaderLab" 78 y_Lc_keptFor ∈ ll_xt := ll_in (ll_t2 (i := 47) (by decide +kernel)) rfl
theorem cw_La_78 {s : State} {args : Array Value} {R : Room} {r : Nat} (hts : ∀ w ∈ ll_xt, w.before args s = true) (hR : (ll_rk r).frames + 1 ≤ R.frames ∧ 8 + (3 + 11) + (ll_rk r).locals ≤ R.locals) : CallW R s args "LoaderLab" R_Lc 78 y_Lc_keptFor b_Lc_keptFor 3 (some .int) (Cond.code y_Lc_keptFor b_Lc_keptFor 3 (some .int) :: ll_xt) (ll_rk r) 0 0 2 :=
  ⟨callB_of 2 hts (ll_good mc_Lc_keptFor) rfl rfl rfl (hts _ mini_Lc) (hts _ ml_La_78) (by decide +kernel) hR, hts _ mi_Lc_keptFor, hts _ ms_Lc_keptFor⟩
theorem ml_La_81 : Cond.methodLink "LoaderLab" 81 y_Lc_setReference ∈ ll_xt := ll_in (ll_t2 (i := 54) (by decide +kernel)) rfl
theorem cw_La_81 {s : State} {args : Array Value} {R : Room} {r : Nat} (hts : ∀ w ∈ ll_xt, w.before args s = true) (hR : (ll_rk r).frames + 1 ≤ R.frames ∧ 8 + (4 + 11) + (ll_rk r).locals ≤ R.locals) : CallW R s args "LoaderLab" R_Lc 81 y_Lc_setReference b_Lc_setReference 4 none (Cond.code y_Lc_setReference b_Lc_setReference 4 none :: ll_xt) (ll_rk r) 0 0 3 :=
  ⟨callB_of 3 hts (ll_good mc_Lc_setReference) rfl rfl rfl (hts _ mini_Lc) (hts _ ml_La_81) (by decide +kernel) hR, hts _ mi_Lc_setReference, hts _ ms_Lc_setReference⟩
theorem ml_La_85 : Cond.methodLink "LoaderLab" 85 y_Lc_hasReference ∈ ll_xt := ll_in (ll_t2 (i := 62) (by decide +kernel)) rfl
theorem cw_La_85 {s : State} {args : Array Value} {R : Room} {r : Nat} (hts : ∀ w ∈ ll_xt, w.before args s = true) (hR : (ll_rk r).frames + 1 ≤ R.frames ∧ 8 + (3 + 11) + (ll_rk r).locals ≤ R.locals) : CallW R s args "LoaderLab" R_Lc 85 y_Lc_hasReference b_Lc_hasReference 3 (some .boolean) (Cond.code y_Lc_hasReference b_Lc_hasReference 3 (some .boolean) :: ll_xt) (ll_rk r) 0 0 2 :=
  ⟨callB_of 2 hts (ll_good mc_Lc_hasReference) rfl rfl rfl (hts _ mini_Lc) (hts _ ml_La_85) (by decide +kernel) hR, hts _ mi_Lc_hasReference, hts _ ms_Lc_hasReference⟩
theorem ml_La_88 : Cond.methodLink "LoaderLab" 88 y_Lc_loaderOf ∈ ll_xt := ll_in (ll_t2 (i := 70) (by decide +kernel)) rfl
theorem cw_La_88 {s : State} {args : Array Value} {R : Room} {r : Nat} (hts : ∀ w ∈ ll_xt, w.before args s = true) (hR : (ll_rk r).frames + 1 ≤ R.frames ∧ 8 + (2 + 11) + (ll_rk r).locals ≤ R.locals) : CallW R s args "LoaderLab" R_Lc 88 y_Lc_loaderOf b_Lc_loaderOf 2 (some .int) (Cond.code y_Lc_loaderOf b_Lc_loaderOf 2 (some .int) :: ll_xt) (ll_rk r) 0 0 1 :=
  ⟨callB_of 1 hts (ll_good mc_Lc_loaderOf) rfl rfl rfl (hts _ mini_Lc) (hts _ ml_La_88) (by decide +kernel) hR, hts _ mi_Lc_loaderOf, hts _ ms_Lc_loaderOf⟩
theorem ml_La_92 : Cond.methodLink "LoaderLab" 92 y_Lc_referredName ∈ ll_xt := ll_in (ll_t2 (i := 74) (by decide +kernel)) rfl
theorem cw_La_92 {s : State} {args : Array Value} {R : Room} {r : Nat} (hts : ∀ w ∈ ll_xt, w.before args s = true) (hR : (ll_rk r).frames + 1 ≤ R.frames ∧ 8 + (3 + 11) + (ll_rk r).locals ≤ R.locals) : CallW R s args "LoaderLab" R_Lc 92 y_Lc_referredName b_Lc_referredName 3 (some .int) (Cond.code y_Lc_referredName b_Lc_referredName 3 (some .int) :: ll_xt) (ll_rk r) 0 0 2 :=
  ⟨callB_of 2 hts (ll_good mc_Lc_referredName) rfl rfl rfl (hts _ mini_Lc) (hts _ ml_La_92) (by decide +kernel) hR, hts _ mi_Lc_referredName, hts _ ms_Lc_referredName⟩
theorem ml_La_95 : Cond.methodLink "LoaderLab" 95 y_La_resolveFrom ∈ ll_xt := ll_in (ll_t1 (i := 215) (by decide +kernel)) rfl
theorem cw_La_95 {s : State} {args : Array Value} {R : Room} {r : Nat} (hts : ∀ w ∈ ll_xt, w.before args s = true) (hR : (ll_rk r).frames + 1 ≤ R.frames ∧ 8 + (5 + 11) + (ll_rk r).locals ≤ R.locals) : CallW R s args "LoaderLab" R_La 95 y_La_resolveFrom b_La_resolveFrom 5 (some .int) (Cond.code y_La_resolveFrom b_La_resolveFrom 5 (some .int) :: ll_xt) (ll_rk r) 0 0 3 :=
  ⟨callB_of 3 hts (ll_good mc_La_resolveFrom) rfl rfl rfl (hts _ mini_La) (hts _ ml_La_95) (by decide +kernel) hR, hts _ mi_La_resolveFrom, hts _ ms_La_resolveFrom⟩
theorem ml_La_98 : Cond.methodLink "LoaderLab" 98 y_Lc_keep ∈ ll_xt := ll_in (ll_t2 (i := 75) (by decide +kernel)) rfl
theorem cw_La_98 {s : State} {args : Array Value} {R : Room} {r : Nat} (hts : ∀ w ∈ ll_xt, w.before args s = true) (hR : (ll_rk r).frames + 1 ≤ R.frames ∧ 8 + (5 + 11) + (ll_rk r).locals ≤ R.locals) : CallW R s args "LoaderLab" R_Lc 98 y_Lc_keep b_Lc_keep 5 none (Cond.code y_Lc_keep b_Lc_keep 5 none :: ll_xt) (ll_rk r) 0 0 4 :=
  ⟨callB_of 4 hts (ll_good mc_Lc_keep) rfl rfl rfl (hts _ mini_Lc) (hts _ ml_La_98) (by decide +kernel) hR, hts _ mi_Lc_keep, hts _ ms_Lc_keep⟩
theorem ml_La_101 : Cond.methodLink "LoaderLab" 101 y_Lc_keptCause ∈ ll_xt := ll_in (ll_t2 (i := 79) (by decide +kernel)) rfl
theorem cw_La_101 {s : State} {args : Array Value} {R : Room} {r : Nat} (hts : ∀ w ∈ ll_xt, w.before args s = true) (hR : (ll_rk r).frames + 1 ≤ R.frames ∧ 8 + (3 + 11) + (ll_rk r).locals ≤ R.locals) : CallW R s args "LoaderLab" R_Lc 101 y_Lc_keptCause b_Lc_keptCause 3 (some .int) (Cond.code y_Lc_keptCause b_Lc_keptCause 3 (some .int) :: ll_xt) (ll_rk r) 0 0 2 :=
  ⟨callB_of 2 hts (ll_good mc_Lc_keptCause) rfl rfl rfl (hts _ mini_Lc) (hts _ ml_La_101) (by decide +kernel) hR, hts _ mi_Lc_keptCause, hts _ ms_Lc_keptCause⟩
theorem ml_La_104 : Cond.methodLink "LoaderLab" 104 y_Lb_join ∈ ll_xt := ll_in (ll_t2 (i := 87) (by decide +kernel)) rfl
theorem cw_La_104 {s : State} {args : Array Value} {R : Room} {r : Nat} (hts : ∀ w ∈ ll_xt, w.before args s = true) (hR : (ll_rk r).frames + 1 ≤ R.frames ∧ 8 + (6 + 11) + (ll_rk r).locals ≤ R.locals) : CallW R s args "LoaderLab" R_Lb 104 y_Lb_join b_Lb_join 6 (some .boolean) (Cond.code y_Lb_join b_Lb_join 6 (some .boolean) :: ll_xt) (ll_rk r) 0 0 3 :=
  ⟨callB_of 3 hts (ll_good mc_Lb_join) rfl rfl rfl (hts _ mini_Lb) (hts _ ml_La_104) (by decide +kernel) hR, hts _ mi_Lb_join, hts _ ms_Lb_join⟩
theorem ml_La_108 : Cond.methodLink "LoaderLab" 108 y_Lb_arePeers ∈ ll_xt := ll_in (ll_t2 (i := 99) (by decide +kernel)) rfl
theorem cw_La_108 {s : State} {args : Array Value} {R : Room} {r : Nat} (hts : ∀ w ∈ ll_xt, w.before args s = true) (hR : (ll_rk r).frames + 1 ≤ R.frames ∧ 8 + (4 + 11) + (ll_rk r).locals ≤ R.locals) : CallW R s args "LoaderLab" R_Lb 108 y_Lb_arePeers b_Lb_arePeers 4 (some .boolean) (Cond.code y_Lb_arePeers b_Lb_arePeers 4 (some .boolean) :: ll_xt) (ll_rk r) 0 0 3 :=
  ⟨callB_of 3 hts (ll_good mc_Lb_arePeers) rfl rfl rfl (hts _ mini_Lb) (hts _ ml_La_108) (by decide +kernel) hR, hts _ mi_Lb_arePeers, hts _ ms_Lb_arePeers⟩
theorem ml_La_111 : Cond.methodLink "LoaderLab" 111 y_Lb_recordOf ∈ ll_xt := ll_in (ll_t1 (i := 163) (by decide +kernel)) rfl
theorem cw_La_111 {s : State} {args : Array Value} {R : Room} {r : Nat} (hts : ∀ w ∈ ll_xt, w.before args s = true) (hR : (ll_rk r).frames + 1 ≤ R.frames ∧ 8 + (3 + 11) + (ll_rk r).locals ≤ R.locals) : CallW R s args "LoaderLab" R_Lb 111 y_Lb_recordOf b_Lb_recordOf 3 (some .int) (Cond.code y_Lb_recordOf b_Lb_recordOf 3 (some .int) :: ll_xt) (ll_rk r) 0 0 2 :=
  ⟨callB_of 2 hts (ll_good mc_Lb_recordOf) rfl rfl rfl (hts _ mini_Lb) (hts _ ml_La_111) (by decide +kernel) hR, hts _ mi_Lb_recordOf, hts _ ms_Lb_recordOf⟩
theorem ml_La_114 : Cond.methodLink "LoaderLab" 114 y_Lc_has ∈ ll_xt := ll_in (ll_t2 (i := 119) (by decide +kernel)) rfl
theorem cw_La_114 {s : State} {args : Array Value} {R : Room} {r : Nat} (hts : ∀ w ∈ ll_xt, w.before args s = true) (hR : (ll_rk r).frames + 1 ≤ R.frames ∧ 8 + (2 + 11) + (ll_rk r).locals ≤ R.locals) : CallW R s args "LoaderLab" R_Lc 114 y_Lc_has b_Lc_has 2 (some .boolean) (Cond.code y_Lc_has b_Lc_has 2 (some .boolean) :: ll_xt) (ll_rk r) 0 0 1 :=
  ⟨callB_of 1 hts (ll_good mc_Lc_has) rfl rfl rfl (hts _ mini_Lc) (hts _ ml_La_114) (by decide +kernel) hR, hts _ mi_Lc_has, hts _ ms_Lc_has⟩
theorem ml_La_117 : Cond.methodLink "LoaderLab" 117 y_Lc_nameOf ∈ ll_xt := ll_in (ll_t2 (i := 11) (by decide +kernel)) rfl
theorem cw_La_117 {s : State} {args : Array Value} {R : Room} {r : Nat} (hts : ∀ w ∈ ll_xt, w.before args s = true) (hR : (ll_rk r).frames + 1 ≤ R.frames ∧ 8 + (2 + 11) + (ll_rk r).locals ≤ R.locals) : CallW R s args "LoaderLab" R_Lc 117 y_Lc_nameOf b_Lc_nameOf 2 (some .int) (Cond.code y_Lc_nameOf b_Lc_nameOf 2 (some .int) :: ll_xt) (ll_rk r) 0 0 1 :=
  ⟨callB_of 1 hts (ll_good mc_Lc_nameOf) rfl rfl rfl (hts _ mini_Lc) (hts _ ml_La_117) (by decide +kernel) hR, hts _ mi_Lc_nameOf, hts _ ms_Lc_nameOf⟩
theorem ml_La_120 : Cond.methodLink "LoaderLab" 120 y_Lc_superclassOf ∈ ll_xt := ll_in (ll_t2 (i := 120) (by decide +kernel)) rfl
theorem cw_La_120 {s : State} {args : Array Value} {R : Room} {r : Nat} (hts : ∀ w ∈ ll_xt, w.before args s = true) (hR : (ll_rk r).frames + 1 ≤ R.frames ∧ 8 + (2 + 11) + (ll_rk r).locals ≤ R.locals) : CallW R s args "LoaderLab" R_Lc 120 y_Lc_superclassOf b_Lc_superclassOf 2 (some .int) (Cond.code y_Lc_superclassOf b_Lc_superclassOf 2 (some .int) :: ll_xt) (ll_rk r) 0 0 1 :=
  ⟨callB_of 1 hts (ll_good mc_Lc_superclassOf) rfl rfl rfl (hts _ mini_Lc) (hts _ ml_La_120) (by decide +kernel) hR, hts _ mi_Lc_superclassOf, hts _ ms_Lc_superclassOf⟩
theorem ml_La_123 : Cond.methodLink "LoaderLab" 123 y_Lc_interfaceOf ∈ ll_xt := ll_in (ll_t2 (i := 124) (by decide +kernel)) rfl
theorem cw_La_123 {s : State} {args : Array Value} {R : Room} {r : Nat} (hts : ∀ w ∈ ll_xt, w.before args s = true) (hR : (ll_rk r).frames + 1 ≤ R.frames ∧ 8 + (2 + 11) + (ll_rk r).locals ≤ R.locals) : CallW R s args "LoaderLab" R_Lc 123 y_Lc_interfaceOf b_Lc_interfaceOf 2 (some .int) (Cond.code y_Lc_interfaceOf b_Lc_interfaceOf 2 (some .int) :: ll_xt) (ll_rk r) 0 0 1 :=
  ⟨callB_of 1 hts (ll_good mc_Lc_interfaceOf) rfl rfl rfl (hts _ mini_Lc) (hts _ ml_La_123) (by decide +kernel) hR, hts _ mi_Lc_interfaceOf, hts _ ms_Lc_interfaceOf⟩
theorem ml_La_126 : Cond.methodLink "LoaderLab" 126 y_Lc_marksOf ∈ ll_xt := ll_in (ll_t1 (i := 219) (by decide +kernel)) rfl
theorem cw_La_126 {s : State} {args : Array Value} {R : Room} {r : Nat} (hts : ∀ w ∈ ll_xt, w.before args s = true) (hR : (ll_rk r).frames + 1 ≤ R.frames ∧ 8 + (2 + 11) + (ll_rk r).locals ≤ R.locals) : CallW R s args "LoaderLab" R_Lc 126 y_Lc_marksOf b_Lc_marksOf 2 (some .int) (Cond.code y_Lc_marksOf b_Lc_marksOf 2 (some .int) :: ll_xt) (ll_rk r) 0 0 1 :=
  ⟨callB_of 1 hts (ll_good mc_Lc_marksOf) rfl rfl rfl (hts _ mini_Lc) (hts _ ml_La_126) (by decide +kernel) hR, hts _ mi_Lc_marksOf, hts _ ms_Lc_marksOf⟩
theorem ml_La_129 : Cond.methodLink "LoaderLab" 129 y_Lc_leadsTo ∈ ll_xt := ll_in (ll_t2 (i := 132) (by decide +kernel)) rfl
theorem cw_La_129 {s : State} {args : Array Value} {R : Room} {r : Nat} (hts : ∀ w ∈ ll_xt, w.before args s = true) (hR : (ll_rk r).frames + 1 ≤ R.frames ∧ 8 + (5 + 11) + (ll_rk r).locals ≤ R.locals) : CallW R s args "LoaderLab" R_Lc 129 y_Lc_leadsTo b_Lc_leadsTo 5 (some .boolean) (Cond.code y_Lc_leadsTo b_Lc_leadsTo 5 (some .boolean) :: ll_xt) (ll_rk r) 0 0 2 :=
  ⟨callB_of 2 hts (ll_good mc_Lc_leadsTo) rfl rfl rfl (hts _ mini_Lc) (hts _ ml_La_129) (by decide +kernel) hR, hts _ mi_Lc_leadsTo, hts _ ms_Lc_leadsTo⟩
theorem ml_La_132 : Cond.methodLink "LoaderLab" 132 y_Lc_size ∈ ll_xt := ll_in (ll_t1 (i := 227) (by decide +kernel)) rfl
theorem cw_La_132 {s : State} {args : Array Value} {R : Room} {r : Nat} (hts : ∀ w ∈ ll_xt, w.before args s = true) (hR : (ll_rk r).frames + 1 ≤ R.frames ∧ 8 + (1 + 11) + (ll_rk r).locals ≤ R.locals) : CallW R s args "LoaderLab" R_Lc 132 y_Lc_size b_Lc_size 1 (some .int) (Cond.code y_Lc_size b_Lc_size 1 (some .int) :: ll_xt) (ll_rk r) 0 0 0 :=
  ⟨callB_of 0 hts (ll_good mc_Lc_size) rfl rfl rfl (hts _ mini_Lc) (hts _ ml_La_132) (by decide +kernel) hR, hts _ mi_Lc_size, hts _ ms_Lc_size⟩
theorem ml_La_136 : Cond.methodLink "LoaderLab" 136 y_Lb_countRecords ∈ ll_xt := ll_in (ll_t2 (i := 140) (by decide +kernel)) rfl
theorem cw_La_136 {s : State} {args : Array Value} {R : Room} {r : Nat} (hts : ∀ w ∈ ll_xt, w.before args s = true) (hR : (ll_rk r).frames + 1 ≤ R.frames ∧ 8 + (3 + 11) + (ll_rk r).locals ≤ R.locals) : CallW R s args "LoaderLab" R_Lb 136 y_Lb_countRecords b_Lb_countRecords 3 (some .int) (Cond.code y_Lb_countRecords b_Lb_countRecords 3 (some .int) :: ll_xt) (ll_rk r) 0 0 0 :=
  ⟨callB_of 0 hts (ll_good mc_Lb_countRecords) rfl rfl rfl (hts _ mini_Lb) (hts _ ml_La_136) (by decide +kernel) hR, hts _ mi_Lb_countRecords, hts _ ms_Lb_countRecords⟩
theorem ml_La_139 : Cond.methodLink "LoaderLab" 139 y_Lb_countFiles ∈ ll_xt := ll_in (ll_t2 (i := 144) (by decide +kernel)) rfl
theorem cw_La_139 {s : State} {args : Array Value} {R : Room} {r : Nat} (hts : ∀ w ∈ ll_xt, w.before args s = true) (hR : (ll_rk r).frames + 1 ≤ R.frames ∧ 8 + (3 + 11) + (ll_rk r).locals ≤ R.locals) : CallW R s args "LoaderLab" R_Lb 139 y_Lb_countFiles b_Lb_countFiles 3 (some .int) (Cond.code y_Lb_countFiles b_Lb_countFiles 3 (some .int) :: ll_xt) (ll_rk r) 0 0 0 :=
  ⟨callB_of 0 hts (ll_good mc_Lb_countFiles) rfl rfl rfl (hts _ mini_Lb) (hts _ ml_La_139) (by decide +kernel) hR, hts _ mi_Lb_countFiles, hts _ ms_Lb_countFiles⟩
theorem ml_La_142 : Cond.methodLink "LoaderLab" 142 y_Lb_countPeers ∈ ll_xt := ll_in (ll_t2 (i := 148) (by decide +kernel)) rfl
theorem cw_La_142 {s : State} {args : Array Value} {R : Room} {r : Nat} (hts : ∀ w ∈ ll_xt, w.before args s = true) (hR : (ll_rk r).frames + 1 ≤ R.frames ∧ 8 + (4 + 11) + (ll_rk r).locals ≤ R.locals) : CallW R s args "LoaderLab" R_Lb 142 y_Lb_countPeers b_Lb_countPeers 4 (some .int) (Cond.code y_Lb_countPeers b_Lb_countPeers 4 (some .int) :: ll_xt) (ll_rk r) 0 0 0 :=
  ⟨callB_of 0 hts (ll_good mc_Lb_countPeers) rfl rfl rfl (hts _ mini_Lb) (hts _ ml_La_142) (by decide +kernel) hR, hts _ mi_Lb_countPeers, hts _ ms_Lb_countPeers⟩
theorem ml_La_145 : Cond.methodLink "LoaderLab" 145 y_Lb_isLoader ∈ ll_xt := ll_in (ll_t1 (i := 149) (by decide +kernel)) rfl
theorem cw_La_145 {s : State} {args : Array Value} {R : Room} {r : Nat} (hts : ∀ w ∈ ll_xt, w.before args s = true) (hR : (ll_rk r).frames + 1 ≤ R.frames ∧ 8 + (1 + 11) + (ll_rk r).locals ≤ R.locals) : CallB R s args "LoaderLab" 145 y_Lb_isLoader b_Lb_isLoader 1 (some .boolean) (Cond.code y_Lb_isLoader b_Lb_isLoader 1 (some .boolean) :: ll_xt) (ll_rk r) 0 0 1 ∧ (Cond.static y_Lb_isLoader).before args s = true :=
  ⟨callB_of 1 hts (ll_good mc_Lb_isLoader) rfl rfl rfl (hts _ mini_Lb) (hts _ ml_La_145) (by decide +kernel) hR, hts _ mi_Lb_isLoader⟩
theorem ml_La_148 : Cond.methodLink "LoaderLab" 148 y_La_failBecause ∈ ll_xt := ll_in (ll_t1 (i := 175) (by decide +kernel)) rfl
theorem cw_La_148 {s : State} {args : Array Value} {R : Room} {r : Nat} (hts : ∀ w ∈ ll_xt, w.before args s = true) (hR : (ll_rk r).frames + 1 ≤ R.frames ∧ 8 + (3 + 11) + (ll_rk r).locals ≤ R.locals) : CallW R s args "LoaderLab" R_La 148 y_La_failBecause b_La_failBecause 3 (some .int) (Cond.code y_La_failBecause b_La_failBecause 3 (some .int) :: ll_xt) (ll_rk r) 0 0 2 :=
  ⟨callB_of 2 hts (ll_good mc_La_failBecause) rfl rfl rfl (hts _ mini_La) (hts _ ml_La_148) (by decide +kernel) hR, hts _ mi_La_failBecause, hts _ ms_La_failBecause⟩
theorem ml_La_151 : Cond.methodLink "LoaderLab" 151 y_Lb_isUnderWay ∈ ll_xt := ll_in (ll_t1 (i := 167) (by decide +kernel)) rfl
theorem cw_La_151 {s : State} {args : Array Value} {R : Room} {r : Nat} (hts : ∀ w ∈ ll_xt, w.before args s = true) (hR : (ll_rk r).frames + 1 ≤ R.frames ∧ 8 + (3 + 11) + (ll_rk r).locals ≤ R.locals) : CallW R s args "LoaderLab" R_Lb 151 y_Lb_isUnderWay b_Lb_isUnderWay 3 (some .boolean) (Cond.code y_Lb_isUnderWay b_Lb_isUnderWay 3 (some .boolean) :: ll_xt) (ll_rk r) 0 0 2 :=
  ⟨callB_of 2 hts (ll_good mc_Lb_isUnderWay) rfl rfl rfl (hts _ mini_Lb) (hts _ ml_La_151) (by decide +kernel) hR, hts _ mi_Lb_isUnderWay, hts _ ms_Lb_isUnderWay⟩
theorem ml_La_154 : Cond.methodLink "LoaderLab" 154 y_La_fail ∈ ll_xt := ll_in (ll_t1 (i := 171) (by decide +kernel)) rfl
theorem cw_La_154 {s : State} {args : Array Value} {R : Room} {r : Nat} (hts : ∀ w ∈ ll_xt, w.before args s = true) (hR : (ll_rk r).frames + 1 ≤ R.frames ∧ 8 + (2 + 11) + (ll_rk r).locals ≤ R.locals) : CallW R s args "LoaderLab" R_La 154 y_La_fail b_La_fail 2 (some .int) (Cond.code y_La_fail b_La_fail 2 (some .int) :: ll_xt) (ll_rk r) 0 0 1 :=
  ⟨callB_of 1 hts (ll_good mc_La_fail) rfl rfl rfl (hts _ mini_La) (hts _ ml_La_154) (by decide +kernel) hR, hts _ mi_La_fail, hts _ ms_La_fail⟩
theorem ml_La_157 : Cond.methodLink "LoaderLab" 157 y_Lb_setUnderWay ∈ ll_xt := ll_in (ll_t1 (i := 179) (by decide +kernel)) rfl
theorem cw_La_157 {s : State} {args : Array Value} {R : Room} {r : Nat} (hts : ∀ w ∈ ll_xt, w.before args s = true) (hR : (ll_rk r).frames + 1 ≤ R.frames ∧ 8 + (4 + 11) + (ll_rk r).locals ≤ R.locals) : CallW R s args "LoaderLab" R_Lb 157 y_Lb_setUnderWay b_Lb_setUnderWay 4 none (Cond.code y_Lb_setUnderWay b_Lb_setUnderWay 4 none :: ll_xt) (ll_rk r) 0 0 3 :=
  ⟨callB_of 3 hts (ll_good mc_Lb_setUnderWay) rfl rfl rfl (hts _ mini_Lb) (hts _ ml_La_157) (by decide +kernel) hR, hts _ mi_Lb_setUnderWay, hts _ ms_Lb_setUnderWay⟩
theorem ml_La_161 : Cond.methodLink "LoaderLab" 161 y_La_followScript ∈ ll_xt := ll_in (ll_t1 (i := 183) (by decide +kernel)) rfl
theorem cw_La_161 {s : State} {args : Array Value} {R : Room} {r : Nat} (hts : ∀ w ∈ ll_xt, w.before args s = true) (hR : (ll_rk r).frames + 1 ≤ R.frames ∧ 8 + (6 + 11) + (ll_rk r).locals ≤ R.locals) : CallW R s args "LoaderLab" R_La 161 y_La_followScript b_La_followScript 6 (some .int) (Cond.code y_La_followScript b_La_followScript 6 (some .int) :: ll_xt) (ll_rk r) 0 0 3 :=
  ⟨callB_of 3 hts (ll_good mc_La_followScript) rfl rfl rfl (hts _ mini_La) (hts _ ml_La_161) (by decide +kernel) hR, hts _ mi_La_followScript, hts _ ms_La_followScript⟩
theorem ml_La_164 : Cond.methodLink "LoaderLab" 164 y_La_accept ∈ ll_xt := ll_in (ll_t2 (i := 7) (by decide +kernel)) rfl
theorem cw_La_164 {s : State} {args : Array Value} {R : Room} {r : Nat} (hts : ∀ w ∈ ll_xt, w.before args s = true) (hR : (ll_rk r).frames + 1 ≤ R.frames ∧ 8 + (4 + 11) + (ll_rk r).locals ≤ R.locals) : CallW R s args "LoaderLab" R_La 164 y_La_accept b_La_accept 4 (some .int) (Cond.code y_La_accept b_La_accept 4 (some .int) :: ll_xt) (ll_rk r) 0 0 3 :=
  ⟨callB_of 3 hts (ll_good mc_La_accept) rfl rfl rfl (hts _ mini_La) (hts _ ml_La_164) (by decide +kernel) hR, hts _ mi_La_accept, hts _ ms_La_accept⟩
theorem ml_La_167 : Cond.methodLink "LoaderLab" 167 y_Lb_peersDiffer ∈ ll_xt := ll_in (ll_t2 (i := 15) (by decide +kernel)) rfl
theorem cw_La_167 {s : State} {args : Array Value} {R : Room} {r : Nat} (hts : ∀ w ∈ ll_xt, w.before args s = true) (hR : (ll_rk r).frames + 1 ≤ R.frames ∧ 8 + (4 + 11) + (ll_rk r).locals ≤ R.locals) : CallW R s args "LoaderLab" R_Lb 167 y_Lb_peersDiffer b_Lb_peersDiffer 4 (some .boolean) (Cond.code y_Lb_peersDiffer b_Lb_peersDiffer 4 (some .boolean) :: ll_xt) (ll_rk r) 0 0 3 :=
  ⟨callB_of 3 hts (ll_good mc_Lb_peersDiffer) rfl rfl rfl (hts _ mini_Lb) (hts _ ml_La_167) (by decide +kernel) hR, hts _ mi_Lb_peersDiffer, hts _ ms_Lb_peersDiffer⟩
theorem ml_La_170 : Cond.methodLink "LoaderLab" 170 y_Lb_putRecord ∈ ll_xt := ll_in (ll_t2 (i := 27) (by decide +kernel)) rfl
theorem cw_La_170 {s : State} {args : Array Value} {R : Room} {r : Nat} (hts : ∀ w ∈ ll_xt, w.before args s = true) (hR : (ll_rk r).frames + 1 ≤ R.frames ∧ 8 + (4 + 11) + (ll_rk r).locals ≤ R.locals) : CallW R s args "LoaderLab" R_Lb 170 y_Lb_putRecord b_Lb_putRecord 4 none (Cond.code y_Lb_putRecord b_Lb_putRecord 4 none :: ll_xt) (ll_rk r) 0 0 3 :=
  ⟨callB_of 3 hts (ll_good mc_Lb_putRecord) rfl rfl rfl (hts _ mini_Lb) (hts _ ml_La_170) (by decide +kernel) hR, hts _ mi_Lb_putRecord, hts _ ms_Lb_putRecord⟩
theorem ml_La_173 : Cond.methodLink "LoaderLab" 173 y_Lb_scriptNumber ∈ ll_xt := ll_in (ll_t1 (i := 187) (by decide +kernel)) rfl
theorem cw_La_173 {s : State} {args : Array Value} {R : Room} {r : Nat} (hts : ∀ w ∈ ll_xt, w.before args s = true) (hR : (ll_rk r).frames + 1 ≤ R.frames ∧ 8 + (3 + 11) + (ll_rk r).locals ≤ R.locals) : CallW R s args "LoaderLab" R_Lb 173 y_Lb_scriptNumber b_Lb_scriptNumber 3 (some .int) (Cond.code y_Lb_scriptNumber b_Lb_scriptNumber 3 (some .int) :: ll_xt) (ll_rk r) 0 0 2 :=
  ⟨callB_of 2 hts (ll_good mc_Lb_scriptNumber) rfl rfl rfl (hts _ mini_Lb) (hts _ ml_La_173) (by decide +kernel) hR, hts _ mi_Lb_scriptNumber, hts _ ms_Lb_scriptNumber⟩
theorem ml_La_176 : Cond.methodLink "LoaderLab" 176 y_Lb_scriptWay ∈ ll_xt := ll_in (ll_t1 (i := 191) (by decide +kernel)) rfl
theorem cw_La_176 {s : State} {args : Array Value} {R : Room} {r : Nat} (hts : ∀ w ∈ ll_xt, w.before args s = true) (hR : (ll_rk r).frames + 1 ≤ R.frames ∧ 8 + (3 + 11) + (ll_rk r).locals ≤ R.locals) : CallW R s args "LoaderLab" R_Lb 176 y_Lb_scriptWay b_Lb_scriptWay 3 (some .int) (Cond.code y_Lb_scriptWay b_Lb_scriptWay 3 (some .int) :: ll_xt) (ll_rk r) 0 0 2 :=
  ⟨callB_of 2 hts (ll_good mc_Lb_scriptWay) rfl rfl rfl (hts _ mini_Lb) (hts _ ml_La_176) (by decide +kernel) hR, hts _ mi_Lb_scriptWay, hts _ ms_Lb_scriptWay⟩
theorem ml_La_179 : Cond.methodLink "LoaderLab" 179 y_La_define ∈ ll_xt := ll_in (ll_t1 (i := 195) (by decide +kernel)) rfl
theorem cw_La_179 {s : State} {args : Array Value} {R : Room} {r : Nat} (hts : ∀ w ∈ ll_xt, w.before args s = true) (hR : (ll_rk r).frames + 1 ≤ R.frames ∧ 8 + (7 + 11) + (ll_rk r).locals ≤ R.locals) : CallW R s args "LoaderLab" R_La 179 y_La_define b_La_define 7 (some .int) (Cond.code y_La_define b_La_define 7 (some .int) :: ll_xt) (ll_rk r) 0 0 3 :=
  ⟨callB_of 3 hts (ll_good mc_La_define) rfl rfl rfl (hts _ mini_La) (hts _ ml_La_179) (by decide +kernel) hR, hts _ mi_La_define, hts _ ms_La_define⟩
theorem ml_La_182 : Cond.methodLink "LoaderLab" 182 y_La_askParent ∈ ll_xt := ll_in (ll_t1 (i := 235) (by decide +kernel)) rfl
theorem cw_La_182 {s : State} {args : Array Value} {R : Room} {r : Nat} (hts : ∀ w ∈ ll_xt, w.before args s = true) (hR : (ll_rk r).frames + 1 ≤ R.frames ∧ 8 + (5 + 11) + (ll_rk r).locals ≤ R.locals) : CallW R s args "LoaderLab" R_La 182 y_La_askParent b_La_askParent 5 (some .int) (Cond.code y_La_askParent b_La_askParent 5 (some .int) :: ll_xt) (ll_rk r) 0 0 3 :=
  ⟨callB_of 3 hts (ll_good mc_La_askParent) rfl rfl rfl (hts _ mini_La) (hts _ ml_La_182) (by decide +kernel) hR, hts _ mi_La_askParent, hts _ ms_La_askParent⟩
theorem ml_La_185 : Cond.methodLink "LoaderLab" 185 y_La_askParentThenDefine ∈ ll_xt := ll_in (ll_t2 (i := 3) (by decide +kernel)) rfl
theorem cw_La_185 {s : State} {args : Array Value} {R : Room} {r : Nat} (hts : ∀ w ∈ ll_xt, w.before args s = true) (hR : (ll_rk r).frames + 1 ≤ R.frames ∧ 8 + (5 + 11) + (ll_rk r).locals ≤ R.locals) : CallW R s args "LoaderLab" R_La 185 y_La_askParentThenDefine b_La_askParentThenDefine 5 (some .int) (Cond.code y_La_askParentThenDefine b_La_askParentThenDefine 5 (some .int) :: ll_xt) (ll_rk r) 0 0 3 :=
  ⟨callB_of 3 hts (ll_good mc_La_askParentThenDefine) rfl rfl rfl (hts _ mini_La) (hts _ ml_La_185) (by decide +kernel) hR, hts _ mi_La_askParentThenDefine, hts _ ms_La_askParentThenDefine⟩
theorem ml_La_188 : Cond.methodLink "LoaderLab" 188 y_Lb_parentOf ∈ ll_xt := ll_in (ll_t1 (i := 239) (by decide +kernel)) rfl
theorem cw_La_188 {s : State} {args : Array Value} {R : Room} {r : Nat} (hts : ∀ w ∈ ll_xt, w.before args s = true) (hR : (ll_rk r).frames + 1 ≤ R.frames ∧ 8 + (2 + 11) + (ll_rk r).locals ≤ R.locals) : CallW R s args "LoaderLab" R_Lb 188 y_Lb_parentOf b_Lb_parentOf 2 (some .int) (Cond.code y_Lb_parentOf b_Lb_parentOf 2 (some .int) :: ll_xt) (ll_rk r) 0 0 1 :=
  ⟨callB_of 1 hts (ll_good mc_Lb_parentOf) rfl rfl rfl (hts _ mini_Lb) (hts _ ml_La_188) (by decide +kernel) hR, hts _ mi_Lb_parentOf, hts _ ms_Lb_parentOf⟩
theorem ml_La_191 : Cond.methodLink "LoaderLab" 191 y_Lb_fileMarks ∈ ll_xt := ll_in (ll_t1 (i := 199) (by decide +kernel)) rfl
theorem cw_La_191 {s : State} {args : Array Value} {R : Room} {r : Nat} (hts : ∀ w ∈ ll_xt, w.before args s = true) (hR : (ll_rk r).frames + 1 ≤ R.frames ∧ 8 + (3 + 11) + (ll_rk r).locals ≤ R.locals) : CallW R s args "LoaderLab" R_Lb 191 y_Lb_fileMarks b_Lb_fileMarks 3 (some .int) (Cond.code y_Lb_fileMarks b_Lb_fileMarks 3 (some .int) :: ll_xt) (ll_rk r) 0 0 2 :=
  ⟨callB_of 2 hts (ll_good mc_Lb_fileMarks) rfl rfl rfl (hts _ mini_Lb) (hts _ ml_La_191) (by decide +kernel) hR, hts _ mi_Lb_fileMarks, hts _ ms_Lb_fileMarks⟩
theorem ml_La_194 : Cond.methodLink "LoaderLab" 194 y_Lb_fileSays ∈ ll_xt := ll_in (ll_t1 (i := 203) (by decide +kernel)) rfl
theorem cw_La_194 {s : State} {args : Array Value} {R : Room} {r : Nat} (hts : ∀ w ∈ ll_xt, w.before args s = true) (hR : (ll_rk r).frames + 1 ≤ R.frames ∧ 8 + (3 + 11) + (ll_rk r).locals ≤ R.locals) : CallW R s args "LoaderLab" R_Lb 194 y_Lb_fileSays b_Lb_fileSays 3 (some .int) (Cond.code y_Lb_fileSays b_Lb_fileSays 3 (some .int) :: ll_xt) (ll_rk r) 0 0 2 :=
  ⟨callB_of 2 hts (ll_good mc_Lb_fileSays) rfl rfl rfl (hts _ mini_Lb) (hts _ ml_La_194) (by decide +kernel) hR, hts _ mi_Lb_fileSays, hts _ ms_Lb_fileSays⟩
theorem ml_La_197 : Cond.methodLink "LoaderLab" 197 y_Lb_fileSuperclass ∈ ll_xt := ll_in (ll_t1 (i := 207) (by decide +kernel)) rfl
theorem cw_La_197 {s : State} {args : Array Value} {R : Room} {r : Nat} (hts : ∀ w ∈ ll_xt, w.before args s = true) (hR : (ll_rk r).frames + 1 ≤ R.frames ∧ 8 + (3 + 11) + (ll_rk r).locals ≤ R.locals) : CallW R s args "LoaderLab" R_Lb 197 y_Lb_fileSuperclass b_Lb_fileSuperclass 3 (some .int) (Cond.code y_Lb_fileSuperclass b_Lb_fileSuperclass 3 (some .int) :: ll_xt) (ll_rk r) 0 0 2 :=
  ⟨callB_of 2 hts (ll_good mc_Lb_fileSuperclass) rfl rfl rfl (hts _ mini_Lb) (hts _ ml_La_197) (by decide +kernel) hR, hts _ mi_Lb_fileSuperclass, hts _ ms_Lb_fileSuperclass⟩
theorem ml_La_200 : Cond.methodLink "LoaderLab" 200 y_La_resolvePart ∈ ll_xt := ll_in (ll_t1 (i := 211) (by decide +kernel)) rfl
theorem cw_La_200 {s : State} {args : Array Value} {R : Room} {r : Nat} (hts : ∀ w ∈ ll_xt, w.before args s = true) (hR : (ll_rk r).frames + 1 ≤ R.frames ∧ 8 + (4 + 11) + (ll_rk r).locals ≤ R.locals) : CallW R s args "LoaderLab" R_La 200 y_La_resolvePart b_La_resolvePart 4 (some .int) (Cond.code y_La_resolvePart b_La_resolvePart 4 (some .int) :: ll_xt) (ll_rk r) 0 0 3 :=
  ⟨callB_of 3 hts (ll_good mc_La_resolvePart) rfl rfl rfl (hts _ mini_La) (hts _ ml_La_200) (by decide +kernel) hR, hts _ mi_La_resolvePart, hts _ ms_La_resolvePart⟩
theorem ml_La_203 : Cond.methodLink "LoaderLab" 203 y_Lb_fileInterface ∈ ll_xt := ll_in (ll_t1 (i := 223) (by decide +kernel)) rfl
theorem cw_La_203 {s : State} {args : Array Value} {R : Room} {r : Nat} (hts : ∀ w ∈ ll_xt, w.before args s = true) (hR : (ll_rk r).frames + 1 ≤ R.frames ∧ 8 + (3 + 11) + (ll_rk r).locals ≤ R.locals) : CallW R s args "LoaderLab" R_Lb 203 y_Lb_fileInterface b_Lb_fileInterface 3 (some .int) (Cond.code y_Lb_fileInterface b_Lb_fileInterface 3 (some .int) :: ll_xt) (ll_rk r) 0 0 2 :=
  ⟨callB_of 2 hts (ll_good mc_Lb_fileInterface) rfl rfl rfl (hts _ mini_Lb) (hts _ ml_La_203) (by decide +kernel) hR, hts _ mi_Lb_fileInterface, hts _ ms_Lb_fileInterface⟩
theorem ml_La_206 : Cond.methodLink "LoaderLab" 206 y_Lc_add ∈ ll_xt := ll_in (ll_t1 (i := 231) (by decide +kernel)) rfl
theorem cw_La_206 {s : State} {args : Array Value} {R : Room} {r : Nat} (hts : ∀ w ∈ ll_xt, w.before args s = true) (hR : (ll_rk r).frames + 1 ≤ R.frames ∧ 8 + (6 + 11) + (ll_rk r).locals ≤ R.locals) : CallW R s args "LoaderLab" R_Lc 206 y_Lc_add b_Lc_add 6 (some .int) (Cond.code y_Lc_add b_Lc_add 6 (some .int) :: ll_xt) (ll_rk r) 0 0 5 :=
  ⟨callB_of 5 hts (ll_good mc_Lc_add) rfl rfl rfl (hts _ mini_Lc) (hts _ ml_La_206) (by decide +kernel) hR, hts _ mi_Lc_add, hts _ ms_Lc_add⟩
theorem ml_Lm_1 : Cond.methodLink "LoaderLabModel" 1 Lib.objectInit ∈ ll_xt := ll_in (ll_t2 (i := 157) (by decide +kernel)) rfl
theorem mf_Lm_parents : Cond.fieldLink "LoaderLabModel" 7 "LoaderLabModel" "parents" "[I" ∈ ll_xt := ll_in (ll_t2 (i := 158) (by decide +kernel)) rfl
theorem mf_Lm_hasFile : Cond.fieldLink "LoaderLabModel" 13 "LoaderLabModel" "hasFile" "[Z" ∈ ll_xt := ll_in (ll_t2 (i := 159) (by decide +kernel)) rfl
theorem mf_Lm_says : Cond.fieldLink "LoaderLabModel" 17 "LoaderLabModel" "says" "[I" ∈ ll_xt := ll_in (ll_t2 (i := 160) (by decide +kernel)) rfl
theorem mf_Lm_fileSuper : Cond.fieldLink "LoaderLabModel" 20 "LoaderLabModel" "fileSuper" "[I" ∈ ll_xt := ll_in (ll_t2 (i := 161) (by decide +kernel)) rfl
theorem mf_Lm_fileInterface : Cond.fieldLink "LoaderLabModel" 23 "LoaderLabModel" "fileInterface" "[I" ∈ ll_xt := ll_in (ll_t2 (i := 162) (by decide +kernel)) rfl
theorem mf_Lm_fileMarks : Cond.fieldLink "LoaderLabModel" 26 "LoaderLabModel" "fileMarks" "[I" ∈ ll_xt := ll_in (ll_t2 (i := 163) (by decide +kernel)) rfl
theorem mf_Lm_way : Cond.fieldLink "LoaderLabModel" 29 "LoaderLabModel" "way" "[I" ∈ ll_xt := ll_in (ll_t2 (i := 164) (by decide +kernel)) rfl
theorem mf_Lm_number : Cond.fieldLink "LoaderLabModel" 32 "LoaderLabModel" "number" "[I" ∈ ll_xt := ll_in (ll_t2 (i := 165) (by decide +kernel)) rfl
theorem mf_Lm_noted : Cond.fieldLink "LoaderLabModel" 35 "LoaderLabModel" "noted" "[I" ∈ ll_xt := ll_in (ll_t2 (i := 166) (by decide +kernel)) rfl
theorem mf_Lm_busy : Cond.fieldLink "LoaderLabModel" 38 "LoaderLabModel" "busy" "[Z" ∈ ll_xt := ll_in (ll_t2 (i := 167) (by decide +kernel)) rfl
theorem mf_Lm_group : Cond.fieldLink "LoaderLabModel" 41 "LoaderLabModel" "group" "[I" ∈ ll_xt := ll_in (ll_t2 (i := 168) (by decide +kernel)) rfl
theorem mf_Lm_name : Cond.fieldLink "LoaderLabModel" 44 "LoaderLabModel" "name" "[I" ∈ ll_xt := ll_in (ll_t2 (i := 170) (by decide +kernel)) rfl
theorem mf_Lm_owner : Cond.fieldLink "LoaderLabModel" 47 "LoaderLabModel" "owner" "[I" ∈ ll_xt := ll_in (ll_t2 (i := 171) (by decide +kernel)) rfl
theorem mf_Lm_parentOf : Cond.fieldLink "LoaderLabModel" 50 "LoaderLabModel" "parentOf" "[I" ∈ ll_xt := ll_in (ll_t2 (i := 172) (by decide +kernel)) rfl
theorem mf_Lm_interfaceOf : Cond.fieldLink "LoaderLabModel" 53 "LoaderLabModel" "interfaceOf" "[I" ∈ ll_xt := ll_in (ll_t2 (i := 173) (by decide +kernel)) rfl
theorem mf_Lm_marks : Cond.fieldLink "LoaderLabModel" 56 "LoaderLabModel" "marks" "[I" ∈ ll_xt := ll_in (ll_t2 (i := 174) (by decide +kernel)) rfl
theorem mf_Lm_refers : Cond.fieldLink "LoaderLabModel" 59 "LoaderLabModel" "refers" "[I" ∈ ll_xt := ll_in (ll_t2 (i := 175) (by decide +kernel)) rfl
theorem mf_Lm_kept : Cond.fieldLink "LoaderLabModel" 62 "LoaderLabModel" "kept" "[I" ∈ ll_xt := ll_in (ll_t2 (i := 176) (by decide +kernel)) rfl
theorem mf_Lm_keptCause : Cond.fieldLink "LoaderLabModel" 65 "LoaderLabModel" "keptCause" "[I" ∈ ll_xt := ll_in (ll_t2 (i := 177) (by decide +kernel)) rfl
theorem mf_Lm_at : Cond.fieldLink "LoaderLabModel" 68 "LoaderLabModel" "at" "[I" ∈ ll_xt := ll_in (ll_t2 (i := 179) (by decide +kernel)) rfl
theorem mf_Lm_step : Cond.fieldLink "LoaderLabModel" 71 "LoaderLabModel" "step" "[I" ∈ ll_xt := ll_in (ll_t2 (i := 180) (by decide +kernel)) rfl
theorem mf_Lm_above : Cond.fieldLink "LoaderLabModel" 74 "LoaderLabModel" "above" "[I" ∈ ll_xt := ll_in (ll_t2 (i := 181) (by decide +kernel)) rfl
theorem ml_Lm_77 : Cond.methodLink "LoaderLabModel" 77 y_Lm_in ∈ ll_xt := ll_in (ll_t3 (i := 10) (by decide +kernel)) rfl
theorem cw_Lm_77 {s : State} {args : Array Value} {R : Room} {r : Nat} (hts : ∀ w ∈ ll_xt, w.before args s = true) (hR : (ll_rk r).frames + 1 ≤ R.frames ∧ 8 + (3 + 11) + (ll_rk r).locals ≤ R.locals) : CallB R s args "LoaderLabModel" 77 y_Lm_in b_Lm_in 3 (some .boolean) (Cond.code y_Lm_in b_Lm_in 3 (some .boolean) :: ll_xt) (ll_rk r) 0 0 3 ∧ (Cond.static y_Lm_in).before args s = true :=
  ⟨callB_of 3 hts (ll_good mc_Lm_in) rfl rfl rfl (hts _ mini_Lm) (hts _ ml_Lm_77) (by decide +kernel) hR, hts _ mi_Lm_in⟩
theorem ml_Lm_81 : Cond.methodLink "LoaderLabModel" 81 y_Lm_place ∈ ll_xt := ll_in (ll_t3 (i := 17) (by decide +kernel)) rfl
theorem cw_Lm_81 {s : State} {args : Array Value} {R : Room} {r : Nat} (hts : ∀ w ∈ ll_xt, w.before args s = true) (hR : (ll_rk r).frames + 1 ≤ R.frames ∧ 8 + (2 + 11) + (ll_rk r).locals ≤ R.locals) : CallB R s args "LoaderLabModel" 81 y_Lm_place b_Lm_place 2 (some .boolean) (Cond.code y_Lm_place b_Lm_place 2 (some .boolean) :: ll_xt) (ll_rk r) 0 0 2 ∧ (Cond.static y_Lm_place).before args s = true :=
  ⟨callB_of 2 hts (ll_good mc_Lm_place) rfl rfl rfl (hts _ mini_Lm) (hts _ ml_Lm_81) (by decide +kernel) hR, hts _ mi_Lm_place⟩
theorem mf_Lm_got : Cond.fieldLink "LoaderLabModel" 85 "LoaderLabModel" "got" "I" ∈ ll_xt := ll_in (ll_t2 (i := 182) (by decide +kernel)) rfl
theorem mf_Lm_gotCause : Cond.fieldLink "LoaderLabModel" 89 "LoaderLabModel" "gotCause" "I" ∈ ll_xt := ll_in (ll_t2 (i := 183) (by decide +kernel)) rfl
theorem mf_Lm_begun : Cond.fieldLink "LoaderLabModel" 92 "LoaderLabModel" "begun" "I" ∈ ll_xt := ll_in (ll_t2 (i := 184) (by decide +kernel)) rfl
theorem ml_Lm_95 : Cond.methodLink "LoaderLabModel" 95 y_Lm_come ∈ ll_xt := ll_in (ll_t3 (i := 36) (by decide +kernel)) rfl
theorem cw_Lm_95 {s : State} {args : Array Value} {R : Room} {r : Nat} (hts : ∀ w ∈ ll_xt, w.before args s = true) (hR : (ll_rk r).frames + 1 ≤ R.frames ∧ 8 + (3 + 11) + (ll_rk r).locals ≤ R.locals) : CallW R s args "LoaderLabModel" R_Lm 95 y_Lm_come b_Lm_come 3 none (Cond.code y_Lm_come b_Lm_come 3 none :: ll_xt) (ll_rk r) 0 0 2 :=
  ⟨callB_of 2 hts (ll_good mc_Lm_come) rfl rfl rfl (hts _ mini_Lm) (hts _ ml_Lm_95) (by decide +kernel) hR, hts _ mi_Lm_come, hts _ ms_Lm_come⟩
theorem mf_Lm_depth : Cond.fieldLink "LoaderLabModel" 99 "LoaderLabModel" "depth" "I" ∈ ll_xt := ll_in (ll_t2 (i := 178) (by decide +kernel)) rfl
theorem ml_Lm_102 : Cond.methodLink "LoaderLabModel" 102 y_Lm_start ∈ ll_xt := ll_in (ll_t3 (i := 44) (by decide +kernel)) rfl
theorem cw_Lm_102 {s : State} {args : Array Value} {R : Room} {r : Nat} (hts : ∀ w ∈ ll_xt, w.before args s = true) (hR : (ll_rk r).frames + 1 ≤ R.frames ∧ 8 + (4 + 11) + (ll_rk r).locals ≤ R.locals) : CallW R s args "LoaderLabModel" R_Lm 102 y_Lm_start b_Lm_start 4 none (Cond.code y_Lm_start b_Lm_start 4 none :: ll_xt) (ll_rk r) 0 0 1 :=
  ⟨callB_of 1 hts (ll_good mc_Lm_start) rfl rfl rfl (hts _ mini_Lm) (hts _ ml_Lm_102) (by decide +kernel) hR, hts _ mi_Lm_start, hts _ ms_Lm_start⟩
theorem ml_Lm_106 : Cond.methodLink "LoaderLabModel" 106 y_Lm_parentAnswers ∈ ll_xt := ll_in (ll_t3 (i := 64) (by decide +kernel)) rfl
theorem cw_Lm_106 {s : State} {args : Array Value} {R : Room} {r : Nat} (hts : ∀ w ∈ ll_xt, w.before args s = true) (hR : (ll_rk r).frames + 1 ≤ R.frames ∧ 8 + (1 + 11) + (ll_rk r).locals ≤ R.locals) : CallW R s args "LoaderLabModel" R_Lm 106 y_Lm_parentAnswers b_Lm_parentAnswers 1 none (Cond.code y_Lm_parentAnswers b_Lm_parentAnswers 1 none :: ll_xt) (ll_rk r) 0 0 0 :=
  ⟨callB_of 0 hts (ll_good mc_Lm_parentAnswers) rfl rfl rfl (hts _ mini_Lm) (hts _ ml_Lm_106) (by decide +kernel) hR, hts _ mi_Lm_parentAnswers, hts _ ms_Lm_parentAnswers⟩
theorem ml_Lm_109 : Cond.methodLink "LoaderLabModel" 109 y_Lm_answered ∈ ll_xt := ll_in (ll_t3 (i := 68) (by decide +kernel)) rfl
theorem cw_Lm_109 {s : State} {args : Array Value} {R : Room} {r : Nat} (hts : ∀ w ∈ ll_xt, w.before args s = true) (hR : (ll_rk r).frames + 1 ≤ R.frames ∧ 8 + (2 + 11) + (ll_rk r).locals ≤ R.locals) : CallW R s args "LoaderLabModel" R_Lm 109 y_Lm_answered b_Lm_answered 2 none (Cond.code y_Lm_answered b_Lm_answered 2 none :: ll_xt) (ll_rk r) 0 0 1 :=
  ⟨callB_of 1 hts (ll_good mc_Lm_answered) rfl rfl rfl (hts _ mini_Lm) (hts _ ml_Lm_109) (by decide +kernel) hR, hts _ mi_Lm_answered, hts _ ms_Lm_answered⟩
theorem ml_Lm_112 : Cond.methodLink "LoaderLabModel" 112 y_Lm_unused ∈ ll_xt := ll_in (ll_t3 (i := 76) (by decide +kernel)) rfl
theorem cw_Lm_112 {s : State} {args : Array Value} {R : Room} {r : Nat} (hts : ∀ w ∈ ll_xt, w.before args s = true) (hR : (ll_rk r).frames + 1 ≤ R.frames ∧ 8 + (2 + 11) + (ll_rk r).locals ≤ R.locals) : CallW R s args "LoaderLabModel" R_Lm 112 y_Lm_unused b_Lm_unused 2 none (Cond.code y_Lm_unused b_Lm_unused 2 none :: ll_xt) (ll_rk r) 0 0 1 :=
  ⟨callB_of 1 hts (ll_good mc_Lm_unused) rfl rfl rfl (hts _ mini_Lm) (hts _ ml_Lm_112) (by decide +kernel) hR, hts _ mi_Lm_unused, hts _ ms_Lm_unused⟩
theorem ml_Lm_115 : Cond.methodLink "LoaderLabModel" 115 y_Lm_define ∈ ll_xt := ll_in (ll_t3 (i := 80) (by decide +kernel)) rfl
theorem cw_Lm_115 {s : State} {args : Array Value} {R : Room} {r : Nat} (hts : ∀ w ∈ ll_xt, w.before args s = true) (hR : (ll_rk r).frames + 1 ≤ R.frames ∧ 8 + (2 + 11) + (ll_rk r).locals ≤ R.locals) : CallW R s args "LoaderLabModel" R_Lm 115 y_Lm_define b_Lm_define 2 none (Cond.code y_Lm_define b_Lm_define 2 none :: ll_xt) (ll_rk r) 0 0 1 :=
  ⟨callB_of 1 hts (ll_good mc_Lm_define) rfl rfl rfl (hts _ mini_Lm) (hts _ ml_Lm_115) (by decide +kernel) hR, hts _ mi_Lm_define, hts _ ms_Lm_define⟩
theorem ml_Lm_118 : Cond.methodLink "LoaderLabModel" 118 y_Lm_resolved ∈ ll_xt := ll_in (ll_t3 (i := 88) (by decide +kernel)) rfl
theorem cw_Lm_118 {s : State} {args : Array Value} {R : Room} {r : Nat} (hts : ∀ w ∈ ll_xt, w.before args s = true) (hR : (ll_rk r).frames + 1 ≤ R.frames ∧ 8 + (3 + 11) + (ll_rk r).locals ≤ R.locals) : CallW R s args "LoaderLabModel" R_Lm 118 y_Lm_resolved b_Lm_resolved 3 none (Cond.code y_Lm_resolved b_Lm_resolved 3 none :: ll_xt) (ll_rk r) 0 0 2 :=
  ⟨callB_of 2 hts (ll_good mc_Lm_resolved) rfl rfl rfl (hts _ mini_Lm) (hts _ ml_Lm_118) (by decide +kernel) hR, hts _ mi_Lm_resolved, hts _ ms_Lm_resolved⟩
theorem ml_Lm_121 : Cond.methodLink "LoaderLabModel" 121 y_Lm_askFor ∈ ll_xt := ll_in (ll_t3 (i := 84) (by decide +kernel)) rfl
theorem cw_Lm_121 {s : State} {args : Array Value} {R : Room} {r : Nat} (hts : ∀ w ∈ ll_xt, w.before args s = true) (hR : (ll_rk r).frames + 1 ≤ R.frames ∧ 8 + (4 + 11) + (ll_rk r).locals ≤ R.locals) : CallW R s args "LoaderLabModel" R_Lm 121 y_Lm_askFor b_Lm_askFor 4 none (Cond.code y_Lm_askFor b_Lm_askFor 4 none :: ll_xt) (ll_rk r) 0 0 3 :=
  ⟨callB_of 3 hts (ll_good mc_Lm_askFor) rfl rfl rfl (hts _ mini_Lm) (hts _ ml_Lm_121) (by decide +kernel) hR, hts _ mi_Lm_askFor, hts _ ms_Lm_askFor⟩
theorem ml_Lm_125 : Cond.methodLink "LoaderLabModel" 125 y_Lm_make ∈ ll_xt := ll_in (ll_t3 (i := 92) (by decide +kernel)) rfl
theorem cw_Lm_125 {s : State} {args : Array Value} {R : Room} {r : Nat} (hts : ∀ w ∈ ll_xt, w.before args s = true) (hR : (ll_rk r).frames + 1 ≤ R.frames ∧ 8 + (2 + 11) + (ll_rk r).locals ≤ R.locals) : CallW R s args "LoaderLabModel" R_Lm 125 y_Lm_make b_Lm_make 2 none (Cond.code y_Lm_make b_Lm_make 2 none :: ll_xt) (ll_rk r) 0 0 1 :=
  ⟨callB_of 1 hts (ll_good mc_Lm_make) rfl rfl rfl (hts _ mini_Lm) (hts _ ml_Lm_125) (by decide +kernel) hR, hts _ mi_Lm_make, hts _ ms_Lm_make⟩
theorem ml_Lm_128 : Cond.methodLink "LoaderLabModel" 128 y_Lm_toParent ∈ ll_xt := ll_in (ll_t3 (i := 48) (by decide +kernel)) rfl
theorem cw_Lm_128 {s : State} {args : Array Value} {R : Room} {r : Nat} (hts : ∀ w ∈ ll_xt, w.before args s = true) (hR : (ll_rk r).frames + 1 ≤ R.frames ∧ 8 + (3 + 11) + (ll_rk r).locals ≤ R.locals) : CallW R s args "LoaderLabModel" R_Lm 128 y_Lm_toParent b_Lm_toParent 3 none (Cond.code y_Lm_toParent b_Lm_toParent 3 none :: ll_xt) (ll_rk r) 0 0 2 :=
  ⟨callB_of 2 hts (ll_good mc_Lm_toParent) rfl rfl rfl (hts _ mini_Lm) (hts _ ml_Lm_128) (by decide +kernel) hR, hts _ mi_Lm_toParent, hts _ ms_Lm_toParent⟩
theorem ml_Lm_131 : Cond.methodLink "LoaderLabModel" 131 y_Lm_go ∈ ll_xt := ll_in (ll_t3 (i := 52) (by decide +kernel)) rfl
theorem cw_Lm_131 {s : State} {args : Array Value} {R : Room} {r : Nat} (hts : ∀ w ∈ ll_xt, w.before args s = true) (hR : (ll_rk r).frames + 1 ≤ R.frames ∧ 8 + (2 + 11) + (ll_rk r).locals ≤ R.locals) : CallW R s args "LoaderLabModel" R_Lm 131 y_Lm_go b_Lm_go 2 none (Cond.code y_Lm_go b_Lm_go 2 none :: ll_xt) (ll_rk r) 0 0 1 :=
  ⟨callB_of 1 hts (ll_good mc_Lm_go) rfl rfl rfl (hts _ mini_Lm) (hts _ ml_Lm_131) (by decide +kernel) hR, hts _ mi_Lm_go, hts _ ms_Lm_go⟩
theorem ml_Lm_134 : Cond.methodLink "LoaderLabModel" 134 y_Lm_end ∈ ll_xt := ll_in (ll_t3 (i := 60) (by decide +kernel)) rfl
theorem cw_Lm_134 {s : State} {args : Array Value} {R : Room} {r : Nat} (hts : ∀ w ∈ ll_xt, w.before args s = true) (hR : (ll_rk r).frames + 1 ≤ R.frames ∧ 8 + (3 + 11) + (ll_rk r).locals ≤ R.locals) : CallW R s args "LoaderLabModel" R_Lm 134 y_Lm_end b_Lm_end 3 none (Cond.code y_Lm_end b_Lm_end 3 none :: ll_xt) (ll_rk r) 0 0 2 :=
  ⟨callB_of 2 hts (ll_good mc_Lm_end) rfl rfl rfl (hts _ mini_Lm) (hts _ ml_Lm_134) (by decide +kernel) hR, hts _ mi_Lm_end, hts _ ms_Lm_end⟩
theorem ml_Lm_137 : Cond.methodLink "LoaderLabModel" 137 y_Lm_ask ∈ ll_xt := ll_in (ll_t3 (i := 56) (by decide +kernel)) rfl
theorem cw_Lm_137 {s : State} {args : Array Value} {R : Room} {r : Nat} (hts : ∀ w ∈ ll_xt, w.before args s = true) (hR : (ll_rk r).frames + 1 ≤ R.frames ∧ 8 + (4 + 11) + (ll_rk r).locals ≤ R.locals) : CallW R s args "LoaderLabModel" R_Lm 137 y_Lm_ask b_Lm_ask 4 none (Cond.code y_Lm_ask b_Lm_ask 4 none :: ll_xt) (ll_rk r) 0 0 3 :=
  ⟨callB_of 3 hts (ll_good mc_Lm_ask) rfl rfl rfl (hts _ mini_Lm) (hts _ ml_Lm_137) (by decide +kernel) hR, hts _ mi_Lm_ask, hts _ ms_Lm_ask⟩
theorem ml_Lm_140 : Cond.methodLink "LoaderLabModel" 140 y_Lm_begin ∈ ll_xt := ll_in (ll_t3 (i := 32) (by decide +kernel)) rfl
theorem cw_Lm_140 {s : State} {args : Array Value} {R : Room} {r : Nat} (hts : ∀ w ∈ ll_xt, w.before args s = true) (hR : (ll_rk r).frames + 1 ≤ R.frames ∧ 8 + (4 + 11) + (ll_rk r).locals ≤ R.locals) : CallW R s args "LoaderLabModel" R_Lm 140 y_Lm_begin b_Lm_begin 4 none (Cond.code y_Lm_begin b_Lm_begin 4 none :: ll_xt) (ll_rk r) 0 0 2 :=
  ⟨callB_of 2 hts (ll_good mc_Lm_begin) rfl rfl rfl (hts _ mini_Lm) (hts _ ml_Lm_140) (by decide +kernel) hR, hts _ mi_Lm_begin, hts _ ms_Lm_begin⟩
theorem ml_Lm_143 : Cond.methodLink "LoaderLabModel" 143 y_Lm_breaks ∈ ll_xt := ll_in (ll_t3 (i := 72) (by decide +kernel)) rfl
theorem cw_Lm_143 {s : State} {args : Array Value} {R : Room} {r : Nat} (hts : ∀ w ∈ ll_xt, w.before args s = true) (hR : (ll_rk r).frames + 1 ≤ R.frames ∧ 8 + (5 + 11) + (ll_rk r).locals ≤ R.locals) : CallW R s args "LoaderLabModel" R_Lm 143 y_Lm_breaks b_Lm_breaks 5 (some .boolean) (Cond.code y_Lm_breaks b_Lm_breaks 5 (some .boolean) :: ll_xt) (ll_rk r) 0 0 2 :=
  ⟨callB_of 2 hts (ll_good mc_Lm_breaks) rfl rfl rfl (hts _ mini_Lm) (hts _ ml_Lm_143) (by decide +kernel) hR, hts _ mi_Lm_breaks, hts _ ms_Lm_breaks⟩
theorem mf_Lm_classes : Cond.fieldLink "LoaderLabModel" 146 "LoaderLabModel" "classes" "I" ∈ ll_xt := ll_in (ll_t2 (i := 169) (by decide +kernel)) rfl
theorem mf_Lm_lastCode : Cond.fieldLink "LoaderLabModel" 149 "LoaderLabModel" "lastCode" "I" ∈ ll_xt := ll_in (ll_t2 (i := 185) (by decide +kernel)) rfl
theorem mf_Lm_lastCause : Cond.fieldLink "LoaderLabModel" 152 "LoaderLabModel" "lastCause" "I" ∈ ll_xt := ll_in (ll_t2 (i := 186) (by decide +kernel)) rfl
theorem ml_Lm_155 : Cond.methodLink "LoaderLabModel" 155 y_Lm_run ∈ ll_xt := ll_in (ll_t3 (i := 40) (by decide +kernel)) rfl
theorem cw_Lm_155 {s : State} {args : Array Value} {R : Room} {r : Nat} (hts : ∀ w ∈ ll_xt, w.before args s = true) (hR : (ll_rk r).frames + 1 ≤ R.frames ∧ 8 + (3 + 11) + (ll_rk r).locals ≤ R.locals) : CallW R s args "LoaderLabModel" R_Lm 155 y_Lm_run b_Lm_run 3 none (Cond.code y_Lm_run b_Lm_run 3 none :: ll_xt) (ll_rk r) 0 0 0 :=
  ⟨callB_of 0 hts (ll_good mc_Lm_run) rfl rfl rfl (hts _ mini_Lm) (hts _ ml_Lm_155) (by decide +kernel) hR, hts _ mi_Lm_run, hts _ ms_Lm_run⟩
theorem ml_Lm_158 : Cond.methodLink "LoaderLabModel" 158 y_Lm_finish ∈ ll_xt := ll_in (ll_t3 (i := 96) (by decide +kernel)) rfl
theorem cw_Lm_158 {s : State} {args : Array Value} {R : Room} {r : Nat} (hts : ∀ w ∈ ll_xt, w.before args s = true) (hR : (ll_rk r).frames + 1 ≤ R.frames ∧ 8 + (1 + 11) + (ll_rk r).locals ≤ R.locals) : CallW R s args "LoaderLabModel" R_Lm 158 y_Lm_finish b_Lm_finish 1 (some .int) (Cond.code y_Lm_finish b_Lm_finish 1 (some .int) :: ll_xt) (ll_rk r) 0 0 0 :=
  ⟨callB_of 0 hts (ll_good mc_Lm_finish) rfl rfl rfl (hts _ mini_Lm) (hts _ ml_Lm_158) (by decide +kernel) hR, hts _ mi_Lm_finish, hts _ ms_Lm_finish⟩
theorem ml_Lc_3 : Cond.methodLink "LoaderLab$Classes" 3 Lib.objectInit ∈ ll_xt := ll_in (ll_t1 (i := 51) (by decide +kernel)) rfl
theorem mf_Lc_defined : Cond.fieldLink "LoaderLab$Classes" 9 "LoaderLab$Classes" "defined" "I" ∈ ll_xt := ll_in (ll_t1 (i := 52) (by decide +kernel)) rfl
theorem mf_Lc_names : Cond.fieldLink "LoaderLab$Classes" 13 "LoaderLab$Classes" "names" "[I" ∈ ll_xt := ll_in (ll_t1 (i := 53) (by decide +kernel)) rfl
theorem mf_Lc_definers : Cond.fieldLink "LoaderLab$Classes" 17 "LoaderLab$Classes" "definers" "[I" ∈ ll_xt := ll_in (ll_t1 (i := 54) (by decide +kernel)) rfl
theorem mf_Lc_superclasses : Cond.fieldLink "LoaderLab$Classes" 20 "LoaderLab$Classes" "superclasses" "[I" ∈ ll_xt := ll_in (ll_t1 (i := 55) (by decide +kernel)) rfl
theorem mf_Lc_interfaces : Cond.fieldLink "LoaderLab$Classes" 23 "LoaderLab$Classes" "interfaces" "[I" ∈ ll_xt := ll_in (ll_t1 (i := 56) (by decide +kernel)) rfl
theorem mf_Lc_marks : Cond.fieldLink "LoaderLab$Classes" 26 "LoaderLab$Classes" "marks" "[I" ∈ ll_xt := ll_in (ll_t1 (i := 57) (by decide +kernel)) rfl
theorem mf_Lc_referred : Cond.fieldLink "LoaderLab$Classes" 29 "LoaderLab$Classes" "referred" "[I" ∈ ll_xt := ll_in (ll_t1 (i := 58) (by decide +kernel)) rfl
theorem mf_Lc_kept : Cond.fieldLink "LoaderLab$Classes" 32 "LoaderLab$Classes" "kept" "[I" ∈ ll_xt := ll_in (ll_t1 (i := 59) (by decide +kernel)) rfl
theorem mf_Lc_keptCauses : Cond.fieldLink "LoaderLab$Classes" 35 "LoaderLab$Classes" "keptCauses" "[I" ∈ ll_xt := ll_in (ll_t1 (i := 60) (by decide +kernel)) rfl
theorem ml_Lc_40 : Cond.methodLink "LoaderLab$Classes" 40 y_Lc_has ∈ ll_xt := ll_in (ll_t2 (i := 43) (by decide +kernel)) rfl
theorem cw_Lc_40 {s : State} {args : Array Value} {R : Room} {r : Nat} (hts : ∀ w ∈ ll_xt, w.before args s = true) (hR : (ll_rk r).frames + 1 ≤ R.frames ∧ 8 + (2 + 11) + (ll_rk r).locals ≤ R.locals) : CallW R s args "LoaderLab$Classes" R_Lc 40 y_Lc_has b_Lc_has 2 (some .boolean) (Cond.code y_Lc_has b_Lc_has 2 (some .boolean) :: ll_xt) (ll_rk r) 0 0 1 :=
  ⟨callB_of 1 hts (ll_good mc_Lc_has) rfl rfl rfl (hts _ mini_Lc) (hts _ ml_Lc_40) (by decide +kernel) hR, hts _ mi_Lc_has, hts _ ms_Lc_has⟩
theorem ml_Lc_44 : Cond.methodLink "LoaderLab$Classes" 44 y_Lc_referredName ∈ ll_xt := ll_in (ll_t2 (i := 66) (by decide +kernel)) rfl
theorem cw_Lc_44 {s : State} {args : Array Value} {R : Room} {r : Nat} (hts : ∀ w ∈ ll_xt, w.before args s = true) (hR : (ll_rk r).frames + 1 ≤ R.frames ∧ 8 + (3 + 11) + (ll_rk r).locals ≤ R.locals) : CallW R s args "LoaderLab$Classes" R_Lc 44 y_Lc_referredName b_Lc_referredName 3 (some .int) (Cond.code y_Lc_referredName b_Lc_referredName 3 (some .int) :: ll_xt) (ll_rk r) 0 0 2 :=
  ⟨callB_of 2 hts (ll_good mc_Lc_referredName) rfl rfl rfl (hts _ mini_Lc) (hts _ ml_Lc_44) (by decide +kernel) hR, hts _ mi_Lc_referredName, hts _ ms_Lc_referredName⟩
theorem ml_Lc_48 : Cond.methodLink "LoaderLab$Classes" 48 y_Lc_place ∈ ll_xt := ll_in (ll_t2 (i := 51) (by decide +kernel)) rfl
theorem cw_Lc_48 {s : State} {args : Array Value} {R : Room} {r : Nat} (hts : ∀ w ∈ ll_xt, w.before args s = true) (hR : (ll_rk r).frames + 1 ≤ R.frames ∧ 8 + (2 + 11) + (ll_rk r).locals ≤ R.locals) : CallB R s args "LoaderLab$Classes" 48 y_Lc_place b_Lc_place 2 (some .int) (Cond.code y_Lc_place b_Lc_place 2 (some .int) :: ll_xt) (ll_rk r) 0 0 2 ∧ (Cond.static y_Lc_place).before args s = true :=
  ⟨callB_of 2 hts (ll_good mc_Lc_place) rfl rfl rfl (hts _ mini_Lc) (hts _ ml_Lc_48) (by decide +kernel) hR, hts _ mi_Lc_place⟩
theorem ml_Lb_5 : Cond.methodLink "LoaderLab$Loaders" 5 Lib.objectInit ∈ ll_xt := ll_in (ll_t1 (i := 18) (by decide +kernel)) rfl
theorem mf_Lb_parents : Cond.fieldLink "LoaderLab$Loaders" 11 "LoaderLab$Loaders" "parents" "[I" ∈ ll_xt := ll_in (ll_t1 (i := 19) (by decide +kernel)) rfl
theorem mf_Lb_parts : Cond.fieldLink "LoaderLab$Loaders" 15 "LoaderLab$Loaders" "parts" "[I" ∈ ll_xt := ll_in (ll_t1 (i := 20) (by decide +kernel)) rfl
theorem mf_Lb_marks : Cond.fieldLink "LoaderLab$Loaders" 18 "LoaderLab$Loaders" "marks" "[I" ∈ ll_xt := ll_in (ll_t1 (i := 21) (by decide +kernel)) rfl
theorem mf_Lb_ways : Cond.fieldLink "LoaderLab$Loaders" 21 "LoaderLab$Loaders" "ways" "[I" ∈ ll_xt := ll_in (ll_t1 (i := 22) (by decide +kernel)) rfl
theorem mf_Lb_numbers : Cond.fieldLink "LoaderLab$Loaders" 24 "LoaderLab$Loaders" "numbers" "[I" ∈ ll_xt := ll_in (ll_t1 (i := 23) (by decide +kernel)) rfl
theorem mf_Lb_records : Cond.fieldLink "LoaderLab$Loaders" 27 "LoaderLab$Loaders" "records" "[I" ∈ ll_xt := ll_in (ll_t1 (i := 24) (by decide +kernel)) rfl
theorem mf_Lb_underWay : Cond.fieldLink "LoaderLab$Loaders" 30 "LoaderLab$Loaders" "underWay" "[Z" ∈ ll_xt := ll_in (ll_t1 (i := 25) (by decide +kernel)) rfl
theorem mf_Lb_peers : Cond.fieldLink "LoaderLab$Loaders" 34 "LoaderLab$Loaders" "peers" "[I" ∈ ll_xt := ll_in (ll_t1 (i := 26) (by decide +kernel)) rfl
theorem ml_Lb_37 : Cond.methodLink "LoaderLab$Loaders" 37 y_Lb_isLoader ∈ ll_xt := ll_in (ll_t1 (i := 114) (by decide +kernel)) rfl
theorem cw_Lb_37 {s : State} {args : Array Value} {R : Room} {r : Nat} (hts : ∀ w ∈ ll_xt, w.before args s = true) (hR : (ll_rk r).frames + 1 ≤ R.frames ∧ 8 + (1 + 11) + (ll_rk r).locals ≤ R.locals) : CallB R s args "LoaderLab$Loaders" 37 y_Lb_isLoader b_Lb_isLoader 1 (some .boolean) (Cond.code y_Lb_isLoader b_Lb_isLoader 1 (some .boolean) :: ll_xt) (ll_rk r) 0 0 1 ∧ (Cond.static y_Lb_isLoader).before args s = true :=
  ⟨callB_of 1 hts (ll_good mc_Lb_isLoader) rfl rfl rfl (hts _ mini_Lb) (hts _ ml_Lb_37) (by decide +kernel) hR, hts _ mi_Lb_isLoader⟩
theorem ml_Lb_41 : Cond.methodLink "LoaderLab$Loaders" 41 y_Lb_isName ∈ ll_xt := ll_in (ll_t1 (i := 117) (by decide +kernel)) rfl
theorem cw_Lb_41 {s : State} {args : Array Value} {R : Room} {r : Nat} (hts : ∀ w ∈ ll_xt, w.before args s = true) (hR : (ll_rk r).frames + 1 ≤ R.frames ∧ 8 + (1 + 11) + (ll_rk r).locals ≤ R.locals) : CallB R s args "LoaderLab$Loaders" 41 y_Lb_isName b_Lb_isName 1 (some .boolean) (Cond.code y_Lb_isName b_Lb_isName 1 (some .boolean) :: ll_xt) (ll_rk r) 0 0 1 ∧ (Cond.static y_Lb_isName).before args s = true :=
  ⟨callB_of 1 hts (ll_good mc_Lb_isName) rfl rfl rfl (hts _ mini_Lb) (hts _ ml_Lb_41) (by decide +kernel) hR, hts _ mi_Lb_isName⟩
theorem ml_Lb_44 : Cond.methodLink "LoaderLab$Loaders" 44 y_Lb_cell ∈ ll_xt := ll_in (ll_t1 (i := 127) (by decide +kernel)) rfl
theorem cw_Lb_44 {s : State} {args : Array Value} {R : Room} {r : Nat} (hts : ∀ w ∈ ll_xt, w.before args s = true) (hR : (ll_rk r).frames + 1 ≤ R.frames ∧ 8 + (2 + 11) + (ll_rk r).locals ≤ R.locals) : CallB R s args "LoaderLab$Loaders" 44 y_Lb_cell b_Lb_cell 2 (some .int) (Cond.code y_Lb_cell b_Lb_cell 2 (some .int) :: ll_xt) (ll_rk r) 0 0 2 ∧ (Cond.static y_Lb_cell).before args s = true :=
  ⟨callB_of 2 hts (ll_good mc_Lb_cell) rfl rfl rfl (hts _ mini_Lb) (hts _ ml_Lb_44) (by decide +kernel) hR, hts _ mi_Lb_cell⟩
theorem ml_Lb_48 : Cond.methodLink "LoaderLab$Loaders" 48 y_Lb_holds ∈ ll_xt := ll_in (ll_t2 (i := 24) (by decide +kernel)) rfl
theorem cw_Lb_48 {s : State} {args : Array Value} {R : Room} {r : Nat} (hts : ∀ w ∈ ll_xt, w.before args s = true) (hR : (ll_rk r).frames + 1 ≤ R.frames ∧ 8 + (2 + 11) + (ll_rk r).locals ≤ R.locals) : CallB R s args "LoaderLab$Loaders" 48 y_Lb_holds b_Lb_holds 2 (some .boolean) (Cond.code y_Lb_holds b_Lb_holds 2 (some .boolean) :: ll_xt) (ll_rk r) 0 0 2 ∧ (Cond.static y_Lb_holds).before args s = true :=
  ⟨callB_of 2 hts (ll_good mc_Lb_holds) rfl rfl rfl (hts _ mini_Lb) (hts _ ml_Lb_48) (by decide +kernel) hR, hts _ mi_Lb_holds⟩
theorem ml_Lb_52 : Cond.methodLink "LoaderLab$Loaders" 52 y_Lb_differ ∈ ll_xt := ll_in (ll_t2 (i := 19) (by decide +kernel)) rfl
theorem cw_Lb_52 {s : State} {args : Array Value} {R : Room} {r : Nat} (hts : ∀ w ∈ ll_xt, w.before args s = true) (hR : (ll_rk r).frames + 1 ≤ R.frames ∧ 8 + (6 + 11) + (ll_rk r).locals ≤ R.locals) : CallW R s args "LoaderLab$Loaders" R_Lb 52 y_Lb_differ b_Lb_differ 6 (some .boolean) (Cond.code y_Lb_differ b_Lb_differ 6 (some .boolean) :: ll_xt) (ll_rk r) 0 0 3 :=
  ⟨callB_of 3 hts (ll_good mc_Lb_differ) rfl rfl rfl (hts _ mini_Lb) (hts _ ml_Lb_52) (by decide +kernel) hR, hts _ mi_Lb_differ, hts _ ms_Lb_differ⟩
theorem ml_Lb_56 : Cond.methodLink "LoaderLab$Loaders" 56 y_Lb_anyRecord ∈ ll_xt := ll_in (ll_t2 (i := 91) (by decide +kernel)) rfl
theorem cw_Lb_56 {s : State} {args : Array Value} {R : Room} {r : Nat} (hts : ∀ w ∈ ll_xt, w.before args s = true) (hR : (ll_rk r).frames + 1 ≤ R.frames ∧ 8 + (5 + 11) + (ll_rk r).locals ≤ R.locals) : CallW R s args "LoaderLab$Loaders" R_Lb 56 y_Lb_anyRecord b_Lb_anyRecord 5 (some .int) (Cond.code y_Lb_anyRecord b_Lb_anyRecord 5 (some .int) :: ll_xt) (ll_rk r) 0 0 2 :=
  ⟨callB_of 2 hts (ll_good mc_Lb_anyRecord) rfl rfl rfl (hts _ mini_Lb) (hts _ ml_Lb_56) (by decide +kernel) hR, hts _ mi_Lb_anyRecord, hts _ ms_Lb_anyRecord⟩
theorem ml_Lb_59 : Cond.methodLink "LoaderLab$Loaders" 59 y_Lb_recordOf ∈ ll_xt := ll_in (ll_t2 (i := 23) (by decide +kernel)) rfl
theorem cw_Lb_59 {s : State} {args : Array Value} {R : Room} {r : Nat} (hts : ∀ w ∈ ll_xt, w.before args s = true) (hR : (ll_rk r).frames + 1 ≤ R.frames ∧ 8 + (3 + 11) + (ll_rk r).locals ≤ R.locals) : CallW R s args "LoaderLab$Loaders" R_Lb 59 y_Lb_recordOf b_Lb_recordOf 3 (some .int) (Cond.code y_Lb_recordOf b_Lb_recordOf 3 (some .int) :: ll_xt) (ll_rk r) 0 0 2 :=
  ⟨callB_of 2 hts (ll_good mc_Lb_recordOf) rfl rfl rfl (hts _ mini_Lb) (hts _ ml_Lb_59) (by decide +kernel) hR, hts _ mi_Lb_recordOf, hts _ ms_Lb_recordOf⟩
theorem mn_Lw_7 : Cond.classLink "LoaderLabLaw" 7 "LoaderLab" ∈ ll_xt := ll_in (ll_t1 (i := 5) (by decide +kernel)) rfl
theorem ml_Lw_9 : Cond.methodLink "LoaderLabLaw" 9 y_La_init ∈ ll_xt := ll_in (ll_t1 (i := 7) (by decide +kernel)) rfl
theorem mn_Lw_10 : Cond.classLink "LoaderLabLaw" 10 "LoaderLabModel" ∈ ll_xt := ll_in (ll_t2 (i := 152) (by decide +kernel)) rfl
theorem ml_Lw_12 : Cond.methodLink "LoaderLabLaw" 12 y_Lm_init ∈ ll_xt := ll_in (ll_t2 (i := 154) (by decide +kernel)) rfl
theorem ml_Lw_13 : Cond.methodLink "LoaderLabLaw" 13 y_La_parent ∈ ll_xt := ll_in (ll_t1 (i := 99) (by decide +kernel)) rfl
theorem cw_Lw_13 {s : State} {args : Array Value} {R : Room} {r : Nat} (hts : ∀ w ∈ ll_xt, w.before args s = true) (hR : (ll_rk r).frames + 1 ≤ R.frames ∧ 8 + (3 + 11) + (ll_rk r).locals ≤ R.locals) : CallW R s args "LoaderLabLaw" R_La 13 y_La_parent b_La_parent 3 (some .int) (Cond.code y_La_parent b_La_parent 3 (some .int) :: ll_xt) (ll_rk r) 0 0 2 :=
  ⟨callB_of 2 hts (ll_good mc_La_parent) rfl rfl rfl (hts _ mini_La) (hts _ ml_Lw_13) (by decide +kernel) hR, hts _ mi_La_parent, hts _ ms_La_parent⟩
theorem ml_Lw_17 : Cond.methodLink "LoaderLabLaw" 17 y_Lm_parent ∈ ll_xt := ll_in (ll_t3 (i := 6) (by decide +kernel)) rfl
theorem cw_Lw_17 {s : State} {args : Array Value} {R : Room} {r : Nat} (hts : ∀ w ∈ ll_xt, w.before args s = true) (hR : (ll_rk r).frames + 1 ≤ R.frames ∧ 8 + (3 + 11) + (ll_rk r).locals ≤ R.locals) : CallW R s args "LoaderLabLaw" R_Lm 17 y_Lm_parent b_Lm_parent 3 (some .int) (Cond.code y_Lm_parent b_Lm_parent 3 (some .int) :: ll_xt) (ll_rk r) 0 0 2 :=
  ⟨callB_of 2 hts (ll_good mc_Lm_parent) rfl rfl rfl (hts _ mini_Lm) (hts _ ml_Lw_17) (by decide +kernel) hR, hts _ mi_Lm_parent, hts _ ms_Lm_parent⟩
theorem ml_Lw_18 : Cond.methodLink "LoaderLabLaw" 18 y_La_file ∈ ll_xt := ll_in (ll_t1 (i := 107) (by decide +kernel)) rfl
theorem cw_Lw_18 {s : State} {args : Array Value} {R : Room} {r : Nat} (hts : ∀ w ∈ ll_xt, w.before args s = true) (hR : (ll_rk r).frames + 1 ≤ R.frames ∧ 8 + (5 + 11) + (ll_rk r).locals ≤ R.locals) : CallW R s args "LoaderLabLaw" R_La 18 y_La_file b_La_file 5 (some .int) (Cond.code y_La_file b_La_file 5 (some .int) :: ll_xt) (ll_rk r) 0 0 4 :=
  ⟨callB_of 4 hts (ll_good mc_La_file) rfl rfl rfl (hts _ mini_La) (hts _ ml_Lw_18) (by decide +kernel) hR, hts _ mi_La_file, hts _ ms_La_file⟩
theorem ml_Lw_22 : Cond.methodLink "LoaderLabLaw" 22 y_Lm_file ∈ ll_xt := ll_in (ll_t3 (i := 13) (by decide +kernel)) rfl
theorem cw_Lw_22 {s : State} {args : Array Value} {R : Room} {r : Nat} (hts : ∀ w ∈ ll_xt, w.before args s = true) (hR : (ll_rk r).frames + 1 ≤ R.frames ∧ 8 + (6 + 11) + (ll_rk r).locals ≤ R.locals) : CallW R s args "LoaderLabLaw" R_Lm 22 y_Lm_file b_Lm_file 6 (some .int) (Cond.code y_Lm_file b_Lm_file 6 (some .int) :: ll_xt) (ll_rk r) 0 0 4 :=
  ⟨callB_of 4 hts (ll_good mc_Lm_file) rfl rfl rfl (hts _ mini_Lm) (hts _ ml_Lw_22) (by decide +kernel) hR, hts _ mi_Lm_file, hts _ ms_Lm_file⟩
theorem ml_Lw_23 : Cond.methodLink "LoaderLabLaw" 23 y_La_noFile ∈ ll_xt := ll_in (ll_t1 (i := 130) (by decide +kernel)) rfl
theorem cw_Lw_23 {s : State} {args : Array Value} {R : Room} {r : Nat} (hts : ∀ w ∈ ll_xt, w.before args s = true) (hR : (ll_rk r).frames + 1 ≤ R.frames ∧ 8 + (3 + 11) + (ll_rk r).locals ≤ R.locals) : CallW R s args "LoaderLabLaw" R_La 23 y_La_noFile b_La_noFile 3 (some .int) (Cond.code y_La_noFile b_La_noFile 3 (some .int) :: ll_xt) (ll_rk r) 0 0 2 :=
  ⟨callB_of 2 hts (ll_good mc_La_noFile) rfl rfl rfl (hts _ mini_La) (hts _ ml_Lw_23) (by decide +kernel) hR, hts _ mi_La_noFile, hts _ ms_La_noFile⟩
theorem ml_Lw_26 : Cond.methodLink "LoaderLabLaw" 26 y_Lm_noFile ∈ ll_xt := ll_in (ll_t3 (i := 20) (by decide +kernel)) rfl
theorem cw_Lw_26 {s : State} {args : Array Value} {R : Room} {r : Nat} (hts : ∀ w ∈ ll_xt, w.before args s = true) (hR : (ll_rk r).frames + 1 ≤ R.frames ∧ 8 + (3 + 11) + (ll_rk r).locals ≤ R.locals) : CallW R s args "LoaderLabLaw" R_Lm 26 y_Lm_noFile b_Lm_noFile 3 (some .int) (Cond.code y_Lm_noFile b_Lm_noFile 3 (some .int) :: ll_xt) (ll_rk r) 0 0 2 :=
  ⟨callB_of 2 hts (ll_good mc_Lm_noFile) rfl rfl rfl (hts _ mini_Lm) (hts _ ml_Lw_26) (by decide +kernel) hR, hts _ mi_Lm_noFile, hts _ ms_Lm_noFile⟩
theorem ml_Lw_27 : Cond.methodLink "LoaderLabLaw" 27 y_La_script ∈ ll_xt := ll_in (ll_t1 (i := 142) (by decide +kernel)) rfl
theorem cw_Lw_27 {s : State} {args : Array Value} {R : Room} {r : Nat} (hts : ∀ w ∈ ll_xt, w.before args s = true) (hR : (ll_rk r).frames + 1 ≤ R.frames ∧ 8 + (5 + 11) + (ll_rk r).locals ≤ R.locals) : CallW R s args "LoaderLabLaw" R_La 27 y_La_script b_La_script 5 (some .int) (Cond.code y_La_script b_La_script 5 (some .int) :: ll_xt) (ll_rk r) 0 0 4 :=
  ⟨callB_of 4 hts (ll_good mc_La_script) rfl rfl rfl (hts _ mini_La) (hts _ ml_Lw_27) (by decide +kernel) hR, hts _ mi_La_script, hts _ ms_La_script⟩
theorem ml_Lw_30 : Cond.methodLink "LoaderLabLaw" 30 y_Lm_script ∈ ll_xt := ll_in (ll_t3 (i := 24) (by decide +kernel)) rfl
theorem cw_Lw_30 {s : State} {args : Array Value} {R : Room} {r : Nat} (hts : ∀ w ∈ ll_xt, w.before args s = true) (hR : (ll_rk r).frames + 1 ≤ R.frames ∧ 8 + (5 + 11) + (ll_rk r).locals ≤ R.locals) : CallW R s args "LoaderLabLaw" R_Lm 30 y_Lm_script b_Lm_script 5 (some .int) (Cond.code y_Lm_script b_Lm_script 5 (some .int) :: ll_xt) (ll_rk r) 0 0 4 :=
  ⟨callB_of 4 hts (ll_good mc_Lm_script) rfl rfl rfl (hts _ mini_Lm) (hts _ ml_Lw_30) (by decide +kernel) hR, hts _ mi_Lm_script, hts _ ms_Lm_script⟩
theorem ml_Lw_31 : Cond.methodLink "LoaderLabLaw" 31 y_La_load ∈ ll_xt := ll_in (ll_t1 (i := 155) (by decide +kernel)) rfl
theorem cw_Lw_31 {s : State} {args : Array Value} {R : Room} {r : Nat} (hts : ∀ w ∈ ll_xt, w.before args s = true) (hR : (ll_rk r).frames + 1 ≤ R.frames ∧ 8 + (4 + 11) + (ll_rk r).locals ≤ R.locals) : CallW R s args "LoaderLabLaw" R_La 31 y_La_load b_La_load 4 (some .int) (Cond.code y_La_load b_La_load 4 (some .int) :: ll_xt) (ll_rk r) 0 0 2 :=
  ⟨callB_of 2 hts (ll_good mc_La_load) rfl rfl rfl (hts _ mini_La) (hts _ ml_Lw_31) (by decide +kernel) hR, hts _ mi_La_load, hts _ ms_La_load⟩
theorem ml_Lw_34 : Cond.methodLink "LoaderLabLaw" 34 y_Lm_load ∈ ll_xt := ll_in (ll_t3 (i := 28) (by decide +kernel)) rfl
theorem cw_Lw_34 {s : State} {args : Array Value} {R : Room} {r : Nat} (hts : ∀ w ∈ ll_xt, w.before args s = true) (hR : (ll_rk r).frames + 1 ≤ R.frames ∧ 8 + (3 + 11) + (ll_rk r).locals ≤ R.locals) : CallW R s args "LoaderLabLaw" R_Lm 34 y_Lm_load b_Lm_load 3 (some .int) (Cond.code y_Lm_load b_Lm_load 3 (some .int) :: ll_xt) (ll_rk r) 0 0 2 :=
  ⟨callB_of 2 hts (ll_good mc_Lm_load) rfl rfl rfl (hts _ mini_Lm) (hts _ ml_Lw_34) (by decide +kernel) hR, hts _ mi_Lm_load, hts _ ms_Lm_load⟩
theorem ml_Lw_35 : Cond.methodLink "LoaderLabLaw" 35 y_La_refer ∈ ll_xt := ll_in (ll_t2 (i := 35) (by decide +kernel)) rfl
theorem cw_Lw_35 {s : State} {args : Array Value} {R : Room} {r : Nat} (hts : ∀ w ∈ ll_xt, w.before args s = true) (hR : (ll_rk r).frames + 1 ≤ R.frames ∧ 8 + (4 + 11) + (ll_rk r).locals ≤ R.locals) : CallW R s args "LoaderLabLaw" R_La 35 y_La_refer b_La_refer 4 (some .int) (Cond.code y_La_refer b_La_refer 4 (some .int) :: ll_xt) (ll_rk r) 0 0 3 :=
  ⟨callB_of 3 hts (ll_good mc_La_refer) rfl rfl rfl (hts _ mini_La) (hts _ ml_Lw_35) (by decide +kernel) hR, hts _ mi_La_refer, hts _ ms_La_refer⟩
theorem ml_Lw_39 : Cond.methodLink "LoaderLabLaw" 39 y_Lm_refer ∈ ll_xt := ll_in (ll_t3 (i := 100) (by decide +kernel)) rfl
theorem cw_Lw_39 {s : State} {args : Array Value} {R : Room} {r : Nat} (hts : ∀ w ∈ ll_xt, w.before args s = true) (hR : (ll_rk r).frames + 1 ≤ R.frames ∧ 8 + (4 + 11) + (ll_rk r).locals ≤ R.locals) : CallW R s args "LoaderLabLaw" R_Lm 39 y_Lm_refer b_Lm_refer 4 (some .int) (Cond.code y_Lm_refer b_Lm_refer 4 (some .int) :: ll_xt) (ll_rk r) 0 0 3 :=
  ⟨callB_of 3 hts (ll_good mc_Lm_refer) rfl rfl rfl (hts _ mini_Lm) (hts _ ml_Lw_39) (by decide +kernel) hR, hts _ mi_Lm_refer, hts _ ms_Lm_refer⟩
theorem ml_Lw_40 : Cond.methodLink "LoaderLabLaw" 40 y_La_resolve ∈ ll_xt := ll_in (ll_t2 (i := 58) (by decide +kernel)) rfl
theorem cw_Lw_40 {s : State} {args : Array Value} {R : Room} {r : Nat} (hts : ∀ w ∈ ll_xt, w.before args s = true) (hR : (ll_rk r).frames + 1 ≤ R.frames ∧ 8 + (4 + 11) + (ll_rk r).locals ≤ R.locals) : CallW R s args "LoaderLabLaw" R_La 40 y_La_resolve b_La_resolve 4 (some .int) (Cond.code y_La_resolve b_La_resolve 4 (some .int) :: ll_xt) (ll_rk r) 0 0 2 :=
  ⟨callB_of 2 hts (ll_good mc_La_resolve) rfl rfl rfl (hts _ mini_La) (hts _ ml_Lw_40) (by decide +kernel) hR, hts _ mi_La_resolve, hts _ ms_La_resolve⟩
theorem ml_Lw_43 : Cond.methodLink "LoaderLabLaw" 43 y_Lm_resolve ∈ ll_xt := ll_in (ll_t3 (i := 104) (by decide +kernel)) rfl
theorem cw_Lw_43 {s : State} {args : Array Value} {R : Room} {r : Nat} (hts : ∀ w ∈ ll_xt, w.before args s = true) (hR : (ll_rk r).frames + 1 ≤ R.frames ∧ 8 + (4 + 11) + (ll_rk r).locals ≤ R.locals) : CallW R s args "LoaderLabLaw" R_Lm 43 y_Lm_resolve b_Lm_resolve 4 (some .int) (Cond.code y_Lm_resolve b_Lm_resolve 4 (some .int) :: ll_xt) (ll_rk r) 0 0 2 :=
  ⟨callB_of 2 hts (ll_good mc_Lm_resolve) rfl rfl rfl (hts _ mini_Lm) (hts _ ml_Lw_43) (by decide +kernel) hR, hts _ mi_Lm_resolve, hts _ ms_Lm_resolve⟩
theorem ml_Lw_44 : Cond.methodLink "LoaderLabLaw" 44 y_La_constrain ∈ ll_xt := ll_in (ll_t2 (i := 83) (by decide +kernel)) rfl
theorem cw_Lw_44 {s : State} {args : Array Value} {R : Room} {r : Nat} (hts : ∀ w ∈ ll_xt, w.before args s = true) (hR : (ll_rk r).frames + 1 ≤ R.frames ∧ 8 + (4 + 11) + (ll_rk r).locals ≤ R.locals) : CallW R s args "LoaderLabLaw" R_La 44 y_La_constrain b_La_constrain 4 (some .int) (Cond.code y_La_constrain b_La_constrain 4 (some .int) :: ll_xt) (ll_rk r) 0 0 3 :=
  ⟨callB_of 3 hts (ll_good mc_La_constrain) rfl rfl rfl (hts _ mini_La) (hts _ ml_Lw_44) (by decide +kernel) hR, hts _ mi_La_constrain, hts _ ms_La_constrain⟩
theorem ml_Lw_47 : Cond.methodLink "LoaderLabLaw" 47 y_Lm_constrain ∈ ll_xt := ll_in (ll_t3 (i := 108) (by decide +kernel)) rfl
theorem cw_Lw_47 {s : State} {args : Array Value} {R : Room} {r : Nat} (hts : ∀ w ∈ ll_xt, w.before args s = true) (hR : (ll_rk r).frames + 1 ≤ R.frames ∧ 8 + (9 + 11) + (ll_rk r).locals ≤ R.locals) : CallW R s args "LoaderLabLaw" R_Lm 47 y_Lm_constrain b_Lm_constrain 9 (some .int) (Cond.code y_Lm_constrain b_Lm_constrain 9 (some .int) :: ll_xt) (ll_rk r) 0 0 3 :=
  ⟨callB_of 3 hts (ll_good mc_Lm_constrain) rfl rfl rfl (hts _ mini_Lm) (hts _ ml_Lw_47) (by decide +kernel) hR, hts _ mi_Lm_constrain, hts _ ms_Lm_constrain⟩
theorem ml_Lw_48 : Cond.methodLink "LoaderLabLaw" 48 y_La_agree ∈ ll_xt := ll_in (ll_t2 (i := 95) (by decide +kernel)) rfl
theorem cw_Lw_48 {s : State} {args : Array Value} {R : Room} {r : Nat} (hts : ∀ w ∈ ll_xt, w.before args s = true) (hR : (ll_rk r).frames + 1 ≤ R.frames ∧ 8 + (4 + 11) + (ll_rk r).locals ≤ R.locals) : CallW R s args "LoaderLabLaw" R_La 48 y_La_agree b_La_agree 4 (some .boolean) (Cond.code y_La_agree b_La_agree 4 (some .boolean) :: ll_xt) (ll_rk r) 0 0 3 :=
  ⟨callB_of 3 hts (ll_good mc_La_agree) rfl rfl rfl (hts _ mini_La) (hts _ ml_Lw_48) (by decide +kernel) hR, hts _ mi_La_agree, hts _ ms_La_agree⟩
theorem ml_Lw_52 : Cond.methodLink "LoaderLabLaw" 52 y_Lm_agree ∈ ll_xt := ll_in (ll_t3 (i := 112) (by decide +kernel)) rfl
theorem cw_Lw_52 {s : State} {args : Array Value} {R : Room} {r : Nat} (hts : ∀ w ∈ ll_xt, w.before args s = true) (hR : (ll_rk r).frames + 1 ≤ R.frames ∧ 8 + (4 + 11) + (ll_rk r).locals ≤ R.locals) : CallW R s args "LoaderLabLaw" R_Lm 52 y_Lm_agree b_Lm_agree 4 (some .boolean) (Cond.code y_Lm_agree b_Lm_agree 4 (some .boolean) :: ll_xt) (ll_rk r) 0 0 3 :=
  ⟨callB_of 3 hts (ll_good mc_Lm_agree) rfl rfl rfl (hts _ mini_Lm) (hts _ ml_Lw_52) (by decide +kernel) hR, hts _ mi_Lm_agree, hts _ ms_Lm_agree⟩
theorem ml_Lw_53 : Cond.methodLink "LoaderLabLaw" 53 y_La_cause ∈ ll_xt := ll_in (ll_t2 (i := 103) (by decide +kernel)) rfl
theorem cw_Lw_53 {s : State} {args : Array Value} {R : Room} {r : Nat} (hts : ∀ w ∈ ll_xt, w.before args s = true) (hR : (ll_rk r).frames + 1 ≤ R.frames ∧ 8 + (3 + 11) + (ll_rk r).locals ≤ R.locals) : CallW R s args "LoaderLabLaw" R_La 53 y_La_cause b_La_cause 3 (some .int) (Cond.code y_La_cause b_La_cause 3 (some .int) :: ll_xt) (ll_rk r) 0 0 1 :=
  ⟨callB_of 1 hts (ll_good mc_La_cause) rfl rfl rfl (hts _ mini_La) (hts _ ml_Lw_53) (by decide +kernel) hR, hts _ mi_La_cause, hts _ ms_La_cause⟩
theorem ml_Lw_57 : Cond.methodLink "LoaderLabLaw" 57 y_Lm_cause ∈ ll_xt := ll_in (ll_t3 (i := 116) (by decide +kernel)) rfl
theorem cw_Lw_57 {s : State} {args : Array Value} {R : Room} {r : Nat} (hts : ∀ w ∈ ll_xt, w.before args s = true) (hR : (ll_rk r).frames + 1 ≤ R.frames ∧ 8 + (2 + 11) + (ll_rk r).locals ≤ R.locals) : CallW R s args "LoaderLabLaw" R_Lm 57 y_Lm_cause b_Lm_cause 2 (some .int) (Cond.code y_Lm_cause b_Lm_cause 2 (some .int) :: ll_xt) (ll_rk r) 0 0 1 :=
  ⟨callB_of 1 hts (ll_good mc_Lm_cause) rfl rfl rfl (hts _ mini_Lm) (hts _ ml_Lw_57) (by decide +kernel) hR, hts _ mi_Lm_cause, hts _ ms_Lm_cause⟩
theorem ml_Lw_58 : Cond.methodLink "LoaderLabLaw" 58 y_La_requests ∈ ll_xt := ll_in (ll_t2 (i := 107) (by decide +kernel)) rfl
theorem cw_Lw_58 {s : State} {args : Array Value} {R : Room} {r : Nat} (hts : ∀ w ∈ ll_xt, w.before args s = true) (hR : (ll_rk r).frames + 1 ≤ R.frames ∧ 8 + (1 + 11) + (ll_rk r).locals ≤ R.locals) : CallW R s args "LoaderLabLaw" R_La 58 y_La_requests b_La_requests 1 (some .int) (Cond.code y_La_requests b_La_requests 1 (some .int) :: ll_xt) (ll_rk r) 0 0 0 :=
  ⟨callB_of 0 hts (ll_good mc_La_requests) rfl rfl rfl (hts _ mini_La) (hts _ ml_Lw_58) (by decide +kernel) hR, hts _ mi_La_requests, hts _ ms_La_requests⟩
theorem ml_Lw_62 : Cond.methodLink "LoaderLabLaw" 62 y_Lm_requests ∈ ll_xt := ll_in (ll_t3 (i := 120) (by decide +kernel)) rfl
theorem cw_Lw_62 {s : State} {args : Array Value} {R : Room} {r : Nat} (hts : ∀ w ∈ ll_xt, w.before args s = true) (hR : (ll_rk r).frames + 1 ≤ R.frames ∧ 8 + (1 + 11) + (ll_rk r).locals ≤ R.locals) : CallW R s args "LoaderLabLaw" R_Lm 62 y_Lm_requests b_Lm_requests 1 (some .int) (Cond.code y_Lm_requests b_Lm_requests 1 (some .int) :: ll_xt) (ll_rk r) 0 0 0 :=
  ⟨callB_of 0 hts (ll_good mc_Lm_requests) rfl rfl rfl (hts _ mini_Lm) (hts _ ml_Lw_62) (by decide +kernel) hR, hts _ mi_Lm_requests, hts _ ms_Lm_requests⟩
theorem ml_Lw_63 : Cond.methodLink "LoaderLabLaw" 63 y_La_recorded ∈ ll_xt := ll_in (ll_t2 (i := 111) (by decide +kernel)) rfl
theorem cw_Lw_63 {s : State} {args : Array Value} {R : Room} {r : Nat} (hts : ∀ w ∈ ll_xt, w.before args s = true) (hR : (ll_rk r).frames + 1 ≤ R.frames ∧ 8 + (3 + 11) + (ll_rk r).locals ≤ R.locals) : CallW R s args "LoaderLabLaw" R_La 63 y_La_recorded b_La_recorded 3 (some .int) (Cond.code y_La_recorded b_La_recorded 3 (some .int) :: ll_xt) (ll_rk r) 0 0 2 :=
  ⟨callB_of 2 hts (ll_good mc_La_recorded) rfl rfl rfl (hts _ mini_La) (hts _ ml_Lw_63) (by decide +kernel) hR, hts _ mi_La_recorded, hts _ ms_La_recorded⟩
theorem ml_Lw_66 : Cond.methodLink "LoaderLabLaw" 66 y_Lm_recorded ∈ ll_xt := ll_in (ll_t3 (i := 124) (by decide +kernel)) rfl
theorem cw_Lw_66 {s : State} {args : Array Value} {R : Room} {r : Nat} (hts : ∀ w ∈ ll_xt, w.before args s = true) (hR : (ll_rk r).frames + 1 ≤ R.frames ∧ 8 + (3 + 11) + (ll_rk r).locals ≤ R.locals) : CallW R s args "LoaderLabLaw" R_Lm 66 y_Lm_recorded b_Lm_recorded 3 (some .int) (Cond.code y_Lm_recorded b_Lm_recorded 3 (some .int) :: ll_xt) (ll_rk r) 0 0 2 :=
  ⟨callB_of 2 hts (ll_good mc_Lm_recorded) rfl rfl rfl (hts _ mini_Lm) (hts _ ml_Lw_66) (by decide +kernel) hR, hts _ mi_Lm_recorded, hts _ ms_Lm_recorded⟩
theorem ml_Lw_67 : Cond.methodLink "LoaderLabLaw" 67 y_La_of ∈ ll_xt := ll_in (ll_t2 (i := 115) (by decide +kernel)) rfl
theorem cw_Lw_67 {s : State} {args : Array Value} {R : Room} {r : Nat} (hts : ∀ w ∈ ll_xt, w.before args s = true) (hR : (ll_rk r).frames + 1 ≤ R.frames ∧ 8 + (3 + 11) + (ll_rk r).locals ≤ R.locals) : CallW R s args "LoaderLabLaw" R_La 67 y_La_of b_La_of 3 (some .int) (Cond.code y_La_of b_La_of 3 (some .int) :: ll_xt) (ll_rk r) 0 0 2 :=
  ⟨callB_of 2 hts (ll_good mc_La_of) rfl rfl rfl (hts _ mini_La) (hts _ ml_Lw_67) (by decide +kernel) hR, hts _ mi_La_of, hts _ ms_La_of⟩
theorem ml_Lw_70 : Cond.methodLink "LoaderLabLaw" 70 y_Lm_of ∈ ll_xt := ll_in (ll_t3 (i := 128) (by decide +kernel)) rfl
theorem cw_Lw_70 {s : State} {args : Array Value} {R : Room} {r : Nat} (hts : ∀ w ∈ ll_xt, w.before args s = true) (hR : (ll_rk r).frames + 1 ≤ R.frames ∧ 8 + (3 + 11) + (ll_rk r).locals ≤ R.locals) : CallW R s args "LoaderLabLaw" R_Lm 70 y_Lm_of b_Lm_of 3 (some .int) (Cond.code y_Lm_of b_Lm_of 3 (some .int) :: ll_xt) (ll_rk r) 0 0 2 :=
  ⟨callB_of 2 hts (ll_good mc_Lm_of) rfl rfl rfl (hts _ mini_Lm) (hts _ ml_Lw_70) (by decide +kernel) hR, hts _ mi_Lm_of, hts _ ms_Lm_of⟩
theorem ml_Lw_71 : Cond.methodLink "LoaderLabLaw" 71 y_La_isA ∈ ll_xt := ll_in (ll_t2 (i := 128) (by decide +kernel)) rfl
theorem cw_Lw_71 {s : State} {args : Array Value} {R : Room} {r : Nat} (hts : ∀ w ∈ ll_xt, w.before args s = true) (hR : (ll_rk r).frames + 1 ≤ R.frames ∧ 8 + (3 + 11) + (ll_rk r).locals ≤ R.locals) : CallW R s args "LoaderLabLaw" R_La 71 y_La_isA b_La_isA 3 (some .boolean) (Cond.code y_La_isA b_La_isA 3 (some .boolean) :: ll_xt) (ll_rk r) 0 0 2 :=
  ⟨callB_of 2 hts (ll_good mc_La_isA) rfl rfl rfl (hts _ mini_La) (hts _ ml_Lw_71) (by decide +kernel) hR, hts _ mi_La_isA, hts _ ms_La_isA⟩
theorem ml_Lw_75 : Cond.methodLink "LoaderLabLaw" 75 y_Lm_isA ∈ ll_xt := ll_in (ll_t3 (i := 132) (by decide +kernel)) rfl
theorem cw_Lw_75 {s : State} {args : Array Value} {R : Room} {r : Nat} (hts : ∀ w ∈ ll_xt, w.before args s = true) (hR : (ll_rk r).frames + 1 ≤ R.frames ∧ 8 + (5 + 11) + (ll_rk r).locals ≤ R.locals) : CallW R s args "LoaderLabLaw" R_Lm 75 y_Lm_isA b_Lm_isA 5 (some .boolean) (Cond.code y_Lm_isA b_Lm_isA 5 (some .boolean) :: ll_xt) (ll_rk r) 0 0 2 :=
  ⟨callB_of 2 hts (ll_good mc_Lm_isA) rfl rfl rfl (hts _ mini_Lm) (hts _ ml_Lw_75) (by decide +kernel) hR, hts _ mi_Lm_isA, hts _ ms_Lm_isA⟩
theorem ml_Lw_76 : Cond.methodLink "LoaderLabLaw" 76 y_La_count ∈ ll_xt := ll_in (ll_t2 (i := 136) (by decide +kernel)) rfl
theorem cw_Lw_76 {s : State} {args : Array Value} {R : Room} {r : Nat} (hts : ∀ w ∈ ll_xt, w.before args s = true) (hR : (ll_rk r).frames + 1 ≤ R.frames ∧ 8 + (2 + 11) + (ll_rk r).locals ≤ R.locals) : CallW R s args "LoaderLabLaw" R_La 76 y_La_count b_La_count 2 (some .int) (Cond.code y_La_count b_La_count 2 (some .int) :: ll_xt) (ll_rk r) 0 0 1 :=
  ⟨callB_of 1 hts (ll_good mc_La_count) rfl rfl rfl (hts _ mini_La) (hts _ ml_Lw_76) (by decide +kernel) hR, hts _ mi_La_count, hts _ ms_La_count⟩
theorem ml_Lw_79 : Cond.methodLink "LoaderLabLaw" 79 y_Lm_count ∈ ll_xt := ll_in (ll_t3 (i := 136) (by decide +kernel)) rfl
theorem cw_Lw_79 {s : State} {args : Array Value} {R : Room} {r : Nat} (hts : ∀ w ∈ ll_xt, w.before args s = true) (hR : (ll_rk r).frames + 1 ≤ R.frames ∧ 8 + (5 + 11) + (ll_rk r).locals ≤ R.locals) : CallW R s args "LoaderLabLaw" R_Lm 79 y_Lm_count b_Lm_count 5 (some .int) (Cond.code y_Lm_count b_Lm_count 5 (some .int) :: ll_xt) (ll_rk r) 0 0 1 :=
  ⟨callB_of 1 hts (ll_good mc_Lm_count) rfl rfl rfl (hts _ mini_Lm) (hts _ ml_Lw_79) (by decide +kernel) hR, hts _ mi_Lm_count, hts _ ms_Lm_count⟩
theorem mobj_i : Cond.instanceMethod Lib.objectInit ∈ ll_xt := ll_in (ll_t1 (i := 11) (by decide +kernel)) rfl
theorem mobj_c : Cond.code Lib.objectInit ⟨#[0xb1]⟩ 1 none ∈ ll_xt := ll_in (ll_t1 (i := 12) (by rfl)) rfl
theorem marr_I : Cond.arrayClass .int ∈ ll_xt := ll_in (ll_t1 (i := 44) (by decide +kernel)) rfl
theorem marr_Z : Cond.arrayClass .boolean ∈ ll_xt := ll_in (ll_t1 (i := 45) (by decide +kernel)) rfl
