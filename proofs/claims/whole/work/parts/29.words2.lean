theorem q_l_Law_7 : Cond.methodLink "TokenDeskLaw" 7 y_Desk_feed ∈ gW := List.mem_filter.mpr ⟨List.mem_append_right _ (List.mem_of_getElem? (i := 133) (by decide +kernel)), by decide +kernel⟩
theorem q_m_Desk_feed : Cond.instanceMethod y_Desk_feed ∈ gW := List.mem_filter.mpr ⟨List.mem_append_right _ (List.mem_of_getElem? (i := 134) (by decide +kernel)), by decide +kernel⟩
theorem q_s_Desk_feed : Cond.selects "TokenDesk" y_Desk_feed y_Desk_feed ∈ gW := List.mem_filter.mpr ⟨List.mem_append_right _ (List.mem_of_getElem? (i := 135) (by decide +kernel)), by decide +kernel⟩
theorem q_i_TokenDesk : Cond.initialized "TokenDesk" ∈ gW := List.mem_filter.mpr ⟨List.mem_append_right _ (List.mem_of_getElem? (i := 1) (by decide +kernel)), by decide +kernel⟩
theorem q_l_Law_15 : Cond.methodLink "TokenDeskLaw" 15 y_Desk_scan ∈ gW := List.mem_filter.mpr ⟨List.mem_append_right _ (List.mem_of_getElem? (i := 220) (by decide +kernel)), by decide +kernel⟩
theorem q_m_Desk_scan : Cond.instanceMethod y_Desk_scan ∈ gW := List.mem_filter.mpr ⟨List.mem_append_right _ (List.mem_of_getElem? (i := 221) (by decide +kernel)), by decide +kernel⟩
theorem q_s_Desk_scan : Cond.selects "TokenDesk" y_Desk_scan y_Desk_scan ∈ gW := List.mem_filter.mpr ⟨List.mem_append_right _ (List.mem_of_getElem? (i := 222) (by decide +kernel)), by decide +kernel⟩
theorem q_l_Law_21 : Cond.methodLink "TokenDeskLaw" 21 y_Desk_token ∈ gW := List.mem_filter.mpr ⟨List.mem_append_right _ (List.mem_of_getElem? (i := 475) (by decide +kernel)), by decide +kernel⟩
theorem q_m_Desk_token : Cond.instanceMethod y_Desk_token ∈ gW := List.mem_filter.mpr ⟨List.mem_append_right _ (List.mem_of_getElem? (i := 476) (by decide +kernel)), by decide +kernel⟩
theorem q_s_Desk_token : Cond.selects "TokenDesk" y_Desk_token y_Desk_token ∈ gW := List.mem_filter.mpr ⟨List.mem_append_right _ (List.mem_of_getElem? (i := 477) (by decide +kernel)), by decide +kernel⟩
theorem q_x_Law_13 : Cond.classLink "TokenDeskLaw" 13 "java/lang/IndexOutOfBoundsException" ∈ gW := List.mem_filter.mpr ⟨List.mem_append_right _ (List.mem_of_getElem? (i := 132) (by decide +kernel)), by decide +kernel⟩
theorem q_x_Law_19 : Cond.classLink "TokenDeskLaw" 19 "java/lang/IllegalArgumentException" ∈ gW := List.mem_filter.mpr ⟨List.mem_append_right _ (List.mem_of_getElem? (i := 219) (by decide +kernel)), by decide +kernel⟩
theorem q_o_Desk : Cond.methodLink "TokenDesk" 1 objectInit ∈ gW := List.mem_filter.mpr ⟨List.mem_append_right _ (by decide +kernel), by decide +kernel⟩
theorem q_o_Text : Cond.methodLink "TokenDesk$Text" 3 objectInit ∈ gW := List.mem_filter.mpr ⟨List.mem_append_right _ (by decide +kernel), by decide +kernel⟩
theorem q_o_Tokens : Cond.methodLink "TokenDesk$Tokens" 3 objectInit ∈ gW := List.mem_filter.mpr ⟨List.mem_append_right _ (by decide +kernel), by decide +kernel⟩
theorem q_o_Reader : Cond.methodLink "TokenDesk$Reader" 3 objectInit ∈ gW := List.mem_filter.mpr ⟨List.mem_append_right _ (by decide +kernel), by decide +kernel⟩
theorem q_o_Shapes : Cond.methodLink "TokenDesk$Shapes" 3 objectInit ∈ gW := List.mem_filter.mpr ⟨List.mem_append_right _ (by decide +kernel), by decide +kernel⟩
theorem q_o_Mod : Cond.methodLink "TokenDeskModel" 1 objectInit ∈ gW := List.mem_filter.mpr ⟨List.mem_append_right _ (by decide +kernel), by decide +kernel⟩
theorem q_oi : Cond.instanceMethod objectInit ∈ gW := List.mem_filter.mpr ⟨List.mem_append_right _ (by decide +kernel), by decide +kernel⟩
theorem q_oc : Cond.code objectInit ⟨#[0xb1]⟩ 1 none ∈ gW := List.mem_filter.mpr ⟨List.mem_append_right _ (by decide +kernel), by decide +kernel⟩
theorem q_n_Text : Cond.instantiable "TokenDesk$Text" 3 ∈ gW := List.mem_filter.mpr ⟨List.mem_append_right _ (by decide +kernel), by decide +kernel⟩
theorem q_n_Tokens : Cond.instantiable "TokenDesk$Tokens" 2 ∈ gW := List.mem_filter.mpr ⟨List.mem_append_right _ (by decide +kernel), by decide +kernel⟩
theorem q_n_Reader : Cond.instantiable "TokenDesk$Reader" 10 ∈ gW := List.mem_filter.mpr ⟨List.mem_append_right _ (by decide +kernel), by decide +kernel⟩
theorem q_n_Shapes : Cond.instantiable "TokenDesk$Shapes" 1 ∈ gW := List.mem_filter.mpr ⟨List.mem_append_right _ (by decide +kernel), by decide +kernel⟩
theorem q_n_Desk : Cond.instantiable "TokenDesk" 4 ∈ gW := List.mem_filter.mpr ⟨List.mem_append_right _ (by decide +kernel), by decide +kernel⟩
theorem q_n_Mod : Cond.instantiable "TokenDeskModel" 16 ∈ gW := List.mem_filter.mpr ⟨List.mem_append_right _ (by decide +kernel), by decide +kernel⟩
theorem q_x_Desk_7 : Cond.classLink "TokenDesk" 7 "TokenDesk$Text" ∈ gW := List.mem_filter.mpr ⟨List.mem_append_right _ (List.mem_of_getElem? (i := 26) (by decide +kernel)), by decide +kernel⟩
theorem q_x_Desk_16 : Cond.classLink "TokenDesk" 16 "TokenDesk$Tokens" ∈ gW := List.mem_filter.mpr ⟨List.mem_append_right _ (List.mem_of_getElem? (i := 43) (by decide +kernel)), by decide +kernel⟩
theorem q_x_Desk_23 : Cond.classLink "TokenDesk" 23 "TokenDesk$Reader" ∈ gW := List.mem_filter.mpr ⟨List.mem_append_right _ (List.mem_of_getElem? (i := 57) (by decide +kernel)), by decide +kernel⟩
theorem q_x_Reader_23 : Cond.classLink "TokenDesk$Reader" 23 "TokenDesk$Shapes" ∈ gW := List.mem_filter.mpr ⟨List.mem_append_right _ (List.mem_of_getElem? (i := 63) (by decide +kernel)), by decide +kernel⟩
theorem q_x_Law_8 : Cond.classLink "TokenDeskLaw" 8 "TokenDesk" ∈ gW := List.mem_filter.mpr ⟨List.mem_append_right _ (List.mem_of_getElem? (i := 18) (by decide +kernel)), by decide +kernel⟩
theorem q_x_Law_26 : Cond.classLink "TokenDeskLaw" 26 "TokenDeskModel" ∈ gW := List.mem_filter.mpr ⟨List.mem_append_right _ (List.mem_of_getElem? (i := 486) (by decide +kernel)), by decide +kernel⟩
theorem q_x_Mod_7 : Cond.classLink "TokenDeskModel" 7 "java/lang/String" ∈ gW := List.mem_filter.mpr ⟨List.mem_append_right _ (List.mem_of_getElem? (i := 492) (by decide +kernel)), by decide +kernel⟩
theorem q_k_Desk_init : Cond.code y_Desk_init b_Desk_init 1 none ∈ gW := List.mem_filter.mpr ⟨List.mem_append_right _ (List.mem_of_getElem? (i := 22) (by decide +kernel)), by decide +kernel⟩
theorem q_m_Desk_init : Cond.instanceMethod y_Desk_init ∈ gW := List.mem_filter.mpr ⟨List.mem_append_right _ (List.mem_of_getElem? (i := 21) (by decide +kernel)), by decide +kernel⟩
theorem q_k_Text_init : Cond.code y_Text_init b_Text_init 1 none ∈ gW := List.mem_filter.mpr ⟨List.mem_append_right _ (List.mem_of_getElem? (i := 30) (by decide +kernel)), by decide +kernel⟩
theorem q_m_Text_init : Cond.instanceMethod y_Text_init ∈ gW := List.mem_filter.mpr ⟨List.mem_append_right _ (List.mem_of_getElem? (i := 29) (by decide +kernel)), by decide +kernel⟩
theorem q_k_Tokens_init : Cond.code y_Tokens_init b_Tokens_init 1 none ∈ gW := List.mem_filter.mpr ⟨List.mem_append_right _ (List.mem_of_getElem? (i := 47) (by decide +kernel)), by decide +kernel⟩
theorem q_m_Tokens_init : Cond.instanceMethod y_Tokens_init ∈ gW := List.mem_filter.mpr ⟨List.mem_append_right _ (List.mem_of_getElem? (i := 46) (by decide +kernel)), by decide +kernel⟩
theorem q_k_Reader_init : Cond.code y_Reader_init b_Reader_init 3 none ∈ gW := List.mem_filter.mpr ⟨List.mem_append_right _ (List.mem_of_getElem? (i := 61) (by decide +kernel)), by decide +kernel⟩
theorem q_m_Reader_init : Cond.instanceMethod y_Reader_init ∈ gW := List.mem_filter.mpr ⟨List.mem_append_right _ (List.mem_of_getElem? (i := 60) (by decide +kernel)), by decide +kernel⟩
theorem q_k_Shapes_init : Cond.code y_Shapes_init b_Shapes_init 2 none ∈ gW := List.mem_filter.mpr ⟨List.mem_append_right _ (List.mem_of_getElem? (i := 67) (by decide +kernel)), by decide +kernel⟩
theorem q_m_Shapes_init : Cond.instanceMethod y_Shapes_init ∈ gW := List.mem_filter.mpr ⟨List.mem_append_right _ (List.mem_of_getElem? (i := 66) (by decide +kernel)), by decide +kernel⟩
theorem q_k_Mod_init : Cond.code y_Mod_init b_Mod_init 1 none ∈ gW := List.mem_filter.mpr ⟨List.mem_append_right _ (List.mem_of_getElem? (i := 490) (by decide +kernel)), by decide +kernel⟩
theorem q_m_Mod_init : Cond.instanceMethod y_Mod_init ∈ gW := List.mem_filter.mpr ⟨List.mem_append_right _ (List.mem_of_getElem? (i := 489) (by decide +kernel)), by decide +kernel⟩
theorem q_l_Desk_25 : Cond.methodLink "TokenDesk" 25 y_Reader_init ∈ gW := List.mem_filter.mpr ⟨List.mem_append_right _ (List.mem_of_getElem? (i := 59) (by decide +kernel)), by decide +kernel⟩
theorem q_l_Reader_25 : Cond.methodLink "TokenDesk$Reader" 25 y_Shapes_init ∈ gW := List.mem_filter.mpr ⟨List.mem_append_right _ (List.mem_of_getElem? (i := 65) (by decide +kernel)), by decide +kernel⟩
theorem q_l_Law_25 : Cond.methodLink "TokenDeskLaw" 25 y_Desk_init ∈ gW := List.mem_filter.mpr ⟨List.mem_append_right _ (List.mem_of_getElem? (i := 20) (by decide +kernel)), by decide +kernel⟩
theorem q_l_Law_28 : Cond.methodLink "TokenDeskLaw" 28 y_Mod_init ∈ gW := List.mem_filter.mpr ⟨List.mem_append_right _ (List.mem_of_getElem? (i := 488) (by decide +kernel)), by decide +kernel⟩
theorem q_a_int : Cond.arrayClass .int ∈ gW := List.mem_filter.mpr ⟨List.mem_append_right _ (by decide +kernel), by decide +kernel⟩
theorem q_a_long : Cond.arrayClass .long ∈ gW := List.mem_filter.mpr ⟨List.mem_append_right _ (by decide +kernel), by decide +kernel⟩
theorem q_l_Law_29 : Cond.methodLink "TokenDeskLaw" 29 y_Law_feed ∈ gW := List.mem_filter.mpr ⟨List.mem_append_right _ (List.mem_of_getElem? (i := 129) (by decide +kernel)), by decide +kernel⟩
theorem q_t_Law_feed : Cond.static y_Law_feed ∈ gW := List.mem_filter.mpr ⟨List.mem_append_right _ (List.mem_of_getElem? (i := 130) (by decide +kernel)), by decide +kernel⟩
theorem q_k_Law_feed : Cond.codeWith y_Law_feed b_Law_feed 8 (some .int) [(0, 16, 19, 13)] ∈ gW := List.mem_filter.mpr ⟨List.mem_append_right _ (List.mem_of_getElem? (i := 131) (by decide +kernel)), by decide +kernel⟩
theorem q_i_TokenDeskLaw : Cond.initialized "TokenDeskLaw" ∈ gW := List.mem_filter.mpr ⟨List.mem_append_right _ (List.mem_of_getElem? (i := 0) (by decide +kernel)), by decide +kernel⟩
theorem q_l_Law_34 : Cond.methodLink "TokenDeskLaw" 34 y_Mod_feed ∈ gW := List.mem_filter.mpr ⟨List.mem_append_right _ (List.mem_of_getElem? (i := 626) (by decide +kernel)), by decide +kernel⟩
theorem q_m_Mod_feed : Cond.instanceMethod y_Mod_feed ∈ gW := List.mem_filter.mpr ⟨List.mem_append_right _ (List.mem_of_getElem? (i := 627) (by decide +kernel)), by decide +kernel⟩
theorem q_s_Mod_feed : Cond.selects "TokenDeskModel" y_Mod_feed y_Mod_feed ∈ gW := List.mem_filter.mpr ⟨List.mem_append_right _ (List.mem_of_getElem? (i := 628) (by decide +kernel)), by decide +kernel⟩
theorem q_l_Law_35 : Cond.methodLink "TokenDeskLaw" 35 y_Mod_thrown ∈ gW := List.mem_filter.mpr ⟨List.mem_append_right _ (List.mem_of_getElem? (i := 622) (by decide +kernel)), by decide +kernel⟩
theorem q_m_Mod_thrown : Cond.instanceMethod y_Mod_thrown ∈ gW := List.mem_filter.mpr ⟨List.mem_append_right _ (List.mem_of_getElem? (i := 623) (by decide +kernel)), by decide +kernel⟩
theorem q_s_Mod_thrown : Cond.selects "TokenDeskModel" y_Mod_thrown y_Mod_thrown ∈ gW := List.mem_filter.mpr ⟨List.mem_append_right _ (List.mem_of_getElem? (i := 624) (by decide +kernel)), by decide +kernel⟩
theorem q_l_Law_39 : Cond.methodLink "TokenDeskLaw" 39 y_Law_scan ∈ gW := List.mem_filter.mpr ⟨List.mem_append_right _ (List.mem_of_getElem? (i := 216) (by decide +kernel)), by decide +kernel⟩
theorem q_t_Law_scan : Cond.static y_Law_scan ∈ gW := List.mem_filter.mpr ⟨List.mem_append_right _ (List.mem_of_getElem? (i := 217) (by decide +kernel)), by decide +kernel⟩
theorem q_k_Law_scan : Cond.codeWith y_Law_scan b_Law_scan 4 (some .int) [(0, 9, 12, 13), (0, 9, 15, 19)] ∈ gW := List.mem_filter.mpr ⟨List.mem_append_right _ (List.mem_of_getElem? (i := 218) (by decide +kernel)), by decide +kernel⟩
theorem q_l_Law_42 : Cond.methodLink "TokenDeskLaw" 42 y_Mod_scan ∈ gW := List.mem_filter.mpr ⟨List.mem_append_right _ (List.mem_of_getElem? (i := 630) (by decide +kernel)), by decide +kernel⟩
theorem q_m_Mod_scan : Cond.instanceMethod y_Mod_scan ∈ gW := List.mem_filter.mpr ⟨List.mem_append_right _ (List.mem_of_getElem? (i := 631) (by decide +kernel)), by decide +kernel⟩
theorem q_s_Mod_scan : Cond.selects "TokenDeskModel" y_Mod_scan y_Mod_scan ∈ gW := List.mem_filter.mpr ⟨List.mem_append_right _ (List.mem_of_getElem? (i := 632) (by decide +kernel)), by decide +kernel⟩
theorem q_l_Law_43 : Cond.methodLink "TokenDeskLaw" 43 y_Desk_wrong ∈ gW := List.mem_filter.mpr ⟨List.mem_append_right _ (List.mem_of_getElem? (i := 117) (by decide +kernel)), by decide +kernel⟩
theorem q_m_Desk_wrong : Cond.instanceMethod y_Desk_wrong ∈ gW := List.mem_filter.mpr ⟨List.mem_append_right _ (List.mem_of_getElem? (i := 118) (by decide +kernel)), by decide +kernel⟩
theorem q_s_Desk_wrong : Cond.selects "TokenDesk" y_Desk_wrong y_Desk_wrong ∈ gW := List.mem_filter.mpr ⟨List.mem_append_right _ (List.mem_of_getElem? (i := 119) (by decide +kernel)), by decide +kernel⟩
theorem q_l_Law_46 : Cond.methodLink "TokenDeskLaw" 46 y_Mod_wrong ∈ gW := List.mem_filter.mpr ⟨List.mem_append_right _ (List.mem_of_getElem? (i := 693) (by decide +kernel)), by decide +kernel⟩
theorem q_m_Mod_wrong : Cond.instanceMethod y_Mod_wrong ∈ gW := List.mem_filter.mpr ⟨List.mem_append_right _ (List.mem_of_getElem? (i := 694) (by decide +kernel)), by decide +kernel⟩
theorem q_s_Mod_wrong : Cond.selects "TokenDeskModel" y_Mod_wrong y_Mod_wrong ∈ gW := List.mem_filter.mpr ⟨List.mem_append_right _ (List.mem_of_getElem? (i := 695) (by decide +kernel)), by decide +kernel⟩
theorem q_l_Law_47 : Cond.methodLink "TokenDeskLaw" 47 y_Law_token ∈ gW := List.mem_filter.mpr ⟨List.mem_append_right _ (List.mem_of_getElem? (i := 472) (by decide +kernel)), by decide +kernel⟩
theorem q_t_Law_token : Cond.static y_Law_token ∈ gW := List.mem_filter.mpr ⟨List.mem_append_right _ (List.mem_of_getElem? (i := 473) (by decide +kernel)), by decide +kernel⟩
theorem q_k_Law_token : Cond.codeWith y_Law_token b_Law_token 5 (some .int) [(0, 10, 13, 19), (0, 10, 17, 13)] ∈ gW := List.mem_filter.mpr ⟨List.mem_append_right _ (List.mem_of_getElem? (i := 474) (by decide +kernel)), by decide +kernel⟩
theorem q_l_Law_50 : Cond.methodLink "TokenDeskLaw" 50 y_Mod_tokenAt ∈ gW := List.mem_filter.mpr ⟨List.mem_append_right _ (List.mem_of_getElem? (i := 697) (by decide +kernel)), by decide +kernel⟩
theorem q_m_Mod_tokenAt : Cond.instanceMethod y_Mod_tokenAt ∈ gW := List.mem_filter.mpr ⟨List.mem_append_right _ (List.mem_of_getElem? (i := 698) (by decide +kernel)), by decide +kernel⟩
theorem q_s_Mod_tokenAt : Cond.selects "TokenDeskModel" y_Mod_tokenAt y_Mod_tokenAt ∈ gW := List.mem_filter.mpr ⟨List.mem_append_right _ (List.mem_of_getElem? (i := 699) (by decide +kernel)), by decide +kernel⟩
theorem q_l_Law_51 : Cond.methodLink "TokenDeskLaw" 51 y_Desk_many ∈ gW := List.mem_filter.mpr ⟨List.mem_append_right _ (List.mem_of_getElem? (i := 121) (by decide +kernel)), by decide +kernel⟩
theorem q_m_Desk_many : Cond.instanceMethod y_Desk_many ∈ gW := List.mem_filter.mpr ⟨List.mem_append_right _ (List.mem_of_getElem? (i := 122) (by decide +kernel)), by decide +kernel⟩
theorem q_s_Desk_many : Cond.selects "TokenDesk" y_Desk_many y_Desk_many ∈ gW := List.mem_filter.mpr ⟨List.mem_append_right _ (List.mem_of_getElem? (i := 123) (by decide +kernel)), by decide +kernel⟩
theorem q_l_Law_54 : Cond.methodLink "TokenDeskLaw" 54 y_Mod_many ∈ gW := List.mem_filter.mpr ⟨List.mem_append_right _ (List.mem_of_getElem? (i := 701) (by decide +kernel)), by decide +kernel⟩
theorem q_m_Mod_many : Cond.instanceMethod y_Mod_many ∈ gW := List.mem_filter.mpr ⟨List.mem_append_right _ (List.mem_of_getElem? (i := 702) (by decide +kernel)), by decide +kernel⟩
theorem q_s_Mod_many : Cond.selects "TokenDeskModel" y_Mod_many y_Mod_many ∈ gW := List.mem_filter.mpr ⟨List.mem_append_right _ (List.mem_of_getElem? (i := 703) (by decide +kernel)), by decide +kernel⟩
