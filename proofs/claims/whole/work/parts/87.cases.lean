/-! the law's cases: the wrappers' words -/
theorem cdW_group : zcodeW mL_group hhL_group := ⟨zt4 (List.mem_of_getElem? (i := 133) (rfl : tables_1_4[133]? = some (Cond.codeWith yL_group cL_group 3 (some .int) hhL_group))), zt1 (List.mem_of_getElem? (i := 0) (rfl : tables_1_1[0]? = some (Cond.initialized RL))), ⟨by decide, by decide⟩, by decide⟩
theorem naL_group : zinv mL_group 2 := by unfold zinv; decide +kernel
theorem stL_group : Cond.static yL_group ∈ lw_tbl := zt4 (List.mem_of_getElem? (i := 132) (rfl : tables_1_4[132]? = some (Cond.static yL_group)))
theorem cdW_node : zcodeW mL_node hhL_node := ⟨zt5 (List.mem_of_getElem? (i := 148) (rfl : tables_1_5[148]? = some (Cond.codeWith yL_node cL_node 5 (some .int) hhL_node))), zt1 (List.mem_of_getElem? (i := 0) (rfl : tables_1_1[0]? = some (Cond.initialized RL))), ⟨by decide, by decide⟩, by decide⟩
theorem naL_node : zinv mL_node 4 := by unfold zinv; decide +kernel
theorem stL_node : Cond.static yL_node ∈ lw_tbl := zt5 (List.mem_of_getElem? (i := 147) (rfl : tables_1_5[147]? = some (Cond.static yL_node)))
theorem cdW_est : zcodeW mL_est hhL_est := ⟨zt5 (List.mem_of_getElem? (i := 195) (rfl : tables_1_5[195]? = some (Cond.codeWith yL_est cL_est 5 (some .int) hhL_est))), zt1 (List.mem_of_getElem? (i := 0) (rfl : tables_1_1[0]? = some (Cond.initialized RL))), ⟨by decide, by decide⟩, by decide⟩
theorem naL_est : zinv mL_est 4 := by unfold zinv; decide +kernel
theorem stL_est : Cond.static yL_est ∈ lw_tbl := zt5 (List.mem_of_getElem? (i := 194) (rfl : tables_1_5[194]? = some (Cond.static yL_est)))
theorem cdW_timer : zcodeW mL_timer hhL_timer := ⟨zt5 (List.mem_of_getElem? (i := 204) (rfl : tables_1_5[204]? = some (Cond.codeWith yL_timer cL_timer 6 (some .int) hhL_timer))), zt1 (List.mem_of_getElem? (i := 0) (rfl : tables_1_1[0]? = some (Cond.initialized RL))), ⟨by decide, by decide⟩, by decide⟩
theorem naL_timer : zinv mL_timer 5 := by unfold zinv; decide +kernel
theorem stL_timer : Cond.static yL_timer ∈ lw_tbl := zt5 (List.mem_of_getElem? (i := 203) (rfl : tables_1_5[203]? = some (Cond.static yL_timer)))
theorem cdW_gap : zcodeW mL_gap hhL_gap := ⟨zt5 (List.mem_of_getElem? (i := 217) (rfl : tables_1_5[217]? = some (Cond.codeWith yL_gap cL_gap 6 (some .int) hhL_gap))), zt1 (List.mem_of_getElem? (i := 0) (rfl : tables_1_1[0]? = some (Cond.initialized RL))), ⟨by decide, by decide⟩, by decide⟩
theorem naL_gap : zinv mL_gap 5 := by unfold zinv; decide +kernel
theorem stL_gap : Cond.static yL_gap ∈ lw_tbl := zt5 (List.mem_of_getElem? (i := 216) (rfl : tables_1_5[216]? = some (Cond.static yL_gap)))
theorem cdW_link : zcodeW mL_link hhL_link := ⟨zt5 (List.mem_of_getElem? (i := 228) (rfl : tables_1_5[228]? = some (Cond.codeWith yL_link cL_link 5 (some .int) hhL_link))), zt1 (List.mem_of_getElem? (i := 0) (rfl : tables_1_1[0]? = some (Cond.initialized RL))), ⟨by decide, by decide⟩, by decide⟩
theorem naL_link : zinv mL_link 4 := by unfold zinv; decide +kernel
theorem stL_link : Cond.static yL_link ∈ lw_tbl := zt5 (List.mem_of_getElem? (i := 227) (rfl : tables_1_5[227]? = some (Cond.static yL_link)))
theorem cdW_flight : zcodeW mL_flight hhL_flight := ⟨zt6 (List.mem_of_getElem? (i := 2) (rfl : tables_1_6[2]? = some (Cond.codeWith yL_flight cL_flight 5 (some .int) hhL_flight))), zt1 (List.mem_of_getElem? (i := 0) (rfl : tables_1_1[0]? = some (Cond.initialized RL))), ⟨by decide, by decide⟩, by decide⟩
theorem naL_flight : zinv mL_flight 4 := by unfold zinv; decide +kernel
theorem stL_flight : Cond.static yL_flight ∈ lw_tbl := zt6 (List.mem_of_getElem? (i := 1) (rfl : tables_1_6[1]? = some (Cond.static yL_flight)))
theorem cdW_ticks : zcodeW mL_ticks hhL_ticks := ⟨zt6 (List.mem_of_getElem? (i := 11) (rfl : tables_1_6[11]? = some (Cond.codeWith yL_ticks cL_ticks 4 (some .int) hhL_ticks))), zt1 (List.mem_of_getElem? (i := 0) (rfl : tables_1_1[0]? = some (Cond.initialized RL))), ⟨by decide, by decide⟩, by decide⟩
theorem naL_ticks : zinv mL_ticks 3 := by unfold zinv; decide +kernel
theorem stL_ticks : Cond.static yL_ticks ∈ lw_tbl := zt6 (List.mem_of_getElem? (i := 10) (rfl : tables_1_6[10]? = some (Cond.static yL_ticks)))
theorem cdW_send : zcodeW mL_send hhL_send := ⟨zt6 (List.mem_of_getElem? (i := 19) (rfl : tables_1_6[19]? = some (Cond.codeWith yL_send cL_send 3 (some .int) hhL_send))), zt1 (List.mem_of_getElem? (i := 0) (rfl : tables_1_1[0]? = some (Cond.initialized RL))), ⟨by decide, by decide⟩, by decide⟩
theorem naL_send : zinv mL_send 2 := by unfold zinv; decide +kernel
theorem stL_send : Cond.static yL_send ∈ lw_tbl := zt6 (List.mem_of_getElem? (i := 18) (rfl : tables_1_6[18]? = some (Cond.static yL_send)))
theorem cdW_wake : zcodeW mL_wake hhL_wake := ⟨zt6 (List.mem_of_getElem? (i := 45) (rfl : tables_1_6[45]? = some (Cond.codeWith yL_wake cL_wake 5 (some .int) hhL_wake))), zt1 (List.mem_of_getElem? (i := 0) (rfl : tables_1_1[0]? = some (Cond.initialized RL))), ⟨by decide, by decide⟩, by decide⟩
theorem naL_wake : zinv mL_wake 4 := by unfold zinv; decide +kernel
theorem stL_wake : Cond.static yL_wake ∈ lw_tbl := zt6 (List.mem_of_getElem? (i := 44) (rfl : tables_1_6[44]? = some (Cond.static yL_wake)))
theorem cdW_cut : zcodeW mL_cut hhL_cut := ⟨zt6 (List.mem_of_getElem? (i := 52) (rfl : tables_1_6[52]? = some (Cond.codeWith yL_cut cL_cut 5 (some .int) hhL_cut))), zt1 (List.mem_of_getElem? (i := 0) (rfl : tables_1_1[0]? = some (Cond.initialized RL))), ⟨by decide, by decide⟩, by decide⟩
theorem naL_cut : zinv mL_cut 4 := by unfold zinv; decide +kernel
theorem stL_cut : Cond.static yL_cut ∈ lw_tbl := zt6 (List.mem_of_getElem? (i := 51) (rfl : tables_1_6[51]? = some (Cond.static yL_cut)))
theorem cdW_loss : zcodeW mL_loss hhL_loss := ⟨zt6 (List.mem_of_getElem? (i := 59) (rfl : tables_1_6[59]? = some (Cond.codeWith yL_loss cL_loss 5 (some .int) hhL_loss))), zt1 (List.mem_of_getElem? (i := 0) (rfl : tables_1_1[0]? = some (Cond.initialized RL))), ⟨by decide, by decide⟩, by decide⟩
theorem naL_loss : zinv mL_loss 4 := by unfold zinv; decide +kernel
theorem stL_loss : Cond.static yL_loss ∈ lw_tbl := zt6 (List.mem_of_getElem? (i := 58) (rfl : tables_1_6[58]? = some (Cond.static yL_loss)))
theorem cdW_give : zcodeW mL_give hhL_give := ⟨zt6 (List.mem_of_getElem? (i := 67) (rfl : tables_1_6[67]? = some (Cond.codeWith yL_give cL_give 6 (some .int) hhL_give))), zt1 (List.mem_of_getElem? (i := 0) (rfl : tables_1_1[0]? = some (Cond.initialized RL))), ⟨by decide, by decide⟩, by decide⟩
theorem naL_give : zinv mL_give 5 := by unfold zinv; decide +kernel
theorem stL_give : Cond.static yL_give ∈ lw_tbl := zt6 (List.mem_of_getElem? (i := 66) (rfl : tables_1_6[66]? = some (Cond.static yL_give)))
theorem cdW_way : zcodeW mL_way hhL_way := ⟨zt6 (List.mem_of_getElem? (i := 84) (rfl : tables_1_6[84]? = some (Cond.codeWith yL_way cL_way 6 (some .int) hhL_way))), zt1 (List.mem_of_getElem? (i := 0) (rfl : tables_1_1[0]? = some (Cond.initialized RL))), ⟨by decide, by decide⟩, by decide⟩
theorem naL_way : zinv mL_way 5 := by unfold zinv; decide +kernel
theorem stL_way : Cond.static yL_way ∈ lw_tbl := zt6 (List.mem_of_getElem? (i := 83) (rfl : tables_1_6[83]? = some (Cond.static yL_way)))
theorem cdW_above : zcodeW mL_above hhL_above := ⟨zt6 (List.mem_of_getElem? (i := 91) (rfl : tables_1_6[91]? = some (Cond.codeWith yL_above cL_above 5 (some .int) hhL_above))), zt1 (List.mem_of_getElem? (i := 0) (rfl : tables_1_1[0]? = some (Cond.initialized RL))), ⟨by decide, by decide⟩, by decide⟩
theorem naL_above : zinv mL_above 4 := by unfold zinv; decide +kernel
theorem stL_above : Cond.static yL_above ∈ lw_tbl := zt6 (List.mem_of_getElem? (i := 90) (rfl : tables_1_6[90]? = some (Cond.static yL_above)))
theorem cdW_window : zcodeW mL_window hhL_window := ⟨zt6 (List.mem_of_getElem? (i := 98) (rfl : tables_1_6[98]? = some (Cond.codeWith yL_window cL_window 6 (some .int) hhL_window))), zt1 (List.mem_of_getElem? (i := 0) (rfl : tables_1_1[0]? = some (Cond.initialized RL))), ⟨by decide, by decide⟩, by decide⟩
theorem naL_window : zinv mL_window 5 := by unfold zinv; decide +kernel
theorem stL_window : Cond.static yL_window ∈ lw_tbl := zt6 (List.mem_of_getElem? (i := 97) (rfl : tables_1_6[97]? = some (Cond.static yL_window)))
theorem cdW_near : zcodeW mL_near hhL_near := ⟨zt6 (List.mem_of_getElem? (i := 109) (rfl : tables_1_6[109]? = some (Cond.codeWith yL_near cL_near 5 (some .int) hhL_near))), zt1 (List.mem_of_getElem? (i := 0) (rfl : tables_1_1[0]? = some (Cond.initialized RL))), ⟨by decide, by decide⟩, by decide⟩
theorem naL_near : zinv mL_near 4 := by unfold zinv; decide +kernel
theorem stL_near : Cond.static yL_near ∈ lw_tbl := zt6 (List.mem_of_getElem? (i := 108) (rfl : tables_1_6[108]? = some (Cond.static yL_near)))
theorem cdW_reach : zcodeW mL_reach hhL_reach := ⟨zt6 (List.mem_of_getElem? (i := 127) (rfl : tables_1_6[127]? = some (Cond.codeWith yL_reach cL_reach 5 (some .int) hhL_reach))), zt1 (List.mem_of_getElem? (i := 0) (rfl : tables_1_1[0]? = some (Cond.initialized RL))), ⟨by decide, by decide⟩, by decide⟩
theorem naL_reach : zinv mL_reach 4 := by unfold zinv; decide +kernel
theorem stL_reach : Cond.static yL_reach ∈ lw_tbl := zt6 (List.mem_of_getElem? (i := 126) (rfl : tables_1_6[126]? = some (Cond.static yL_reach)))
theorem cdW_far : zcodeW mL_far hhL_far := ⟨zt6 (List.mem_of_getElem? (i := 142) (rfl : tables_1_6[142]? = some (Cond.codeWith yL_far cL_far 5 (some .int) hhL_far))), zt1 (List.mem_of_getElem? (i := 0) (rfl : tables_1_1[0]? = some (Cond.initialized RL))), ⟨by decide, by decide⟩, by decide⟩
theorem naL_far : zinv mL_far 4 := by unfold zinv; decide +kernel
theorem stL_far : Cond.static yL_far ∈ lw_tbl := zt6 (List.mem_of_getElem? (i := 141) (rfl : tables_1_6[141]? = some (Cond.static yL_far)))
theorem cdW_talk : zcodeW mL_talk hhL_talk := ⟨zt6 (List.mem_of_getElem? (i := 149) (rfl : tables_1_6[149]? = some (Cond.codeWith yL_talk cL_talk 6 (some .int) hhL_talk))), zt1 (List.mem_of_getElem? (i := 0) (rfl : tables_1_1[0]? = some (Cond.initialized RL))), ⟨by decide, by decide⟩, by decide⟩
theorem naL_talk : zinv mL_talk 5 := by unfold zinv; decide +kernel
theorem stL_talk : Cond.static yL_talk ∈ lw_tbl := zt6 (List.mem_of_getElem? (i := 148) (rfl : tables_1_6[148]? = some (Cond.static yL_talk)))
theorem cdW_giver : zcodeW mL_giver hhL_giver := ⟨zt6 (List.mem_of_getElem? (i := 169) (rfl : tables_1_6[169]? = some (Cond.codeWith yL_giver cL_giver 6 (some .int) hhL_giver))), zt1 (List.mem_of_getElem? (i := 0) (rfl : tables_1_1[0]? = some (Cond.initialized RL))), ⟨by decide, by decide⟩, by decide⟩
theorem naL_giver : zinv mL_giver 5 := by unfold zinv; decide +kernel
theorem stL_giver : Cond.static yL_giver ∈ lw_tbl := zt6 (List.mem_of_getElem? (i := 168) (rfl : tables_1_6[168]? = some (Cond.static yL_giver)))
theorem cdW_when : zcodeW mL_when hhL_when := ⟨zt6 (List.mem_of_getElem? (i := 177) (rfl : tables_1_6[177]? = some (Cond.codeWith yL_when cL_when 5 (some .int) hhL_when))), zt1 (List.mem_of_getElem? (i := 0) (rfl : tables_1_1[0]? = some (Cond.initialized RL))), ⟨by decide, by decide⟩, by decide⟩
theorem naL_when : zinv mL_when 4 := by unfold zinv; decide +kernel
theorem stL_when : Cond.static yL_when ∈ lw_tbl := zt6 (List.mem_of_getElem? (i := 176) (rfl : tables_1_6[176]? = some (Cond.static yL_when)))
theorem cdW_route : zcodeW mL_route hhL_route := ⟨zt6 (List.mem_of_getElem? (i := 184) (rfl : tables_1_6[184]? = some (Cond.codeWith yL_route cL_route 6 (some .int) hhL_route))), zt1 (List.mem_of_getElem? (i := 0) (rfl : tables_1_1[0]? = some (Cond.initialized RL))), ⟨by decide, by decide⟩, by decide⟩
theorem naL_route : zinv mL_route 5 := by unfold zinv; decide +kernel
theorem stL_route : Cond.static yL_route ∈ lw_tbl := zt6 (List.mem_of_getElem? (i := 183) (rfl : tables_1_6[183]? = some (Cond.static yL_route)))
theorem cdW_crossed : zcodeW mL_crossed hhL_crossed := ⟨zt6 (List.mem_of_getElem? (i := 191) (rfl : tables_1_6[191]? = some (Cond.codeWith yL_crossed cL_crossed 5 (some .int) hhL_crossed))), zt1 (List.mem_of_getElem? (i := 0) (rfl : tables_1_1[0]? = some (Cond.initialized RL))), ⟨by decide, by decide⟩, by decide⟩
theorem naL_crossed : zinv mL_crossed 4 := by unfold zinv; decide +kernel
theorem stL_crossed : Cond.static yL_crossed ∈ lw_tbl := zt6 (List.mem_of_getElem? (i := 190) (rfl : tables_1_6[190]? = some (Cond.static yL_crossed)))
theorem cdW_first : zcodeW mL_first hhL_first := ⟨zt6 (List.mem_of_getElem? (i := 202) (rfl : tables_1_6[202]? = some (Cond.codeWith yL_first cL_first 4 (some .int) hhL_first))), zt1 (List.mem_of_getElem? (i := 0) (rfl : tables_1_1[0]? = some (Cond.initialized RL))), ⟨by decide, by decide⟩, by decide⟩
theorem naL_first : zinv mL_first 3 := by unfold zinv; decide +kernel
theorem stL_first : Cond.static yL_first ∈ lw_tbl := zt6 (List.mem_of_getElem? (i := 201) (rfl : tables_1_6[201]? = some (Cond.static yL_first)))
theorem cdW_blind : zcodeW mL_blind hhL_blind := ⟨zt6 (List.mem_of_getElem? (i := 209) (rfl : tables_1_6[209]? = some (Cond.codeWith yL_blind cL_blind 4 (some .int) hhL_blind))), zt1 (List.mem_of_getElem? (i := 0) (rfl : tables_1_1[0]? = some (Cond.initialized RL))), ⟨by decide, by decide⟩, by decide⟩
theorem naL_blind : zinv mL_blind 3 := by unfold zinv; decide +kernel
theorem stL_blind : Cond.static yL_blind ∈ lw_tbl := zt6 (List.mem_of_getElem? (i := 208) (rfl : tables_1_6[208]? = some (Cond.static yL_blind)))
theorem cdW_guard : zcodeW mL_guard hhL_guard := ⟨zt6 (List.mem_of_getElem? (i := 217) (rfl : tables_1_6[217]? = some (Cond.codeWith yL_guard cL_guard 5 (some .int) hhL_guard))), zt1 (List.mem_of_getElem? (i := 0) (rfl : tables_1_1[0]? = some (Cond.initialized RL))), ⟨by decide, by decide⟩, by decide⟩
theorem naL_guard : zinv mL_guard 4 := by unfold zinv; decide +kernel
theorem stL_guard : Cond.static yL_guard ∈ lw_tbl := zt6 (List.mem_of_getElem? (i := 216) (rfl : tables_1_6[216]? = some (Cond.static yL_guard)))
theorem cdW_best : zcodeW mL_best hhL_best := ⟨zt6 (List.mem_of_getElem? (i := 234) (rfl : tables_1_6[234]? = some (Cond.codeWith yL_best cL_best 5 (some .int) hhL_best))), zt1 (List.mem_of_getElem? (i := 0) (rfl : tables_1_1[0]? = some (Cond.initialized RL))), ⟨by decide, by decide⟩, by decide⟩
theorem naL_best : zinv mL_best 4 := by unfold zinv; decide +kernel
theorem stL_best : Cond.static yL_best ∈ lw_tbl := zt6 (List.mem_of_getElem? (i := 233) (rfl : tables_1_6[233]? = some (Cond.static yL_best)))
theorem cdW_spread : zcodeW mL_spread hhL_spread := ⟨zt7 (List.mem_of_getElem? (i := 2) (rfl : tables_1_7[2]? = some (Cond.codeWith yL_spread cL_spread 4 (some .int) hhL_spread))), zt1 (List.mem_of_getElem? (i := 0) (rfl : tables_1_1[0]? = some (Cond.initialized RL))), ⟨by decide, by decide⟩, by decide⟩
theorem naL_spread : zinv mL_spread 3 := by unfold zinv; decide +kernel
theorem stL_spread : Cond.static yL_spread ∈ lw_tbl := zt7 (List.mem_of_getElem? (i := 1) (rfl : tables_1_7[1]? = some (Cond.static yL_spread)))
theorem cdW_holders : zcodeW mL_holders hhL_holders := ⟨zt7 (List.mem_of_getElem? (i := 20) (rfl : tables_1_7[20]? = some (Cond.codeWith yL_holders cL_holders 4 (some .int) hhL_holders))), zt1 (List.mem_of_getElem? (i := 0) (rfl : tables_1_1[0]? = some (Cond.initialized RL))), ⟨by decide, by decide⟩, by decide⟩
theorem naL_holders : zinv mL_holders 3 := by unfold zinv; decide +kernel
theorem stL_holders : Cond.static yL_holders ∈ lw_tbl := zt7 (List.mem_of_getElem? (i := 19) (rfl : tables_1_7[19]? = some (Cond.static yL_holders)))
theorem cdW_log : zcodeW mL_log hhL_log := ⟨zt7 (List.mem_of_getElem? (i := 27) (rfl : tables_1_7[27]? = some (Cond.codeWith yL_log cL_log 5 (some .int) hhL_log))), zt1 (List.mem_of_getElem? (i := 0) (rfl : tables_1_1[0]? = some (Cond.initialized RL))), ⟨by decide, by decide⟩, by decide⟩
theorem naL_log : zinv mL_log 4 := by unfold zinv; decide +kernel
theorem stL_log : Cond.static yL_log ∈ lw_tbl := zt7 (List.mem_of_getElem? (i := 26) (rfl : tables_1_7[26]? = some (Cond.static yL_log)))
abbrev LH (i : Nat) : List (Option zV) := [some (zq 3 0), some (zq 0 0), some (zq 1 0), some (zq 2 0), some (zi (nI i)), none, none]
abbrev LL (i : Nat) (k b : Int32) : List (Option zV) := [some (zq 3 0), some (zq 0 0), some (zq 1 0), some (zq 2 0), some (zi (nI i)), some (zi k), some (zi b)]
theorem nI_plus (a b : Nat) : nI a + nI b = nI (a + b) := (Int32.ofNat_add a b).symm
theorem zg_self {μ : zM} {j : Nat} {X : zX} (h : μ j = X) : zg μ j X = μ := by subst h; exact zg_id μ j
theorem zg_lm {Y : zY} {n : Nat} {av : List zV} {μ μ' : zM} {r : Option zV} {X : zX} (h : μ 1 = X) (k : LM Y n av (zg μ 1 X) r μ') : LM Y n av μ r μ' := by rw [zg_self h] at k; exact k
theorem zw_00 {μ : zM} (X : zX) (v : Int32) : (zg μ 2 (zw X 0 0 v)) 2 0 0 = v := rfl
theorem z_bl01 (x : Int32) : (if x = 0 then nI 0 else nI 1) = nI 0 ∨ (if x = 0 then nI 0 else nI 1) = nI 1 := by
  by_cases h : x = 0
  · exact Or.inl (if_pos h)
  · exact Or.inr (if_neg h)
theorem INV.g2 {T : Nat} {μ : zM} {Z Y : zX} (h : INV T (zg μ 1 Y)) : INV T (zg (zg μ 2 Z) 1 Y) := h
section LT
variable {n : Nat} {C u : Nat × Nat} {L : List (Option zV)} {S : List zV} {μ : zM} {xs : Nat → Int32} {Ln i : Nat}
theorem z_arg {j p0 p1 p2 p3 p4 p5 : Nat} (h0 : zal cL_law p0 0 p1) (h1 : zil cL_law p1 4 p2) (h2 : zk cL_law p2 (nI j) p3) (h3 : zd cL_law p3 .iadd 1 p4) (h4 : zd cL_law p4 .iaload 1 p5) (g0 : L[0]? = some (some (zq 3 0))) (g4 : L[4]? = some (some (zi (nI i)))) (hi : i + j < Ln) (hL : Ln < 2147483648) (k : zJ mL_law n C u (zQL xs Ln) p5 L (zi (xs (i + j)) :: S) μ) : zJ mL_law n C u (zQL xs Ln) p0 L S μ := by
  refine z_aload h0 g0 (z_iload h1 g4 (z_const h2 (z_iadd h3 ?_)))
  rw [nI_plus]
  exact z_sld h4 hi hL k
theorem z_bl {x : Int32} {p0 p1 p2 p3 p4 : Nat} (h0 : zb cL_law p0 (.ifCond .eq) p3 p1) (h1 : zk cL_law p1 (nI 1) p2) (h2 : zb cL_law p2 .goto p4 p3) (h3 : zk cL_law p3 (nI 0) p4) (k : zJ mL_law n C u (zQL xs Ln) p4 L (zi (if x = 0 then nI 0 else nI 1) :: S) μ) : zJ mL_law n C u (zQL xs Ln) p0 L (zi x :: S) μ := by
  by_cases h : x = 0
  · rw [if_pos h] at k
    exact z_ifT h0 h (z_const h3 k)
  · rw [if_neg h] at k
    exact z_ifF h0 h (z_const h1 (z_goto h2 k))
theorem z_tailI {k b : Int32} {Y : zX} {μ1 : zM} {p q q' : Nat} (h1 : zal cL_law p 2 (p + 1)) (h2 : zd cL_law (p + 1) (.invokevirtual 141) 3 (p + 4)) (h3 : zil cL_law (p + 4) 5 (p + 6)) (h4 : zb cL_law (p + 6) (.if_icmp .eq) (p + 11) (p + 9)) (h5 : zil cL_law (p + 11) 5 (p + 13)) (h6 : zb cL_law (p + 13) (.ifCond .ne) q (p + 16)) (h7 : zal cL_law (p + 16) 3 (p + 17)) (h8 : zk cL_law (p + 17) (nI 0) (p + 18)) (h9 : zd cL_law (p + 18) .laload 1 (p + 19)) (h10 : zil cL_law (p + 19) 6 (p + 21)) (h11 : zd cL_law (p + 21) .i2l 1 (p + 22)) (h12 : zd cL_law (p + 22) .lcmp 1 (p + 23)) (h13 : zb cL_law (p + 23) (.ifCond .eq) q (p + 26)) (h14 : zb cL_law q .goto 2717 q') (e1 : Y 0 0 = k) (e2 : k = 0 → (μ1 2) 0 0 = b) (K : zJ mL_law 14 C u (zQL xs Ln) 2717 (LL i k b) [] (zg μ1 1 Y)) : zJ mL_law 14 C u (zQL xs Ln) p (LL i k b) [] (zg μ1 1 Y) := by
  refine z_aload h1 rfl (z_callV h2 tX12_thrown (Nat.le_of_ble_eq_true rfl) cdX12_thrown naX12_thrown lkL_141 imX12_thrown seX12_thrown in1_0 sh1_0 rfl rfl rfl (Nat.le_of_ble_eq_true rfl) (z_iload h3 rfl (z_icT h4 e1 (z_iload h5 rfl ?_))))
  by_cases hk : k = 0
  · refine z_neF h6 hk (z_aload h7 rfl (z_const h8 (z_focus 2 (z_laldN h9 in2_0 sh2_0 (Nat.le_of_ble_eq_true rfl) (by decide) ?_))))
    rw [zg_id]
    exact z_iload h10 rfl (z_i2l h11 (z_lceq h12 h13 (e2 hk) (z_goto h14 K)))
  · exact z_neT h6 hk (z_goto h14 K)
theorem z_tailB {k b : Int32} {Y : zX} {μ1 : zM} {p q q' : Nat} (h1 : zal cL_law p 2 (p + 1)) (h2 : zd cL_law (p + 1) (.invokevirtual 141) 3 (p + 4)) (h3 : zil cL_law (p + 4) 5 (p + 6)) (h4 : zb cL_law (p + 6) (.if_icmp .eq) (p + 11) (p + 9)) (h5 : zil cL_law (p + 11) 5 (p + 13)) (h6 : zb cL_law (p + 13) (.ifCond .ne) q (p + 16)) (h7 : zal cL_law (p + 16) 3 (p + 17)) (h8 : zk cL_law (p + 17) (nI 0) (p + 18)) (h9 : zd cL_law (p + 18) .laload 1 (p + 19)) (h10 : zil cL_law (p + 19) 6 (p + 21)) (h11 : zb cL_law (p + 21) (.ifCond .eq) (p + 28) (p + 24)) (h12 : zd cL_law (p + 24) (.lconst 1) 1 (p + 25)) (h13 : zb cL_law (p + 25) .goto (p + 29) (p + 28)) (h14 : zd cL_law (p + 28) (.lconst 0) 1 (p + 29)) (h15 : zd cL_law (p + 29) .lcmp 1 (p + 30)) (h16 : zb cL_law (p + 30) (.ifCond .eq) q (p + 33)) (h17 : zb cL_law q .goto 2717 q') (e1 : Y 0 0 = k) (e2 : k = 0 → (μ1 2) 0 0 = (if b = 0 then nI 0 else nI 1)) (K : zJ mL_law 14 C u (zQL xs Ln) 2717 (LL i k b) [] (zg μ1 1 Y)) : zJ mL_law 14 C u (zQL xs Ln) p (LL i k b) [] (zg μ1 1 Y) := by
  refine z_aload h1 rfl (z_callV h2 tX12_thrown (Nat.le_of_ble_eq_true rfl) cdX12_thrown naX12_thrown lkL_141 imX12_thrown seX12_thrown in1_0 sh1_0 rfl rfl rfl (Nat.le_of_ble_eq_true rfl) (z_iload h3 rfl (z_icT h4 e1 (z_iload h5 rfl ?_))))
  by_cases hk : k = 0
  · refine z_neF h6 hk (z_aload h7 rfl (z_const h8 (z_focus 2 (z_laldN h9 in2_0 sh2_0 (Nat.le_of_ble_eq_true rfl) (by decide) ?_))))
    rw [zg_id]
    refine z_iload h10 rfl ?_
    have e3 := e2 hk
    by_cases hb : b = 0
    · rw [if_pos hb] at e3
      exact z_ifT h11 hb (z_lconst (v := nI 0) h14 rfl (z_lceq h15 h16 e3 (z_goto h17 K)))
    · rw [if_neg hb] at e3
      exact z_ifF h11 hb (z_lconst (v := nI 1) h12 rfl (z_goto h13 (z_lceq h15 h16 e3 (z_goto h17 K))))
  · exact z_neT h6 hk (z_goto h17 K)
end LT
