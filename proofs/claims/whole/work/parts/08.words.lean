theorem zt1 {w : Cond} (h : w ∈ tables_1_1) : w ∈ lw_tbl := List.mem_append_right _ (show w ∈ tables_1 from List.mem_append_left _ h)
theorem zt2 {w : Cond} (h : w ∈ tables_1_2) : w ∈ lw_tbl := List.mem_append_right _ (show w ∈ tables_1 from List.mem_append_right _ (List.mem_append_left _ h))
theorem zt3 {w : Cond} (h : w ∈ tables_1_3) : w ∈ lw_tbl := List.mem_append_right _ (show w ∈ tables_1 from List.mem_append_right _ (List.mem_append_right _ (List.mem_append_left _ h)))
theorem zt4 {w : Cond} (h : w ∈ tables_1_4) : w ∈ lw_tbl := List.mem_append_right _ (show w ∈ tables_1 from List.mem_append_right _ (List.mem_append_right _ (List.mem_append_right _ (List.mem_append_left _ h))))
theorem zt5 {w : Cond} (h : w ∈ tables_1_5) : w ∈ lw_tbl := List.mem_append_right _ (show w ∈ tables_1 from List.mem_append_right _ (List.mem_append_right _ (List.mem_append_right _ (List.mem_append_right _ (List.mem_append_left _ h)))))
theorem zt6 {w : Cond} (h : w ∈ tables_1_6) : w ∈ lw_tbl := List.mem_append_right _ (show w ∈ tables_1 from List.mem_append_right _ (List.mem_append_right _ (List.mem_append_right _ (List.mem_append_right _ (List.mem_append_right _ (List.mem_append_left _ h))))))
theorem zt7 {w : Cond} (h : w ∈ tables_1_7) : w ∈ lw_tbl := List.mem_append_right _ (show w ∈ tables_1 from List.mem_append_right _ (List.mem_append_right _ (List.mem_append_right _ (List.mem_append_right _ (List.mem_append_right _ (List.mem_append_right _ (List.mem_append_left _ h)))))))
theorem zt8 {w : Cond} (h : w ∈ tables_1_8) : w ∈ lw_tbl := List.mem_append_right _ (show w ∈ tables_1 from List.mem_append_right _ (List.mem_append_right _ (List.mem_append_right _ (List.mem_append_right _ (List.mem_append_right _ (List.mem_append_right _ (List.mem_append_right _ (List.mem_append_left _ h))))))))
theorem zt9 {w : Cond} (h : w ∈ tables_1_9) : w ∈ lw_tbl := List.mem_append_right _ (show w ∈ tables_1 from List.mem_append_right _ (List.mem_append_right _ (List.mem_append_right _ (List.mem_append_right _ (List.mem_append_right _ (List.mem_append_right _ (List.mem_append_right _ (List.mem_append_right _ (h)))))))))
def zmk (a : MethodName) (b : ByteArray) (c : Nat) (d : Option FieldType) : zY := (a, b, c, d)
abbrev mX0_init : zY := (yX0_init, cX0_init, 1, none)
theorem cdX0_init : zcode mX0_init := ⟨zt2 (List.mem_of_getElem? (i := 144) (rfl : tables_1_2[144]? = some (Cond.code yX0_init cX0_init 1 none))), zt1 (List.mem_of_getElem? (i := 13) (rfl : tables_1_1[13]? = some (Cond.initialized RX0))), ⟨by decide, by decide⟩, by decide⟩
theorem naX0_init : zinv mX0_init 0 := by unfold zinv; decide +kernel
theorem imX0_init : Cond.instanceMethod yX0_init ∈ lw_tbl := zt2 (List.mem_of_getElem? (i := 143) (rfl : tables_1_2[143]? = some (Cond.instanceMethod yX0_init)))
abbrev mX0_copy : zY := (yX0_copy, cX0_copy, 2, none)
theorem cdX0_copy : zcode mX0_copy := ⟨zt3 (List.mem_of_getElem? (i := 128) (rfl : tables_1_3[128]? = some (Cond.code yX0_copy cX0_copy 2 none))), zt1 (List.mem_of_getElem? (i := 13) (rfl : tables_1_1[13]? = some (Cond.initialized RX0))), ⟨by decide, by decide⟩, by decide⟩
theorem naX0_copy : zinv mX0_copy 1 := by unfold zinv; decide +kernel
theorem imX0_copy : Cond.instanceMethod yX0_copy ∈ lw_tbl := zt3 (List.mem_of_getElem? (i := 126) (rfl : tables_1_3[126]? = some (Cond.instanceMethod yX0_copy)))
theorem seX0_copy : Cond.selects RX0 yX0_copy yX0_copy ∈ lw_tbl := zt3 (List.mem_of_getElem? (i := 127) (rfl : tables_1_3[127]? = some (Cond.selects RX0 yX0_copy yX0_copy)))
abbrev mX0_isFull : zY := (yX0_isFull, cX0_isFull, 1, (some .boolean))
theorem cdX0_isFull : zcode mX0_isFull := ⟨zt4 (List.mem_of_getElem? (i := 56) (rfl : tables_1_4[56]? = some (Cond.code yX0_isFull cX0_isFull 1 (some .boolean)))), zt1 (List.mem_of_getElem? (i := 13) (rfl : tables_1_1[13]? = some (Cond.initialized RX0))), ⟨by decide, by decide⟩, by decide⟩
theorem naX0_isFull : zinv mX0_isFull 0 := by unfold zinv; decide +kernel
theorem imX0_isFull : Cond.instanceMethod yX0_isFull ∈ lw_tbl := zt4 (List.mem_of_getElem? (i := 54) (rfl : tables_1_4[54]? = some (Cond.instanceMethod yX0_isFull)))
theorem seX0_isFull : Cond.selects RX0 yX0_isFull yX0_isFull ∈ lw_tbl := zt4 (List.mem_of_getElem? (i := 55) (rfl : tables_1_4[55]? = some (Cond.selects RX0 yX0_isFull yX0_isFull)))
abbrev mX0_dropDue : zY := (yX0_dropDue, cX0_dropDue, 4, none)
theorem cdX0_dropDue : zcode mX0_dropDue := ⟨zt4 (List.mem_of_getElem? (i := 26) (rfl : tables_1_4[26]? = some (Cond.code yX0_dropDue cX0_dropDue 4 none))), zt1 (List.mem_of_getElem? (i := 13) (rfl : tables_1_1[13]? = some (Cond.initialized RX0))), ⟨by decide, by decide⟩, by decide⟩
theorem naX0_dropDue : zinv mX0_dropDue 1 := by unfold zinv; decide +kernel
theorem imX0_dropDue : Cond.instanceMethod yX0_dropDue ∈ lw_tbl := zt4 (List.mem_of_getElem? (i := 24) (rfl : tables_1_4[24]? = some (Cond.instanceMethod yX0_dropDue)))
theorem seX0_dropDue : Cond.selects RX0 yX0_dropDue yX0_dropDue ∈ lw_tbl := zt4 (List.mem_of_getElem? (i := 25) (rfl : tables_1_4[25]? = some (Cond.selects RX0 yX0_dropDue yX0_dropDue)))
abbrev mX0_move : zY := (yX0_move, cX0_move, 3, none)
theorem cdX0_move : zcode mX0_move := ⟨zt4 (List.mem_of_getElem? (i := 30) (rfl : tables_1_4[30]? = some (Cond.code yX0_move cX0_move 3 none))), zt1 (List.mem_of_getElem? (i := 13) (rfl : tables_1_1[13]? = some (Cond.initialized RX0))), ⟨by decide, by decide⟩, by decide⟩
theorem naX0_move : zinv mX0_move 2 := by unfold zinv; decide +kernel
theorem imX0_move : Cond.instanceMethod yX0_move ∈ lw_tbl := zt4 (List.mem_of_getElem? (i := 29) (rfl : tables_1_4[29]? = some (Cond.instanceMethod yX0_move)))
theorem seX0_move : Cond.selects RX0 yX0_move yX0_move ∈ lw_tbl := List.mem_of_getElem? (i := 13) (by decide +kernel : lw_tbl[13]? = some (Cond.selects RX0 yX0_move yX0_move))
abbrev mX1_init : zY := (yX1_init, cX1_init, 1, none)
theorem cdX1_init : zcode mX1_init := ⟨zt1 (List.mem_of_getElem? (i := 136) (rfl : tables_1_1[136]? = some (Cond.code yX1_init cX1_init 1 none))), zt1 (List.mem_of_getElem? (i := 6) (rfl : tables_1_1[6]? = some (Cond.initialized RX1))), ⟨by decide, by decide⟩, by decide⟩
theorem naX1_init : zinv mX1_init 0 := by unfold zinv; decide +kernel
theorem imX1_init : Cond.instanceMethod yX1_init ∈ lw_tbl := zt1 (List.mem_of_getElem? (i := 135) (rfl : tables_1_1[135]? = some (Cond.instanceMethod yX1_init)))
abbrev mX1_copy : zY := (yX1_copy, cX1_copy, 2, none)
theorem cdX1_copy : zcode mX1_copy := ⟨zt3 (List.mem_of_getElem? (i := 96) (rfl : tables_1_3[96]? = some (Cond.code yX1_copy cX1_copy 2 none))), zt1 (List.mem_of_getElem? (i := 6) (rfl : tables_1_1[6]? = some (Cond.initialized RX1))), ⟨by decide, by decide⟩, by decide⟩
theorem naX1_copy : zinv mX1_copy 1 := by unfold zinv; decide +kernel
theorem imX1_copy : Cond.instanceMethod yX1_copy ∈ lw_tbl := zt3 (List.mem_of_getElem? (i := 94) (rfl : tables_1_3[94]? = some (Cond.instanceMethod yX1_copy)))
theorem seX1_copy : Cond.selects RX1 yX1_copy yX1_copy ∈ lw_tbl := zt3 (List.mem_of_getElem? (i := 95) (rfl : tables_1_3[95]? = some (Cond.selects RX1 yX1_copy yX1_copy)))
abbrev mX1_upTo : zY := (yX1_upTo, cX1_upTo, 3, (some .int))
theorem cdX1_upTo : zcode mX1_upTo := ⟨zt3 (List.mem_of_getElem? (i := 239) (rfl : tables_1_3[239]? = some (Cond.code yX1_upTo cX1_upTo 3 (some .int)))), zt1 (List.mem_of_getElem? (i := 6) (rfl : tables_1_1[6]? = some (Cond.initialized RX1))), ⟨by decide, by decide⟩, by decide⟩
theorem naX1_upTo : zinv mX1_upTo 1 := by unfold zinv; decide +kernel
theorem imX1_upTo : Cond.instanceMethod yX1_upTo ∈ lw_tbl := zt3 (List.mem_of_getElem? (i := 237) (rfl : tables_1_3[237]? = some (Cond.instanceMethod yX1_upTo)))
theorem seX1_upTo : Cond.selects RX1 yX1_upTo yX1_upTo ∈ lw_tbl := zt3 (List.mem_of_getElem? (i := 238) (rfl : tables_1_3[238]? = some (Cond.selects RX1 yX1_upTo yX1_upTo)))
abbrev mX2_init : zY := (yX2_init, cX2_init, 1, none)
theorem cdX2_init : zcode mX2_init := ⟨zt2 (List.mem_of_getElem? (i := 65) (rfl : tables_1_2[65]? = some (Cond.code yX2_init cX2_init 1 none))), zt1 (List.mem_of_getElem? (i := 11) (rfl : tables_1_1[11]? = some (Cond.initialized RX2))), ⟨by decide, by decide⟩, by decide⟩
theorem naX2_init : zinv mX2_init 0 := by unfold zinv; decide +kernel
theorem imX2_init : Cond.instanceMethod yX2_init ∈ lw_tbl := zt2 (List.mem_of_getElem? (i := 64) (rfl : tables_1_2[64]? = some (Cond.instanceMethod yX2_init)))
abbrev mX2_copy : zY := (yX2_copy, cX2_copy, 2, none)
theorem cdX2_copy : zcode mX2_copy := ⟨zt3 (List.mem_of_getElem? (i := 118) (rfl : tables_1_3[118]? = some (Cond.code yX2_copy cX2_copy 2 none))), zt1 (List.mem_of_getElem? (i := 11) (rfl : tables_1_1[11]? = some (Cond.initialized RX2))), ⟨by decide, by decide⟩, by decide⟩
theorem naX2_copy : zinv mX2_copy 1 := by unfold zinv; decide +kernel
theorem imX2_copy : Cond.instanceMethod yX2_copy ∈ lw_tbl := zt3 (List.mem_of_getElem? (i := 116) (rfl : tables_1_3[116]? = some (Cond.instanceMethod yX2_copy)))
theorem seX2_copy : Cond.selects RX2 yX2_copy yX2_copy ∈ lw_tbl := zt3 (List.mem_of_getElem? (i := 117) (rfl : tables_1_3[117]? = some (Cond.selects RX2 yX2_copy yX2_copy)))
abbrev mX2_add : zY := (yX2_add, cX2_add, 5, none)
theorem cdX2_add : zcode mX2_add := ⟨zt5 (List.mem_of_getElem? (i := 14) (rfl : tables_1_5[14]? = some (Cond.code yX2_add cX2_add 5 none))), zt1 (List.mem_of_getElem? (i := 11) (rfl : tables_1_1[11]? = some (Cond.initialized RX2))), ⟨by decide, by decide⟩, by decide⟩
theorem naX2_add : zinv mX2_add 4 := by unfold zinv; decide +kernel
theorem imX2_add : Cond.instanceMethod yX2_add ∈ lw_tbl := zt5 (List.mem_of_getElem? (i := 12) (rfl : tables_1_5[12]? = some (Cond.instanceMethod yX2_add)))
theorem seX2_add : Cond.selects RX2 yX2_add yX2_add ∈ lw_tbl := zt5 (List.mem_of_getElem? (i := 13) (rfl : tables_1_5[13]? = some (Cond.selects RX2 yX2_add yX2_add)))
abbrev mX2_isCut : zY := (yX2_isCut, cX2_isCut, 2, (some .boolean))
theorem cdX2_isCut : zcode mX2_isCut := ⟨zt4 (List.mem_of_getElem? (i := 96) (rfl : tables_1_4[96]? = some (Cond.code yX2_isCut cX2_isCut 2 (some .boolean)))), zt1 (List.mem_of_getElem? (i := 11) (rfl : tables_1_1[11]? = some (Cond.initialized RX2))), ⟨by decide, by decide⟩, by decide⟩
theorem naX2_isCut : zinv mX2_isCut 1 := by unfold zinv; decide +kernel
theorem imX2_isCut : Cond.instanceMethod yX2_isCut ∈ lw_tbl := zt4 (List.mem_of_getElem? (i := 94) (rfl : tables_1_4[94]? = some (Cond.instanceMethod yX2_isCut)))
theorem seX2_isCut : Cond.selects RX2 yX2_isCut yX2_isCut ∈ lw_tbl := zt4 (List.mem_of_getElem? (i := 95) (rfl : tables_1_4[95]? = some (Cond.selects RX2 yX2_isCut yX2_isCut)))
abbrev mX2_addLoad : zY := (yX2_addLoad, cX2_addLoad, 2, none)
theorem cdX2_addLoad : zcode mX2_addLoad := ⟨zt4 (List.mem_of_getElem? (i := 51) (rfl : tables_1_4[51]? = some (Cond.code yX2_addLoad cX2_addLoad 2 none))), zt1 (List.mem_of_getElem? (i := 11) (rfl : tables_1_1[11]? = some (Cond.initialized RX2))), ⟨by decide, by decide⟩, by decide⟩
theorem naX2_addLoad : zinv mX2_addLoad 1 := by unfold zinv; decide +kernel
theorem imX2_addLoad : Cond.instanceMethod yX2_addLoad ∈ lw_tbl := zt4 (List.mem_of_getElem? (i := 49) (rfl : tables_1_4[49]? = some (Cond.instanceMethod yX2_addLoad)))
theorem seX2_addLoad : Cond.selects RX2 yX2_addLoad yX2_addLoad ∈ lw_tbl := zt4 (List.mem_of_getElem? (i := 50) (rfl : tables_1_4[50]? = some (Cond.selects RX2 yX2_addLoad yX2_addLoad)))
abbrev mX2_between : zY := (yX2_between, cX2_between, 6, (some .int))
theorem cdX2_between : zcode mX2_between := ⟨zt5 (List.mem_of_getElem? (i := 8) (rfl : tables_1_5[8]? = some (Cond.code yX2_between cX2_between 6 (some .int)))), zt1 (List.mem_of_getElem? (i := 11) (rfl : tables_1_1[11]? = some (Cond.initialized RX2))), ⟨by decide, by decide⟩, by decide⟩
theorem naX2_between : zinv mX2_between 2 := by unfold zinv; decide +kernel
theorem imX2_between : Cond.instanceMethod yX2_between ∈ lw_tbl := zt5 (List.mem_of_getElem? (i := 6) (rfl : tables_1_5[6]? = some (Cond.instanceMethod yX2_between)))
theorem seX2_between : Cond.selects RX2 yX2_between yX2_between ∈ lw_tbl := zt5 (List.mem_of_getElem? (i := 7) (rfl : tables_1_5[7]? = some (Cond.selects RX2 yX2_between yX2_between)))
abbrev mX2_joined : zY := (yX2_joined, cX2_joined, 8, (some .int))
theorem cdX2_joined : zcode mX2_joined := ⟨zt4 (List.mem_of_getElem? (i := 101) (rfl : tables_1_4[101]? = some (Cond.code yX2_joined cX2_joined 8 (some .int)))), zt1 (List.mem_of_getElem? (i := 11) (rfl : tables_1_1[11]? = some (Cond.initialized RX2))), ⟨by decide, by decide⟩, by decide⟩
theorem naX2_joined : zinv mX2_joined 2 := by unfold zinv; decide +kernel
theorem imX2_joined : Cond.instanceMethod yX2_joined ∈ lw_tbl := zt4 (List.mem_of_getElem? (i := 100) (rfl : tables_1_4[100]? = some (Cond.instanceMethod yX2_joined)))
theorem seX2_joined : Cond.selects RX2 yX2_joined yX2_joined ∈ lw_tbl := List.mem_of_getElem? (i := 22) (by decide +kernel : lw_tbl[22]? = some (Cond.selects RX2 yX2_joined yX2_joined))
abbrev mX2_bridges : zY := (yX2_bridges, cX2_bridges, 3, (some .int))
theorem cdX2_bridges : zcode mX2_bridges := ⟨zt4 (List.mem_of_getElem? (i := 92) (rfl : tables_1_4[92]? = some (Cond.code yX2_bridges cX2_bridges 3 (some .int)))), zt1 (List.mem_of_getElem? (i := 11) (rfl : tables_1_1[11]? = some (Cond.initialized RX2))), ⟨by decide, by decide⟩, by decide⟩
theorem naX2_bridges : zinv mX2_bridges 0 := by unfold zinv; decide +kernel
theorem imX2_bridges : Cond.instanceMethod yX2_bridges ∈ lw_tbl := zt4 (List.mem_of_getElem? (i := 90) (rfl : tables_1_4[90]? = some (Cond.instanceMethod yX2_bridges)))
theorem seX2_bridges : Cond.selects RX2 yX2_bridges yX2_bridges ∈ lw_tbl := zt4 (List.mem_of_getElem? (i := 91) (rfl : tables_1_4[91]? = some (Cond.selects RX2 yX2_bridges yX2_bridges)))
abbrev mX2_fewestAround : zY := (yX2_fewestAround, cX2_fewestAround, 7, (some .int))
theorem cdX2_fewestAround : zcode mX2_fewestAround := ⟨zt6 (List.mem_of_getElem? (i := 225) (rfl : tables_1_6[225]? = some (Cond.code yX2_fewestAround cX2_fewestAround 7 (some .int)))), zt1 (List.mem_of_getElem? (i := 11) (rfl : tables_1_1[11]? = some (Cond.initialized RX2))), ⟨by decide, by decide⟩, by decide⟩
theorem naX2_fewestAround : zinv mX2_fewestAround 2 := by unfold zinv; decide +kernel
theorem imX2_fewestAround : Cond.instanceMethod yX2_fewestAround ∈ lw_tbl := zt6 (List.mem_of_getElem? (i := 223) (rfl : tables_1_6[223]? = some (Cond.instanceMethod yX2_fewestAround)))
theorem seX2_fewestAround : Cond.selects RX2 yX2_fewestAround yX2_fewestAround ∈ lw_tbl := zt6 (List.mem_of_getElem? (i := 224) (rfl : tables_1_6[224]? = some (Cond.selects RX2 yX2_fewestAround yX2_fewestAround)))
abbrev mX3_init : zY := (yX3_init, cX3_init, 1, none)
theorem cdX3_init : zcode mX3_init := ⟨zt2 (List.mem_of_getElem? (i := 202) (rfl : tables_1_2[202]? = some (Cond.code yX3_init cX3_init 1 none))), zt1 (List.mem_of_getElem? (i := 14) (rfl : tables_1_1[14]? = some (Cond.initialized RX3))), ⟨by decide, by decide⟩, by decide⟩
theorem naX3_init : zinv mX3_init 0 := by unfold zinv; decide +kernel
theorem imX3_init : Cond.instanceMethod yX3_init ∈ lw_tbl := zt2 (List.mem_of_getElem? (i := 201) (rfl : tables_1_2[201]? = some (Cond.instanceMethod yX3_init)))
abbrev mX3_copy : zY := (yX3_copy, cX3_copy, 2, none)
theorem cdX3_copy : zcode mX3_copy := ⟨zt3 (List.mem_of_getElem? (i := 133) (rfl : tables_1_3[133]? = some (Cond.code yX3_copy cX3_copy 2 none))), zt1 (List.mem_of_getElem? (i := 14) (rfl : tables_1_1[14]? = some (Cond.initialized RX3))), ⟨by decide, by decide⟩, by decide⟩
theorem naX3_copy : zinv mX3_copy 1 := by unfold zinv; decide +kernel
theorem imX3_copy : Cond.instanceMethod yX3_copy ∈ lw_tbl := zt3 (List.mem_of_getElem? (i := 131) (rfl : tables_1_3[131]? = some (Cond.instanceMethod yX3_copy)))
theorem seX3_copy : Cond.selects RX3 yX3_copy yX3_copy ∈ lw_tbl := zt3 (List.mem_of_getElem? (i := 132) (rfl : tables_1_3[132]? = some (Cond.selects RX3 yX3_copy yX3_copy)))
abbrev mX3_put : zY := (yX3_put, cX3_put, 5, none)
theorem cdX3_put : zcode mX3_put := ⟨zt3 (List.mem_of_getElem? (i := 191) (rfl : tables_1_3[191]? = some (Cond.code yX3_put cX3_put 5 none))), zt1 (List.mem_of_getElem? (i := 14) (rfl : tables_1_1[14]? = some (Cond.initialized RX3))), ⟨by decide, by decide⟩, by decide⟩
theorem naX3_put : zinv mX3_put 4 := by unfold zinv; decide +kernel
theorem imX3_put : Cond.instanceMethod yX3_put ∈ lw_tbl := zt3 (List.mem_of_getElem? (i := 189) (rfl : tables_1_3[189]? = some (Cond.instanceMethod yX3_put)))
theorem seX3_put : Cond.selects RX3 yX3_put yX3_put ∈ lw_tbl := zt3 (List.mem_of_getElem? (i := 190) (rfl : tables_1_3[190]? = some (Cond.selects RX3 yX3_put yX3_put)))
abbrev mX3_told : zY := (yX3_told, cX3_told, 3, (some .int))
theorem cdX3_told : zcode mX3_told := ⟨zt7 (List.mem_of_getElem? (i := 36) (rfl : tables_1_7[36]? = some (Cond.code yX3_told cX3_told 3 (some .int)))), zt1 (List.mem_of_getElem? (i := 14) (rfl : tables_1_1[14]? = some (Cond.initialized RX3))), ⟨by decide, by decide⟩, by decide⟩
theorem naX3_told : zinv mX3_told 2 := by unfold zinv; decide +kernel
theorem imX3_told : Cond.instanceMethod yX3_told ∈ lw_tbl := zt7 (List.mem_of_getElem? (i := 34) (rfl : tables_1_7[34]? = some (Cond.instanceMethod yX3_told)))
theorem seX3_told : Cond.selects RX3 yX3_told yX3_told ∈ lw_tbl := zt7 (List.mem_of_getElem? (i := 35) (rfl : tables_1_7[35]? = some (Cond.selects RX3 yX3_told yX3_told)))
abbrev mX4_init : zY := (yX4_init, cX4_init, 1, none)
theorem cdX4_init : zcode mX4_init := ⟨zt1 (List.mem_of_getElem? (i := 152) (rfl : tables_1_1[152]? = some (Cond.code yX4_init cX4_init 1 none))), zt1 (List.mem_of_getElem? (i := 7) (rfl : tables_1_1[7]? = some (Cond.initialized RX4))), ⟨by decide, by decide⟩, by decide⟩
theorem naX4_init : zinv mX4_init 0 := by unfold zinv; decide +kernel
theorem imX4_init : Cond.instanceMethod yX4_init ∈ lw_tbl := zt1 (List.mem_of_getElem? (i := 151) (rfl : tables_1_1[151]? = some (Cond.instanceMethod yX4_init)))
abbrev mX4_copy : zY := (yX4_copy, cX4_copy, 2, none)
theorem cdX4_copy : zcode mX4_copy := ⟨zt3 (List.mem_of_getElem? (i := 100) (rfl : tables_1_3[100]? = some (Cond.code yX4_copy cX4_copy 2 none))), zt1 (List.mem_of_getElem? (i := 7) (rfl : tables_1_1[7]? = some (Cond.initialized RX4))), ⟨by decide, by decide⟩, by decide⟩
theorem naX4_copy : zinv mX4_copy 1 := by unfold zinv; decide +kernel
theorem imX4_copy : Cond.instanceMethod yX4_copy ∈ lw_tbl := zt3 (List.mem_of_getElem? (i := 98) (rfl : tables_1_3[98]? = some (Cond.instanceMethod yX4_copy)))
theorem seX4_copy : Cond.selects RX4 yX4_copy yX4_copy ∈ lw_tbl := zt3 (List.mem_of_getElem? (i := 99) (rfl : tables_1_3[99]? = some (Cond.selects RX4 yX4_copy yX4_copy)))
abbrev mX4_add : zY := (yX4_add, cX4_add, 4, none)
theorem cdX4_add : zcode mX4_add := ⟨zt4 (List.mem_of_getElem? (i := 232) (rfl : tables_1_4[232]? = some (Cond.code yX4_add cX4_add 4 none))), zt1 (List.mem_of_getElem? (i := 7) (rfl : tables_1_1[7]? = some (Cond.initialized RX4))), ⟨by decide, by decide⟩, by decide⟩
theorem naX4_add : zinv mX4_add 3 := by unfold zinv; decide +kernel
theorem imX4_add : Cond.instanceMethod yX4_add ∈ lw_tbl := zt4 (List.mem_of_getElem? (i := 230) (rfl : tables_1_4[230]? = some (Cond.instanceMethod yX4_add)))
theorem seX4_add : Cond.selects RX4 yX4_add yX4_add ∈ lw_tbl := zt4 (List.mem_of_getElem? (i := 231) (rfl : tables_1_4[231]? = some (Cond.selects RX4 yX4_add yX4_add)))
abbrev mX4_isUp : zY := (yX4_isUp, cX4_isUp, 2, (some .boolean))
theorem cdX4_isUp : zcode mX4_isUp := ⟨zt3 (List.mem_of_getElem? (i := 145) (rfl : tables_1_3[145]? = some (Cond.code yX4_isUp cX4_isUp 2 (some .boolean)))), zt1 (List.mem_of_getElem? (i := 7) (rfl : tables_1_1[7]? = some (Cond.initialized RX4))), ⟨by decide, by decide⟩, by decide⟩
theorem naX4_isUp : zinv mX4_isUp 1 := by unfold zinv; decide +kernel
theorem imX4_isUp : Cond.instanceMethod yX4_isUp ∈ lw_tbl := zt3 (List.mem_of_getElem? (i := 143) (rfl : tables_1_3[143]? = some (Cond.instanceMethod yX4_isUp)))
theorem seX4_isUp : Cond.selects RX4 yX4_isUp yX4_isUp ∈ lw_tbl := zt3 (List.mem_of_getElem? (i := 144) (rfl : tables_1_3[144]? = some (Cond.selects RX4 yX4_isUp yX4_isUp)))
abbrev mX4_hasPacket : zY := (yX4_hasPacket, cX4_hasPacket, 3, (some .boolean))
theorem cdX4_hasPacket : zcode mX4_hasPacket := ⟨zt3 (List.mem_of_getElem? (i := 160) (rfl : tables_1_3[160]? = some (Cond.code yX4_hasPacket cX4_hasPacket 3 (some .boolean)))), zt1 (List.mem_of_getElem? (i := 7) (rfl : tables_1_1[7]? = some (Cond.initialized RX4))), ⟨by decide, by decide⟩, by decide⟩
theorem naX4_hasPacket : zinv mX4_hasPacket 2 := by unfold zinv; decide +kernel
theorem imX4_hasPacket : Cond.instanceMethod yX4_hasPacket ∈ lw_tbl := zt3 (List.mem_of_getElem? (i := 158) (rfl : tables_1_3[158]? = some (Cond.instanceMethod yX4_hasPacket)))
theorem seX4_hasPacket : Cond.selects RX4 yX4_hasPacket yX4_hasPacket ∈ lw_tbl := zt3 (List.mem_of_getElem? (i := 159) (rfl : tables_1_3[159]? = some (Cond.selects RX4 yX4_hasPacket yX4_hasPacket)))
abbrev mX4_missing : zY := (yX4_missing, cX4_missing, 2, (some .int))
theorem cdX4_missing : zcode mX4_missing := ⟨zt3 (List.mem_of_getElem? (i := 221) (rfl : tables_1_3[221]? = some (Cond.code yX4_missing cX4_missing 2 (some .int)))), zt1 (List.mem_of_getElem? (i := 7) (rfl : tables_1_1[7]? = some (Cond.initialized RX4))), ⟨by decide, by decide⟩, by decide⟩
theorem naX4_missing : zinv mX4_missing 1 := by unfold zinv; decide +kernel
theorem imX4_missing : Cond.instanceMethod yX4_missing ∈ lw_tbl := zt3 (List.mem_of_getElem? (i := 219) (rfl : tables_1_3[219]? = some (Cond.instanceMethod yX4_missing)))
theorem seX4_missing : Cond.selects RX4 yX4_missing yX4_missing ∈ lw_tbl := zt3 (List.mem_of_getElem? (i := 220) (rfl : tables_1_3[220]? = some (Cond.selects RX4 yX4_missing yX4_missing)))
abbrev mX4_holdersOf : zY := (yX4_holdersOf, cX4_holdersOf, 4, (some .int))
theorem cdX4_holdersOf : zcode mX4_holdersOf := ⟨zt6 (List.mem_of_getElem? (i := 117) (rfl : tables_1_6[117]? = some (Cond.code yX4_holdersOf cX4_holdersOf 4 (some .int)))), zt1 (List.mem_of_getElem? (i := 7) (rfl : tables_1_1[7]? = some (Cond.initialized RX4))), ⟨by decide, by decide⟩, by decide⟩
theorem naX4_holdersOf : zinv mX4_holdersOf 1 := by unfold zinv; decide +kernel
theorem imX4_holdersOf : Cond.instanceMethod yX4_holdersOf ∈ lw_tbl := zt6 (List.mem_of_getElem? (i := 115) (rfl : tables_1_6[115]? = some (Cond.instanceMethod yX4_holdersOf)))
theorem seX4_holdersOf : Cond.selects RX4 yX4_holdersOf yX4_holdersOf ∈ lw_tbl := zt6 (List.mem_of_getElem? (i := 116) (rfl : tables_1_6[116]? = some (Cond.selects RX4 yX4_holdersOf yX4_holdersOf)))
abbrev mX4_allRequests : zY := (yX4_allRequests, cX4_allRequests, 1, (some .int))
theorem cdX4_allRequests : zcode mX4_allRequests := ⟨zt6 (List.mem_of_getElem? (i := 166) (rfl : tables_1_6[166]? = some (Cond.code yX4_allRequests cX4_allRequests 1 (some .int)))), zt1 (List.mem_of_getElem? (i := 7) (rfl : tables_1_1[7]? = some (Cond.initialized RX4))), ⟨by decide, by decide⟩, by decide⟩
theorem naX4_allRequests : zinv mX4_allRequests 0 := by unfold zinv; decide +kernel
theorem imX4_allRequests : Cond.instanceMethod yX4_allRequests ∈ lw_tbl := zt6 (List.mem_of_getElem? (i := 164) (rfl : tables_1_6[164]? = some (Cond.instanceMethod yX4_allRequests)))
theorem seX4_allRequests : Cond.selects RX4 yX4_allRequests yX4_allRequests ∈ lw_tbl := zt6 (List.mem_of_getElem? (i := 165) (rfl : tables_1_6[165]? = some (Cond.selects RX4 yX4_allRequests yX4_allRequests)))
abbrev mX4_allRepairs : zY := (yX4_allRepairs, cX4_allRepairs, 1, (some .int))
theorem cdX4_allRepairs : zcode mX4_allRepairs := ⟨zt6 (List.mem_of_getElem? (i := 158) (rfl : tables_1_6[158]? = some (Cond.code yX4_allRepairs cX4_allRepairs 1 (some .int)))), zt1 (List.mem_of_getElem? (i := 7) (rfl : tables_1_1[7]? = some (Cond.initialized RX4))), ⟨by decide, by decide⟩, by decide⟩
theorem naX4_allRepairs : zinv mX4_allRepairs 0 := by unfold zinv; decide +kernel
theorem imX4_allRepairs : Cond.instanceMethod yX4_allRepairs ∈ lw_tbl := zt6 (List.mem_of_getElem? (i := 156) (rfl : tables_1_6[156]? = some (Cond.instanceMethod yX4_allRepairs)))
theorem seX4_allRepairs : Cond.selects RX4 yX4_allRepairs yX4_allRepairs ∈ lw_tbl := zt6 (List.mem_of_getElem? (i := 157) (rfl : tables_1_6[157]? = some (Cond.selects RX4 yX4_allRepairs yX4_allRepairs)))
abbrev mX4_sum : zY := (yX4_sum, cX4_sum, 4, (some .int))
theorem cdX4_sum : zcode mX4_sum := ⟨zt6 (List.mem_of_getElem? (i := 162) (rfl : tables_1_6[162]? = some (Cond.code yX4_sum cX4_sum 4 (some .int)))), zt1 (List.mem_of_getElem? (i := 7) (rfl : tables_1_1[7]? = some (Cond.initialized RX4))), ⟨by decide, by decide⟩, by decide⟩
theorem naX4_sum : zinv mX4_sum 1 := by unfold zinv; decide +kernel
theorem imX4_sum : Cond.instanceMethod yX4_sum ∈ lw_tbl := zt6 (List.mem_of_getElem? (i := 161) (rfl : tables_1_6[161]? = some (Cond.instanceMethod yX4_sum)))
theorem seX4_sum : Cond.selects RX4 yX4_sum yX4_sum ∈ lw_tbl := List.mem_of_getElem? (i := 43) (by decide +kernel : lw_tbl[43]? = some (Cond.selects RX4 yX4_sum yX4_sum))
abbrev mX4_adapt : zY := (yX4_adapt, cX4_adapt, 3, none)
theorem cdX4_adapt : zcode mX4_adapt := ⟨zt3 (List.mem_of_getElem? (i := 196) (rfl : tables_1_3[196]? = some (Cond.code yX4_adapt cX4_adapt 3 none))), zt1 (List.mem_of_getElem? (i := 7) (rfl : tables_1_1[7]? = some (Cond.initialized RX4))), ⟨by decide, by decide⟩, by decide⟩
theorem naX4_adapt : zinv mX4_adapt 2 := by unfold zinv; decide +kernel
theorem imX4_adapt : Cond.instanceMethod yX4_adapt ∈ lw_tbl := zt3 (List.mem_of_getElem? (i := 194) (rfl : tables_1_3[194]? = some (Cond.instanceMethod yX4_adapt)))
theorem seX4_adapt : Cond.selects RX4 yX4_adapt yX4_adapt ∈ lw_tbl := zt3 (List.mem_of_getElem? (i := 195) (rfl : tables_1_3[195]? = some (Cond.selects RX4 yX4_adapt yX4_adapt)))
abbrev mX5_init : zY := (yX5_init, cX5_init, 1, none)
theorem cdX5_init : zcode mX5_init := ⟨zt1 (List.mem_of_getElem? (i := 239) (rfl : tables_1_1[239]? = some (Cond.code yX5_init cX5_init 1 none))), zt1 (List.mem_of_getElem? (i := 10) (rfl : tables_1_1[10]? = some (Cond.initialized RX5))), ⟨by decide, by decide⟩, by decide⟩
theorem naX5_init : zinv mX5_init 0 := by unfold zinv; decide +kernel
theorem imX5_init : Cond.instanceMethod yX5_init ∈ lw_tbl := zt1 (List.mem_of_getElem? (i := 238) (rfl : tables_1_1[238]? = some (Cond.instanceMethod yX5_init)))
abbrev mX5_copy : zY := (yX5_copy, cX5_copy, 2, none)
theorem cdX5_copy : zcode mX5_copy := ⟨zt3 (List.mem_of_getElem? (i := 113) (rfl : tables_1_3[113]? = some (Cond.code yX5_copy cX5_copy 2 none))), zt1 (List.mem_of_getElem? (i := 10) (rfl : tables_1_1[10]? = some (Cond.initialized RX5))), ⟨by decide, by decide⟩, by decide⟩
theorem naX5_copy : zinv mX5_copy 1 := by unfold zinv; decide +kernel
theorem imX5_copy : Cond.instanceMethod yX5_copy ∈ lw_tbl := zt3 (List.mem_of_getElem? (i := 111) (rfl : tables_1_3[111]? = some (Cond.instanceMethod yX5_copy)))
theorem seX5_copy : Cond.selects RX5 yX5_copy yX5_copy ∈ lw_tbl := zt3 (List.mem_of_getElem? (i := 112) (rfl : tables_1_3[112]? = some (Cond.selects RX5 yX5_copy yX5_copy)))
abbrev mX5_setGap : zY := (yX5_setGap, cX5_setGap, 3, none)
theorem cdX5_setGap : zcode mX5_setGap := ⟨zt3 (List.mem_of_getElem? (i := 167) (rfl : tables_1_3[167]? = some (Cond.code yX5_setGap cX5_setGap 3 none))), zt1 (List.mem_of_getElem? (i := 10) (rfl : tables_1_1[10]? = some (Cond.initialized RX5))), ⟨by decide, by decide⟩, by decide⟩
theorem naX5_setGap : zinv mX5_setGap 2 := by unfold zinv; decide +kernel
theorem imX5_setGap : Cond.instanceMethod yX5_setGap ∈ lw_tbl := zt3 (List.mem_of_getElem? (i := 165) (rfl : tables_1_3[165]? = some (Cond.instanceMethod yX5_setGap)))
theorem seX5_setGap : Cond.selects RX5 yX5_setGap yX5_setGap ∈ lw_tbl := zt3 (List.mem_of_getElem? (i := 166) (rfl : tables_1_3[166]? = some (Cond.selects RX5 yX5_setGap yX5_setGap)))
abbrev mX5_setGapBehind : zY := (yX5_setGapBehind, cX5_setGapBehind, 3, none)
theorem cdX5_setGapBehind : zcode mX5_setGapBehind := ⟨zt4 (List.mem_of_getElem? (i := 68) (rfl : tables_1_4[68]? = some (Cond.code yX5_setGapBehind cX5_setGapBehind 3 none))), zt1 (List.mem_of_getElem? (i := 10) (rfl : tables_1_1[10]? = some (Cond.initialized RX5))), ⟨by decide, by decide⟩, by decide⟩
theorem naX5_setGapBehind : zinv mX5_setGapBehind 2 := by unfold zinv; decide +kernel
theorem imX5_setGapBehind : Cond.instanceMethod yX5_setGapBehind ∈ lw_tbl := zt4 (List.mem_of_getElem? (i := 66) (rfl : tables_1_4[66]? = some (Cond.instanceMethod yX5_setGapBehind)))
theorem seX5_setGapBehind : Cond.selects RX5 yX5_setGapBehind yX5_setGapBehind ∈ lw_tbl := zt4 (List.mem_of_getElem? (i := 67) (rfl : tables_1_4[67]? = some (Cond.selects RX5 yX5_setGapBehind yX5_setGapBehind)))
abbrev mX5_gapBehind : zY := (yX5_gapBehind, cX5_gapBehind, 3, (some .int))
theorem cdX5_gapBehind : zcode mX5_gapBehind := ⟨zt5 (List.mem_of_getElem? (i := 225) (rfl : tables_1_5[225]? = some (Cond.code yX5_gapBehind cX5_gapBehind 3 (some .int)))), zt1 (List.mem_of_getElem? (i := 10) (rfl : tables_1_1[10]? = some (Cond.initialized RX5))), ⟨by decide, by decide⟩, by decide⟩
theorem naX5_gapBehind : zinv mX5_gapBehind 2 := by unfold zinv; decide +kernel
theorem imX5_gapBehind : Cond.instanceMethod yX5_gapBehind ∈ lw_tbl := zt5 (List.mem_of_getElem? (i := 223) (rfl : tables_1_5[223]? = some (Cond.instanceMethod yX5_gapBehind)))
theorem seX5_gapBehind : Cond.selects RX5 yX5_gapBehind yX5_gapBehind ∈ lw_tbl := zt5 (List.mem_of_getElem? (i := 224) (rfl : tables_1_5[224]? = some (Cond.selects RX5 yX5_gapBehind yX5_gapBehind)))
abbrev mX5_beginAsk : zY := (yX5_beginAsk, cX5_beginAsk, 2, none)
theorem cdX5_beginAsk : zcode mX5_beginAsk := ⟨zt3 (List.mem_of_getElem? (i := 227) (rfl : tables_1_3[227]? = some (Cond.code yX5_beginAsk cX5_beginAsk 2 none))), zt1 (List.mem_of_getElem? (i := 10) (rfl : tables_1_1[10]? = some (Cond.initialized RX5))), ⟨by decide, by decide⟩, by decide⟩
theorem naX5_beginAsk : zinv mX5_beginAsk 1 := by unfold zinv; decide +kernel
theorem imX5_beginAsk : Cond.instanceMethod yX5_beginAsk ∈ lw_tbl := zt3 (List.mem_of_getElem? (i := 225) (rfl : tables_1_3[225]? = some (Cond.instanceMethod yX5_beginAsk)))
theorem seX5_beginAsk : Cond.selects RX5 yX5_beginAsk yX5_beginAsk ∈ lw_tbl := zt3 (List.mem_of_getElem? (i := 226) (rfl : tables_1_3[226]? = some (Cond.selects RX5 yX5_beginAsk yX5_beginAsk)))
abbrev mX5_backOff : zY := (yX5_backOff, cX5_backOff, 2, none)
theorem cdX5_backOff : zcode mX5_backOff := ⟨zt4 (List.mem_of_getElem? (i := 21) (rfl : tables_1_4[21]? = some (Cond.code yX5_backOff cX5_backOff 2 none))), zt1 (List.mem_of_getElem? (i := 10) (rfl : tables_1_1[10]? = some (Cond.initialized RX5))), ⟨by decide, by decide⟩, by decide⟩
theorem naX5_backOff : zinv mX5_backOff 1 := by unfold zinv; decide +kernel
theorem imX5_backOff : Cond.instanceMethod yX5_backOff ∈ lw_tbl := zt4 (List.mem_of_getElem? (i := 19) (rfl : tables_1_4[19]? = some (Cond.instanceMethod yX5_backOff)))
theorem seX5_backOff : Cond.selects RX5 yX5_backOff yX5_backOff ∈ lw_tbl := zt4 (List.mem_of_getElem? (i := 20) (rfl : tables_1_4[20]? = some (Cond.selects RX5 yX5_backOff yX5_backOff)))
abbrev mX5_beginAnswer : zY := (yX5_beginAnswer, cX5_beginAnswer, 5, none)
theorem cdX5_beginAnswer : zcode mX5_beginAnswer := ⟨zt3 (List.mem_of_getElem? (i := 209) (rfl : tables_1_3[209]? = some (Cond.code yX5_beginAnswer cX5_beginAnswer 5 none))), zt1 (List.mem_of_getElem? (i := 10) (rfl : tables_1_1[10]? = some (Cond.initialized RX5))), ⟨by decide, by decide⟩, by decide⟩
theorem naX5_beginAnswer : zinv mX5_beginAnswer 4 := by unfold zinv; decide +kernel
theorem imX5_beginAnswer : Cond.instanceMethod yX5_beginAnswer ∈ lw_tbl := zt3 (List.mem_of_getElem? (i := 207) (rfl : tables_1_3[207]? = some (Cond.instanceMethod yX5_beginAnswer)))
theorem seX5_beginAnswer : Cond.selects RX5 yX5_beginAnswer yX5_beginAnswer ∈ lw_tbl := zt3 (List.mem_of_getElem? (i := 208) (rfl : tables_1_3[208]? = some (Cond.selects RX5 yX5_beginAnswer yX5_beginAnswer)))
abbrev mX5_dropAnswer : zY := (yX5_dropAnswer, cX5_dropAnswer, 2, none)
theorem cdX5_dropAnswer : zcode mX5_dropAnswer := ⟨zt3 (List.mem_of_getElem? (i := 205) (rfl : tables_1_3[205]? = some (Cond.code yX5_dropAnswer cX5_dropAnswer 2 none))), zt1 (List.mem_of_getElem? (i := 10) (rfl : tables_1_1[10]? = some (Cond.initialized RX5))), ⟨by decide, by decide⟩, by decide⟩
theorem naX5_dropAnswer : zinv mX5_dropAnswer 1 := by unfold zinv; decide +kernel
theorem imX5_dropAnswer : Cond.instanceMethod yX5_dropAnswer ∈ lw_tbl := zt3 (List.mem_of_getElem? (i := 203) (rfl : tables_1_3[203]? = some (Cond.instanceMethod yX5_dropAnswer)))
theorem seX5_dropAnswer : Cond.selects RX5 yX5_dropAnswer yX5_dropAnswer ∈ lw_tbl := zt3 (List.mem_of_getElem? (i := 204) (rfl : tables_1_3[204]? = some (Cond.selects RX5 yX5_dropAnswer yX5_dropAnswer)))
abbrev mX5_setGiver : zY := (yX5_setGiver, cX5_setGiver, 4, none)
theorem cdX5_setGiver : zcode mX5_setGiver := ⟨zt3 (List.mem_of_getElem? (i := 187) (rfl : tables_1_3[187]? = some (Cond.code yX5_setGiver cX5_setGiver 4 none))), zt1 (List.mem_of_getElem? (i := 10) (rfl : tables_1_1[10]? = some (Cond.initialized RX5))), ⟨by decide, by decide⟩, by decide⟩
theorem naX5_setGiver : zinv mX5_setGiver 3 := by unfold zinv; decide +kernel
theorem imX5_setGiver : Cond.instanceMethod yX5_setGiver ∈ lw_tbl := zt3 (List.mem_of_getElem? (i := 185) (rfl : tables_1_3[185]? = some (Cond.instanceMethod yX5_setGiver)))
theorem seX5_setGiver : Cond.selects RX5 yX5_setGiver yX5_setGiver ∈ lw_tbl := zt3 (List.mem_of_getElem? (i := 186) (rfl : tables_1_3[186]? = some (Cond.selects RX5 yX5_setGiver yX5_setGiver)))
abbrev mX6_init : zY := (yX6_init, cX6_init, 2, none)
theorem cdX6_init : zcode mX6_init := ⟨zt1 (List.mem_of_getElem? (i := 58) (rfl : tables_1_1[58]? = some (Cond.code yX6_init cX6_init 2 none))), zt1 (List.mem_of_getElem? (i := 3) (rfl : tables_1_1[3]? = some (Cond.initialized RX6))), ⟨by decide, by decide⟩, by decide⟩
theorem naX6_init : zinv mX6_init 1 := by unfold zinv; decide +kernel
theorem imX6_init : Cond.instanceMethod yX6_init ∈ lw_tbl := zt1 (List.mem_of_getElem? (i := 57) (rfl : tables_1_1[57]? = some (Cond.instanceMethod yX6_init)))
abbrev mX6_read : zY := (yX6_read, cX6_read, 3, (some .int))
theorem cdX6_read : zcode mX6_read := ⟨zt4 (List.mem_of_getElem? (i := 143) (rfl : tables_1_4[143]? = some (Cond.code yX6_read cX6_read 3 (some .int)))), zt1 (List.mem_of_getElem? (i := 3) (rfl : tables_1_1[3]? = some (Cond.initialized RX6))), ⟨by decide, by decide⟩, by decide⟩
theorem naX6_read : zinv mX6_read 1 := by unfold zinv; decide +kernel
theorem imX6_read : Cond.instanceMethod yX6_read ∈ lw_tbl := zt4 (List.mem_of_getElem? (i := 141) (rfl : tables_1_4[141]? = some (Cond.instanceMethod yX6_read)))
theorem seX6_read : Cond.selects RX6 yX6_read yX6_read ∈ lw_tbl := zt4 (List.mem_of_getElem? (i := 142) (rfl : tables_1_4[142]? = some (Cond.selects RX6 yX6_read yX6_read)))
abbrev mX6_readLine : zY := (yX6_readLine, cX6_readLine, 2, (some .boolean))
theorem cdX6_readLine : zcode mX6_readLine := ⟨zt4 (List.mem_of_getElem? (i := 155) (rfl : tables_1_4[155]? = some (Cond.code yX6_readLine cX6_readLine 2 (some .boolean)))), zt1 (List.mem_of_getElem? (i := 3) (rfl : tables_1_1[3]? = some (Cond.initialized RX6))), ⟨by decide, by decide⟩, by decide⟩
theorem naX6_readLine : zinv mX6_readLine 1 := by unfold zinv; decide +kernel
theorem imX6_readLine : Cond.instanceMethod yX6_readLine ∈ lw_tbl := zt4 (List.mem_of_getElem? (i := 154) (rfl : tables_1_4[154]? = some (Cond.instanceMethod yX6_readLine)))
theorem seX6_readLine : Cond.selects RX6 yX6_readLine yX6_readLine ∈ lw_tbl := List.mem_of_getElem? (i := 25) (by decide +kernel : lw_tbl[25]? = some (Cond.selects RX6 yX6_readLine yX6_readLine))
abbrev mX6_readNode : zY := (yX6_readNode, cX6_readNode, 3, (some .boolean))
theorem cdX6_readNode : zcode mX6_readNode := ⟨zt4 (List.mem_of_getElem? (i := 219) (rfl : tables_1_4[219]? = some (Cond.code yX6_readNode cX6_readNode 3 (some .boolean)))), zt1 (List.mem_of_getElem? (i := 3) (rfl : tables_1_1[3]? = some (Cond.initialized RX6))), ⟨by decide, by decide⟩, by decide⟩
theorem naX6_readNode : zinv mX6_readNode 1 := by unfold zinv; decide +kernel
theorem imX6_readNode : Cond.instanceMethod yX6_readNode ∈ lw_tbl := zt4 (List.mem_of_getElem? (i := 218) (rfl : tables_1_4[218]? = some (Cond.instanceMethod yX6_readNode)))
theorem seX6_readNode : Cond.selects RX6 yX6_readNode yX6_readNode ∈ lw_tbl := List.mem_of_getElem? (i := 28) (by decide +kernel : lw_tbl[28]? = some (Cond.selects RX6 yX6_readNode yX6_readNode))
abbrev mX6_readLink : zY := (yX6_readLink, cX6_readLink, 7, (some .boolean))
theorem cdX6_readLink : zcode mX6_readLink := ⟨zt4 (List.mem_of_getElem? (i := 237) (rfl : tables_1_4[237]? = some (Cond.code yX6_readLink cX6_readLink 7 (some .boolean)))), zt1 (List.mem_of_getElem? (i := 3) (rfl : tables_1_1[3]? = some (Cond.initialized RX6))), ⟨by decide, by decide⟩, by decide⟩
theorem naX6_readLink : zinv mX6_readLink 1 := by unfold zinv; decide +kernel
theorem imX6_readLink : Cond.instanceMethod yX6_readLink ∈ lw_tbl := zt4 (List.mem_of_getElem? (i := 236) (rfl : tables_1_4[236]? = some (Cond.instanceMethod yX6_readLink)))
theorem seX6_readLink : Cond.selects RX6 yX6_readLink yX6_readLink ∈ lw_tbl := List.mem_of_getElem? (i := 31) (by decide +kernel : lw_tbl[31]? = some (Cond.selects RX6 yX6_readLink yX6_readLink))
abbrev mX6_readRequest : zY := (yX6_readRequest, cX6_readRequest, 4, (some .boolean))
theorem cdX6_readRequest : zcode mX6_readRequest := ⟨zt5 (List.mem_of_getElem? (i := 19) (rfl : tables_1_5[19]? = some (Cond.code yX6_readRequest cX6_readRequest 4 (some .boolean)))), zt1 (List.mem_of_getElem? (i := 3) (rfl : tables_1_1[3]? = some (Cond.initialized RX6))), ⟨by decide, by decide⟩, by decide⟩
theorem naX6_readRequest : zinv mX6_readRequest 1 := by unfold zinv; decide +kernel
theorem imX6_readRequest : Cond.instanceMethod yX6_readRequest ∈ lw_tbl := zt5 (List.mem_of_getElem? (i := 18) (rfl : tables_1_5[18]? = some (Cond.instanceMethod yX6_readRequest)))
theorem seX6_readRequest : Cond.selects RX6 yX6_readRequest yX6_readRequest ∈ lw_tbl := List.mem_of_getElem? (i := 33) (by decide +kernel : lw_tbl[33]? = some (Cond.selects RX6 yX6_readRequest yX6_readRequest))
abbrev mX6_readRepair : zY := (yX6_readRepair, cX6_readRepair, 4, (some .boolean))
theorem cdX6_readRepair : zcode mX6_readRepair := ⟨zt5 (List.mem_of_getElem? (i := 25) (rfl : tables_1_5[25]? = some (Cond.code yX6_readRepair cX6_readRepair 4 (some .boolean)))), zt1 (List.mem_of_getElem? (i := 3) (rfl : tables_1_1[3]? = some (Cond.initialized RX6))), ⟨by decide, by decide⟩, by decide⟩
theorem naX6_readRepair : zinv mX6_readRepair 1 := by unfold zinv; decide +kernel
theorem imX6_readRepair : Cond.instanceMethod yX6_readRepair ∈ lw_tbl := zt5 (List.mem_of_getElem? (i := 24) (rfl : tables_1_5[24]? = some (Cond.instanceMethod yX6_readRepair)))
theorem seX6_readRepair : Cond.selects RX6 yX6_readRepair yX6_readRepair ∈ lw_tbl := List.mem_of_getElem? (i := 34) (by decide +kernel : lw_tbl[34]? = some (Cond.selects RX6 yX6_readRepair yX6_readRepair))
abbrev mX6_readNumber : zY := (yX6_readNumber, cX6_readNumber, 3, (some .boolean))
theorem cdX6_readNumber : zcode mX6_readNumber := ⟨zt5 (List.mem_of_getElem? (i := 29) (rfl : tables_1_5[29]? = some (Cond.code yX6_readNumber cX6_readNumber 3 (some .boolean)))), zt1 (List.mem_of_getElem? (i := 3) (rfl : tables_1_1[3]? = some (Cond.initialized RX6))), ⟨by decide, by decide⟩, by decide⟩
theorem naX6_readNumber : zinv mX6_readNumber 1 := by unfold zinv; decide +kernel
theorem imX6_readNumber : Cond.instanceMethod yX6_readNumber ∈ lw_tbl := zt5 (List.mem_of_getElem? (i := 28) (rfl : tables_1_5[28]? = some (Cond.instanceMethod yX6_readNumber)))
theorem seX6_readNumber : Cond.selects RX6 yX6_readNumber yX6_readNumber ∈ lw_tbl := List.mem_of_getElem? (i := 35) (by decide +kernel : lw_tbl[35]? = some (Cond.selects RX6 yX6_readNumber yX6_readNumber))
abbrev mX6_fail : zY := (yX6_fail, cX6_fail, 1, (some .boolean))
theorem cdX6_fail : zcode mX6_fail := ⟨zt4 (List.mem_of_getElem? (i := 223) (rfl : tables_1_4[223]? = some (Cond.code yX6_fail cX6_fail 1 (some .boolean)))), zt1 (List.mem_of_getElem? (i := 3) (rfl : tables_1_1[3]? = some (Cond.initialized RX6))), ⟨by decide, by decide⟩, by decide⟩
theorem naX6_fail : zinv mX6_fail 0 := by unfold zinv; decide +kernel
theorem imX6_fail : Cond.instanceMethod yX6_fail ∈ lw_tbl := zt4 (List.mem_of_getElem? (i := 222) (rfl : tables_1_4[222]? = some (Cond.instanceMethod yX6_fail)))
theorem seX6_fail : Cond.selects RX6 yX6_fail yX6_fail ∈ lw_tbl := List.mem_of_getElem? (i := 29) (by decide +kernel : lw_tbl[29]? = some (Cond.selects RX6 yX6_fail yX6_fail))
abbrev mX6_skipBlanks : zY := (yX6_skipBlanks, cX6_skipBlanks, 1, none)
theorem cdX6_skipBlanks : zcode mX6_skipBlanks := ⟨zt4 (List.mem_of_getElem? (i := 147) (rfl : tables_1_4[147]? = some (Cond.code yX6_skipBlanks cX6_skipBlanks 1 none))), zt1 (List.mem_of_getElem? (i := 3) (rfl : tables_1_1[3]? = some (Cond.initialized RX6))), ⟨by decide, by decide⟩, by decide⟩
theorem naX6_skipBlanks : zinv mX6_skipBlanks 0 := by unfold zinv; decide +kernel
theorem imX6_skipBlanks : Cond.instanceMethod yX6_skipBlanks ∈ lw_tbl := zt4 (List.mem_of_getElem? (i := 146) (rfl : tables_1_4[146]? = some (Cond.instanceMethod yX6_skipBlanks)))
theorem seX6_skipBlanks : Cond.selects RX6 yX6_skipBlanks yX6_skipBlanks ∈ lw_tbl := List.mem_of_getElem? (i := 24) (by decide +kernel : lw_tbl[24]? = some (Cond.selects RX6 yX6_skipBlanks yX6_skipBlanks))
abbrev mX6_takeWord : zY := (yX6_takeWord, cX6_takeWord, 1, none)
theorem cdX6_takeWord : zcode mX6_takeWord := ⟨zt4 (List.mem_of_getElem? (i := 159) (rfl : tables_1_4[159]? = some (Cond.code yX6_takeWord cX6_takeWord 1 none))), zt1 (List.mem_of_getElem? (i := 3) (rfl : tables_1_1[3]? = some (Cond.initialized RX6))), ⟨by decide, by decide⟩, by decide⟩
theorem naX6_takeWord : zinv mX6_takeWord 0 := by unfold zinv; decide +kernel
theorem imX6_takeWord : Cond.instanceMethod yX6_takeWord ∈ lw_tbl := zt4 (List.mem_of_getElem? (i := 158) (rfl : tables_1_4[158]? = some (Cond.instanceMethod yX6_takeWord)))
theorem seX6_takeWord : Cond.selects RX6 yX6_takeWord yX6_takeWord ∈ lw_tbl := List.mem_of_getElem? (i := 26) (by decide +kernel : lw_tbl[26]? = some (Cond.selects RX6 yX6_takeWord yX6_takeWord))
abbrev mX6_takeThisWord : zY := (yX6_takeThisWord, cX6_takeThisWord, 2, (some .boolean))
theorem cdX6_takeThisWord : zcode mX6_takeThisWord := ⟨zt4 (List.mem_of_getElem? (i := 228) (rfl : tables_1_4[228]? = some (Cond.code yX6_takeThisWord cX6_takeThisWord 2 (some .boolean)))), zt1 (List.mem_of_getElem? (i := 3) (rfl : tables_1_1[3]? = some (Cond.initialized RX6))), ⟨by decide, by decide⟩, by decide⟩
theorem naX6_takeThisWord : zinv mX6_takeThisWord 1 := by unfold zinv; decide +kernel
theorem imX6_takeThisWord : Cond.instanceMethod yX6_takeThisWord ∈ lw_tbl := zt4 (List.mem_of_getElem? (i := 227) (rfl : tables_1_4[227]? = some (Cond.instanceMethod yX6_takeThisWord)))
theorem seX6_takeThisWord : Cond.selects RX6 yX6_takeThisWord yX6_takeThisWord ∈ lw_tbl := List.mem_of_getElem? (i := 30) (by decide +kernel : lw_tbl[30]? = some (Cond.selects RX6 yX6_takeThisWord yX6_takeThisWord))
abbrev mX6_takeNumber : zY := (yX6_takeNumber, cX6_takeNumber, 5, (some .int))
theorem cdX6_takeNumber : zcode mX6_takeNumber := ⟨zt5 (List.mem_of_getElem? (i := 1) (rfl : tables_1_5[1]? = some (Cond.code yX6_takeNumber cX6_takeNumber 5 (some .int)))), zt1 (List.mem_of_getElem? (i := 3) (rfl : tables_1_1[3]? = some (Cond.initialized RX6))), ⟨by decide, by decide⟩, by decide⟩
theorem naX6_takeNumber : zinv mX6_takeNumber 2 := by unfold zinv; decide +kernel
theorem imX6_takeNumber : Cond.instanceMethod yX6_takeNumber ∈ lw_tbl := zt5 (List.mem_of_getElem? (i := 0) (rfl : tables_1_5[0]? = some (Cond.instanceMethod yX6_takeNumber)))
theorem seX6_takeNumber : Cond.selects RX6 yX6_takeNumber yX6_takeNumber ∈ lw_tbl := List.mem_of_getElem? (i := 32) (by decide +kernel : lw_tbl[32]? = some (Cond.selects RX6 yX6_takeNumber yX6_takeNumber))
abbrev mX6_isWord : zY := (yX6_isWord, cX6_isWord, 3, (some .boolean))
theorem cdX6_isWord : zcode mX6_isWord := ⟨zt4 (List.mem_of_getElem? (i := 167) (rfl : tables_1_4[167]? = some (Cond.code yX6_isWord cX6_isWord 3 (some .boolean)))), zt1 (List.mem_of_getElem? (i := 3) (rfl : tables_1_1[3]? = some (Cond.initialized RX6))), ⟨by decide, by decide⟩, by decide⟩
theorem naX6_isWord : zinv mX6_isWord 1 := by unfold zinv; decide +kernel
theorem imX6_isWord : Cond.instanceMethod yX6_isWord ∈ lw_tbl := zt4 (List.mem_of_getElem? (i := 166) (rfl : tables_1_4[166]? = some (Cond.instanceMethod yX6_isWord)))
theorem seX6_isWord : Cond.selects RX6 yX6_isWord yX6_isWord ∈ lw_tbl := List.mem_of_getElem? (i := 27) (by decide +kernel : lw_tbl[27]? = some (Cond.selects RX6 yX6_isWord yX6_isWord))
abbrev mX6_isLetter : zY := (yX6_isLetter, cX6_isLetter, 1, (some .boolean))
theorem cdX6_isLetter : zcode mX6_isLetter := ⟨zt4 (List.mem_of_getElem? (i := 162) (rfl : tables_1_4[162]? = some (Cond.code yX6_isLetter cX6_isLetter 1 (some .boolean)))), zt1 (List.mem_of_getElem? (i := 3) (rfl : tables_1_1[3]? = some (Cond.initialized RX6))), ⟨by decide, by decide⟩, by decide⟩
theorem naX6_isLetter : zinv mX6_isLetter 1 := by unfold zinv; decide +kernel
theorem stX6_isLetter : Cond.static yX6_isLetter ∈ lw_tbl := zt4 (List.mem_of_getElem? (i := 161) (rfl : tables_1_4[161]? = some (Cond.static yX6_isLetter)))
abbrev mX6_isDigit : zY := (yX6_isDigit, cX6_isDigit, 1, (some .boolean))
theorem cdX6_isDigit : zcode mX6_isDigit := ⟨zt5 (List.mem_of_getElem? (i := 4) (rfl : tables_1_5[4]? = some (Cond.code yX6_isDigit cX6_isDigit 1 (some .boolean)))), zt1 (List.mem_of_getElem? (i := 3) (rfl : tables_1_1[3]? = some (Cond.initialized RX6))), ⟨by decide, by decide⟩, by decide⟩
theorem naX6_isDigit : zinv mX6_isDigit 1 := by unfold zinv; decide +kernel
theorem stX6_isDigit : Cond.static yX6_isDigit ∈ lw_tbl := zt5 (List.mem_of_getElem? (i := 3) (rfl : tables_1_5[3]? = some (Cond.static yX6_isDigit)))
abbrev mX7_init : zY := (yX7_init, cX7_init, 1, none)
theorem cdX7_init : zcode mX7_init := ⟨zt1 (List.mem_of_getElem? (i := 42) (rfl : tables_1_1[42]? = some (Cond.code yX7_init cX7_init 1 none))), zt1 (List.mem_of_getElem? (i := 2) (rfl : tables_1_1[2]? = some (Cond.initialized RX7))), ⟨by decide, by decide⟩, by decide⟩
theorem naX7_init : zinv mX7_init 0 := by unfold zinv; decide +kernel
theorem imX7_init : Cond.instanceMethod yX7_init ∈ lw_tbl := zt1 (List.mem_of_getElem? (i := 41) (rfl : tables_1_1[41]? = some (Cond.instanceMethod yX7_init)))
abbrev mX7_hasRoom : zY := (yX7_hasRoom, cX7_hasRoom, 1, (some .boolean))
theorem cdX7_hasRoom : zcode mX7_hasRoom := ⟨zt3 (List.mem_of_getElem? (i := 64) (rfl : tables_1_3[64]? = some (Cond.code yX7_hasRoom cX7_hasRoom 1 (some .boolean)))), zt1 (List.mem_of_getElem? (i := 2) (rfl : tables_1_1[2]? = some (Cond.initialized RX7))), ⟨by decide, by decide⟩, by decide⟩
theorem naX7_hasRoom : zinv mX7_hasRoom 0 := by unfold zinv; decide +kernel
theorem imX7_hasRoom : Cond.instanceMethod yX7_hasRoom ∈ lw_tbl := zt3 (List.mem_of_getElem? (i := 62) (rfl : tables_1_3[62]? = some (Cond.instanceMethod yX7_hasRoom)))
theorem seX7_hasRoom : Cond.selects RX7 yX7_hasRoom yX7_hasRoom ∈ lw_tbl := zt3 (List.mem_of_getElem? (i := 63) (rfl : tables_1_3[63]? = some (Cond.selects RX7 yX7_hasRoom yX7_hasRoom)))
abbrev mX7_put : zY := (yX7_put, cX7_put, 3, none)
theorem cdX7_put : zcode mX7_put := ⟨zt3 (List.mem_of_getElem? (i := 68) (rfl : tables_1_3[68]? = some (Cond.code yX7_put cX7_put 3 none))), zt1 (List.mem_of_getElem? (i := 2) (rfl : tables_1_1[2]? = some (Cond.initialized RX7))), ⟨by decide, by decide⟩, by decide⟩
theorem naX7_put : zinv mX7_put 1 := by unfold zinv; decide +kernel
theorem imX7_put : Cond.instanceMethod yX7_put ∈ lw_tbl := zt3 (List.mem_of_getElem? (i := 66) (rfl : tables_1_3[66]? = some (Cond.instanceMethod yX7_put)))
theorem seX7_put : Cond.selects RX7 yX7_put yX7_put ∈ lw_tbl := zt3 (List.mem_of_getElem? (i := 67) (rfl : tables_1_3[67]? = some (Cond.selects RX7 yX7_put yX7_put)))
abbrev mX7_byteAt : zY := (yX7_byteAt, cX7_byteAt, 2, (some .int))
theorem cdX7_byteAt : zcode mX7_byteAt := ⟨zt4 (List.mem_of_getElem? (i := 151) (rfl : tables_1_4[151]? = some (Cond.code yX7_byteAt cX7_byteAt 2 (some .int)))), zt1 (List.mem_of_getElem? (i := 2) (rfl : tables_1_1[2]? = some (Cond.initialized RX7))), ⟨by decide, by decide⟩, by decide⟩
theorem naX7_byteAt : zinv mX7_byteAt 1 := by unfold zinv; decide +kernel
theorem imX7_byteAt : Cond.instanceMethod yX7_byteAt ∈ lw_tbl := zt4 (List.mem_of_getElem? (i := 149) (rfl : tables_1_4[149]? = some (Cond.instanceMethod yX7_byteAt)))
theorem seX7_byteAt : Cond.selects RX7 yX7_byteAt yX7_byteAt ∈ lw_tbl := zt4 (List.mem_of_getElem? (i := 150) (rfl : tables_1_4[150]? = some (Cond.selects RX7 yX7_byteAt yX7_byteAt)))
abbrev mX8_init : zY := (yX8_init, cX8_init, 1, none)
theorem cdX8_init : zcode mX8_init := ⟨zt1 (List.mem_of_getElem? (i := 83) (rfl : tables_1_1[83]? = some (Cond.code yX8_init cX8_init 1 none))), zt1 (List.mem_of_getElem? (i := 5) (rfl : tables_1_1[5]? = some (Cond.initialized RX8))), ⟨by decide, by decide⟩, by decide⟩
theorem naX8_init : zinv mX8_init 0 := by unfold zinv; decide +kernel
theorem imX8_init : Cond.instanceMethod yX8_init ∈ lw_tbl := zt1 (List.mem_of_getElem? (i := 82) (rfl : tables_1_1[82]? = some (Cond.instanceMethod yX8_init)))
abbrev mX8_copy : zY := (yX8_copy, cX8_copy, 2, none)
theorem cdX8_copy : zcode mX8_copy := ⟨zt3 (List.mem_of_getElem? (i := 92) (rfl : tables_1_3[92]? = some (Cond.code yX8_copy cX8_copy 2 none))), zt1 (List.mem_of_getElem? (i := 5) (rfl : tables_1_1[5]? = some (Cond.initialized RX8))), ⟨by decide, by decide⟩, by decide⟩
theorem naX8_copy : zinv mX8_copy 1 := by unfold zinv; decide +kernel
theorem imX8_copy : Cond.instanceMethod yX8_copy ∈ lw_tbl := zt3 (List.mem_of_getElem? (i := 90) (rfl : tables_1_3[90]? = some (Cond.instanceMethod yX8_copy)))
theorem seX8_copy : Cond.selects RX8 yX8_copy yX8_copy ∈ lw_tbl := zt3 (List.mem_of_getElem? (i := 91) (rfl : tables_1_3[91]? = some (Cond.selects RX8 yX8_copy yX8_copy)))
abbrev mX9_init : zY := (yX9_init, cX9_init, 1, none)
theorem cdX9_init : zcode mX9_init := ⟨zt2 (List.mem_of_getElem? (i := 106) (rfl : tables_1_2[106]? = some (Cond.code yX9_init cX9_init 1 none))), zt1 (List.mem_of_getElem? (i := 12) (rfl : tables_1_1[12]? = some (Cond.initialized RX9))), ⟨by decide, by decide⟩, by decide⟩
theorem naX9_init : zinv mX9_init 0 := by unfold zinv; decide +kernel
theorem imX9_init : Cond.instanceMethod yX9_init ∈ lw_tbl := zt2 (List.mem_of_getElem? (i := 105) (rfl : tables_1_2[105]? = some (Cond.instanceMethod yX9_init)))
abbrev mX9_copy : zY := (yX9_copy, cX9_copy, 2, none)
theorem cdX9_copy : zcode mX9_copy := ⟨zt3 (List.mem_of_getElem? (i := 123) (rfl : tables_1_3[123]? = some (Cond.code yX9_copy cX9_copy 2 none))), zt1 (List.mem_of_getElem? (i := 12) (rfl : tables_1_1[12]? = some (Cond.initialized RX9))), ⟨by decide, by decide⟩, by decide⟩
theorem naX9_copy : zinv mX9_copy 1 := by unfold zinv; decide +kernel
theorem imX9_copy : Cond.instanceMethod yX9_copy ∈ lw_tbl := zt3 (List.mem_of_getElem? (i := 121) (rfl : tables_1_3[121]? = some (Cond.instanceMethod yX9_copy)))
theorem seX9_copy : Cond.selects RX9 yX9_copy yX9_copy ∈ lw_tbl := zt3 (List.mem_of_getElem? (i := 122) (rfl : tables_1_3[122]? = some (Cond.selects RX9 yX9_copy yX9_copy)))
abbrev mX9_find : zY := (yX9_find, cX9_find, 4, none)
theorem cdX9_find : zcode mX9_find := ⟨zt5 (List.mem_of_getElem? (i := 126) (rfl : tables_1_5[126]? = some (Cond.code yX9_find cX9_find 4 none))), zt1 (List.mem_of_getElem? (i := 12) (rfl : tables_1_1[12]? = some (Cond.initialized RX9))), ⟨by decide, by decide⟩, by decide⟩
theorem naX9_find : zinv mX9_find 2 := by unfold zinv; decide +kernel
theorem imX9_find : Cond.instanceMethod yX9_find ∈ lw_tbl := zt5 (List.mem_of_getElem? (i := 124) (rfl : tables_1_5[124]? = some (Cond.instanceMethod yX9_find)))
theorem seX9_find : Cond.selects RX9 yX9_find yX9_find ∈ lw_tbl := zt5 (List.mem_of_getElem? (i := 125) (rfl : tables_1_5[125]? = some (Cond.selects RX9 yX9_find yX9_find)))
abbrev mX9_measure : zY := (yX9_measure, cX9_measure, 5, none)
theorem cdX9_measure : zcode mX9_measure := ⟨zt5 (List.mem_of_getElem? (i := 131) (rfl : tables_1_5[131]? = some (Cond.code yX9_measure cX9_measure 5 none))), zt1 (List.mem_of_getElem? (i := 12) (rfl : tables_1_1[12]? = some (Cond.initialized RX9))), ⟨by decide, by decide⟩, by decide⟩
theorem naX9_measure : zinv mX9_measure 2 := by unfold zinv; decide +kernel
theorem imX9_measure : Cond.instanceMethod yX9_measure ∈ lw_tbl := zt5 (List.mem_of_getElem? (i := 130) (rfl : tables_1_5[130]? = some (Cond.instanceMethod yX9_measure)))
theorem seX9_measure : Cond.selects RX9 yX9_measure yX9_measure ∈ lw_tbl := List.mem_of_getElem? (i := 37) (by decide +kernel : lw_tbl[37]? = some (Cond.selects RX9 yX9_measure yX9_measure))
abbrev mX9_shorten : zY := (yX9_shorten, cX9_shorten, 4, none)
theorem cdX9_shorten : zcode mX9_shorten := ⟨zt5 (List.mem_of_getElem? (i := 136) (rfl : tables_1_5[136]? = some (Cond.code yX9_shorten cX9_shorten 4 none))), zt1 (List.mem_of_getElem? (i := 12) (rfl : tables_1_1[12]? = some (Cond.initialized RX9))), ⟨by decide, by decide⟩, by decide⟩
theorem naX9_shorten : zinv mX9_shorten 3 := by unfold zinv; decide +kernel
theorem imX9_shorten : Cond.instanceMethod yX9_shorten ∈ lw_tbl := zt5 (List.mem_of_getElem? (i := 135) (rfl : tables_1_5[135]? = some (Cond.instanceMethod yX9_shorten)))
theorem seX9_shorten : Cond.selects RX9 yX9_shorten yX9_shorten ∈ lw_tbl := List.mem_of_getElem? (i := 38) (by decide +kernel : lw_tbl[38]? = some (Cond.selects RX9 yX9_shorten yX9_shorten))
abbrev mX9_sort : zY := (yX9_sort, cX9_sort, 6, none)
theorem cdX9_sort : zcode mX9_sort := ⟨zt5 (List.mem_of_getElem? (i := 140) (rfl : tables_1_5[140]? = some (Cond.code yX9_sort cX9_sort 6 none))), zt1 (List.mem_of_getElem? (i := 12) (rfl : tables_1_1[12]? = some (Cond.initialized RX9))), ⟨by decide, by decide⟩, by decide⟩
theorem naX9_sort : zinv mX9_sort 1 := by unfold zinv; decide +kernel
theorem imX9_sort : Cond.instanceMethod yX9_sort ∈ lw_tbl := zt5 (List.mem_of_getElem? (i := 139) (rfl : tables_1_5[139]? = some (Cond.instanceMethod yX9_sort)))
theorem seX9_sort : Cond.selects RX9 yX9_sort yX9_sort ∈ lw_tbl := List.mem_of_getElem? (i := 39) (by decide +kernel : lw_tbl[39]? = some (Cond.selects RX9 yX9_sort yX9_sort))
abbrev mX9_hang : zY := (yX9_hang, cX9_hang, 10, none)
theorem cdX9_hang : zcode mX9_hang := ⟨zt5 (List.mem_of_getElem? (i := 144) (rfl : tables_1_5[144]? = some (Cond.code yX9_hang cX9_hang 10 none))), zt1 (List.mem_of_getElem? (i := 12) (rfl : tables_1_1[12]? = some (Cond.initialized RX9))), ⟨by decide, by decide⟩, by decide⟩
theorem naX9_hang : zinv mX9_hang 2 := by unfold zinv; decide +kernel
theorem imX9_hang : Cond.instanceMethod yX9_hang ∈ lw_tbl := zt5 (List.mem_of_getElem? (i := 143) (rfl : tables_1_5[143]? = some (Cond.instanceMethod yX9_hang)))
theorem seX9_hang : Cond.selects RX9 yX9_hang yX9_hang ∈ lw_tbl := List.mem_of_getElem? (i := 40) (by decide +kernel : lw_tbl[40]? = some (Cond.selects RX9 yX9_hang yX9_hang))
abbrev mX9_nearest : zY := (yX9_nearest, cX9_nearest, 7, (some .int))
theorem cdX9_nearest : zcode mX9_nearest := ⟨zt6 (List.mem_of_getElem? (i := 123) (rfl : tables_1_6[123]? = some (Cond.code yX9_nearest cX9_nearest 7 (some .int)))), zt1 (List.mem_of_getElem? (i := 12) (rfl : tables_1_1[12]? = some (Cond.initialized RX9))), ⟨by decide, by decide⟩, by decide⟩
theorem naX9_nearest : zinv mX9_nearest 2 := by unfold zinv; decide +kernel
theorem imX9_nearest : Cond.instanceMethod yX9_nearest ∈ lw_tbl := zt6 (List.mem_of_getElem? (i := 121) (rfl : tables_1_6[121]? = some (Cond.instanceMethod yX9_nearest)))
theorem seX9_nearest : Cond.selects RX9 yX9_nearest yX9_nearest ∈ lw_tbl := zt6 (List.mem_of_getElem? (i := 122) (rfl : tables_1_6[122]? = some (Cond.selects RX9 yX9_nearest yX9_nearest)))
abbrev mX9_within : zY := (yX9_within, cX9_within, 6, (some .int))
theorem cdX9_within : zcode mX9_within := ⟨zt6 (List.mem_of_getElem? (i := 139) (rfl : tables_1_6[139]? = some (Cond.code yX9_within cX9_within 6 (some .int)))), zt1 (List.mem_of_getElem? (i := 12) (rfl : tables_1_1[12]? = some (Cond.initialized RX9))), ⟨by decide, by decide⟩, by decide⟩
theorem naX9_within : zinv mX9_within 2 := by unfold zinv; decide +kernel
theorem imX9_within : Cond.instanceMethod yX9_within ∈ lw_tbl := zt6 (List.mem_of_getElem? (i := 137) (rfl : tables_1_6[137]? = some (Cond.instanceMethod yX9_within)))
theorem seX9_within : Cond.selects RX9 yX9_within yX9_within ∈ lw_tbl := zt6 (List.mem_of_getElem? (i := 138) (rfl : tables_1_6[138]? = some (Cond.selects RX9 yX9_within yX9_within)))
abbrev mX9_linksWithin : zY := (yX9_linksWithin, cX9_linksWithin, 6, (some .int))
theorem cdX9_linksWithin : zcode mX9_linksWithin := ⟨zt6 (List.mem_of_getElem? (i := 199) (rfl : tables_1_6[199]? = some (Cond.code yX9_linksWithin cX9_linksWithin 6 (some .int)))), zt1 (List.mem_of_getElem? (i := 12) (rfl : tables_1_1[12]? = some (Cond.initialized RX9))), ⟨by decide, by decide⟩, by decide⟩
theorem naX9_linksWithin : zinv mX9_linksWithin 2 := by unfold zinv; decide +kernel
theorem imX9_linksWithin : Cond.instanceMethod yX9_linksWithin ∈ lw_tbl := zt6 (List.mem_of_getElem? (i := 197) (rfl : tables_1_6[197]? = some (Cond.instanceMethod yX9_linksWithin)))
theorem seX9_linksWithin : Cond.selects RX9 yX9_linksWithin yX9_linksWithin ∈ lw_tbl := zt6 (List.mem_of_getElem? (i := 198) (rfl : tables_1_6[198]? = some (Cond.selects RX9 yX9_linksWithin yX9_linksWithin)))
abbrev mX9_middle : zY := (yX9_middle, cX9_middle, 3, (some .int))
theorem cdX9_middle : zcode mX9_middle := ⟨zt4 (List.mem_of_getElem? (i := 109) (rfl : tables_1_4[109]? = some (Cond.code yX9_middle cX9_middle 3 (some .int)))), zt1 (List.mem_of_getElem? (i := 12) (rfl : tables_1_1[12]? = some (Cond.initialized RX9))), ⟨by decide, by decide⟩, by decide⟩
theorem naX9_middle : zinv mX9_middle 0 := by unfold zinv; decide +kernel
theorem imX9_middle : Cond.instanceMethod yX9_middle ∈ lw_tbl := zt4 (List.mem_of_getElem? (i := 107) (rfl : tables_1_4[107]? = some (Cond.instanceMethod yX9_middle)))
theorem seX9_middle : Cond.selects RX9 yX9_middle yX9_middle ∈ lw_tbl := zt4 (List.mem_of_getElem? (i := 108) (rfl : tables_1_4[108]? = some (Cond.selects RX9 yX9_middle yX9_middle)))
abbrev mX9_longest : zY := (yX9_longest, cX9_longest, 3, (some .int))
theorem cdX9_longest : zcode mX9_longest := ⟨zt4 (List.mem_of_getElem? (i := 113) (rfl : tables_1_4[113]? = some (Cond.code yX9_longest cX9_longest 3 (some .int)))), zt1 (List.mem_of_getElem? (i := 12) (rfl : tables_1_1[12]? = some (Cond.initialized RX9))), ⟨by decide, by decide⟩, by decide⟩
theorem naX9_longest : zinv mX9_longest 1 := by unfold zinv; decide +kernel
theorem imX9_longest : Cond.instanceMethod yX9_longest ∈ lw_tbl := zt4 (List.mem_of_getElem? (i := 112) (rfl : tables_1_4[112]? = some (Cond.instanceMethod yX9_longest)))
theorem seX9_longest : Cond.selects RX9 yX9_longest yX9_longest ∈ lw_tbl := List.mem_of_getElem? (i := 23) (by decide +kernel : lw_tbl[23]? = some (Cond.selects RX9 yX9_longest yX9_longest))
abbrev mX9_fewestCovering : zY := (yX9_fewestCovering, cX9_fewestCovering, 5, (some .int))
theorem cdX9_fewestCovering : zcode mX9_fewestCovering := ⟨zt7 (List.mem_of_getElem? (i := 10) (rfl : tables_1_7[10]? = some (Cond.code yX9_fewestCovering cX9_fewestCovering 5 (some .int)))), zt1 (List.mem_of_getElem? (i := 12) (rfl : tables_1_1[12]? = some (Cond.initialized RX9))), ⟨by decide, by decide⟩, by decide⟩
theorem naX9_fewestCovering : zinv mX9_fewestCovering 1 := by unfold zinv; decide +kernel
theorem imX9_fewestCovering : Cond.instanceMethod yX9_fewestCovering ∈ lw_tbl := zt7 (List.mem_of_getElem? (i := 8) (rfl : tables_1_7[8]? = some (Cond.instanceMethod yX9_fewestCovering)))
theorem seX9_fewestCovering : Cond.selects RX9 yX9_fewestCovering yX9_fewestCovering ∈ lw_tbl := zt7 (List.mem_of_getElem? (i := 9) (rfl : tables_1_7[9]? = some (Cond.selects RX9 yX9_fewestCovering yX9_fewestCovering)))
abbrev mX9_covered : zY := (yX9_covered, cX9_covered, 5, (some .int))
theorem cdX9_covered : zcode mX9_covered := ⟨zt7 (List.mem_of_getElem? (i := 16) (rfl : tables_1_7[16]? = some (Cond.code yX9_covered cX9_covered 5 (some .int)))), zt1 (List.mem_of_getElem? (i := 12) (rfl : tables_1_1[12]? = some (Cond.initialized RX9))), ⟨by decide, by decide⟩, by decide⟩
theorem naX9_covered : zinv mX9_covered 2 := by unfold zinv; decide +kernel
theorem imX9_covered : Cond.instanceMethod yX9_covered ∈ lw_tbl := zt7 (List.mem_of_getElem? (i := 15) (rfl : tables_1_7[15]? = some (Cond.instanceMethod yX9_covered)))
theorem seX9_covered : Cond.selects RX9 yX9_covered yX9_covered ∈ lw_tbl := List.mem_of_getElem? (i := 44) (by decide +kernel : lw_tbl[44]? = some (Cond.selects RX9 yX9_covered yX9_covered))
abbrev mX10_init : zY := (yX10_init, cX10_init, 1, none)
theorem cdX10_init : zcode mX10_init := ⟨zt1 (List.mem_of_getElem? (i := 77) (rfl : tables_1_1[77]? = some (Cond.code yX10_init cX10_init 1 none))), zt1 (List.mem_of_getElem? (i := 4) (rfl : tables_1_1[4]? = some (Cond.initialized RX10))), ⟨by decide, by decide⟩, by decide⟩
theorem naX10_init : zinv mX10_init 0 := by unfold zinv; decide +kernel
theorem imX10_init : Cond.instanceMethod yX10_init ∈ lw_tbl := zt1 (List.mem_of_getElem? (i := 76) (rfl : tables_1_1[76]? = some (Cond.instanceMethod yX10_init)))
abbrev mX10_copy : zY := (yX10_copy, cX10_copy, 2, none)
theorem cdX10_copy : zcode mX10_copy := ⟨zt3 (List.mem_of_getElem? (i := 88) (rfl : tables_1_3[88]? = some (Cond.code yX10_copy cX10_copy 2 none))), zt1 (List.mem_of_getElem? (i := 4) (rfl : tables_1_1[4]? = some (Cond.initialized RX10))), ⟨by decide, by decide⟩, by decide⟩
theorem naX10_copy : zinv mX10_copy 1 := by unfold zinv; decide +kernel
theorem imX10_copy : Cond.instanceMethod yX10_copy ∈ lw_tbl := zt3 (List.mem_of_getElem? (i := 86) (rfl : tables_1_3[86]? = some (Cond.instanceMethod yX10_copy)))
theorem seX10_copy : Cond.selects RX10 yX10_copy yX10_copy ∈ lw_tbl := zt3 (List.mem_of_getElem? (i := 87) (rfl : tables_1_3[87]? = some (Cond.selects RX10 yX10_copy yX10_copy)))
abbrev mX10_findWays : zY := (yX10_findWays, cX10_findWays, 1, none)
theorem cdX10_findWays : zcode mX10_findWays := ⟨zt5 (List.mem_of_getElem? (i := 122) (rfl : tables_1_5[122]? = some (Cond.code yX10_findWays cX10_findWays 1 none))), zt1 (List.mem_of_getElem? (i := 4) (rfl : tables_1_1[4]? = some (Cond.initialized RX10))), ⟨by decide, by decide⟩, by decide⟩
theorem naX10_findWays : zinv mX10_findWays 0 := by unfold zinv; decide +kernel
theorem imX10_findWays : Cond.instanceMethod yX10_findWays ∈ lw_tbl := zt5 (List.mem_of_getElem? (i := 120) (rfl : tables_1_5[120]? = some (Cond.instanceMethod yX10_findWays)))
theorem seX10_findWays : Cond.selects RX10 yX10_findWays yX10_findWays ∈ lw_tbl := zt5 (List.mem_of_getElem? (i := 121) (rfl : tables_1_5[121]? = some (Cond.selects RX10 yX10_findWays yX10_findWays)))
abbrev mX10_step : zY := (yX10_step, cX10_step, 2, none)
theorem cdX10_step : zcode mX10_step := ⟨zt3 (List.mem_of_getElem? (i := 152) (rfl : tables_1_3[152]? = some (Cond.code yX10_step cX10_step 2 none))), zt1 (List.mem_of_getElem? (i := 4) (rfl : tables_1_1[4]? = some (Cond.initialized RX10))), ⟨by decide, by decide⟩, by decide⟩
theorem naX10_step : zinv mX10_step 0 := by unfold zinv; decide +kernel
theorem imX10_step : Cond.instanceMethod yX10_step ∈ lw_tbl := zt3 (List.mem_of_getElem? (i := 150) (rfl : tables_1_3[150]? = some (Cond.instanceMethod yX10_step)))
theorem seX10_step : Cond.selects RX10 yX10_step yX10_step ∈ lw_tbl := zt3 (List.mem_of_getElem? (i := 151) (rfl : tables_1_3[151]? = some (Cond.selects RX10 yX10_step yX10_step)))
abbrev mX10_canSend : zY := (yX10_canSend, cX10_canSend, 1, (some .boolean))
theorem cdX10_canSend : zcode mX10_canSend := ⟨zt4 (List.mem_of_getElem? (i := 80) (rfl : tables_1_4[80]? = some (Cond.code yX10_canSend cX10_canSend 1 (some .boolean)))), zt1 (List.mem_of_getElem? (i := 4) (rfl : tables_1_1[4]? = some (Cond.initialized RX10))), ⟨by decide, by decide⟩, by decide⟩
theorem naX10_canSend : zinv mX10_canSend 0 := by unfold zinv; decide +kernel
theorem imX10_canSend : Cond.instanceMethod yX10_canSend ∈ lw_tbl := zt4 (List.mem_of_getElem? (i := 78) (rfl : tables_1_4[78]? = some (Cond.instanceMethod yX10_canSend)))
theorem seX10_canSend : Cond.selects RX10 yX10_canSend yX10_canSend ∈ lw_tbl := zt4 (List.mem_of_getElem? (i := 79) (rfl : tables_1_4[79]? = some (Cond.selects RX10 yX10_canSend yX10_canSend)))
abbrev mX10_sendNext : zY := (yX10_sendNext, cX10_sendNext, 3, none)
theorem cdX10_sendNext : zcode mX10_sendNext := ⟨zt4 (List.mem_of_getElem? (i := 84) (rfl : tables_1_4[84]? = some (Cond.code yX10_sendNext cX10_sendNext 3 none))), zt1 (List.mem_of_getElem? (i := 4) (rfl : tables_1_1[4]? = some (Cond.initialized RX10))), ⟨by decide, by decide⟩, by decide⟩
theorem naX10_sendNext : zinv mX10_sendNext 0 := by unfold zinv; decide +kernel
theorem imX10_sendNext : Cond.instanceMethod yX10_sendNext ∈ lw_tbl := zt4 (List.mem_of_getElem? (i := 82) (rfl : tables_1_4[82]? = some (Cond.instanceMethod yX10_sendNext)))
theorem seX10_sendNext : Cond.selects RX10 yX10_sendNext yX10_sendNext ∈ lw_tbl := zt4 (List.mem_of_getElem? (i := 83) (rfl : tables_1_4[83]? = some (Cond.selects RX10 yX10_sendNext yX10_sendNext)))
abbrev mX10_handOver : zY := (yX10_handOver, cX10_handOver, 4, none)
theorem cdX10_handOver : zcode mX10_handOver := ⟨zt6 (List.mem_of_getElem? (i := 77) (rfl : tables_1_6[77]? = some (Cond.code yX10_handOver cX10_handOver 4 none))), zt1 (List.mem_of_getElem? (i := 4) (rfl : tables_1_1[4]? = some (Cond.initialized RX10))), ⟨by decide, by decide⟩, by decide⟩
theorem naX10_handOver : zinv mX10_handOver 2 := by unfold zinv; decide +kernel
theorem imX10_handOver : Cond.instanceMethod yX10_handOver ∈ lw_tbl := zt6 (List.mem_of_getElem? (i := 75) (rfl : tables_1_6[75]? = some (Cond.instanceMethod yX10_handOver)))
theorem seX10_handOver : Cond.selects RX10 yX10_handOver yX10_handOver ∈ lw_tbl := zt6 (List.mem_of_getElem? (i := 76) (rfl : tables_1_6[76]? = some (Cond.selects RX10 yX10_handOver yX10_handOver)))
abbrev mX10_takeAway : zY := (yX10_takeAway, cX10_takeAway, 4, none)
theorem cdX10_takeAway : zcode mX10_takeAway := ⟨zt6 (List.mem_of_getElem? (i := 81) (rfl : tables_1_6[81]? = some (Cond.code yX10_takeAway cX10_takeAway 4 none))), zt1 (List.mem_of_getElem? (i := 4) (rfl : tables_1_1[4]? = some (Cond.initialized RX10))), ⟨by decide, by decide⟩, by decide⟩
theorem naX10_takeAway : zinv mX10_takeAway 2 := by unfold zinv; decide +kernel
theorem imX10_takeAway : Cond.instanceMethod yX10_takeAway ∈ lw_tbl := zt6 (List.mem_of_getElem? (i := 79) (rfl : tables_1_6[79]? = some (Cond.instanceMethod yX10_takeAway)))
theorem seX10_takeAway : Cond.selects RX10 yX10_takeAway yX10_takeAway ∈ lw_tbl := zt6 (List.mem_of_getElem? (i := 80) (rfl : tables_1_6[80]? = some (Cond.selects RX10 yX10_takeAway yX10_takeAway)))
abbrev mX10_isWhole : zY := (yX10_isWhole, cX10_isWhole, 3, (some .boolean))
theorem cdX10_isWhole : zcode mX10_isWhole := ⟨zt3 (List.mem_of_getElem? (i := 138) (rfl : tables_1_3[138]? = some (Cond.code yX10_isWhole cX10_isWhole 3 (some .boolean)))), zt1 (List.mem_of_getElem? (i := 4) (rfl : tables_1_1[4]? = some (Cond.initialized RX10))), ⟨by decide, by decide⟩, by decide⟩
theorem naX10_isWhole : zinv mX10_isWhole 0 := by unfold zinv; decide +kernel
theorem imX10_isWhole : Cond.instanceMethod yX10_isWhole ∈ lw_tbl := zt3 (List.mem_of_getElem? (i := 136) (rfl : tables_1_3[136]? = some (Cond.instanceMethod yX10_isWhole)))
theorem seX10_isWhole : Cond.selects RX10 yX10_isWhole yX10_isWhole ∈ lw_tbl := zt3 (List.mem_of_getElem? (i := 137) (rfl : tables_1_3[137]? = some (Cond.selects RX10 yX10_isWhole yX10_isWhole)))
abbrev mX10_askWindow : zY := (yX10_askWindow, cX10_askWindow, 7, (some .int))
theorem cdX10_askWindow : zcode mX10_askWindow := ⟨zt6 (List.mem_of_getElem? (i := 106) (rfl : tables_1_6[106]? = some (Cond.code yX10_askWindow cX10_askWindow 7 (some .int)))), zt1 (List.mem_of_getElem? (i := 4) (rfl : tables_1_1[4]? = some (Cond.initialized RX10))), ⟨by decide, by decide⟩, by decide⟩
theorem naX10_askWindow : zinv mX10_askWindow 3 := by unfold zinv; decide +kernel
theorem imX10_askWindow : Cond.instanceMethod yX10_askWindow ∈ lw_tbl := zt6 (List.mem_of_getElem? (i := 104) (rfl : tables_1_6[104]? = some (Cond.instanceMethod yX10_askWindow)))
theorem seX10_askWindow : Cond.selects RX10 yX10_askWindow yX10_askWindow ∈ lw_tbl := zt6 (List.mem_of_getElem? (i := 105) (rfl : tables_1_6[105]? = some (Cond.selects RX10 yX10_askWindow yX10_askWindow)))
abbrev mX10_timeOf : zY := (yX10_timeOf, cX10_timeOf, 3, (some .int))
theorem cdX10_timeOf : zcode mX10_timeOf := ⟨zt4 (List.mem_of_getElem? (i := 4) (rfl : tables_1_4[4]? = some (Cond.code yX10_timeOf cX10_timeOf 3 (some .int)))), zt1 (List.mem_of_getElem? (i := 4) (rfl : tables_1_1[4]? = some (Cond.initialized RX10))), ⟨by decide, by decide⟩, by decide⟩
theorem naX10_timeOf : zinv mX10_timeOf 2 := by unfold zinv; decide +kernel
theorem imX10_timeOf : Cond.instanceMethod yX10_timeOf ∈ lw_tbl := zt4 (List.mem_of_getElem? (i := 3) (rfl : tables_1_4[3]? = some (Cond.instanceMethod yX10_timeOf)))
theorem seX10_timeOf : Cond.selects RX10 yX10_timeOf yX10_timeOf ∈ lw_tbl := List.mem_of_getElem? (i := 9) (by decide +kernel : lw_tbl[9]? = some (Cond.selects RX10 yX10_timeOf yX10_timeOf))
abbrev mX10_sourceDistance : zY := (yX10_sourceDistance, cX10_sourceDistance, 2, (some .int))
theorem cdX10_sourceDistance : zcode mX10_sourceDistance := ⟨zt3 (List.mem_of_getElem? (i := 235) (rfl : tables_1_3[235]? = some (Cond.code yX10_sourceDistance cX10_sourceDistance 2 (some .int)))), zt1 (List.mem_of_getElem? (i := 4) (rfl : tables_1_1[4]? = some (Cond.initialized RX10))), ⟨by decide, by decide⟩, by decide⟩
theorem naX10_sourceDistance : zinv mX10_sourceDistance 1 := by unfold zinv; decide +kernel
theorem imX10_sourceDistance : Cond.instanceMethod yX10_sourceDistance ∈ lw_tbl := zt3 (List.mem_of_getElem? (i := 234) (rfl : tables_1_3[234]? = some (Cond.instanceMethod yX10_sourceDistance)))
theorem seX10_sourceDistance : Cond.selects RX10 yX10_sourceDistance yX10_sourceDistance ∈ lw_tbl := List.mem_of_getElem? (i := 8) (by decide +kernel : lw_tbl[8]? = some (Cond.selects RX10 yX10_sourceDistance yX10_sourceDistance))
abbrev mX10_setAsk : zY := (yX10_setAsk, cX10_setAsk, 5, none)
theorem cdX10_setAsk : zcode mX10_setAsk := ⟨zt3 (List.mem_of_getElem? (i := 231) (rfl : tables_1_3[231]? = some (Cond.code yX10_setAsk cX10_setAsk 5 none))), zt1 (List.mem_of_getElem? (i := 4) (rfl : tables_1_1[4]? = some (Cond.initialized RX10))), ⟨by decide, by decide⟩, by decide⟩
theorem naX10_setAsk : zinv mX10_setAsk 2 := by unfold zinv; decide +kernel
theorem imX10_setAsk : Cond.instanceMethod yX10_setAsk ∈ lw_tbl := zt3 (List.mem_of_getElem? (i := 230) (rfl : tables_1_3[230]? = some (Cond.instanceMethod yX10_setAsk)))
theorem seX10_setAsk : Cond.selects RX10 yX10_setAsk yX10_setAsk ∈ lw_tbl := List.mem_of_getElem? (i := 7) (by decide +kernel : lw_tbl[7]? = some (Cond.selects RX10 yX10_setAsk yX10_setAsk))
abbrev mX10_askLater : zY := (yX10_askLater, cX10_askLater, 3, none)
theorem cdX10_askLater : zcode mX10_askLater := ⟨zt4 (List.mem_of_getElem? (i := 17) (rfl : tables_1_4[17]? = some (Cond.code yX10_askLater cX10_askLater 3 none))), zt1 (List.mem_of_getElem? (i := 4) (rfl : tables_1_1[4]? = some (Cond.initialized RX10))), ⟨by decide, by decide⟩, by decide⟩
theorem naX10_askLater : zinv mX10_askLater 2 := by unfold zinv; decide +kernel
theorem imX10_askLater : Cond.instanceMethod yX10_askLater ∈ lw_tbl := zt4 (List.mem_of_getElem? (i := 16) (rfl : tables_1_4[16]? = some (Cond.instanceMethod yX10_askLater)))
theorem seX10_askLater : Cond.selects RX10 yX10_askLater yX10_askLater ∈ lw_tbl := List.mem_of_getElem? (i := 12) (by decide +kernel : lw_tbl[12]? = some (Cond.selects RX10 yX10_askLater yX10_askLater))
abbrev mX10_setAnswer : zY := (yX10_setAnswer, cX10_setAnswer, 7, none)
theorem cdX10_setAnswer : zcode mX10_setAnswer := ⟨zt4 (List.mem_of_getElem? (i := 12) (rfl : tables_1_4[12]? = some (Cond.code yX10_setAnswer cX10_setAnswer 7 none))), zt1 (List.mem_of_getElem? (i := 4) (rfl : tables_1_1[4]? = some (Cond.initialized RX10))), ⟨by decide, by decide⟩, by decide⟩
theorem naX10_setAnswer : zinv mX10_setAnswer 4 := by unfold zinv; decide +kernel
theorem imX10_setAnswer : Cond.instanceMethod yX10_setAnswer ∈ lw_tbl := zt4 (List.mem_of_getElem? (i := 11) (rfl : tables_1_4[11]? = some (Cond.instanceMethod yX10_setAnswer)))
theorem seX10_setAnswer : Cond.selects RX10 yX10_setAnswer yX10_setAnswer ∈ lw_tbl := List.mem_of_getElem? (i := 11) (by decide +kernel : lw_tbl[11]? = some (Cond.selects RX10 yX10_setAnswer yX10_setAnswer))
abbrev mX10_rest : zY := (yX10_rest, cX10_rest, 4, none)
theorem cdX10_rest : zcode mX10_rest := ⟨zt3 (List.mem_of_getElem? (i := 213) (rfl : tables_1_3[213]? = some (Cond.code yX10_rest cX10_rest 4 none))), zt1 (List.mem_of_getElem? (i := 4) (rfl : tables_1_1[4]? = some (Cond.initialized RX10))), ⟨by decide, by decide⟩, by decide⟩
theorem naX10_rest : zinv mX10_rest 3 := by unfold zinv; decide +kernel
theorem imX10_rest : Cond.instanceMethod yX10_rest ∈ lw_tbl := zt3 (List.mem_of_getElem? (i := 212) (rfl : tables_1_3[212]? = some (Cond.instanceMethod yX10_rest)))
theorem seX10_rest : Cond.selects RX10 yX10_rest yX10_rest ∈ lw_tbl := List.mem_of_getElem? (i := 5) (by decide +kernel : lw_tbl[5]? = some (Cond.selects RX10 yX10_rest yX10_rest))
abbrev mX10_hear : zY := (yX10_hear, cX10_hear, 4, none)
theorem cdX10_hear : zcode mX10_hear := ⟨zt3 (List.mem_of_getElem? (i := 156) (rfl : tables_1_3[156]? = some (Cond.code yX10_hear cX10_hear 4 none))), zt1 (List.mem_of_getElem? (i := 4) (rfl : tables_1_1[4]? = some (Cond.initialized RX10))), ⟨by decide, by decide⟩, by decide⟩
theorem naX10_hear : zinv mX10_hear 1 := by unfold zinv; decide +kernel
theorem imX10_hear : Cond.instanceMethod yX10_hear ∈ lw_tbl := zt3 (List.mem_of_getElem? (i := 155) (rfl : tables_1_3[155]? = some (Cond.instanceMethod yX10_hear)))
theorem seX10_hear : Cond.selects RX10 yX10_hear yX10_hear ∈ lw_tbl := List.mem_of_getElem? (i := 1) (by decide +kernel : lw_tbl[1]? = some (Cond.selects RX10 yX10_hear yX10_hear))
abbrev mX10_hearReport : zY := (yX10_hearReport, cX10_hearReport, 4, none)
theorem cdX10_hearReport : zcode mX10_hearReport := ⟨zt3 (List.mem_of_getElem? (i := 171) (rfl : tables_1_3[171]? = some (Cond.code yX10_hearReport cX10_hearReport 4 none))), zt1 (List.mem_of_getElem? (i := 4) (rfl : tables_1_1[4]? = some (Cond.initialized RX10))), ⟨by decide, by decide⟩, by decide⟩
theorem naX10_hearReport : zinv mX10_hearReport 2 := by unfold zinv; decide +kernel
theorem imX10_hearReport : Cond.instanceMethod yX10_hearReport ∈ lw_tbl := zt3 (List.mem_of_getElem? (i := 170) (rfl : tables_1_3[170]? = some (Cond.instanceMethod yX10_hearReport)))
theorem seX10_hearReport : Cond.selects RX10 yX10_hearReport yX10_hearReport ∈ lw_tbl := List.mem_of_getElem? (i := 2) (by decide +kernel : lw_tbl[2]? = some (Cond.selects RX10 yX10_hearReport yX10_hearReport))
abbrev mX10_hearPacket : zY := (yX10_hearPacket, cX10_hearPacket, 6, none)
theorem cdX10_hearPacket : zcode mX10_hearPacket := ⟨zt3 (List.mem_of_getElem? (i := 179) (rfl : tables_1_3[179]? = some (Cond.code yX10_hearPacket cX10_hearPacket 6 none))), zt1 (List.mem_of_getElem? (i := 4) (rfl : tables_1_1[4]? = some (Cond.initialized RX10))), ⟨by decide, by decide⟩, by decide⟩
theorem naX10_hearPacket : zinv mX10_hearPacket 2 := by unfold zinv; decide +kernel
theorem imX10_hearPacket : Cond.instanceMethod yX10_hearPacket ∈ lw_tbl := zt3 (List.mem_of_getElem? (i := 178) (rfl : tables_1_3[178]? = some (Cond.instanceMethod yX10_hearPacket)))
theorem seX10_hearPacket : Cond.selects RX10 yX10_hearPacket yX10_hearPacket ∈ lw_tbl := List.mem_of_getElem? (i := 3) (by decide +kernel : lw_tbl[3]? = some (Cond.selects RX10 yX10_hearPacket yX10_hearPacket))
abbrev mX10_getPacket : zY := (yX10_getPacket, cX10_getPacket, 5, none)
theorem cdX10_getPacket : zcode mX10_getPacket := ⟨zt3 (List.mem_of_getElem? (i := 183) (rfl : tables_1_3[183]? = some (Cond.code yX10_getPacket cX10_getPacket 5 none))), zt1 (List.mem_of_getElem? (i := 4) (rfl : tables_1_1[4]? = some (Cond.initialized RX10))), ⟨by decide, by decide⟩, by decide⟩
theorem naX10_getPacket : zinv mX10_getPacket 3 := by unfold zinv; decide +kernel
theorem imX10_getPacket : Cond.instanceMethod yX10_getPacket ∈ lw_tbl := zt3 (List.mem_of_getElem? (i := 182) (rfl : tables_1_3[182]? = some (Cond.instanceMethod yX10_getPacket)))
theorem seX10_getPacket : Cond.selects RX10 yX10_getPacket yX10_getPacket ∈ lw_tbl := List.mem_of_getElem? (i := 4) (by decide +kernel : lw_tbl[4]? = some (Cond.selects RX10 yX10_getPacket yX10_getPacket))
abbrev mX10_hearOf : zY := (yX10_hearOf, cX10_hearOf, 6, none)
theorem cdX10_hearOf : zcode mX10_hearOf := ⟨zt3 (List.mem_of_getElem? (i := 217) (rfl : tables_1_3[217]? = some (Cond.code yX10_hearOf cX10_hearOf 6 none))), zt1 (List.mem_of_getElem? (i := 4) (rfl : tables_1_1[4]? = some (Cond.initialized RX10))), ⟨by decide, by decide⟩, by decide⟩
theorem naX10_hearOf : zinv mX10_hearOf 2 := by unfold zinv; decide +kernel
theorem imX10_hearOf : Cond.instanceMethod yX10_hearOf ∈ lw_tbl := zt3 (List.mem_of_getElem? (i := 216) (rfl : tables_1_3[216]? = some (Cond.instanceMethod yX10_hearOf)))
theorem seX10_hearOf : Cond.selects RX10 yX10_hearOf yX10_hearOf ∈ lw_tbl := List.mem_of_getElem? (i := 6) (by decide +kernel : lw_tbl[6]? = some (Cond.selects RX10 yX10_hearOf yX10_hearOf))
abbrev mX10_hearRequest : zY := (yX10_hearRequest, cX10_hearRequest, 5, none)
theorem cdX10_hearRequest : zcode mX10_hearRequest := ⟨zt4 (List.mem_of_getElem? (i := 8) (rfl : tables_1_4[8]? = some (Cond.code yX10_hearRequest cX10_hearRequest 5 none))), zt1 (List.mem_of_getElem? (i := 4) (rfl : tables_1_1[4]? = some (Cond.initialized RX10))), ⟨by decide, by decide⟩, by decide⟩
theorem naX10_hearRequest : zinv mX10_hearRequest 2 := by unfold zinv; decide +kernel
theorem imX10_hearRequest : Cond.instanceMethod yX10_hearRequest ∈ lw_tbl := zt4 (List.mem_of_getElem? (i := 7) (rfl : tables_1_4[7]? = some (Cond.instanceMethod yX10_hearRequest)))
theorem seX10_hearRequest : Cond.selects RX10 yX10_hearRequest yX10_hearRequest ∈ lw_tbl := List.mem_of_getElem? (i := 10) (by decide +kernel : lw_tbl[10]? = some (Cond.selects RX10 yX10_hearRequest yX10_hearRequest))
abbrev mX10_act : zY := (yX10_act, cX10_act, 6, none)
theorem cdX10_act : zcode mX10_act := ⟨zt4 (List.mem_of_getElem? (i := 34) (rfl : tables_1_4[34]? = some (Cond.code yX10_act cX10_act 6 none))), zt1 (List.mem_of_getElem? (i := 4) (rfl : tables_1_1[4]? = some (Cond.initialized RX10))), ⟨by decide, by decide⟩, by decide⟩
theorem naX10_act : zinv mX10_act 1 := by unfold zinv; decide +kernel
theorem imX10_act : Cond.instanceMethod yX10_act ∈ lw_tbl := zt4 (List.mem_of_getElem? (i := 33) (rfl : tables_1_4[33]? = some (Cond.instanceMethod yX10_act)))
theorem seX10_act : Cond.selects RX10 yX10_act yX10_act ∈ lw_tbl := List.mem_of_getElem? (i := 14) (by decide +kernel : lw_tbl[14]? = some (Cond.selects RX10 yX10_act yX10_act))
abbrev mX10_request : zY := (yX10_request, cX10_request, 4, none)
theorem cdX10_request : zcode mX10_request := ⟨zt4 (List.mem_of_getElem? (i := 38) (rfl : tables_1_4[38]? = some (Cond.code yX10_request cX10_request 4 none))), zt1 (List.mem_of_getElem? (i := 4) (rfl : tables_1_1[4]? = some (Cond.initialized RX10))), ⟨by decide, by decide⟩, by decide⟩
theorem naX10_request : zinv mX10_request 2 := by unfold zinv; decide +kernel
theorem imX10_request : Cond.instanceMethod yX10_request ∈ lw_tbl := zt4 (List.mem_of_getElem? (i := 37) (rfl : tables_1_4[37]? = some (Cond.instanceMethod yX10_request)))
theorem seX10_request : Cond.selects RX10 yX10_request yX10_request ∈ lw_tbl := List.mem_of_getElem? (i := 15) (by decide +kernel : lw_tbl[15]? = some (Cond.selects RX10 yX10_request yX10_request))
abbrev mX10_repair : zY := (yX10_repair, cX10_repair, 5, none)
theorem cdX10_repair : zcode mX10_repair := ⟨zt4 (List.mem_of_getElem? (i := 76) (rfl : tables_1_4[76]? = some (Cond.code yX10_repair cX10_repair 5 none))), zt1 (List.mem_of_getElem? (i := 4) (rfl : tables_1_1[4]? = some (Cond.initialized RX10))), ⟨by decide, by decide⟩, by decide⟩
theorem naX10_repair : zinv mX10_repair 2 := by unfold zinv; decide +kernel
theorem imX10_repair : Cond.instanceMethod yX10_repair ∈ lw_tbl := zt4 (List.mem_of_getElem? (i := 75) (rfl : tables_1_4[75]? = some (Cond.instanceMethod yX10_repair)))
theorem seX10_repair : Cond.selects RX10 yX10_repair yX10_repair ∈ lw_tbl := List.mem_of_getElem? (i := 21) (by decide +kernel : lw_tbl[21]? = some (Cond.selects RX10 yX10_repair yX10_repair))
abbrev mX10_flood : zY := (yX10_flood, cX10_flood, 12, none)
theorem cdX10_flood : zcode mX10_flood := ⟨zt4 (List.mem_of_getElem? (i := 43) (rfl : tables_1_4[43]? = some (Cond.code yX10_flood cX10_flood 12 none))), zt1 (List.mem_of_getElem? (i := 4) (rfl : tables_1_1[4]? = some (Cond.initialized RX10))), ⟨by decide, by decide⟩, by decide⟩
theorem naX10_flood : zinv mX10_flood 4 := by unfold zinv; decide +kernel
theorem imX10_flood : Cond.instanceMethod yX10_flood ∈ lw_tbl := zt4 (List.mem_of_getElem? (i := 42) (rfl : tables_1_4[42]? = some (Cond.instanceMethod yX10_flood)))
theorem seX10_flood : Cond.selects RX10 yX10_flood yX10_flood ∈ lw_tbl := List.mem_of_getElem? (i := 16) (by decide +kernel : lw_tbl[16]? = some (Cond.selects RX10 yX10_flood yX10_flood))
abbrev mX10_crosses : zY := (yX10_crosses, cX10_crosses, 2, (some .boolean))
theorem cdX10_crosses : zcode mX10_crosses := ⟨zt4 (List.mem_of_getElem? (i := 47) (rfl : tables_1_4[47]? = some (Cond.code yX10_crosses cX10_crosses 2 (some .boolean)))), zt1 (List.mem_of_getElem? (i := 4) (rfl : tables_1_1[4]? = some (Cond.initialized RX10))), ⟨by decide, by decide⟩, by decide⟩
theorem naX10_crosses : zinv mX10_crosses 1 := by unfold zinv; decide +kernel
theorem imX10_crosses : Cond.instanceMethod yX10_crosses ∈ lw_tbl := zt4 (List.mem_of_getElem? (i := 46) (rfl : tables_1_4[46]? = some (Cond.instanceMethod yX10_crosses)))
theorem seX10_crosses : Cond.selects RX10 yX10_crosses yX10_crosses ∈ lw_tbl := List.mem_of_getElem? (i := 17) (by decide +kernel : lw_tbl[17]? = some (Cond.selects RX10 yX10_crosses yX10_crosses))
abbrev mX10_launch : zY := (yX10_launch, cX10_launch, 9, none)
theorem cdX10_launch : zcode mX10_launch := ⟨zt4 (List.mem_of_getElem? (i := 60) (rfl : tables_1_4[60]? = some (Cond.code yX10_launch cX10_launch 9 none))), zt1 (List.mem_of_getElem? (i := 4) (rfl : tables_1_1[4]? = some (Cond.initialized RX10))), ⟨by decide, by decide⟩, by decide⟩
theorem naX10_launch : zinv mX10_launch 5 := by unfold zinv; decide +kernel
theorem imX10_launch : Cond.instanceMethod yX10_launch ∈ lw_tbl := zt4 (List.mem_of_getElem? (i := 59) (rfl : tables_1_4[59]? = some (Cond.instanceMethod yX10_launch)))
theorem seX10_launch : Cond.selects RX10 yX10_launch yX10_launch ∈ lw_tbl := List.mem_of_getElem? (i := 18) (by decide +kernel : lw_tbl[18]? = some (Cond.selects RX10 yX10_launch yX10_launch))
abbrev mX10_tellGap : zY := (yX10_tellGap, cX10_tellGap, 5, none)
theorem cdX10_tellGap : zcode mX10_tellGap := ⟨zt4 (List.mem_of_getElem? (i := 64) (rfl : tables_1_4[64]? = some (Cond.code yX10_tellGap cX10_tellGap 5 none))), zt1 (List.mem_of_getElem? (i := 4) (rfl : tables_1_1[4]? = some (Cond.initialized RX10))), ⟨by decide, by decide⟩, by decide⟩
theorem naX10_tellGap : zinv mX10_tellGap 4 := by unfold zinv; decide +kernel
theorem imX10_tellGap : Cond.instanceMethod yX10_tellGap ∈ lw_tbl := zt4 (List.mem_of_getElem? (i := 63) (rfl : tables_1_4[63]? = some (Cond.instanceMethod yX10_tellGap)))
theorem seX10_tellGap : Cond.selects RX10 yX10_tellGap yX10_tellGap ∈ lw_tbl := List.mem_of_getElem? (i := 19) (by decide +kernel : lw_tbl[19]? = some (Cond.selects RX10 yX10_tellGap yX10_tellGap))
abbrev mX10_tellNoWay : zY := (yX10_tellNoWay, cX10_tellNoWay, 4, none)
theorem cdX10_tellNoWay : zcode mX10_tellNoWay := ⟨zt4 (List.mem_of_getElem? (i := 72) (rfl : tables_1_4[72]? = some (Cond.code yX10_tellNoWay cX10_tellNoWay 4 none))), zt1 (List.mem_of_getElem? (i := 4) (rfl : tables_1_1[4]? = some (Cond.initialized RX10))), ⟨by decide, by decide⟩, by decide⟩
theorem naX10_tellNoWay : zinv mX10_tellNoWay 2 := by unfold zinv; decide +kernel
theorem imX10_tellNoWay : Cond.instanceMethod yX10_tellNoWay ∈ lw_tbl := zt4 (List.mem_of_getElem? (i := 71) (rfl : tables_1_4[71]? = some (Cond.instanceMethod yX10_tellNoWay)))
theorem seX10_tellNoWay : Cond.selects RX10 yX10_tellNoWay yX10_tellNoWay ∈ lw_tbl := List.mem_of_getElem? (i := 20) (by decide +kernel : lw_tbl[20]? = some (Cond.selects RX10 yX10_tellNoWay yX10_tellNoWay))
abbrev mX11_init : zY := (yX11_init, cX11_init, 1, none)
theorem cdX11_init : zcode mX11_init := ⟨zt1 (List.mem_of_getElem? (i := 34) (rfl : tables_1_1[34]? = some (Cond.code yX11_init cX11_init 1 none))), zt1 (List.mem_of_getElem? (i := 1) (rfl : tables_1_1[1]? = some (Cond.initialized RX11))), ⟨by decide, by decide⟩, by decide⟩
theorem naX11_init : zinv mX11_init 0 := by unfold zinv; decide +kernel
theorem imX11_init : Cond.instanceMethod yX11_init ∈ lw_tbl := zt1 (List.mem_of_getElem? (i := 33) (rfl : tables_1_1[33]? = some (Cond.instanceMethod yX11_init)))
abbrev mX11_feed : zY := (yX11_feed, cX11_feed, 6, (some .int))
theorem cdX11_feed : zcode mX11_feed := ⟨zt3 (List.mem_of_getElem? (i := 60) (rfl : tables_1_3[60]? = some (Cond.code yX11_feed cX11_feed 6 (some .int)))), zt1 (List.mem_of_getElem? (i := 1) (rfl : tables_1_1[1]? = some (Cond.initialized RX11))), ⟨by decide, by decide⟩, by decide⟩
theorem naX11_feed : zinv mX11_feed 5 := by unfold zinv; decide +kernel
theorem imX11_feed : Cond.instanceMethod yX11_feed ∈ lw_tbl := zt3 (List.mem_of_getElem? (i := 58) (rfl : tables_1_3[58]? = some (Cond.instanceMethod yX11_feed)))
theorem seX11_feed : Cond.selects RX11 yX11_feed yX11_feed ∈ lw_tbl := zt3 (List.mem_of_getElem? (i := 59) (rfl : tables_1_3[59]? = some (Cond.selects RX11 yX11_feed yX11_feed)))
abbrev mX11_end : zY := (yX11_end, cX11_end, 2, (some .boolean))
theorem cdX11_end : zcode mX11_end := ⟨zt3 (List.mem_of_getElem? (i := 72) (rfl : tables_1_3[72]? = some (Cond.code yX11_end cX11_end 2 (some .boolean)))), zt1 (List.mem_of_getElem? (i := 1) (rfl : tables_1_1[1]? = some (Cond.initialized RX11))), ⟨by decide, by decide⟩, by decide⟩
theorem naX11_end : zinv mX11_end 1 := by unfold zinv; decide +kernel
theorem imX11_end : Cond.instanceMethod yX11_end ∈ lw_tbl := zt3 (List.mem_of_getElem? (i := 70) (rfl : tables_1_3[70]? = some (Cond.instanceMethod yX11_end)))
theorem seX11_end : Cond.selects RX11 yX11_end yX11_end ∈ lw_tbl := zt3 (List.mem_of_getElem? (i := 71) (rfl : tables_1_3[71]? = some (Cond.selects RX11 yX11_end yX11_end)))
abbrev mX11_group : zY := (yX11_group, cX11_group, 1, (some .int))
theorem cdX11_group : zcode mX11_group := ⟨zt4 (List.mem_of_getElem? (i := 139) (rfl : tables_1_4[139]? = some (Cond.code yX11_group cX11_group 1 (some .int)))), zt1 (List.mem_of_getElem? (i := 1) (rfl : tables_1_1[1]? = some (Cond.initialized RX11))), ⟨by decide, by decide⟩, by decide⟩
theorem naX11_group : zinv mX11_group 0 := by unfold zinv; decide +kernel
theorem imX11_group : Cond.instanceMethod yX11_group ∈ lw_tbl := zt4 (List.mem_of_getElem? (i := 137) (rfl : tables_1_4[137]? = some (Cond.instanceMethod yX11_group)))
theorem seX11_group : Cond.selects RX11 yX11_group yX11_group ∈ lw_tbl := zt4 (List.mem_of_getElem? (i := 138) (rfl : tables_1_4[138]? = some (Cond.selects RX11 yX11_group yX11_group)))
abbrev mX11_fault : zY := (yX11_fault, cX11_fault, 1, (some .int))
theorem cdX11_fault : zcode mX11_fault := ⟨zt3 (List.mem_of_getElem? (i := 76) (rfl : tables_1_3[76]? = some (Cond.code yX11_fault cX11_fault 1 (some .int)))), zt1 (List.mem_of_getElem? (i := 1) (rfl : tables_1_1[1]? = some (Cond.initialized RX11))), ⟨by decide, by decide⟩, by decide⟩
theorem naX11_fault : zinv mX11_fault 0 := by unfold zinv; decide +kernel
theorem imX11_fault : Cond.instanceMethod yX11_fault ∈ lw_tbl := zt3 (List.mem_of_getElem? (i := 74) (rfl : tables_1_3[74]? = some (Cond.instanceMethod yX11_fault)))
theorem seX11_fault : Cond.selects RX11 yX11_fault yX11_fault ∈ lw_tbl := zt3 (List.mem_of_getElem? (i := 75) (rfl : tables_1_3[75]? = some (Cond.selects RX11 yX11_fault yX11_fault)))
abbrev mX11_node : zY := (yX11_node, cX11_node, 4, (some .int))
theorem cdX11_node : zcode mX11_node := ⟨zt5 (List.mem_of_getElem? (i := 154) (rfl : tables_1_5[154]? = some (Cond.code yX11_node cX11_node 4 (some .int)))), zt1 (List.mem_of_getElem? (i := 1) (rfl : tables_1_1[1]? = some (Cond.initialized RX11))), ⟨by decide, by decide⟩, by decide⟩
theorem naX11_node : zinv mX11_node 2 := by unfold zinv; decide +kernel
theorem imX11_node : Cond.instanceMethod yX11_node ∈ lw_tbl := zt5 (List.mem_of_getElem? (i := 152) (rfl : tables_1_5[152]? = some (Cond.instanceMethod yX11_node)))
theorem seX11_node : Cond.selects RX11 yX11_node yX11_node ∈ lw_tbl := zt5 (List.mem_of_getElem? (i := 153) (rfl : tables_1_5[153]? = some (Cond.selects RX11 yX11_node yX11_node)))
abbrev mX11_est : zY := (yX11_est, cX11_est, 3, (some .int))
theorem cdX11_est : zcode mX11_est := ⟨zt5 (List.mem_of_getElem? (i := 199) (rfl : tables_1_5[199]? = some (Cond.code yX11_est cX11_est 3 (some .int)))), zt1 (List.mem_of_getElem? (i := 1) (rfl : tables_1_1[1]? = some (Cond.initialized RX11))), ⟨by decide, by decide⟩, by decide⟩
theorem naX11_est : zinv mX11_est 2 := by unfold zinv; decide +kernel
theorem imX11_est : Cond.instanceMethod yX11_est ∈ lw_tbl := zt5 (List.mem_of_getElem? (i := 197) (rfl : tables_1_5[197]? = some (Cond.instanceMethod yX11_est)))
theorem seX11_est : Cond.selects RX11 yX11_est yX11_est ∈ lw_tbl := zt5 (List.mem_of_getElem? (i := 198) (rfl : tables_1_5[198]? = some (Cond.selects RX11 yX11_est yX11_est)))
abbrev mX11_timer : zY := (yX11_timer, cX11_timer, 7, (some .int))
theorem cdX11_timer : zcode mX11_timer := ⟨zt5 (List.mem_of_getElem? (i := 208) (rfl : tables_1_5[208]? = some (Cond.code yX11_timer cX11_timer 7 (some .int)))), zt1 (List.mem_of_getElem? (i := 1) (rfl : tables_1_1[1]? = some (Cond.initialized RX11))), ⟨by decide, by decide⟩, by decide⟩
theorem naX11_timer : zinv mX11_timer 3 := by unfold zinv; decide +kernel
theorem imX11_timer : Cond.instanceMethod yX11_timer ∈ lw_tbl := zt5 (List.mem_of_getElem? (i := 206) (rfl : tables_1_5[206]? = some (Cond.instanceMethod yX11_timer)))
theorem seX11_timer : Cond.selects RX11 yX11_timer yX11_timer ∈ lw_tbl := zt5 (List.mem_of_getElem? (i := 207) (rfl : tables_1_5[207]? = some (Cond.selects RX11 yX11_timer yX11_timer)))
abbrev mX11_gap : zY := (yX11_gap, cX11_gap, 4, (some .int))
theorem cdX11_gap : zcode mX11_gap := ⟨zt5 (List.mem_of_getElem? (i := 221) (rfl : tables_1_5[221]? = some (Cond.code yX11_gap cX11_gap 4 (some .int)))), zt1 (List.mem_of_getElem? (i := 1) (rfl : tables_1_1[1]? = some (Cond.initialized RX11))), ⟨by decide, by decide⟩, by decide⟩
theorem naX11_gap : zinv mX11_gap 3 := by unfold zinv; decide +kernel
theorem imX11_gap : Cond.instanceMethod yX11_gap ∈ lw_tbl := zt5 (List.mem_of_getElem? (i := 219) (rfl : tables_1_5[219]? = some (Cond.instanceMethod yX11_gap)))
theorem seX11_gap : Cond.selects RX11 yX11_gap yX11_gap ∈ lw_tbl := zt5 (List.mem_of_getElem? (i := 220) (rfl : tables_1_5[220]? = some (Cond.selects RX11 yX11_gap yX11_gap)))
abbrev mX11_link : zY := (yX11_link, cX11_link, 4, (some .int))
theorem cdX11_link : zcode mX11_link := ⟨zt5 (List.mem_of_getElem? (i := 232) (rfl : tables_1_5[232]? = some (Cond.code yX11_link cX11_link 4 (some .int)))), zt1 (List.mem_of_getElem? (i := 1) (rfl : tables_1_1[1]? = some (Cond.initialized RX11))), ⟨by decide, by decide⟩, by decide⟩
theorem naX11_link : zinv mX11_link 2 := by unfold zinv; decide +kernel
theorem imX11_link : Cond.instanceMethod yX11_link ∈ lw_tbl := zt5 (List.mem_of_getElem? (i := 230) (rfl : tables_1_5[230]? = some (Cond.instanceMethod yX11_link)))
theorem seX11_link : Cond.selects RX11 yX11_link yX11_link ∈ lw_tbl := zt5 (List.mem_of_getElem? (i := 231) (rfl : tables_1_5[231]? = some (Cond.selects RX11 yX11_link yX11_link)))
abbrev mX11_flight : zY := (yX11_flight, cX11_flight, 4, (some .int))
theorem cdX11_flight : zcode mX11_flight := ⟨zt6 (List.mem_of_getElem? (i := 6) (rfl : tables_1_6[6]? = some (Cond.code yX11_flight cX11_flight 4 (some .int)))), zt1 (List.mem_of_getElem? (i := 1) (rfl : tables_1_1[1]? = some (Cond.initialized RX11))), ⟨by decide, by decide⟩, by decide⟩
theorem naX11_flight : zinv mX11_flight 2 := by unfold zinv; decide +kernel
theorem imX11_flight : Cond.instanceMethod yX11_flight ∈ lw_tbl := zt6 (List.mem_of_getElem? (i := 4) (rfl : tables_1_6[4]? = some (Cond.instanceMethod yX11_flight)))
theorem seX11_flight : Cond.selects RX11 yX11_flight yX11_flight ∈ lw_tbl := zt6 (List.mem_of_getElem? (i := 5) (rfl : tables_1_6[5]? = some (Cond.selects RX11 yX11_flight yX11_flight)))
abbrev mX11_ticks : zY := (yX11_ticks, cX11_ticks, 4, (some .int))
theorem cdX11_ticks : zcode mX11_ticks := ⟨zt6 (List.mem_of_getElem? (i := 15) (rfl : tables_1_6[15]? = some (Cond.code yX11_ticks cX11_ticks 4 (some .int)))), zt1 (List.mem_of_getElem? (i := 1) (rfl : tables_1_1[1]? = some (Cond.initialized RX11))), ⟨by decide, by decide⟩, by decide⟩
theorem naX11_ticks : zinv mX11_ticks 1 := by unfold zinv; decide +kernel
theorem imX11_ticks : Cond.instanceMethod yX11_ticks ∈ lw_tbl := zt6 (List.mem_of_getElem? (i := 13) (rfl : tables_1_6[13]? = some (Cond.instanceMethod yX11_ticks)))
theorem seX11_ticks : Cond.selects RX11 yX11_ticks yX11_ticks ∈ lw_tbl := zt6 (List.mem_of_getElem? (i := 14) (rfl : tables_1_6[14]? = some (Cond.selects RX11 yX11_ticks yX11_ticks)))
abbrev mX11_send : zY := (yX11_send, cX11_send, 1, (some .int))
theorem cdX11_send : zcode mX11_send := ⟨zt6 (List.mem_of_getElem? (i := 24) (rfl : tables_1_6[24]? = some (Cond.code yX11_send cX11_send 1 (some .int)))), zt1 (List.mem_of_getElem? (i := 1) (rfl : tables_1_1[1]? = some (Cond.initialized RX11))), ⟨by decide, by decide⟩, by decide⟩
theorem naX11_send : zinv mX11_send 0 := by unfold zinv; decide +kernel
theorem imX11_send : Cond.instanceMethod yX11_send ∈ lw_tbl := zt6 (List.mem_of_getElem? (i := 22) (rfl : tables_1_6[22]? = some (Cond.instanceMethod yX11_send)))
theorem seX11_send : Cond.selects RX11 yX11_send yX11_send ∈ lw_tbl := zt6 (List.mem_of_getElem? (i := 23) (rfl : tables_1_6[23]? = some (Cond.selects RX11 yX11_send yX11_send)))
abbrev mX11_wake : zY := (yX11_wake, cX11_wake, 3, (some .boolean))
theorem cdX11_wake : zcode mX11_wake := ⟨zt6 (List.mem_of_getElem? (i := 49) (rfl : tables_1_6[49]? = some (Cond.code yX11_wake cX11_wake 3 (some .boolean)))), zt1 (List.mem_of_getElem? (i := 1) (rfl : tables_1_1[1]? = some (Cond.initialized RX11))), ⟨by decide, by decide⟩, by decide⟩
theorem naX11_wake : zinv mX11_wake 2 := by unfold zinv; decide +kernel
theorem imX11_wake : Cond.instanceMethod yX11_wake ∈ lw_tbl := zt6 (List.mem_of_getElem? (i := 47) (rfl : tables_1_6[47]? = some (Cond.instanceMethod yX11_wake)))
theorem seX11_wake : Cond.selects RX11 yX11_wake yX11_wake ∈ lw_tbl := zt6 (List.mem_of_getElem? (i := 48) (rfl : tables_1_6[48]? = some (Cond.selects RX11 yX11_wake yX11_wake)))
abbrev mX11_cut : zY := (yX11_cut, cX11_cut, 3, (some .boolean))
theorem cdX11_cut : zcode mX11_cut := ⟨zt6 (List.mem_of_getElem? (i := 56) (rfl : tables_1_6[56]? = some (Cond.code yX11_cut cX11_cut 3 (some .boolean)))), zt1 (List.mem_of_getElem? (i := 1) (rfl : tables_1_1[1]? = some (Cond.initialized RX11))), ⟨by decide, by decide⟩, by decide⟩
theorem naX11_cut : zinv mX11_cut 2 := by unfold zinv; decide +kernel
theorem imX11_cut : Cond.instanceMethod yX11_cut ∈ lw_tbl := zt6 (List.mem_of_getElem? (i := 54) (rfl : tables_1_6[54]? = some (Cond.instanceMethod yX11_cut)))
theorem seX11_cut : Cond.selects RX11 yX11_cut yX11_cut ∈ lw_tbl := zt6 (List.mem_of_getElem? (i := 55) (rfl : tables_1_6[55]? = some (Cond.selects RX11 yX11_cut yX11_cut)))
abbrev mX11_loss : zY := (yX11_loss, cX11_loss, 4, (some .int))
theorem cdX11_loss : zcode mX11_loss := ⟨zt6 (List.mem_of_getElem? (i := 63) (rfl : tables_1_6[63]? = some (Cond.code yX11_loss cX11_loss 4 (some .int)))), zt1 (List.mem_of_getElem? (i := 1) (rfl : tables_1_1[1]? = some (Cond.initialized RX11))), ⟨by decide, by decide⟩, by decide⟩
theorem naX11_loss : zinv mX11_loss 2 := by unfold zinv; decide +kernel
theorem imX11_loss : Cond.instanceMethod yX11_loss ∈ lw_tbl := zt6 (List.mem_of_getElem? (i := 61) (rfl : tables_1_6[61]? = some (Cond.instanceMethod yX11_loss)))
theorem seX11_loss : Cond.selects RX11 yX11_loss yX11_loss ∈ lw_tbl := zt6 (List.mem_of_getElem? (i := 62) (rfl : tables_1_6[62]? = some (Cond.selects RX11 yX11_loss yX11_loss)))
abbrev mX11_give : zY := (yX11_give, cX11_give, 4, (some .boolean))
theorem cdX11_give : zcode mX11_give := ⟨zt6 (List.mem_of_getElem? (i := 71) (rfl : tables_1_6[71]? = some (Cond.code yX11_give cX11_give 4 (some .boolean)))), zt1 (List.mem_of_getElem? (i := 1) (rfl : tables_1_1[1]? = some (Cond.initialized RX11))), ⟨by decide, by decide⟩, by decide⟩
theorem naX11_give : zinv mX11_give 3 := by unfold zinv; decide +kernel
theorem imX11_give : Cond.instanceMethod yX11_give ∈ lw_tbl := zt6 (List.mem_of_getElem? (i := 69) (rfl : tables_1_6[69]? = some (Cond.instanceMethod yX11_give)))
theorem seX11_give : Cond.selects RX11 yX11_give yX11_give ∈ lw_tbl := zt6 (List.mem_of_getElem? (i := 70) (rfl : tables_1_6[70]? = some (Cond.selects RX11 yX11_give yX11_give)))
abbrev mX11_way : zY := (yX11_way, cX11_way, 5, (some .int))
theorem cdX11_way : zcode mX11_way := ⟨zt6 (List.mem_of_getElem? (i := 88) (rfl : tables_1_6[88]? = some (Cond.code yX11_way cX11_way 5 (some .int)))), zt1 (List.mem_of_getElem? (i := 1) (rfl : tables_1_1[1]? = some (Cond.initialized RX11))), ⟨by decide, by decide⟩, by decide⟩
theorem naX11_way : zinv mX11_way 3 := by unfold zinv; decide +kernel
theorem imX11_way : Cond.instanceMethod yX11_way ∈ lw_tbl := zt6 (List.mem_of_getElem? (i := 86) (rfl : tables_1_6[86]? = some (Cond.instanceMethod yX11_way)))
theorem seX11_way : Cond.selects RX11 yX11_way yX11_way ∈ lw_tbl := zt6 (List.mem_of_getElem? (i := 87) (rfl : tables_1_6[87]? = some (Cond.selects RX11 yX11_way yX11_way)))
abbrev mX11_above : zY := (yX11_above, cX11_above, 3, (some .int))
theorem cdX11_above : zcode mX11_above := ⟨zt6 (List.mem_of_getElem? (i := 95) (rfl : tables_1_6[95]? = some (Cond.code yX11_above cX11_above 3 (some .int)))), zt1 (List.mem_of_getElem? (i := 1) (rfl : tables_1_1[1]? = some (Cond.initialized RX11))), ⟨by decide, by decide⟩, by decide⟩
theorem naX11_above : zinv mX11_above 2 := by unfold zinv; decide +kernel
theorem imX11_above : Cond.instanceMethod yX11_above ∈ lw_tbl := zt6 (List.mem_of_getElem? (i := 93) (rfl : tables_1_6[93]? = some (Cond.instanceMethod yX11_above)))
theorem seX11_above : Cond.selects RX11 yX11_above yX11_above ∈ lw_tbl := zt6 (List.mem_of_getElem? (i := 94) (rfl : tables_1_6[94]? = some (Cond.selects RX11 yX11_above yX11_above)))
abbrev mX11_window : zY := (yX11_window, cX11_window, 4, (some .int))
theorem cdX11_window : zcode mX11_window := ⟨zt6 (List.mem_of_getElem? (i := 102) (rfl : tables_1_6[102]? = some (Cond.code yX11_window cX11_window 4 (some .int)))), zt1 (List.mem_of_getElem? (i := 1) (rfl : tables_1_1[1]? = some (Cond.initialized RX11))), ⟨by decide, by decide⟩, by decide⟩
theorem naX11_window : zinv mX11_window 3 := by unfold zinv; decide +kernel
theorem imX11_window : Cond.instanceMethod yX11_window ∈ lw_tbl := zt6 (List.mem_of_getElem? (i := 100) (rfl : tables_1_6[100]? = some (Cond.instanceMethod yX11_window)))
theorem seX11_window : Cond.selects RX11 yX11_window yX11_window ∈ lw_tbl := zt6 (List.mem_of_getElem? (i := 101) (rfl : tables_1_6[101]? = some (Cond.selects RX11 yX11_window yX11_window)))
abbrev mX11_near : zY := (yX11_near, cX11_near, 3, (some .int))
theorem cdX11_near : zcode mX11_near := ⟨zt6 (List.mem_of_getElem? (i := 113) (rfl : tables_1_6[113]? = some (Cond.code yX11_near cX11_near 3 (some .int)))), zt1 (List.mem_of_getElem? (i := 1) (rfl : tables_1_1[1]? = some (Cond.initialized RX11))), ⟨by decide, by decide⟩, by decide⟩
theorem naX11_near : zinv mX11_near 2 := by unfold zinv; decide +kernel
theorem imX11_near : Cond.instanceMethod yX11_near ∈ lw_tbl := zt6 (List.mem_of_getElem? (i := 111) (rfl : tables_1_6[111]? = some (Cond.instanceMethod yX11_near)))
theorem seX11_near : Cond.selects RX11 yX11_near yX11_near ∈ lw_tbl := zt6 (List.mem_of_getElem? (i := 112) (rfl : tables_1_6[112]? = some (Cond.selects RX11 yX11_near yX11_near)))
abbrev mX11_reach : zY := (yX11_reach, cX11_reach, 3, (some .int))
theorem cdX11_reach : zcode mX11_reach := ⟨zt6 (List.mem_of_getElem? (i := 131) (rfl : tables_1_6[131]? = some (Cond.code yX11_reach cX11_reach 3 (some .int)))), zt1 (List.mem_of_getElem? (i := 1) (rfl : tables_1_1[1]? = some (Cond.initialized RX11))), ⟨by decide, by decide⟩, by decide⟩
theorem naX11_reach : zinv mX11_reach 2 := by unfold zinv; decide +kernel
theorem imX11_reach : Cond.instanceMethod yX11_reach ∈ lw_tbl := zt6 (List.mem_of_getElem? (i := 129) (rfl : tables_1_6[129]? = some (Cond.instanceMethod yX11_reach)))
theorem seX11_reach : Cond.selects RX11 yX11_reach yX11_reach ∈ lw_tbl := zt6 (List.mem_of_getElem? (i := 130) (rfl : tables_1_6[130]? = some (Cond.selects RX11 yX11_reach yX11_reach)))
abbrev mX11_far : zY := (yX11_far, cX11_far, 5, (some .int))
theorem cdX11_far : zcode mX11_far := ⟨zt6 (List.mem_of_getElem? (i := 146) (rfl : tables_1_6[146]? = some (Cond.code yX11_far cX11_far 5 (some .int)))), zt1 (List.mem_of_getElem? (i := 1) (rfl : tables_1_1[1]? = some (Cond.initialized RX11))), ⟨by decide, by decide⟩, by decide⟩
theorem naX11_far : zinv mX11_far 2 := by unfold zinv; decide +kernel
theorem imX11_far : Cond.instanceMethod yX11_far ∈ lw_tbl := zt6 (List.mem_of_getElem? (i := 144) (rfl : tables_1_6[144]? = some (Cond.instanceMethod yX11_far)))
theorem seX11_far : Cond.selects RX11 yX11_far yX11_far ∈ lw_tbl := zt6 (List.mem_of_getElem? (i := 145) (rfl : tables_1_6[145]? = some (Cond.selects RX11 yX11_far yX11_far)))
abbrev mX11_whole : zY := (yX11_whole, cX11_whole, 3, (some .int))
theorem cdX11_whole : zcode mX11_whole := ⟨zt3 (List.mem_of_getElem? (i := 80) (rfl : tables_1_3[80]? = some (Cond.code yX11_whole cX11_whole 3 (some .int)))), zt1 (List.mem_of_getElem? (i := 1) (rfl : tables_1_1[1]? = some (Cond.initialized RX11))), ⟨by decide, by decide⟩, by decide⟩
theorem naX11_whole : zinv mX11_whole 1 := by unfold zinv; decide +kernel
theorem imX11_whole : Cond.instanceMethod yX11_whole ∈ lw_tbl := zt3 (List.mem_of_getElem? (i := 78) (rfl : tables_1_3[78]? = some (Cond.instanceMethod yX11_whole)))
theorem seX11_whole : Cond.selects RX11 yX11_whole yX11_whole ∈ lw_tbl := zt3 (List.mem_of_getElem? (i := 79) (rfl : tables_1_3[79]? = some (Cond.selects RX11 yX11_whole yX11_whole)))
abbrev mX11_talk : zY := (yX11_talk, cX11_talk, 6, (some .int))
theorem cdX11_talk : zcode mX11_talk := ⟨zt6 (List.mem_of_getElem? (i := 153) (rfl : tables_1_6[153]? = some (Cond.code yX11_talk cX11_talk 6 (some .int)))), zt1 (List.mem_of_getElem? (i := 1) (rfl : tables_1_1[1]? = some (Cond.initialized RX11))), ⟨by decide, by decide⟩, by decide⟩
theorem naX11_talk : zinv mX11_talk 3 := by unfold zinv; decide +kernel
theorem imX11_talk : Cond.instanceMethod yX11_talk ∈ lw_tbl := zt6 (List.mem_of_getElem? (i := 151) (rfl : tables_1_6[151]? = some (Cond.instanceMethod yX11_talk)))
theorem seX11_talk : Cond.selects RX11 yX11_talk yX11_talk ∈ lw_tbl := zt6 (List.mem_of_getElem? (i := 152) (rfl : tables_1_6[152]? = some (Cond.selects RX11 yX11_talk yX11_talk)))
abbrev mX11_parts : zY := (yX11_parts, cX11_parts, 1, (some .int))
theorem cdX11_parts : zcode mX11_parts := ⟨zt4 (List.mem_of_getElem? (i := 88) (rfl : tables_1_4[88]? = some (Cond.code yX11_parts cX11_parts 1 (some .int)))), zt1 (List.mem_of_getElem? (i := 1) (rfl : tables_1_1[1]? = some (Cond.initialized RX11))), ⟨by decide, by decide⟩, by decide⟩
theorem naX11_parts : zinv mX11_parts 0 := by unfold zinv; decide +kernel
theorem imX11_parts : Cond.instanceMethod yX11_parts ∈ lw_tbl := zt4 (List.mem_of_getElem? (i := 86) (rfl : tables_1_4[86]? = some (Cond.instanceMethod yX11_parts)))
theorem seX11_parts : Cond.selects RX11 yX11_parts yX11_parts ∈ lw_tbl := zt4 (List.mem_of_getElem? (i := 87) (rfl : tables_1_4[87]? = some (Cond.selects RX11 yX11_parts yX11_parts)))
abbrev mX11_giver : zY := (yX11_giver, cX11_giver, 8, (some .int))
theorem cdX11_giver : zcode mX11_giver := ⟨zt6 (List.mem_of_getElem? (i := 173) (rfl : tables_1_6[173]? = some (Cond.code yX11_giver cX11_giver 8 (some .int)))), zt1 (List.mem_of_getElem? (i := 1) (rfl : tables_1_1[1]? = some (Cond.initialized RX11))), ⟨by decide, by decide⟩, by decide⟩
theorem naX11_giver : zinv mX11_giver 3 := by unfold zinv; decide +kernel
theorem imX11_giver : Cond.instanceMethod yX11_giver ∈ lw_tbl := zt6 (List.mem_of_getElem? (i := 171) (rfl : tables_1_6[171]? = some (Cond.instanceMethod yX11_giver)))
theorem seX11_giver : Cond.selects RX11 yX11_giver yX11_giver ∈ lw_tbl := zt6 (List.mem_of_getElem? (i := 172) (rfl : tables_1_6[172]? = some (Cond.selects RX11 yX11_giver yX11_giver)))
abbrev mX11_when : zY := (yX11_when, cX11_when, 3, (some .int))
theorem cdX11_when : zcode mX11_when := ⟨zt6 (List.mem_of_getElem? (i := 181) (rfl : tables_1_6[181]? = some (Cond.code yX11_when cX11_when 3 (some .int)))), zt1 (List.mem_of_getElem? (i := 1) (rfl : tables_1_1[1]? = some (Cond.initialized RX11))), ⟨by decide, by decide⟩, by decide⟩
theorem naX11_when : zinv mX11_when 2 := by unfold zinv; decide +kernel
theorem imX11_when : Cond.instanceMethod yX11_when ∈ lw_tbl := zt6 (List.mem_of_getElem? (i := 179) (rfl : tables_1_6[179]? = some (Cond.instanceMethod yX11_when)))
theorem seX11_when : Cond.selects RX11 yX11_when yX11_when ∈ lw_tbl := zt6 (List.mem_of_getElem? (i := 180) (rfl : tables_1_6[180]? = some (Cond.selects RX11 yX11_when yX11_when)))
abbrev mX11_route : zY := (yX11_route, cX11_route, 7, (some .int))
theorem cdX11_route : zcode mX11_route := ⟨zt6 (List.mem_of_getElem? (i := 188) (rfl : tables_1_6[188]? = some (Cond.code yX11_route cX11_route 7 (some .int)))), zt1 (List.mem_of_getElem? (i := 1) (rfl : tables_1_1[1]? = some (Cond.initialized RX11))), ⟨by decide, by decide⟩, by decide⟩
theorem naX11_route : zinv mX11_route 3 := by unfold zinv; decide +kernel
theorem imX11_route : Cond.instanceMethod yX11_route ∈ lw_tbl := zt6 (List.mem_of_getElem? (i := 186) (rfl : tables_1_6[186]? = some (Cond.instanceMethod yX11_route)))
theorem seX11_route : Cond.selects RX11 yX11_route yX11_route ∈ lw_tbl := zt6 (List.mem_of_getElem? (i := 187) (rfl : tables_1_6[187]? = some (Cond.selects RX11 yX11_route yX11_route)))
abbrev mX11_crossed : zY := (yX11_crossed, cX11_crossed, 3, (some .int))
theorem cdX11_crossed : zcode mX11_crossed := ⟨zt6 (List.mem_of_getElem? (i := 195) (rfl : tables_1_6[195]? = some (Cond.code yX11_crossed cX11_crossed 3 (some .int)))), zt1 (List.mem_of_getElem? (i := 1) (rfl : tables_1_1[1]? = some (Cond.initialized RX11))), ⟨by decide, by decide⟩, by decide⟩
theorem naX11_crossed : zinv mX11_crossed 2 := by unfold zinv; decide +kernel
theorem imX11_crossed : Cond.instanceMethod yX11_crossed ∈ lw_tbl := zt6 (List.mem_of_getElem? (i := 193) (rfl : tables_1_6[193]? = some (Cond.instanceMethod yX11_crossed)))
theorem seX11_crossed : Cond.selects RX11 yX11_crossed yX11_crossed ∈ lw_tbl := zt6 (List.mem_of_getElem? (i := 194) (rfl : tables_1_6[194]? = some (Cond.selects RX11 yX11_crossed yX11_crossed)))
abbrev mX11_center : zY := (yX11_center, cX11_center, 1, (some .int))
theorem cdX11_center : zcode mX11_center := ⟨zt4 (List.mem_of_getElem? (i := 105) (rfl : tables_1_4[105]? = some (Cond.code yX11_center cX11_center 1 (some .int)))), zt1 (List.mem_of_getElem? (i := 1) (rfl : tables_1_1[1]? = some (Cond.initialized RX11))), ⟨by decide, by decide⟩, by decide⟩
theorem naX11_center : zinv mX11_center 0 := by unfold zinv; decide +kernel
theorem imX11_center : Cond.instanceMethod yX11_center ∈ lw_tbl := zt4 (List.mem_of_getElem? (i := 103) (rfl : tables_1_4[103]? = some (Cond.instanceMethod yX11_center)))
theorem seX11_center : Cond.selects RX11 yX11_center yX11_center ∈ lw_tbl := zt4 (List.mem_of_getElem? (i := 104) (rfl : tables_1_4[104]? = some (Cond.selects RX11 yX11_center yX11_center)))
abbrev mX11_first : zY := (yX11_first, cX11_first, 6, (some .int))
theorem cdX11_first : zcode mX11_first := ⟨zt6 (List.mem_of_getElem? (i := 206) (rfl : tables_1_6[206]? = some (Cond.code yX11_first cX11_first 6 (some .int)))), zt1 (List.mem_of_getElem? (i := 1) (rfl : tables_1_1[1]? = some (Cond.initialized RX11))), ⟨by decide, by decide⟩, by decide⟩
theorem naX11_first : zinv mX11_first 1 := by unfold zinv; decide +kernel
theorem imX11_first : Cond.instanceMethod yX11_first ∈ lw_tbl := zt6 (List.mem_of_getElem? (i := 204) (rfl : tables_1_6[204]? = some (Cond.instanceMethod yX11_first)))
theorem seX11_first : Cond.selects RX11 yX11_first yX11_first ∈ lw_tbl := zt6 (List.mem_of_getElem? (i := 205) (rfl : tables_1_6[205]? = some (Cond.selects RX11 yX11_first yX11_first)))
abbrev mX11_blind : zY := (yX11_blind, cX11_blind, 3, (some .int))
theorem cdX11_blind : zcode mX11_blind := ⟨zt6 (List.mem_of_getElem? (i := 213) (rfl : tables_1_6[213]? = some (Cond.code yX11_blind cX11_blind 3 (some .int)))), zt1 (List.mem_of_getElem? (i := 1) (rfl : tables_1_1[1]? = some (Cond.initialized RX11))), ⟨by decide, by decide⟩, by decide⟩
theorem naX11_blind : zinv mX11_blind 1 := by unfold zinv; decide +kernel
theorem imX11_blind : Cond.instanceMethod yX11_blind ∈ lw_tbl := zt6 (List.mem_of_getElem? (i := 211) (rfl : tables_1_6[211]? = some (Cond.instanceMethod yX11_blind)))
theorem seX11_blind : Cond.selects RX11 yX11_blind yX11_blind ∈ lw_tbl := zt6 (List.mem_of_getElem? (i := 212) (rfl : tables_1_6[212]? = some (Cond.selects RX11 yX11_blind yX11_blind)))
abbrev mX11_guard : zY := (yX11_guard, cX11_guard, 3, (some .int))
theorem cdX11_guard : zcode mX11_guard := ⟨zt6 (List.mem_of_getElem? (i := 221) (rfl : tables_1_6[221]? = some (Cond.code yX11_guard cX11_guard 3 (some .int)))), zt1 (List.mem_of_getElem? (i := 1) (rfl : tables_1_1[1]? = some (Cond.initialized RX11))), ⟨by decide, by decide⟩, by decide⟩
theorem naX11_guard : zinv mX11_guard 2 := by unfold zinv; decide +kernel
theorem imX11_guard : Cond.instanceMethod yX11_guard ∈ lw_tbl := zt6 (List.mem_of_getElem? (i := 219) (rfl : tables_1_6[219]? = some (Cond.instanceMethod yX11_guard)))
theorem seX11_guard : Cond.selects RX11 yX11_guard yX11_guard ∈ lw_tbl := zt6 (List.mem_of_getElem? (i := 220) (rfl : tables_1_6[220]? = some (Cond.selects RX11 yX11_guard yX11_guard)))
abbrev mX11_best : zY := (yX11_best, cX11_best, 8, (some .int))
theorem cdX11_best : zcode mX11_best := ⟨zt6 (List.mem_of_getElem? (i := 238) (rfl : tables_1_6[238]? = some (Cond.code yX11_best cX11_best 8 (some .int)))), zt1 (List.mem_of_getElem? (i := 1) (rfl : tables_1_1[1]? = some (Cond.initialized RX11))), ⟨by decide, by decide⟩, by decide⟩
theorem naX11_best : zinv mX11_best 2 := by unfold zinv; decide +kernel
theorem imX11_best : Cond.instanceMethod yX11_best ∈ lw_tbl := zt6 (List.mem_of_getElem? (i := 236) (rfl : tables_1_6[236]? = some (Cond.instanceMethod yX11_best)))
theorem seX11_best : Cond.selects RX11 yX11_best yX11_best ∈ lw_tbl := zt6 (List.mem_of_getElem? (i := 237) (rfl : tables_1_6[237]? = some (Cond.selects RX11 yX11_best yX11_best)))
abbrev mX11_spread : zY := (yX11_spread, cX11_spread, 2, (some .int))
theorem cdX11_spread : zcode mX11_spread := ⟨zt7 (List.mem_of_getElem? (i := 6) (rfl : tables_1_7[6]? = some (Cond.code yX11_spread cX11_spread 2 (some .int)))), zt1 (List.mem_of_getElem? (i := 1) (rfl : tables_1_1[1]? = some (Cond.initialized RX11))), ⟨by decide, by decide⟩, by decide⟩
theorem naX11_spread : zinv mX11_spread 1 := by unfold zinv; decide +kernel
theorem imX11_spread : Cond.instanceMethod yX11_spread ∈ lw_tbl := zt7 (List.mem_of_getElem? (i := 4) (rfl : tables_1_7[4]? = some (Cond.instanceMethod yX11_spread)))
theorem seX11_spread : Cond.selects RX11 yX11_spread yX11_spread ∈ lw_tbl := zt7 (List.mem_of_getElem? (i := 5) (rfl : tables_1_7[5]? = some (Cond.selects RX11 yX11_spread yX11_spread)))
abbrev mX11_holders : zY := (yX11_holders, cX11_holders, 2, (some .int))
theorem cdX11_holders : zcode mX11_holders := ⟨zt7 (List.mem_of_getElem? (i := 24) (rfl : tables_1_7[24]? = some (Cond.code yX11_holders cX11_holders 2 (some .int)))), zt1 (List.mem_of_getElem? (i := 1) (rfl : tables_1_1[1]? = some (Cond.initialized RX11))), ⟨by decide, by decide⟩, by decide⟩
theorem naX11_holders : zinv mX11_holders 1 := by unfold zinv; decide +kernel
theorem imX11_holders : Cond.instanceMethod yX11_holders ∈ lw_tbl := zt7 (List.mem_of_getElem? (i := 22) (rfl : tables_1_7[22]? = some (Cond.instanceMethod yX11_holders)))
theorem seX11_holders : Cond.selects RX11 yX11_holders yX11_holders ∈ lw_tbl := zt7 (List.mem_of_getElem? (i := 23) (rfl : tables_1_7[23]? = some (Cond.selects RX11 yX11_holders yX11_holders)))
abbrev mX11_log : zY := (yX11_log, cX11_log, 3, (some .int))
theorem cdX11_log : zcode mX11_log := ⟨zt7 (List.mem_of_getElem? (i := 31) (rfl : tables_1_7[31]? = some (Cond.code yX11_log cX11_log 3 (some .int)))), zt1 (List.mem_of_getElem? (i := 1) (rfl : tables_1_1[1]? = some (Cond.initialized RX11))), ⟨by decide, by decide⟩, by decide⟩
theorem naX11_log : zinv mX11_log 2 := by unfold zinv; decide +kernel
theorem imX11_log : Cond.instanceMethod yX11_log ∈ lw_tbl := zt7 (List.mem_of_getElem? (i := 29) (rfl : tables_1_7[29]? = some (Cond.instanceMethod yX11_log)))
theorem seX11_log : Cond.selects RX11 yX11_log yX11_log ∈ lw_tbl := zt7 (List.mem_of_getElem? (i := 30) (rfl : tables_1_7[30]? = some (Cond.selects RX11 yX11_log yX11_log)))
abbrev mX11_seed : zY := (yX11_seed, cX11_seed, 3, (some .int))
theorem cdX11_seed : zcode mX11_seed := ⟨zt4 (List.mem_of_getElem? (i := 118) (rfl : tables_1_4[118]? = some (Cond.code yX11_seed cX11_seed 3 (some .int)))), zt1 (List.mem_of_getElem? (i := 1) (rfl : tables_1_1[1]? = some (Cond.initialized RX11))), ⟨by decide, by decide⟩, by decide⟩
theorem naX11_seed : zinv mX11_seed 1 := by unfold zinv; decide +kernel
theorem imX11_seed : Cond.instanceMethod yX11_seed ∈ lw_tbl := zt4 (List.mem_of_getElem? (i := 116) (rfl : tables_1_4[116]? = some (Cond.instanceMethod yX11_seed)))
theorem seX11_seed : Cond.selects RX11 yX11_seed yX11_seed ∈ lw_tbl := zt4 (List.mem_of_getElem? (i := 117) (rfl : tables_1_4[117]? = some (Cond.selects RX11 yX11_seed yX11_seed)))
abbrev mX11_image : zY := (yX11_image, cX11_image, 1, none)
theorem cdX11_image : zcode mX11_image := ⟨zt4 (List.mem_of_getElem? (i := 122) (rfl : tables_1_4[122]? = some (Cond.code yX11_image cX11_image 1 none))), zt1 (List.mem_of_getElem? (i := 1) (rfl : tables_1_1[1]? = some (Cond.initialized RX11))), ⟨by decide, by decide⟩, by decide⟩
theorem naX11_image : zinv mX11_image 0 := by unfold zinv; decide +kernel
theorem imX11_image : Cond.instanceMethod yX11_image ∈ lw_tbl := zt4 (List.mem_of_getElem? (i := 120) (rfl : tables_1_4[120]? = some (Cond.instanceMethod yX11_image)))
theorem seX11_image : Cond.selects RX11 yX11_image yX11_image ∈ lw_tbl := zt4 (List.mem_of_getElem? (i := 121) (rfl : tables_1_4[121]? = some (Cond.selects RX11 yX11_image yX11_image)))
abbrev mX11_back : zY := (yX11_back, cX11_back, 1, (some .boolean))
theorem cdX11_back : zcode mX11_back := ⟨zt4 (List.mem_of_getElem? (i := 126) (rfl : tables_1_4[126]? = some (Cond.code yX11_back cX11_back 1 (some .boolean)))), zt1 (List.mem_of_getElem? (i := 1) (rfl : tables_1_1[1]? = some (Cond.initialized RX11))), ⟨by decide, by decide⟩, by decide⟩
theorem naX11_back : zinv mX11_back 0 := by unfold zinv; decide +kernel
theorem imX11_back : Cond.instanceMethod yX11_back ∈ lw_tbl := zt4 (List.mem_of_getElem? (i := 124) (rfl : tables_1_4[124]? = some (Cond.instanceMethod yX11_back)))
theorem seX11_back : Cond.selects RX11 yX11_back yX11_back ∈ lw_tbl := zt4 (List.mem_of_getElem? (i := 125) (rfl : tables_1_4[125]? = some (Cond.selects RX11 yX11_back yX11_back)))
abbrev mX11_count : zY := (yX11_count, cX11_count, 3, (some .int))
theorem cdX11_count : zcode mX11_count := ⟨zt4 (List.mem_of_getElem? (i := 130) (rfl : tables_1_4[130]? = some (Cond.code yX11_count cX11_count 3 (some .int)))), zt1 (List.mem_of_getElem? (i := 1) (rfl : tables_1_1[1]? = some (Cond.initialized RX11))), ⟨by decide, by decide⟩, by decide⟩
theorem naX11_count : zinv mX11_count 1 := by unfold zinv; decide +kernel
theorem imX11_count : Cond.instanceMethod yX11_count ∈ lw_tbl := zt4 (List.mem_of_getElem? (i := 128) (rfl : tables_1_4[128]? = some (Cond.instanceMethod yX11_count)))
theorem seX11_count : Cond.selects RX11 yX11_count yX11_count ∈ lw_tbl := zt4 (List.mem_of_getElem? (i := 129) (rfl : tables_1_4[129]? = some (Cond.selects RX11 yX11_count yX11_count)))
abbrev mX11_checkNode : zY := (yX11_checkNode, cX11_checkNode, 2, none)
theorem cdX11_checkNode : zcode mX11_checkNode := ⟨zt5 (List.mem_of_getElem? (i := 158) (rfl : tables_1_5[158]? = some (Cond.code yX11_checkNode cX11_checkNode 2 none))), zt1 (List.mem_of_getElem? (i := 1) (rfl : tables_1_1[1]? = some (Cond.initialized RX11))), ⟨by decide, by decide⟩, by decide⟩
theorem naX11_checkNode : zinv mX11_checkNode 1 := by unfold zinv; decide +kernel
theorem imX11_checkNode : Cond.instanceMethod yX11_checkNode ∈ lw_tbl := zt5 (List.mem_of_getElem? (i := 157) (rfl : tables_1_5[157]? = some (Cond.instanceMethod yX11_checkNode)))
theorem seX11_checkNode : Cond.selects RX11 yX11_checkNode yX11_checkNode ∈ lw_tbl := List.mem_of_getElem? (i := 41) (by decide +kernel : lw_tbl[41]? = some (Cond.selects RX11 yX11_checkNode yX11_checkNode))
abbrev mX11_checkLink : zY := (yX11_checkLink, cX11_checkLink, 2, none)
theorem cdX11_checkLink : zcode mX11_checkLink := ⟨zt5 (List.mem_of_getElem? (i := 236) (rfl : tables_1_5[236]? = some (Cond.code yX11_checkLink cX11_checkLink 2 none))), zt1 (List.mem_of_getElem? (i := 1) (rfl : tables_1_1[1]? = some (Cond.initialized RX11))), ⟨by decide, by decide⟩, by decide⟩
theorem naX11_checkLink : zinv mX11_checkLink 1 := by unfold zinv; decide +kernel
theorem imX11_checkLink : Cond.instanceMethod yX11_checkLink ∈ lw_tbl := zt5 (List.mem_of_getElem? (i := 235) (rfl : tables_1_5[235]? = some (Cond.instanceMethod yX11_checkLink)))
theorem seX11_checkLink : Cond.selects RX11 yX11_checkLink yX11_checkLink ∈ lw_tbl := List.mem_of_getElem? (i := 42) (by decide +kernel : lw_tbl[42]? = some (Cond.selects RX11 yX11_checkLink yX11_checkLink))
abbrev mX11_checkPacket : zY := (yX11_checkPacket, cX11_checkPacket, 1, none)
theorem cdX11_checkPacket : zcode mX11_checkPacket := ⟨zt5 (List.mem_of_getElem? (i := 211) (rfl : tables_1_5[211]? = some (Cond.code yX11_checkPacket cX11_checkPacket 1 none))), zt1 (List.mem_of_getElem? (i := 1) (rfl : tables_1_1[1]? = some (Cond.initialized RX11))), ⟨by decide, by decide⟩, by decide⟩
theorem naX11_checkPacket : zinv mX11_checkPacket 1 := by unfold zinv; decide +kernel
theorem stX11_checkPacket : Cond.static yX11_checkPacket ∈ lw_tbl := zt5 (List.mem_of_getElem? (i := 210) (rfl : tables_1_5[210]? = some (Cond.static yX11_checkPacket)))
abbrev mX11_checkScope : zY := (yX11_checkScope, cX11_checkScope, 1, none)
theorem cdX11_checkScope : zcode mX11_checkScope := ⟨zt6 (List.mem_of_getElem? (i := 134) (rfl : tables_1_6[134]? = some (Cond.code yX11_checkScope cX11_checkScope 1 none))), zt1 (List.mem_of_getElem? (i := 1) (rfl : tables_1_1[1]? = some (Cond.initialized RX11))), ⟨by decide, by decide⟩, by decide⟩
theorem naX11_checkScope : zinv mX11_checkScope 1 := by unfold zinv; decide +kernel
theorem stX11_checkScope : Cond.static yX11_checkScope ∈ lw_tbl := zt6 (List.mem_of_getElem? (i := 133) (rfl : tables_1_6[133]? = some (Cond.static yX11_checkScope)))
abbrev mX11_lookAhead : zY := (yX11_lookAhead, cX11_lookAhead, 2, none)
theorem cdX11_lookAhead : zcode mX11_lookAhead := ⟨zt3 (List.mem_of_getElem? (i := 84) (rfl : tables_1_3[84]? = some (Cond.code yX11_lookAhead cX11_lookAhead 2 none))), zt1 (List.mem_of_getElem? (i := 1) (rfl : tables_1_1[1]? = some (Cond.initialized RX11))), ⟨by decide, by decide⟩, by decide⟩
theorem naX11_lookAhead : zinv mX11_lookAhead 1 := by unfold zinv; decide +kernel
theorem imX11_lookAhead : Cond.instanceMethod yX11_lookAhead ∈ lw_tbl := zt3 (List.mem_of_getElem? (i := 83) (rfl : tables_1_3[83]? = some (Cond.instanceMethod yX11_lookAhead)))
theorem seX11_lookAhead : Cond.selects RX11 yX11_lookAhead yX11_lookAhead ∈ lw_tbl := List.mem_of_getElem? (i := 0) (by decide +kernel : lw_tbl[0]? = some (Cond.selects RX11 yX11_lookAhead yX11_lookAhead))
abbrev mX11_pair : zY := (yX11_pair, cX11_pair, 2, (some .int))
theorem cdX11_pair : zcode mX11_pair := ⟨zt3 (List.mem_of_getElem? (i := 174) (rfl : tables_1_3[174]? = some (Cond.code yX11_pair cX11_pair 2 (some .int)))), zt1 (List.mem_of_getElem? (i := 1) (rfl : tables_1_1[1]? = some (Cond.initialized RX11))), ⟨by decide, by decide⟩, by decide⟩
theorem naX11_pair : zinv mX11_pair 2 := by unfold zinv; decide +kernel
theorem stX11_pair : Cond.static yX11_pair ∈ lw_tbl := zt3 (List.mem_of_getElem? (i := 173) (rfl : tables_1_3[173]? = some (Cond.static yX11_pair)))
abbrev mX11_cell : zY := (yX11_cell, cX11_cell, 2, (some .int))
theorem cdX11_cell : zcode mX11_cell := ⟨zt3 (List.mem_of_getElem? (i := 163) (rfl : tables_1_3[163]? = some (Cond.code yX11_cell cX11_cell 2 (some .int)))), zt1 (List.mem_of_getElem? (i := 1) (rfl : tables_1_1[1]? = some (Cond.initialized RX11))), ⟨by decide, by decide⟩, by decide⟩
theorem naX11_cell : zinv mX11_cell 2 := by unfold zinv; decide +kernel
theorem stX11_cell : Cond.static yX11_cell ∈ lw_tbl := zt3 (List.mem_of_getElem? (i := 162) (rfl : tables_1_3[162]? = some (Cond.static yX11_cell)))
abbrev mX11_isIn : zY := (yX11_isIn, cX11_isIn, 2, (some .boolean))
theorem cdX11_isIn : zcode mX11_isIn := ⟨zt3 (List.mem_of_getElem? (i := 148) (rfl : tables_1_3[148]? = some (Cond.code yX11_isIn cX11_isIn 2 (some .boolean)))), zt1 (List.mem_of_getElem? (i := 1) (rfl : tables_1_1[1]? = some (Cond.initialized RX11))), ⟨by decide, by decide⟩, by decide⟩
theorem naX11_isIn : zinv mX11_isIn 2 := by unfold zinv; decide +kernel
theorem stX11_isIn : Cond.static yX11_isIn ∈ lw_tbl := zt3 (List.mem_of_getElem? (i := 147) (rfl : tables_1_3[147]? = some (Cond.static yX11_isIn)))
abbrev mX11_bitsBelow : zY := (yX11_bitsBelow, cX11_bitsBelow, 1, (some .int))
theorem cdX11_bitsBelow : zcode mX11_bitsBelow := ⟨zt3 (List.mem_of_getElem? (i := 141) (rfl : tables_1_3[141]? = some (Cond.code yX11_bitsBelow cX11_bitsBelow 1 (some .int)))), zt1 (List.mem_of_getElem? (i := 1) (rfl : tables_1_1[1]? = some (Cond.initialized RX11))), ⟨by decide, by decide⟩, by decide⟩
theorem naX11_bitsBelow : zinv mX11_bitsBelow 1 := by unfold zinv; decide +kernel
theorem stX11_bitsBelow : Cond.static yX11_bitsBelow ∈ lw_tbl := zt3 (List.mem_of_getElem? (i := 140) (rfl : tables_1_3[140]? = some (Cond.static yX11_bitsBelow)))
abbrev mX11_copyRow : zY := (yX11_copyRow, cX11_copyRow, 2, none)
theorem cdX11_copyRow : zcode mX11_copyRow := ⟨zt3 (List.mem_of_getElem? (i := 103) (rfl : tables_1_3[103]? = some (Cond.code yX11_copyRow cX11_copyRow 2 none))), zt1 (List.mem_of_getElem? (i := 1) (rfl : tables_1_1[1]? = some (Cond.initialized RX11))), ⟨by decide, by decide⟩, by decide⟩
theorem naX11_copyRow : zinv mX11_copyRow 2 := by unfold zinv; decide +kernel
theorem stX11_copyRow : Cond.static yX11_copyRow ∈ lw_tbl := zt3 (List.mem_of_getElem? (i := 102) (rfl : tables_1_3[102]? = some (Cond.static yX11_copyRow)))
abbrev mX11_rowOfNone : zY := (yX11_rowOfNone, cX11_rowOfNone, 2, (some (.array .int)))
theorem cdX11_rowOfNone : zcode mX11_rowOfNone := ⟨zt1 (List.mem_of_getElem? (i := 156) (rfl : tables_1_1[156]? = some (Cond.code yX11_rowOfNone cX11_rowOfNone 2 (some (.array .int))))), zt1 (List.mem_of_getElem? (i := 1) (rfl : tables_1_1[1]? = some (Cond.initialized RX11))), ⟨by decide, by decide⟩, by decide⟩
theorem naX11_rowOfNone : zinv mX11_rowOfNone 1 := by unfold zinv; decide +kernel
theorem stX11_rowOfNone : Cond.static yX11_rowOfNone ∈ lw_tbl := zt1 (List.mem_of_getElem? (i := 155) (rfl : tables_1_1[155]? = some (Cond.static yX11_rowOfNone)))
abbrev mX12_thrown : zY := (yX12_thrown, cX12_thrown, 1, (some .int))
theorem cdX12_thrown : zcode mX12_thrown := ⟨zt7 (List.mem_of_getElem? (i := 40) (rfl : tables_1_7[40]? = some (Cond.code yX12_thrown cX12_thrown 1 (some .int)))), zt1 (List.mem_of_getElem? (i := 15) (rfl : tables_1_1[15]? = some (Cond.initialized RX12))), ⟨by decide, by decide⟩, by decide⟩
theorem naX12_thrown : zinv mX12_thrown 0 := by unfold zinv; decide +kernel
theorem imX12_thrown : Cond.instanceMethod yX12_thrown ∈ lw_tbl := zt7 (List.mem_of_getElem? (i := 38) (rfl : tables_1_7[38]? = some (Cond.instanceMethod yX12_thrown)))
theorem seX12_thrown : Cond.selects RX12 yX12_thrown yX12_thrown ∈ lw_tbl := zt7 (List.mem_of_getElem? (i := 39) (rfl : tables_1_7[39]? = some (Cond.selects RX12 yX12_thrown yX12_thrown)))
abbrev mX12_throwsIf : zY := (yX12_throwsIf, cX12_throwsIf, 3, (some .boolean))
theorem cdX12_throwsIf : zcode mX12_throwsIf := ⟨zt7 (List.mem_of_getElem? (i := 234) (rfl : tables_1_7[234]? = some (Cond.code yX12_throwsIf cX12_throwsIf 3 (some .boolean)))), zt1 (List.mem_of_getElem? (i := 15) (rfl : tables_1_1[15]? = some (Cond.initialized RX12))), ⟨by decide, by decide⟩, by decide⟩
theorem naX12_throwsIf : zinv mX12_throwsIf 2 := by unfold zinv; decide +kernel
theorem imX12_throwsIf : Cond.instanceMethod yX12_throwsIf ∈ lw_tbl := zt7 (List.mem_of_getElem? (i := 233) (rfl : tables_1_7[233]? = some (Cond.instanceMethod yX12_throwsIf)))
theorem seX12_throwsIf : Cond.selects RX12 yX12_throwsIf yX12_throwsIf ∈ lw_tbl := List.mem_of_getElem? (i := 64) (by decide +kernel : lw_tbl[64]? = some (Cond.selects RX12 yX12_throwsIf yX12_throwsIf))
abbrev mX12_in : zY := (yX12_in, cX12_in, 3, (some .boolean))
theorem cdX12_in : zcode mX12_in := ⟨zt8 (List.mem_of_getElem? (i := 1) (rfl : tables_1_8[1]? = some (Cond.code yX12_in cX12_in 3 (some .boolean)))), zt1 (List.mem_of_getElem? (i := 15) (rfl : tables_1_1[15]? = some (Cond.initialized RX12))), ⟨by decide, by decide⟩, by decide⟩
theorem naX12_in : zinv mX12_in 3 := by unfold zinv; decide +kernel
theorem stX12_in : Cond.static yX12_in ∈ lw_tbl := zt8 (List.mem_of_getElem? (i := 0) (rfl : tables_1_8[0]? = some (Cond.static yX12_in)))
abbrev mX12_has : zY := (yX12_has, cX12_has, 2, (some .boolean))
theorem cdX12_has : zcode mX12_has := ⟨zt8 (List.mem_of_getElem? (i := 35) (rfl : tables_1_8[35]? = some (Cond.code yX12_has cX12_has 2 (some .boolean)))), zt1 (List.mem_of_getElem? (i := 15) (rfl : tables_1_1[15]? = some (Cond.initialized RX12))), ⟨by decide, by decide⟩, by decide⟩
theorem naX12_has : zinv mX12_has 2 := by unfold zinv; decide +kernel
theorem stX12_has : Cond.static yX12_has ∈ lw_tbl := zt8 (List.mem_of_getElem? (i := 34) (rfl : tables_1_8[34]? = some (Cond.static yX12_has)))
abbrev mX12_init : zY := (yX12_init, cX12_init, 1, none)
theorem cdX12_init : zcode mX12_init := ⟨zt7 (List.mem_of_getElem? (i := 45) (rfl : tables_1_7[45]? = some (Cond.code yX12_init cX12_init 1 none))), zt1 (List.mem_of_getElem? (i := 15) (rfl : tables_1_1[15]? = some (Cond.initialized RX12))), ⟨by decide, by decide⟩, by decide⟩
theorem naX12_init : zinv mX12_init 0 := by unfold zinv; decide +kernel
theorem imX12_init : Cond.instanceMethod yX12_init ∈ lw_tbl := zt7 (List.mem_of_getElem? (i := 44) (rfl : tables_1_7[44]? = some (Cond.instanceMethod yX12_init)))
abbrev mX12_image : zY := (yX12_image, cX12_image, 2, none)
theorem cdX12_image : zcode mX12_image := ⟨zt7 (List.mem_of_getElem? (i := 109) (rfl : tables_1_7[109]? = some (Cond.code yX12_image cX12_image 2 none))), zt1 (List.mem_of_getElem? (i := 15) (rfl : tables_1_1[15]? = some (Cond.initialized RX12))), ⟨by decide, by decide⟩, by decide⟩
theorem naX12_image : zinv mX12_image 0 := by unfold zinv; decide +kernel
theorem imX12_image : Cond.instanceMethod yX12_image ∈ lw_tbl := zt7 (List.mem_of_getElem? (i := 107) (rfl : tables_1_7[107]? = some (Cond.instanceMethod yX12_image)))
theorem seX12_image : Cond.selects RX12 yX12_image yX12_image ∈ lw_tbl := zt7 (List.mem_of_getElem? (i := 108) (rfl : tables_1_7[108]? = some (Cond.selects RX12 yX12_image yX12_image)))
abbrev mX12_back : zY := (yX12_back, cX12_back, 2, (some .boolean))
theorem cdX12_back : zcode mX12_back := ⟨zt7 (List.mem_of_getElem? (i := 113) (rfl : tables_1_7[113]? = some (Cond.code yX12_back cX12_back 2 (some .boolean)))), zt1 (List.mem_of_getElem? (i := 15) (rfl : tables_1_1[15]? = some (Cond.initialized RX12))), ⟨by decide, by decide⟩, by decide⟩
theorem naX12_back : zinv mX12_back 0 := by unfold zinv; decide +kernel
theorem imX12_back : Cond.instanceMethod yX12_back ∈ lw_tbl := zt7 (List.mem_of_getElem? (i := 111) (rfl : tables_1_7[111]? = some (Cond.instanceMethod yX12_back)))
theorem seX12_back : Cond.selects RX12 yX12_back yX12_back ∈ lw_tbl := zt7 (List.mem_of_getElem? (i := 112) (rfl : tables_1_7[112]? = some (Cond.selects RX12 yX12_back yX12_back)))
abbrev mX12_keepsAll : zY := (yX12_keepsAll, cX12_keepsAll, 2, none)
theorem cdX12_keepsAll : zcode mX12_keepsAll := ⟨zt9 (List.mem_of_getElem? (i := 36) (rfl : tables_1_9[36]? = some (Cond.code yX12_keepsAll cX12_keepsAll 2 none))), zt1 (List.mem_of_getElem? (i := 15) (rfl : tables_1_1[15]? = some (Cond.initialized RX12))), ⟨by decide, by decide⟩, by decide⟩
theorem naX12_keepsAll : zinv mX12_keepsAll 0 := by unfold zinv; decide +kernel
theorem imX12_keepsAll : Cond.instanceMethod yX12_keepsAll ∈ lw_tbl := zt9 (List.mem_of_getElem? (i := 35) (rfl : tables_1_9[35]? = some (Cond.instanceMethod yX12_keepsAll)))
theorem seX12_keepsAll : Cond.selects RX12 yX12_keepsAll yX12_keepsAll ∈ lw_tbl := List.mem_of_getElem? (i := 108) (by decide +kernel : lw_tbl[108]? = some (Cond.selects RX12 yX12_keepsAll yX12_keepsAll))
abbrev mX12_bringsBack : zY := (yX12_bringsBack, cX12_bringsBack, 2, none)
theorem cdX12_bringsBack : zcode mX12_bringsBack := ⟨zt9 (List.mem_of_getElem? (i := 44) (rfl : tables_1_9[44]? = some (Cond.code yX12_bringsBack cX12_bringsBack 2 none))), zt1 (List.mem_of_getElem? (i := 15) (rfl : tables_1_1[15]? = some (Cond.initialized RX12))), ⟨by decide, by decide⟩, by decide⟩
theorem naX12_bringsBack : zinv mX12_bringsBack 0 := by unfold zinv; decide +kernel
theorem imX12_bringsBack : Cond.instanceMethod yX12_bringsBack ∈ lw_tbl := zt9 (List.mem_of_getElem? (i := 43) (rfl : tables_1_9[43]? = some (Cond.instanceMethod yX12_bringsBack)))
theorem seX12_bringsBack : Cond.selects RX12 yX12_bringsBack yX12_bringsBack ∈ lw_tbl := List.mem_of_getElem? (i := 110) (by decide +kernel : lw_tbl[110]? = some (Cond.selects RX12 yX12_bringsBack yX12_bringsBack))
abbrev mX12_nodes : zY := (yX12_nodes, cX12_nodes, 1, (some .int))
theorem cdX12_nodes : zcode mX12_nodes := ⟨zt7 (List.mem_of_getElem? (i := 164) (rfl : tables_1_7[164]? = some (Cond.code yX12_nodes cX12_nodes 1 (some .int)))), zt1 (List.mem_of_getElem? (i := 15) (rfl : tables_1_1[15]? = some (Cond.initialized RX12))), ⟨by decide, by decide⟩, by decide⟩
theorem naX12_nodes : zinv mX12_nodes 0 := by unfold zinv; decide +kernel
theorem imX12_nodes : Cond.instanceMethod yX12_nodes ∈ lw_tbl := zt7 (List.mem_of_getElem? (i := 163) (rfl : tables_1_7[163]? = some (Cond.instanceMethod yX12_nodes)))
theorem seX12_nodes : Cond.selects RX12 yX12_nodes yX12_nodes ∈ lw_tbl := List.mem_of_getElem? (i := 52) (by decide +kernel : lw_tbl[52]? = some (Cond.selects RX12 yX12_nodes yX12_nodes))
abbrev mX12_links : zY := (yX12_links, cX12_links, 1, (some .int))
theorem cdX12_links : zcode mX12_links := ⟨zt7 (List.mem_of_getElem? (i := 195) (rfl : tables_1_7[195]? = some (Cond.code yX12_links cX12_links 1 (some .int)))), zt1 (List.mem_of_getElem? (i := 15) (rfl : tables_1_1[15]? = some (Cond.initialized RX12))), ⟨by decide, by decide⟩, by decide⟩
theorem naX12_links : zinv mX12_links 0 := by unfold zinv; decide +kernel
theorem imX12_links : Cond.instanceMethod yX12_links ∈ lw_tbl := zt7 (List.mem_of_getElem? (i := 194) (rfl : tables_1_7[194]? = some (Cond.instanceMethod yX12_links)))
theorem seX12_links : Cond.selects RX12 yX12_links yX12_links ∈ lw_tbl := List.mem_of_getElem? (i := 57) (by decide +kernel : lw_tbl[57]? = some (Cond.selects RX12 yX12_links yX12_links))
abbrev mX12_nodeAt : zY := (yX12_nodeAt, cX12_nodeAt, 2, (some .int))
theorem cdX12_nodeAt : zcode mX12_nodeAt := ⟨zt7 (List.mem_of_getElem? (i := 167) (rfl : tables_1_7[167]? = some (Cond.code yX12_nodeAt cX12_nodeAt 2 (some .int)))), zt1 (List.mem_of_getElem? (i := 15) (rfl : tables_1_1[15]? = some (Cond.initialized RX12))), ⟨by decide, by decide⟩, by decide⟩
theorem naX12_nodeAt : zinv mX12_nodeAt 2 := by unfold zinv; decide +kernel
theorem stX12_nodeAt : Cond.static yX12_nodeAt ∈ lw_tbl := zt7 (List.mem_of_getElem? (i := 166) (rfl : tables_1_7[166]? = some (Cond.static yX12_nodeAt)))
abbrev mX12_of : zY := (yX12_of, cX12_of, 3, (some .int))
theorem cdX12_of : zcode mX12_of := ⟨zt8 (List.mem_of_getElem? (i := 28) (rfl : tables_1_8[28]? = some (Cond.code yX12_of cX12_of 3 (some .int)))), zt1 (List.mem_of_getElem? (i := 15) (rfl : tables_1_1[15]? = some (Cond.initialized RX12))), ⟨by decide, by decide⟩, by decide⟩
theorem naX12_of : zinv mX12_of 2 := by unfold zinv; decide +kernel
theorem imX12_of : Cond.instanceMethod yX12_of ∈ lw_tbl := zt8 (List.mem_of_getElem? (i := 27) (rfl : tables_1_8[27]? = some (Cond.instanceMethod yX12_of)))
theorem seX12_of : Cond.selects RX12 yX12_of yX12_of ∈ lw_tbl := List.mem_of_getElem? (i := 70) (by decide +kernel : lw_tbl[70]? = some (Cond.selects RX12 yX12_of yX12_of))
abbrev mX12_otherAt : zY := (yX12_otherAt, cX12_otherAt, 3, (some .int))
theorem cdX12_otherAt : zcode mX12_otherAt := ⟨zt7 (List.mem_of_getElem? (i := 179) (rfl : tables_1_7[179]? = some (Cond.code yX12_otherAt cX12_otherAt 3 (some .int)))), zt1 (List.mem_of_getElem? (i := 15) (rfl : tables_1_1[15]? = some (Cond.initialized RX12))), ⟨by decide, by decide⟩, by decide⟩
theorem naX12_otherAt : zinv mX12_otherAt 3 := by unfold zinv; decide +kernel
theorem stX12_otherAt : Cond.static yX12_otherAt ∈ lw_tbl := zt7 (List.mem_of_getElem? (i := 178) (rfl : tables_1_7[178]? = some (Cond.static yX12_otherAt)))
abbrev mX12_packetAt : zY := (yX12_packetAt, cX12_packetAt, 3, (some .int))
theorem cdX12_packetAt : zcode mX12_packetAt := ⟨zt7 (List.mem_of_getElem? (i := 182) (rfl : tables_1_7[182]? = some (Cond.code yX12_packetAt cX12_packetAt 3 (some .int)))), zt1 (List.mem_of_getElem? (i := 15) (rfl : tables_1_1[15]? = some (Cond.initialized RX12))), ⟨by decide, by decide⟩, by decide⟩
theorem naX12_packetAt : zinv mX12_packetAt 3 := by unfold zinv; decide +kernel
theorem stX12_packetAt : Cond.static yX12_packetAt ∈ lw_tbl := zt7 (List.mem_of_getElem? (i := 181) (rfl : tables_1_7[181]? = some (Cond.static yX12_packetAt)))
abbrev mX12_ofPacket : zY := (yX12_ofPacket, cX12_ofPacket, 4, (some .int))
theorem cdX12_ofPacket : zcode mX12_ofPacket := ⟨zt8 (List.mem_of_getElem? (i := 69) (rfl : tables_1_8[69]? = some (Cond.code yX12_ofPacket cX12_ofPacket 4 (some .int)))), zt1 (List.mem_of_getElem? (i := 15) (rfl : tables_1_1[15]? = some (Cond.initialized RX12))), ⟨by decide, by decide⟩, by decide⟩
theorem naX12_ofPacket : zinv mX12_ofPacket 3 := by unfold zinv; decide +kernel
theorem imX12_ofPacket : Cond.instanceMethod yX12_ofPacket ∈ lw_tbl := zt8 (List.mem_of_getElem? (i := 68) (rfl : tables_1_8[68]? = some (Cond.instanceMethod yX12_ofPacket)))
theorem seX12_ofPacket : Cond.selects RX12 yX12_ofPacket yX12_ofPacket ∈ lw_tbl := List.mem_of_getElem? (i := 78) (by decide +kernel : lw_tbl[78]? = some (Cond.selects RX12 yX12_ofPacket yX12_ofPacket))
abbrev mX12_linkAt : zY := (yX12_linkAt, cX12_linkAt, 2, (some .int))
theorem cdX12_linkAt : zcode mX12_linkAt := ⟨zt7 (List.mem_of_getElem? (i := 210) (rfl : tables_1_7[210]? = some (Cond.code yX12_linkAt cX12_linkAt 2 (some .int)))), zt1 (List.mem_of_getElem? (i := 15) (rfl : tables_1_1[15]? = some (Cond.initialized RX12))), ⟨by decide, by decide⟩, by decide⟩
theorem naX12_linkAt : zinv mX12_linkAt 2 := by unfold zinv; decide +kernel
theorem stX12_linkAt : Cond.static yX12_linkAt ∈ lw_tbl := zt7 (List.mem_of_getElem? (i := 209) (rfl : tables_1_7[209]? = some (Cond.static yX12_linkAt)))
abbrev mX12_ofLink : zY := (yX12_ofLink, cX12_ofLink, 3, (some .int))
theorem cdX12_ofLink : zcode mX12_ofLink := ⟨zt7 (List.mem_of_getElem? (i := 207) (rfl : tables_1_7[207]? = some (Cond.code yX12_ofLink cX12_ofLink 3 (some .int)))), zt1 (List.mem_of_getElem? (i := 15) (rfl : tables_1_1[15]? = some (Cond.initialized RX12))), ⟨by decide, by decide⟩, by decide⟩
theorem naX12_ofLink : zinv mX12_ofLink 2 := by unfold zinv; decide +kernel
theorem imX12_ofLink : Cond.instanceMethod yX12_ofLink ∈ lw_tbl := zt7 (List.mem_of_getElem? (i := 206) (rfl : tables_1_7[206]? = some (Cond.instanceMethod yX12_ofLink)))
theorem seX12_ofLink : Cond.selects RX12 yX12_ofLink yX12_ofLink ∈ lw_tbl := List.mem_of_getElem? (i := 60) (by decide +kernel : lw_tbl[60]? = some (Cond.selects RX12 yX12_ofLink yX12_ofLink))
abbrev mX12_messageAt : zY := (yX12_messageAt, cX12_messageAt, 2, (some .int))
theorem cdX12_messageAt : zcode mX12_messageAt := ⟨zt8 (List.mem_of_getElem? (i := 16) (rfl : tables_1_8[16]? = some (Cond.code yX12_messageAt cX12_messageAt 2 (some .int)))), zt1 (List.mem_of_getElem? (i := 15) (rfl : tables_1_1[15]? = some (Cond.initialized RX12))), ⟨by decide, by decide⟩, by decide⟩
theorem naX12_messageAt : zinv mX12_messageAt 2 := by unfold zinv; decide +kernel
theorem stX12_messageAt : Cond.static yX12_messageAt ∈ lw_tbl := zt8 (List.mem_of_getElem? (i := 15) (rfl : tables_1_8[15]? = some (Cond.static yX12_messageAt)))
abbrev mX12_noNode : zY := (yX12_noNode, cX12_noNode, 2, (some .boolean))
theorem cdX12_noNode : zcode mX12_noNode := ⟨zt8 (List.mem_of_getElem? (i := 177) (rfl : tables_1_8[177]? = some (Cond.code yX12_noNode cX12_noNode 2 (some .boolean)))), zt1 (List.mem_of_getElem? (i := 15) (rfl : tables_1_1[15]? = some (Cond.initialized RX12))), ⟨by decide, by decide⟩, by decide⟩
theorem naX12_noNode : zinv mX12_noNode 1 := by unfold zinv; decide +kernel
theorem imX12_noNode : Cond.instanceMethod yX12_noNode ∈ lw_tbl := zt8 (List.mem_of_getElem? (i := 176) (rfl : tables_1_8[176]? = some (Cond.instanceMethod yX12_noNode)))
theorem seX12_noNode : Cond.selects RX12 yX12_noNode yX12_noNode ∈ lw_tbl := List.mem_of_getElem? (i := 101) (by decide +kernel : lw_tbl[101]? = some (Cond.selects RX12 yX12_noNode yX12_noNode))
abbrev mX12_noLink : zY := (yX12_noLink, cX12_noLink, 2, (some .boolean))
theorem cdX12_noLink : zcode mX12_noLink := ⟨zt8 (List.mem_of_getElem? (i := 185) (rfl : tables_1_8[185]? = some (Cond.code yX12_noLink cX12_noLink 2 (some .boolean)))), zt1 (List.mem_of_getElem? (i := 15) (rfl : tables_1_1[15]? = some (Cond.initialized RX12))), ⟨by decide, by decide⟩, by decide⟩
theorem naX12_noLink : zinv mX12_noLink 1 := by unfold zinv; decide +kernel
theorem imX12_noLink : Cond.instanceMethod yX12_noLink ∈ lw_tbl := zt8 (List.mem_of_getElem? (i := 184) (rfl : tables_1_8[184]? = some (Cond.instanceMethod yX12_noLink)))
theorem seX12_noLink : Cond.selects RX12 yX12_noLink yX12_noLink ∈ lw_tbl := List.mem_of_getElem? (i := 102) (by decide +kernel : lw_tbl[102]? = some (Cond.selects RX12 yX12_noLink yX12_noLink))
abbrev mX12_noPacket : zY := (yX12_noPacket, cX12_noPacket, 1, (some .boolean))
theorem cdX12_noPacket : zcode mX12_noPacket := ⟨zt8 (List.mem_of_getElem? (i := 196) (rfl : tables_1_8[196]? = some (Cond.code yX12_noPacket cX12_noPacket 1 (some .boolean)))), zt1 (List.mem_of_getElem? (i := 15) (rfl : tables_1_1[15]? = some (Cond.initialized RX12))), ⟨by decide, by decide⟩, by decide⟩
theorem naX12_noPacket : zinv mX12_noPacket 1 := by unfold zinv; decide +kernel
theorem stX12_noPacket : Cond.static yX12_noPacket ∈ lw_tbl := zt8 (List.mem_of_getElem? (i := 195) (rfl : tables_1_8[195]? = some (Cond.static yX12_noPacket)))
abbrev mX12_isUp : zY := (yX12_isUp, cX12_isUp, 2, (some .boolean))
theorem cdX12_isUp : zcode mX12_isUp := ⟨zt8 (List.mem_of_getElem? (i := 24) (rfl : tables_1_8[24]? = some (Cond.code yX12_isUp cX12_isUp 2 (some .boolean)))), zt1 (List.mem_of_getElem? (i := 15) (rfl : tables_1_1[15]? = some (Cond.initialized RX12))), ⟨by decide, by decide⟩, by decide⟩
theorem naX12_isUp : zinv mX12_isUp 1 := by unfold zinv; decide +kernel
theorem imX12_isUp : Cond.instanceMethod yX12_isUp ∈ lw_tbl := zt8 (List.mem_of_getElem? (i := 23) (rfl : tables_1_8[23]? = some (Cond.instanceMethod yX12_isUp)))
theorem seX12_isUp : Cond.selects RX12 yX12_isUp yX12_isUp ∈ lw_tbl := List.mem_of_getElem? (i := 69) (by decide +kernel : lw_tbl[69]? = some (Cond.selects RX12 yX12_isUp yX12_isUp))
abbrev mX12_hasIt : zY := (yX12_hasIt, cX12_hasIt, 3, (some .boolean))
theorem cdX12_hasIt : zcode mX12_hasIt := ⟨zt8 (List.mem_of_getElem? (i := 32) (rfl : tables_1_8[32]? = some (Cond.code yX12_hasIt cX12_hasIt 3 (some .boolean)))), zt1 (List.mem_of_getElem? (i := 15) (rfl : tables_1_1[15]? = some (Cond.initialized RX12))), ⟨by decide, by decide⟩, by decide⟩
theorem naX12_hasIt : zinv mX12_hasIt 2 := by unfold zinv; decide +kernel
theorem imX12_hasIt : Cond.instanceMethod yX12_hasIt ∈ lw_tbl := zt8 (List.mem_of_getElem? (i := 31) (rfl : tables_1_8[31]? = some (Cond.instanceMethod yX12_hasIt)))
theorem seX12_hasIt : Cond.selects RX12 yX12_hasIt yX12_hasIt ∈ lw_tbl := List.mem_of_getElem? (i := 71) (by decide +kernel : lw_tbl[71]? = some (Cond.selects RX12 yX12_hasIt yX12_hasIt))
abbrev mX12_drawn : zY := (yX12_drawn, cX12_drawn, 2, (some .int))
theorem cdX12_drawn : zcode mX12_drawn := ⟨zt8 (List.mem_of_getElem? (i := 93) (rfl : tables_1_8[93]? = some (Cond.code yX12_drawn cX12_drawn 2 (some .int)))), zt1 (List.mem_of_getElem? (i := 15) (rfl : tables_1_1[15]? = some (Cond.initialized RX12))), ⟨by decide, by decide⟩, by decide⟩
theorem naX12_drawn : zinv mX12_drawn 1 := by unfold zinv; decide +kernel
theorem imX12_drawn : Cond.instanceMethod yX12_drawn ∈ lw_tbl := zt8 (List.mem_of_getElem? (i := 92) (rfl : tables_1_8[92]? = some (Cond.instanceMethod yX12_drawn)))
theorem seX12_drawn : Cond.selects RX12 yX12_drawn yX12_drawn ∈ lw_tbl := List.mem_of_getElem? (i := 84) (by decide +kernel : lw_tbl[84]? = some (Cond.selects RX12 yX12_drawn yX12_drawn))
abbrev mX12_feed : zY := (yX12_feed, cX12_feed, 7, (some .int))
theorem cdX12_feed : zcode mX12_feed := ⟨zt7 (List.mem_of_getElem? (i := 117) (rfl : tables_1_7[117]? = some (Cond.code yX12_feed cX12_feed 7 (some .int)))), zt1 (List.mem_of_getElem? (i := 15) (rfl : tables_1_1[15]? = some (Cond.initialized RX12))), ⟨by decide, by decide⟩, by decide⟩
theorem naX12_feed : zinv mX12_feed 5 := by unfold zinv; decide +kernel
theorem imX12_feed : Cond.instanceMethod yX12_feed ∈ lw_tbl := zt7 (List.mem_of_getElem? (i := 115) (rfl : tables_1_7[115]? = some (Cond.instanceMethod yX12_feed)))
theorem seX12_feed : Cond.selects RX12 yX12_feed yX12_feed ∈ lw_tbl := zt7 (List.mem_of_getElem? (i := 116) (rfl : tables_1_7[116]? = some (Cond.selects RX12 yX12_feed yX12_feed)))
abbrev mX12_end : zY := (yX12_end, cX12_end, 2, (some .boolean))
theorem cdX12_end : zcode mX12_end := ⟨zt7 (List.mem_of_getElem? (i := 121) (rfl : tables_1_7[121]? = some (Cond.code yX12_end cX12_end 2 (some .boolean)))), zt1 (List.mem_of_getElem? (i := 15) (rfl : tables_1_1[15]? = some (Cond.initialized RX12))), ⟨by decide, by decide⟩, by decide⟩
theorem naX12_end : zinv mX12_end 1 := by unfold zinv; decide +kernel
theorem imX12_end : Cond.instanceMethod yX12_end ∈ lw_tbl := zt7 (List.mem_of_getElem? (i := 119) (rfl : tables_1_7[119]? = some (Cond.instanceMethod yX12_end)))
theorem seX12_end : Cond.selects RX12 yX12_end yX12_end ∈ lw_tbl := zt7 (List.mem_of_getElem? (i := 120) (rfl : tables_1_7[120]? = some (Cond.selects RX12 yX12_end yX12_end)))
abbrev mX12_isAt : zY := (yX12_isAt, cX12_isAt, 3, (some .boolean))
theorem cdX12_isAt : zcode mX12_isAt := ⟨zt7 (List.mem_of_getElem? (i := 141) (rfl : tables_1_7[141]? = some (Cond.code yX12_isAt cX12_isAt 3 (some .boolean)))), zt1 (List.mem_of_getElem? (i := 15) (rfl : tables_1_1[15]? = some (Cond.initialized RX12))), ⟨by decide, by decide⟩, by decide⟩
theorem naX12_isAt : zinv mX12_isAt 2 := by unfold zinv; decide +kernel
theorem imX12_isAt : Cond.instanceMethod yX12_isAt ∈ lw_tbl := zt7 (List.mem_of_getElem? (i := 140) (rfl : tables_1_7[140]? = some (Cond.instanceMethod yX12_isAt)))
theorem seX12_isAt : Cond.selects RX12 yX12_isAt yX12_isAt ∈ lw_tbl := List.mem_of_getElem? (i := 47) (by decide +kernel : lw_tbl[47]? = some (Cond.selects RX12 yX12_isAt yX12_isAt))
abbrev mX12_blanks : zY := (yX12_blanks, cX12_blanks, 1, none)
theorem cdX12_blanks : zcode mX12_blanks := ⟨zt7 (List.mem_of_getElem? (i := 137) (rfl : tables_1_7[137]? = some (Cond.code yX12_blanks cX12_blanks 1 none))), zt1 (List.mem_of_getElem? (i := 15) (rfl : tables_1_1[15]? = some (Cond.initialized RX12))), ⟨by decide, by decide⟩, by decide⟩
theorem naX12_blanks : zinv mX12_blanks 0 := by unfold zinv; decide +kernel
theorem imX12_blanks : Cond.instanceMethod yX12_blanks ∈ lw_tbl := zt7 (List.mem_of_getElem? (i := 136) (rfl : tables_1_7[136]? = some (Cond.instanceMethod yX12_blanks)))
theorem seX12_blanks : Cond.selects RX12 yX12_blanks yX12_blanks ∈ lw_tbl := List.mem_of_getElem? (i := 46) (by decide +kernel : lw_tbl[46]? = some (Cond.selects RX12 yX12_blanks yX12_blanks))
abbrev mX12_letters : zY := (yX12_letters, cX12_letters, 1, none)
theorem cdX12_letters : zcode mX12_letters := ⟨zt7 (List.mem_of_getElem? (i := 145) (rfl : tables_1_7[145]? = some (Cond.code yX12_letters cX12_letters 1 none))), zt1 (List.mem_of_getElem? (i := 15) (rfl : tables_1_1[15]? = some (Cond.initialized RX12))), ⟨by decide, by decide⟩, by decide⟩
theorem naX12_letters : zinv mX12_letters 0 := by unfold zinv; decide +kernel
theorem imX12_letters : Cond.instanceMethod yX12_letters ∈ lw_tbl := zt7 (List.mem_of_getElem? (i := 144) (rfl : tables_1_7[144]? = some (Cond.instanceMethod yX12_letters)))
theorem seX12_letters : Cond.selects RX12 yX12_letters yX12_letters ∈ lw_tbl := List.mem_of_getElem? (i := 48) (by decide +kernel : lw_tbl[48]? = some (Cond.selects RX12 yX12_letters yX12_letters))
abbrev mX12_isWord : zY := (yX12_isWord, cX12_isWord, 4, (some .boolean))
theorem cdX12_isWord : zcode mX12_isWord := ⟨zt7 (List.mem_of_getElem? (i := 154) (rfl : tables_1_7[154]? = some (Cond.code yX12_isWord cX12_isWord 4 (some .boolean)))), zt1 (List.mem_of_getElem? (i := 15) (rfl : tables_1_1[15]? = some (Cond.initialized RX12))), ⟨by decide, by decide⟩, by decide⟩
theorem naX12_isWord : zinv mX12_isWord 1 := by unfold zinv; decide +kernel
theorem imX12_isWord : Cond.instanceMethod yX12_isWord ∈ lw_tbl := zt7 (List.mem_of_getElem? (i := 153) (rfl : tables_1_7[153]? = some (Cond.instanceMethod yX12_isWord)))
theorem seX12_isWord : Cond.selects RX12 yX12_isWord yX12_isWord ∈ lw_tbl := List.mem_of_getElem? (i := 50) (by decide +kernel : lw_tbl[50]? = some (Cond.selects RX12 yX12_isWord yX12_isWord))
abbrev mX12_passes : zY := (yX12_passes, cX12_passes, 2, (some .boolean))
theorem cdX12_passes : zcode mX12_passes := ⟨zt7 (List.mem_of_getElem? (i := 172) (rfl : tables_1_7[172]? = some (Cond.code yX12_passes cX12_passes 2 (some .boolean)))), zt1 (List.mem_of_getElem? (i := 15) (rfl : tables_1_1[15]? = some (Cond.initialized RX12))), ⟨by decide, by decide⟩, by decide⟩
theorem naX12_passes : zinv mX12_passes 1 := by unfold zinv; decide +kernel
theorem imX12_passes : Cond.instanceMethod yX12_passes ∈ lw_tbl := zt7 (List.mem_of_getElem? (i := 171) (rfl : tables_1_7[171]? = some (Cond.instanceMethod yX12_passes)))
theorem seX12_passes : Cond.selects RX12 yX12_passes yX12_passes ∈ lw_tbl := List.mem_of_getElem? (i := 53) (by decide +kernel : lw_tbl[53]? = some (Cond.selects RX12 yX12_passes yX12_passes))
abbrev mX12_number : zY := (yX12_number, cX12_number, 4, (some .int))
theorem cdX12_number : zcode mX12_number := ⟨zt7 (List.mem_of_getElem? (i := 199) (rfl : tables_1_7[199]? = some (Cond.code yX12_number cX12_number 4 (some .int)))), zt1 (List.mem_of_getElem? (i := 15) (rfl : tables_1_1[15]? = some (Cond.initialized RX12))), ⟨by decide, by decide⟩, by decide⟩
theorem naX12_number : zinv mX12_number 2 := by unfold zinv; decide +kernel
theorem imX12_number : Cond.instanceMethod yX12_number ∈ lw_tbl := zt7 (List.mem_of_getElem? (i := 198) (rfl : tables_1_7[198]? = some (Cond.instanceMethod yX12_number)))
theorem seX12_number : Cond.selects RX12 yX12_number yX12_number ∈ lw_tbl := List.mem_of_getElem? (i := 58) (by decide +kernel : lw_tbl[58]? = some (Cond.selects RX12 yX12_number yX12_number))
abbrev mX12_behind : zY := (yX12_behind, cX12_behind, 4, (some .int))
theorem cdX12_behind : zcode mX12_behind := ⟨zt7 (List.mem_of_getElem? (i := 215) (rfl : tables_1_7[215]? = some (Cond.code yX12_behind cX12_behind 4 (some .int)))), zt1 (List.mem_of_getElem? (i := 15) (rfl : tables_1_1[15]? = some (Cond.initialized RX12))), ⟨by decide, by decide⟩, by decide⟩
theorem naX12_behind : zinv mX12_behind 3 := by unfold zinv; decide +kernel
theorem imX12_behind : Cond.instanceMethod yX12_behind ∈ lw_tbl := zt7 (List.mem_of_getElem? (i := 214) (rfl : tables_1_7[214]? = some (Cond.instanceMethod yX12_behind)))
theorem seX12_behind : Cond.selects RX12 yX12_behind yX12_behind ∈ lw_tbl := List.mem_of_getElem? (i := 61) (by decide +kernel : lw_tbl[61]? = some (Cond.selects RX12 yX12_behind yX12_behind))
abbrev mX12_fault : zY := (yX12_fault, cX12_fault, 1, (some .int))
theorem cdX12_fault : zcode mX12_fault := ⟨zt7 (List.mem_of_getElem? (i := 125) (rfl : tables_1_7[125]? = some (Cond.code yX12_fault cX12_fault 1 (some .int)))), zt1 (List.mem_of_getElem? (i := 15) (rfl : tables_1_1[15]? = some (Cond.initialized RX12))), ⟨by decide, by decide⟩, by decide⟩
theorem naX12_fault : zinv mX12_fault 0 := by unfold zinv; decide +kernel
theorem imX12_fault : Cond.instanceMethod yX12_fault ∈ lw_tbl := zt7 (List.mem_of_getElem? (i := 123) (rfl : tables_1_7[123]? = some (Cond.instanceMethod yX12_fault)))
theorem seX12_fault : Cond.selects RX12 yX12_fault yX12_fault ∈ lw_tbl := zt7 (List.mem_of_getElem? (i := 124) (rfl : tables_1_7[124]? = some (Cond.selects RX12 yX12_fault yX12_fault)))
abbrev mX12_readNumber : zY := (yX12_readNumber, cX12_readNumber, 5, (some .boolean))
theorem cdX12_readNumber : zcode mX12_readNumber := ⟨zt7 (List.mem_of_getElem? (i := 221) (rfl : tables_1_7[221]? = some (Cond.code yX12_readNumber cX12_readNumber 5 (some .boolean)))), zt1 (List.mem_of_getElem? (i := 15) (rfl : tables_1_1[15]? = some (Cond.initialized RX12))), ⟨by decide, by decide⟩, by decide⟩
theorem naX12_readNumber : zinv mX12_readNumber 3 := by unfold zinv; decide +kernel
theorem imX12_readNumber : Cond.instanceMethod yX12_readNumber ∈ lw_tbl := zt7 (List.mem_of_getElem? (i := 220) (rfl : tables_1_7[220]? = some (Cond.instanceMethod yX12_readNumber)))
theorem seX12_readNumber : Cond.selects RX12 yX12_readNumber yX12_readNumber ∈ lw_tbl := List.mem_of_getElem? (i := 62) (by decide +kernel : lw_tbl[62]? = some (Cond.selects RX12 yX12_readNumber yX12_readNumber))
abbrev mX12_readNode : zY := (yX12_readNode, cX12_readNode, 3, (some .boolean))
theorem cdX12_readNode : zcode mX12_readNode := ⟨zt7 (List.mem_of_getElem? (i := 160) (rfl : tables_1_7[160]? = some (Cond.code yX12_readNode cX12_readNode 3 (some .boolean)))), zt1 (List.mem_of_getElem? (i := 15) (rfl : tables_1_1[15]? = some (Cond.initialized RX12))), ⟨by decide, by decide⟩, by decide⟩
theorem naX12_readNode : zinv mX12_readNode 0 := by unfold zinv; decide +kernel
theorem imX12_readNode : Cond.instanceMethod yX12_readNode ∈ lw_tbl := zt7 (List.mem_of_getElem? (i := 159) (rfl : tables_1_7[159]? = some (Cond.instanceMethod yX12_readNode)))
theorem seX12_readNode : Cond.selects RX12 yX12_readNode yX12_readNode ∈ lw_tbl := List.mem_of_getElem? (i := 51) (by decide +kernel : lw_tbl[51]? = some (Cond.selects RX12 yX12_readNode yX12_readNode))
abbrev mX12_hasItFrom : zY := (yX12_hasItFrom, cX12_hasItFrom, 5, none)
theorem cdX12_hasItFrom : zcode mX12_hasItFrom := ⟨zt7 (List.mem_of_getElem? (i := 186) (rfl : tables_1_7[186]? = some (Cond.code yX12_hasItFrom cX12_hasItFrom 5 none))), zt1 (List.mem_of_getElem? (i := 15) (rfl : tables_1_1[15]? = some (Cond.initialized RX12))), ⟨by decide, by decide⟩, by decide⟩
theorem naX12_hasItFrom : zinv mX12_hasItFrom 4 := by unfold zinv; decide +kernel
theorem imX12_hasItFrom : Cond.instanceMethod yX12_hasItFrom ∈ lw_tbl := zt7 (List.mem_of_getElem? (i := 185) (rfl : tables_1_7[185]? = some (Cond.instanceMethod yX12_hasItFrom)))
theorem seX12_hasItFrom : Cond.selects RX12 yX12_hasItFrom yX12_hasItFrom ∈ lw_tbl := List.mem_of_getElem? (i := 55) (by decide +kernel : lw_tbl[55]? = some (Cond.selects RX12 yX12_hasItFrom yX12_hasItFrom))
abbrev mX12_knows : zY := (yX12_knows, cX12_knows, 3, none)
theorem cdX12_knows : zcode mX12_knows := ⟨zt7 (List.mem_of_getElem? (i := 176) (rfl : tables_1_7[176]? = some (Cond.code yX12_knows cX12_knows 3 none))), zt1 (List.mem_of_getElem? (i := 15) (rfl : tables_1_1[15]? = some (Cond.initialized RX12))), ⟨by decide, by decide⟩, by decide⟩
theorem naX12_knows : zinv mX12_knows 2 := by unfold zinv; decide +kernel
theorem imX12_knows : Cond.instanceMethod yX12_knows ∈ lw_tbl := zt7 (List.mem_of_getElem? (i := 175) (rfl : tables_1_7[175]? = some (Cond.instanceMethod yX12_knows)))
theorem seX12_knows : Cond.selects RX12 yX12_knows yX12_knows ∈ lw_tbl := List.mem_of_getElem? (i := 54) (by decide +kernel : lw_tbl[54]? = some (Cond.selects RX12 yX12_knows yX12_knows))
abbrev mX12_between : zY := (yX12_between, cX12_between, 4, (some .int))
theorem cdX12_between : zcode mX12_between := ⟨zt7 (List.mem_of_getElem? (i := 203) (rfl : tables_1_7[203]? = some (Cond.code yX12_between cX12_between 4 (some .int)))), zt1 (List.mem_of_getElem? (i := 15) (rfl : tables_1_1[15]? = some (Cond.initialized RX12))), ⟨by decide, by decide⟩, by decide⟩
theorem naX12_between : zinv mX12_between 2 := by unfold zinv; decide +kernel
theorem imX12_between : Cond.instanceMethod yX12_between ∈ lw_tbl := zt7 (List.mem_of_getElem? (i := 202) (rfl : tables_1_7[202]? = some (Cond.instanceMethod yX12_between)))
theorem seX12_between : Cond.selects RX12 yX12_between yX12_between ∈ lw_tbl := List.mem_of_getElem? (i := 59) (by decide +kernel : lw_tbl[59]? = some (Cond.selects RX12 yX12_between yX12_between))
abbrev mX12_readLink : zY := (yX12_readLink, cX12_readLink, 6, (some .boolean))
theorem cdX12_readLink : zcode mX12_readLink := ⟨zt7 (List.mem_of_getElem? (i := 191) (rfl : tables_1_7[191]? = some (Cond.code yX12_readLink cX12_readLink 6 (some .boolean)))), zt1 (List.mem_of_getElem? (i := 15) (rfl : tables_1_1[15]? = some (Cond.initialized RX12))), ⟨by decide, by decide⟩, by decide⟩
theorem naX12_readLink : zinv mX12_readLink 0 := by unfold zinv; decide +kernel
theorem imX12_readLink : Cond.instanceMethod yX12_readLink ∈ lw_tbl := zt7 (List.mem_of_getElem? (i := 190) (rfl : tables_1_7[190]? = some (Cond.instanceMethod yX12_readLink)))
theorem seX12_readLink : Cond.selects RX12 yX12_readLink yX12_readLink ∈ lw_tbl := List.mem_of_getElem? (i := 56) (by decide +kernel : lw_tbl[56]? = some (Cond.selects RX12 yX12_readLink yX12_readLink))
abbrev mX12_readRequest : zY := (yX12_readRequest, cX12_readRequest, 2, (some .boolean))
theorem cdX12_readRequest : zcode mX12_readRequest := ⟨zt7 (List.mem_of_getElem? (i := 226) (rfl : tables_1_7[226]? = some (Cond.code yX12_readRequest cX12_readRequest 2 (some .boolean)))), zt1 (List.mem_of_getElem? (i := 15) (rfl : tables_1_1[15]? = some (Cond.initialized RX12))), ⟨by decide, by decide⟩, by decide⟩
theorem naX12_readRequest : zinv mX12_readRequest 0 := by unfold zinv; decide +kernel
theorem imX12_readRequest : Cond.instanceMethod yX12_readRequest ∈ lw_tbl := zt7 (List.mem_of_getElem? (i := 225) (rfl : tables_1_7[225]? = some (Cond.instanceMethod yX12_readRequest)))
theorem seX12_readRequest : Cond.selects RX12 yX12_readRequest yX12_readRequest ∈ lw_tbl := List.mem_of_getElem? (i := 63) (by decide +kernel : lw_tbl[63]? = some (Cond.selects RX12 yX12_readRequest yX12_readRequest))
abbrev mX12_readLine : zY := (yX12_readLine, cX12_readLine, 1, (some .boolean))
theorem cdX12_readLine : zcode mX12_readLine := ⟨zt7 (List.mem_of_getElem? (i := 149) (rfl : tables_1_7[149]? = some (Cond.code yX12_readLine cX12_readLine 1 (some .boolean)))), zt1 (List.mem_of_getElem? (i := 15) (rfl : tables_1_1[15]? = some (Cond.initialized RX12))), ⟨by decide, by decide⟩, by decide⟩
theorem naX12_readLine : zinv mX12_readLine 0 := by unfold zinv; decide +kernel
theorem imX12_readLine : Cond.instanceMethod yX12_readLine ∈ lw_tbl := zt7 (List.mem_of_getElem? (i := 148) (rfl : tables_1_7[148]? = some (Cond.instanceMethod yX12_readLine)))
theorem seX12_readLine : Cond.selects RX12 yX12_readLine yX12_readLine ∈ lw_tbl := List.mem_of_getElem? (i := 49) (by decide +kernel : lw_tbl[49]? = some (Cond.selects RX12 yX12_readLine yX12_readLine))
abbrev mX12_readGroup : zY := (yX12_readGroup, cX12_readGroup, 2, (some .boolean))
theorem cdX12_readGroup : zcode mX12_readGroup := ⟨zt7 (List.mem_of_getElem? (i := 133) (rfl : tables_1_7[133]? = some (Cond.code yX12_readGroup cX12_readGroup 2 (some .boolean)))), zt1 (List.mem_of_getElem? (i := 15) (rfl : tables_1_1[15]? = some (Cond.initialized RX12))), ⟨by decide, by decide⟩, by decide⟩
theorem naX12_readGroup : zinv mX12_readGroup 0 := by unfold zinv; decide +kernel
theorem imX12_readGroup : Cond.instanceMethod yX12_readGroup ∈ lw_tbl := zt7 (List.mem_of_getElem? (i := 132) (rfl : tables_1_7[132]? = some (Cond.instanceMethod yX12_readGroup)))
theorem seX12_readGroup : Cond.selects RX12 yX12_readGroup yX12_readGroup ∈ lw_tbl := List.mem_of_getElem? (i := 45) (by decide +kernel : lw_tbl[45]? = some (Cond.selects RX12 yX12_readGroup yX12_readGroup))
abbrev mX12_group : zY := (yX12_group, cX12_group, 3, (some .int))
theorem cdX12_group : zcode mX12_group := ⟨zt7 (List.mem_of_getElem? (i := 129) (rfl : tables_1_7[129]? = some (Cond.code yX12_group cX12_group 3 (some .int)))), zt1 (List.mem_of_getElem? (i := 15) (rfl : tables_1_1[15]? = some (Cond.initialized RX12))), ⟨by decide, by decide⟩, by decide⟩
theorem naX12_group : zinv mX12_group 0 := by unfold zinv; decide +kernel
theorem imX12_group : Cond.instanceMethod yX12_group ∈ lw_tbl := zt7 (List.mem_of_getElem? (i := 127) (rfl : tables_1_7[127]? = some (Cond.instanceMethod yX12_group)))
theorem seX12_group : Cond.selects RX12 yX12_group yX12_group ∈ lw_tbl := zt7 (List.mem_of_getElem? (i := 128) (rfl : tables_1_7[128]? = some (Cond.selects RX12 yX12_group yX12_group)))
abbrev mX12_at : zY := (yX12_at, cX12_at, 2, (some .int))
theorem cdX12_at : zcode mX12_at := ⟨zt8 (List.mem_of_getElem? (i := 120) (rfl : tables_1_8[120]? = some (Cond.code yX12_at cX12_at 2 (some .int)))), zt1 (List.mem_of_getElem? (i := 15) (rfl : tables_1_1[15]? = some (Cond.initialized RX12))), ⟨by decide, by decide⟩, by decide⟩
theorem naX12_at : zinv mX12_at 2 := by unfold zinv; decide +kernel
theorem stX12_at : Cond.static yX12_at ∈ lw_tbl := zt8 (List.mem_of_getElem? (i := 119) (rfl : tables_1_8[119]? = some (Cond.static yX12_at)))
abbrev mX12_delayOf : zY := (yX12_delayOf, cX12_delayOf, 4, (some .int))
theorem cdX12_delayOf : zcode mX12_delayOf := ⟨zt8 (List.mem_of_getElem? (i := 124) (rfl : tables_1_8[124]? = some (Cond.code yX12_delayOf cX12_delayOf 4 (some .int)))), zt1 (List.mem_of_getElem? (i := 15) (rfl : tables_1_1[15]? = some (Cond.initialized RX12))), ⟨by decide, by decide⟩, by decide⟩
theorem naX12_delayOf : zinv mX12_delayOf 2 := by unfold zinv; decide +kernel
theorem imX12_delayOf : Cond.instanceMethod yX12_delayOf ∈ lw_tbl := zt8 (List.mem_of_getElem? (i := 123) (rfl : tables_1_8[123]? = some (Cond.instanceMethod yX12_delayOf)))
theorem seX12_delayOf : Cond.selects RX12 yX12_delayOf yX12_delayOf ∈ lw_tbl := List.mem_of_getElem? (i := 90) (by decide +kernel : lw_tbl[90]? = some (Cond.selects RX12 yX12_delayOf yX12_delayOf))
abbrev mX12_laysWays : zY := (yX12_laysWays, cX12_laysWays, 4, none)
theorem cdX12_laysWays : zcode mX12_laysWays := ⟨zt8 (List.mem_of_getElem? (i := 117) (rfl : tables_1_8[117]? = some (Cond.code yX12_laysWays cX12_laysWays 4 none))), zt1 (List.mem_of_getElem? (i := 15) (rfl : tables_1_1[15]? = some (Cond.initialized RX12))), ⟨by decide, by decide⟩, by decide⟩
theorem naX12_laysWays : zinv mX12_laysWays 0 := by unfold zinv; decide +kernel
theorem imX12_laysWays : Cond.instanceMethod yX12_laysWays ∈ lw_tbl := zt8 (List.mem_of_getElem? (i := 116) (rfl : tables_1_8[116]? = some (Cond.instanceMethod yX12_laysWays)))
theorem seX12_laysWays : Cond.selects RX12 yX12_laysWays yX12_laysWays ∈ lw_tbl := List.mem_of_getElem? (i := 89) (by decide +kernel : lw_tbl[89]? = some (Cond.selects RX12 yX12_laysWays yX12_laysWays))
abbrev mX12_isWay : zY := (yX12_isWay, cX12_isWay, 3, (some .boolean))
theorem cdX12_isWay : zcode mX12_isWay := ⟨zt8 (List.mem_of_getElem? (i := 129) (rfl : tables_1_8[129]? = some (Cond.code yX12_isWay cX12_isWay 3 (some .boolean)))), zt1 (List.mem_of_getElem? (i := 15) (rfl : tables_1_1[15]? = some (Cond.initialized RX12))), ⟨by decide, by decide⟩, by decide⟩
theorem naX12_isWay : zinv mX12_isWay 2 := by unfold zinv; decide +kernel
theorem imX12_isWay : Cond.instanceMethod yX12_isWay ∈ lw_tbl := zt8 (List.mem_of_getElem? (i := 128) (rfl : tables_1_8[128]? = some (Cond.instanceMethod yX12_isWay)))
theorem seX12_isWay : Cond.selects RX12 yX12_isWay yX12_isWay ∈ lw_tbl := List.mem_of_getElem? (i := 91) (by decide +kernel : lw_tbl[91]? = some (Cond.selects RX12 yX12_isWay yX12_isWay))
abbrev mX12_aboveOf : zY := (yX12_aboveOf, cX12_aboveOf, 4, (some .int))
theorem cdX12_aboveOf : zcode mX12_aboveOf := ⟨zt8 (List.mem_of_getElem? (i := 133) (rfl : tables_1_8[133]? = some (Cond.code yX12_aboveOf cX12_aboveOf 4 (some .int)))), zt1 (List.mem_of_getElem? (i := 15) (rfl : tables_1_1[15]? = some (Cond.initialized RX12))), ⟨by decide, by decide⟩, by decide⟩
theorem naX12_aboveOf : zinv mX12_aboveOf 2 := by unfold zinv; decide +kernel
theorem imX12_aboveOf : Cond.instanceMethod yX12_aboveOf ∈ lw_tbl := zt8 (List.mem_of_getElem? (i := 132) (rfl : tables_1_8[132]? = some (Cond.instanceMethod yX12_aboveOf)))
theorem seX12_aboveOf : Cond.selects RX12 yX12_aboveOf yX12_aboveOf ∈ lw_tbl := List.mem_of_getElem? (i := 92) (by decide +kernel : lw_tbl[92]? = some (Cond.selects RX12 yX12_aboveOf yX12_aboveOf))
abbrev mX12_hopsOf : zY := (yX12_hopsOf, cX12_hopsOf, 5, (some .int))
theorem cdX12_hopsOf : zcode mX12_hopsOf := ⟨zt8 (List.mem_of_getElem? (i := 137) (rfl : tables_1_8[137]? = some (Cond.code yX12_hopsOf cX12_hopsOf 5 (some .int)))), zt1 (List.mem_of_getElem? (i := 15) (rfl : tables_1_1[15]? = some (Cond.initialized RX12))), ⟨by decide, by decide⟩, by decide⟩
theorem naX12_hopsOf : zinv mX12_hopsOf 2 := by unfold zinv; decide +kernel
theorem imX12_hopsOf : Cond.instanceMethod yX12_hopsOf ∈ lw_tbl := zt8 (List.mem_of_getElem? (i := 136) (rfl : tables_1_8[136]? = some (Cond.instanceMethod yX12_hopsOf)))
theorem seX12_hopsOf : Cond.selects RX12 yX12_hopsOf yX12_hopsOf ∈ lw_tbl := List.mem_of_getElem? (i := 93) (by decide +kernel : lw_tbl[93]? = some (Cond.selects RX12 yX12_hopsOf yX12_hopsOf))
abbrev mX12_isTold : zY := (yX12_isTold, cX12_isTold, 5, none)
theorem cdX12_isTold : zcode mX12_isTold := ⟨zt8 (List.mem_of_getElem? (i := 64) (rfl : tables_1_8[64]? = some (Cond.code yX12_isTold cX12_isTold 5 none))), zt1 (List.mem_of_getElem? (i := 15) (rfl : tables_1_1[15]? = some (Cond.initialized RX12))), ⟨by decide, by decide⟩, by decide⟩
theorem naX12_isTold : zinv mX12_isTold 3 := by unfold zinv; decide +kernel
theorem imX12_isTold : Cond.instanceMethod yX12_isTold ∈ lw_tbl := zt8 (List.mem_of_getElem? (i := 63) (rfl : tables_1_8[63]? = some (Cond.instanceMethod yX12_isTold)))
theorem seX12_isTold : Cond.selects RX12 yX12_isTold yX12_isTold ∈ lw_tbl := List.mem_of_getElem? (i := 77) (by decide +kernel : lw_tbl[77]? = some (Cond.selects RX12 yX12_isTold yX12_isTold))
abbrev mX12_hasGap : zY := (yX12_hasGap, cX12_hasGap, 4, none)
theorem cdX12_hasGap : zcode mX12_hasGap := ⟨zt8 (List.mem_of_getElem? (i := 39) (rfl : tables_1_8[39]? = some (Cond.code yX12_hasGap cX12_hasGap 4 none))), zt1 (List.mem_of_getElem? (i := 15) (rfl : tables_1_1[15]? = some (Cond.initialized RX12))), ⟨by decide, by decide⟩, by decide⟩
theorem naX12_hasGap : zinv mX12_hasGap 3 := by unfold zinv; decide +kernel
theorem imX12_hasGap : Cond.instanceMethod yX12_hasGap ∈ lw_tbl := zt8 (List.mem_of_getElem? (i := 38) (rfl : tables_1_8[38]? = some (Cond.instanceMethod yX12_hasGap)))
theorem seX12_hasGap : Cond.selects RX12 yX12_hasGap yX12_hasGap ∈ lw_tbl := List.mem_of_getElem? (i := 72) (by decide +kernel : lw_tbl[72]? = some (Cond.selects RX12 yX12_hasGap yX12_hasGap))
abbrev mX12_noGap : zY := (yX12_noGap, cX12_noGap, 3, none)
theorem cdX12_noGap : zcode mX12_noGap := ⟨zt8 (List.mem_of_getElem? (i := 60) (rfl : tables_1_8[60]? = some (Cond.code yX12_noGap cX12_noGap 3 none))), zt1 (List.mem_of_getElem? (i := 15) (rfl : tables_1_1[15]? = some (Cond.initialized RX12))), ⟨by decide, by decide⟩, by decide⟩
theorem naX12_noGap : zinv mX12_noGap 2 := by unfold zinv; decide +kernel
theorem imX12_noGap : Cond.instanceMethod yX12_noGap ∈ lw_tbl := zt8 (List.mem_of_getElem? (i := 59) (rfl : tables_1_8[59]? = some (Cond.instanceMethod yX12_noGap)))
theorem seX12_noGap : Cond.selects RX12 yX12_noGap yX12_noGap ∈ lw_tbl := List.mem_of_getElem? (i := 76) (by decide +kernel : lw_tbl[76]? = some (Cond.selects RX12 yX12_noGap yX12_noGap))
abbrev mX12_hasGapBehind : zY := (yX12_hasGapBehind, cX12_hasGapBehind, 6, none)
theorem cdX12_hasGapBehind : zcode mX12_hasGapBehind := ⟨zt8 (List.mem_of_getElem? (i := 157) (rfl : tables_1_8[157]? = some (Cond.code yX12_hasGapBehind cX12_hasGapBehind 6 none))), zt1 (List.mem_of_getElem? (i := 15) (rfl : tables_1_1[15]? = some (Cond.initialized RX12))), ⟨by decide, by decide⟩, by decide⟩
theorem naX12_hasGapBehind : zinv mX12_hasGapBehind 3 := by unfold zinv; decide +kernel
theorem imX12_hasGapBehind : Cond.instanceMethod yX12_hasGapBehind ∈ lw_tbl := zt8 (List.mem_of_getElem? (i := 156) (rfl : tables_1_8[156]? = some (Cond.instanceMethod yX12_hasGapBehind)))
theorem seX12_hasGapBehind : Cond.selects RX12 yX12_hasGapBehind yX12_hasGapBehind ∈ lw_tbl := List.mem_of_getElem? (i := 98) (by decide +kernel : lw_tbl[98]? = some (Cond.selects RX12 yX12_hasGapBehind yX12_hasGapBehind))
abbrev mX12_isLost : zY := (yX12_isLost, cX12_isLost, 2, (some .boolean))
theorem cdX12_isLost : zcode mX12_isLost := ⟨zt8 (List.mem_of_getElem? (i := 149) (rfl : tables_1_8[149]? = some (Cond.code yX12_isLost cX12_isLost 2 (some .boolean)))), zt1 (List.mem_of_getElem? (i := 15) (rfl : tables_1_1[15]? = some (Cond.initialized RX12))), ⟨by decide, by decide⟩, by decide⟩
theorem naX12_isLost : zinv mX12_isLost 1 := by unfold zinv; decide +kernel
theorem imX12_isLost : Cond.instanceMethod yX12_isLost ∈ lw_tbl := zt8 (List.mem_of_getElem? (i := 148) (rfl : tables_1_8[148]? = some (Cond.instanceMethod yX12_isLost)))
theorem seX12_isLost : Cond.selects RX12 yX12_isLost yX12_isLost ∈ lw_tbl := List.mem_of_getElem? (i := 96) (by decide +kernel : lw_tbl[96]? = some (Cond.selects RX12 yX12_isLost yX12_isLost))
abbrev mX12_isOnWay : zY := (yX12_isOnWay, cX12_isOnWay, 8, none)
theorem cdX12_isOnWay : zcode mX12_isOnWay := ⟨zt8 (List.mem_of_getElem? (i := 153) (rfl : tables_1_8[153]? = some (Cond.code yX12_isOnWay cX12_isOnWay 8 none))), zt1 (List.mem_of_getElem? (i := 15) (rfl : tables_1_1[15]? = some (Cond.initialized RX12))), ⟨by decide, by decide⟩, by decide⟩
theorem naX12_isOnWay : zinv mX12_isOnWay 5 := by unfold zinv; decide +kernel
theorem imX12_isOnWay : Cond.instanceMethod yX12_isOnWay ∈ lw_tbl := zt8 (List.mem_of_getElem? (i := 152) (rfl : tables_1_8[152]? = some (Cond.instanceMethod yX12_isOnWay)))
theorem seX12_isOnWay : Cond.selects RX12 yX12_isOnWay yX12_isOnWay ∈ lw_tbl := List.mem_of_getElem? (i := 97) (by decide +kernel : lw_tbl[97]? = some (Cond.selects RX12 yX12_isOnWay yX12_isOnWay))
abbrev mX12_behindIn : zY := (yX12_behindIn, cX12_behindIn, 5, (some .int))
theorem cdX12_behindIn : zcode mX12_behindIn := ⟨zt8 (List.mem_of_getElem? (i := 141) (rfl : tables_1_8[141]? = some (Cond.code yX12_behindIn cX12_behindIn 5 (some .int)))), zt1 (List.mem_of_getElem? (i := 15) (rfl : tables_1_1[15]? = some (Cond.initialized RX12))), ⟨by decide, by decide⟩, by decide⟩
theorem naX12_behindIn : zinv mX12_behindIn 2 := by unfold zinv; decide +kernel
theorem imX12_behindIn : Cond.instanceMethod yX12_behindIn ∈ lw_tbl := zt8 (List.mem_of_getElem? (i := 140) (rfl : tables_1_8[140]? = some (Cond.instanceMethod yX12_behindIn)))
theorem seX12_behindIn : Cond.selects RX12 yX12_behindIn yX12_behindIn ∈ lw_tbl := List.mem_of_getElem? (i := 94) (by decide +kernel : lw_tbl[94]? = some (Cond.selects RX12 yX12_behindIn yX12_behindIn))
abbrev mX12_comesBehind : zY := (yX12_comesBehind, cX12_comesBehind, 6, (some .boolean))
theorem cdX12_comesBehind : zcode mX12_comesBehind := ⟨zt8 (List.mem_of_getElem? (i := 145) (rfl : tables_1_8[145]? = some (Cond.code yX12_comesBehind cX12_comesBehind 6 (some .boolean)))), zt1 (List.mem_of_getElem? (i := 15) (rfl : tables_1_1[15]? = some (Cond.initialized RX12))), ⟨by decide, by decide⟩, by decide⟩
theorem naX12_comesBehind : zinv mX12_comesBehind 3 := by unfold zinv; decide +kernel
theorem imX12_comesBehind : Cond.instanceMethod yX12_comesBehind ∈ lw_tbl := zt8 (List.mem_of_getElem? (i := 144) (rfl : tables_1_8[144]? = some (Cond.instanceMethod yX12_comesBehind)))
theorem seX12_comesBehind : Cond.selects RX12 yX12_comesBehind yX12_comesBehind ∈ lw_tbl := List.mem_of_getElem? (i := 95) (by decide +kernel : lw_tbl[95]? = some (Cond.selects RX12 yX12_comesBehind yX12_comesBehind))
abbrev mX12_flood : zY := (yX12_flood, cX12_flood, 11, none)
theorem cdX12_flood : zcode mX12_flood := ⟨zt8 (List.mem_of_getElem? (i := 113) (rfl : tables_1_8[113]? = some (Cond.code yX12_flood cX12_flood 11 none))), zt1 (List.mem_of_getElem? (i := 15) (rfl : tables_1_1[15]? = some (Cond.initialized RX12))), ⟨by decide, by decide⟩, by decide⟩
theorem naX12_flood : zinv mX12_flood 4 := by unfold zinv; decide +kernel
theorem imX12_flood : Cond.instanceMethod yX12_flood ∈ lw_tbl := zt8 (List.mem_of_getElem? (i := 112) (rfl : tables_1_8[112]? = some (Cond.instanceMethod yX12_flood)))
theorem seX12_flood : Cond.selects RX12 yX12_flood yX12_flood ∈ lw_tbl := List.mem_of_getElem? (i := 88) (by decide +kernel : lw_tbl[88]? = some (Cond.selects RX12 yX12_flood yX12_flood))
abbrev mX12_timeBy : zY := (yX12_timeBy, cX12_timeBy, 7, (some .int))
theorem cdX12_timeBy : zcode mX12_timeBy := ⟨zt8 (List.mem_of_getElem? (i := 89) (rfl : tables_1_8[89]? = some (Cond.code yX12_timeBy cX12_timeBy 7 (some .int)))), zt1 (List.mem_of_getElem? (i := 15) (rfl : tables_1_1[15]? = some (Cond.initialized RX12))), ⟨by decide, by decide⟩, by decide⟩
theorem naX12_timeBy : zinv mX12_timeBy 4 := by unfold zinv; decide +kernel
theorem imX12_timeBy : Cond.instanceMethod yX12_timeBy ∈ lw_tbl := zt8 (List.mem_of_getElem? (i := 88) (rfl : tables_1_8[88]? = some (Cond.instanceMethod yX12_timeBy)))
theorem seX12_timeBy : Cond.selects RX12 yX12_timeBy yX12_timeBy ∈ lw_tbl := List.mem_of_getElem? (i := 83) (by decide +kernel : lw_tbl[83]? = some (Cond.selects RX12 yX12_timeBy yX12_timeBy))
abbrev mX12_estOf : zY := (yX12_estOf, cX12_estOf, 3, (some .int))
theorem cdX12_estOf : zcode mX12_estOf := ⟨zt8 (List.mem_of_getElem? (i := 77) (rfl : tables_1_8[77]? = some (Cond.code yX12_estOf cX12_estOf 3 (some .int)))), zt1 (List.mem_of_getElem? (i := 15) (rfl : tables_1_1[15]? = some (Cond.initialized RX12))), ⟨by decide, by decide⟩, by decide⟩
theorem naX12_estOf : zinv mX12_estOf 2 := by unfold zinv; decide +kernel
theorem imX12_estOf : Cond.instanceMethod yX12_estOf ∈ lw_tbl := zt8 (List.mem_of_getElem? (i := 76) (rfl : tables_1_8[76]? = some (Cond.instanceMethod yX12_estOf)))
theorem seX12_estOf : Cond.selects RX12 yX12_estOf yX12_estOf ∈ lw_tbl := List.mem_of_getElem? (i := 80) (by decide +kernel : lw_tbl[80]? = some (Cond.selects RX12 yX12_estOf yX12_estOf))
abbrev mX12_asksAnew : zY := (yX12_asksAnew, cX12_asksAnew, 3, none)
theorem cdX12_asksAnew : zcode mX12_asksAnew := ⟨zt8 (List.mem_of_getElem? (i := 85) (rfl : tables_1_8[85]? = some (Cond.code yX12_asksAnew cX12_asksAnew 3 none))), zt1 (List.mem_of_getElem? (i := 15) (rfl : tables_1_1[15]? = some (Cond.initialized RX12))), ⟨by decide, by decide⟩, by decide⟩
theorem naX12_asksAnew : zinv mX12_asksAnew 2 := by unfold zinv; decide +kernel
theorem imX12_asksAnew : Cond.instanceMethod yX12_asksAnew ∈ lw_tbl := zt8 (List.mem_of_getElem? (i := 84) (rfl : tables_1_8[84]? = some (Cond.instanceMethod yX12_asksAnew)))
theorem seX12_asksAnew : Cond.selects RX12 yX12_asksAnew yX12_asksAnew ∈ lw_tbl := List.mem_of_getElem? (i := 82) (by decide +kernel : lw_tbl[82]? = some (Cond.selects RX12 yX12_asksAnew yX12_asksAnew))
abbrev mX12_backsOff : zY := (yX12_backsOff, cX12_backsOff, 3, none)
theorem cdX12_backsOff : zcode mX12_backsOff := ⟨zt8 (List.mem_of_getElem? (i := 102) (rfl : tables_1_8[102]? = some (Cond.code yX12_backsOff cX12_backsOff 3 none))), zt1 (List.mem_of_getElem? (i := 15) (rfl : tables_1_1[15]? = some (Cond.initialized RX12))), ⟨by decide, by decide⟩, by decide⟩
theorem naX12_backsOff : zinv mX12_backsOff 2 := by unfold zinv; decide +kernel
theorem imX12_backsOff : Cond.instanceMethod yX12_backsOff ∈ lw_tbl := zt8 (List.mem_of_getElem? (i := 101) (rfl : tables_1_8[101]? = some (Cond.instanceMethod yX12_backsOff)))
theorem seX12_backsOff : Cond.selects RX12 yX12_backsOff yX12_backsOff ∈ lw_tbl := List.mem_of_getElem? (i := 86) (by decide +kernel : lw_tbl[86]? = some (Cond.selects RX12 yX12_backsOff yX12_backsOff))
abbrev mX12_more : zY := (yX12_more, cX12_more, 3, none)
theorem cdX12_more : zcode mX12_more := ⟨zt8 (List.mem_of_getElem? (i := 56) (rfl : tables_1_8[56]? = some (Cond.code yX12_more cX12_more 3 none))), zt1 (List.mem_of_getElem? (i := 15) (rfl : tables_1_1[15]? = some (Cond.initialized RX12))), ⟨by decide, by decide⟩, by decide⟩
theorem naX12_more : zinv mX12_more 2 := by unfold zinv; decide +kernel
theorem imX12_more : Cond.instanceMethod yX12_more ∈ lw_tbl := zt8 (List.mem_of_getElem? (i := 55) (rfl : tables_1_8[55]? = some (Cond.instanceMethod yX12_more)))
theorem seX12_more : Cond.selects RX12 yX12_more yX12_more ∈ lw_tbl := List.mem_of_getElem? (i := 75) (by decide +kernel : lw_tbl[75]? = some (Cond.selects RX12 yX12_more yX12_more))
abbrev mX12_half : zY := (yX12_half, cX12_half, 2, (some .int))
theorem cdX12_half : zcode mX12_half := ⟨zt8 (List.mem_of_getElem? (i := 46) (rfl : tables_1_8[46]? = some (Cond.code yX12_half cX12_half 2 (some .int)))), zt1 (List.mem_of_getElem? (i := 15) (rfl : tables_1_1[15]? = some (Cond.initialized RX12))), ⟨by decide, by decide⟩, by decide⟩
theorem naX12_half : zinv mX12_half 2 := by unfold zinv; decide +kernel
theorem stX12_half : Cond.static yX12_half ∈ lw_tbl := zt8 (List.mem_of_getElem? (i := 45) (rfl : tables_1_8[45]? = some (Cond.static yX12_half)))
abbrev mX12_hearsReport : zY := (yX12_hearsReport, cX12_hearsReport, 5, none)
theorem cdX12_hearsReport : zcode mX12_hearsReport := ⟨zt8 (List.mem_of_getElem? (i := 43) (rfl : tables_1_8[43]? = some (Cond.code yX12_hearsReport cX12_hearsReport 5 none))), zt1 (List.mem_of_getElem? (i := 15) (rfl : tables_1_1[15]? = some (Cond.initialized RX12))), ⟨by decide, by decide⟩, by decide⟩
theorem naX12_hearsReport : zinv mX12_hearsReport 2 := by unfold zinv; decide +kernel
theorem imX12_hearsReport : Cond.instanceMethod yX12_hearsReport ∈ lw_tbl := zt8 (List.mem_of_getElem? (i := 42) (rfl : tables_1_8[42]? = some (Cond.instanceMethod yX12_hearsReport)))
theorem seX12_hearsReport : Cond.selects RX12 yX12_hearsReport yX12_hearsReport ∈ lw_tbl := List.mem_of_getElem? (i := 73) (by decide +kernel : lw_tbl[73]? = some (Cond.selects RX12 yX12_hearsReport yX12_hearsReport))
abbrev mX12_adapts : zY := (yX12_adapts, cX12_adapts, 4, none)
theorem cdX12_adapts : zcode mX12_adapts := ⟨zt8 (List.mem_of_getElem? (i := 73) (rfl : tables_1_8[73]? = some (Cond.code yX12_adapts cX12_adapts 4 none))), zt1 (List.mem_of_getElem? (i := 15) (rfl : tables_1_1[15]? = some (Cond.initialized RX12))), ⟨by decide, by decide⟩, by decide⟩
theorem naX12_adapts : zinv mX12_adapts 2 := by unfold zinv; decide +kernel
theorem imX12_adapts : Cond.instanceMethod yX12_adapts ∈ lw_tbl := zt8 (List.mem_of_getElem? (i := 72) (rfl : tables_1_8[72]? = some (Cond.instanceMethod yX12_adapts)))
theorem seX12_adapts : Cond.selects RX12 yX12_adapts yX12_adapts ∈ lw_tbl := List.mem_of_getElem? (i := 79) (by decide +kernel : lw_tbl[79]? = some (Cond.selects RX12 yX12_adapts yX12_adapts))
abbrev mX12_hearsPacket : zY := (yX12_hearsPacket, cX12_hearsPacket, 6, (some .boolean))
theorem cdX12_hearsPacket : zcode mX12_hearsPacket := ⟨zt8 (List.mem_of_getElem? (i := 52) (rfl : tables_1_8[52]? = some (Cond.code yX12_hearsPacket cX12_hearsPacket 6 (some .boolean)))), zt1 (List.mem_of_getElem? (i := 15) (rfl : tables_1_1[15]? = some (Cond.initialized RX12))), ⟨by decide, by decide⟩, by decide⟩
theorem naX12_hearsPacket : zinv mX12_hearsPacket 4 := by unfold zinv; decide +kernel
theorem imX12_hearsPacket : Cond.instanceMethod yX12_hearsPacket ∈ lw_tbl := zt8 (List.mem_of_getElem? (i := 51) (rfl : tables_1_8[51]? = some (Cond.instanceMethod yX12_hearsPacket)))
theorem seX12_hearsPacket : Cond.selects RX12 yX12_hearsPacket yX12_hearsPacket ∈ lw_tbl := List.mem_of_getElem? (i := 74) (by decide +kernel : lw_tbl[74]? = some (Cond.selects RX12 yX12_hearsPacket yX12_hearsPacket))
abbrev mX12_hearsHow : zY := (yX12_hearsHow, cX12_hearsHow, 5, none)
theorem cdX12_hearsHow : zcode mX12_hearsHow := ⟨zt8 (List.mem_of_getElem? (i := 81) (rfl : tables_1_8[81]? = some (Cond.code yX12_hearsHow cX12_hearsHow 5 none))), zt1 (List.mem_of_getElem? (i := 15) (rfl : tables_1_1[15]? = some (Cond.initialized RX12))), ⟨by decide, by decide⟩, by decide⟩
theorem naX12_hearsHow : zinv mX12_hearsHow 2 := by unfold zinv; decide +kernel
theorem imX12_hearsHow : Cond.instanceMethod yX12_hearsHow ∈ lw_tbl := zt8 (List.mem_of_getElem? (i := 80) (rfl : tables_1_8[80]? = some (Cond.instanceMethod yX12_hearsHow)))
theorem seX12_hearsHow : Cond.selects RX12 yX12_hearsHow yX12_hearsHow ∈ lw_tbl := List.mem_of_getElem? (i := 81) (by decide +kernel : lw_tbl[81]? = some (Cond.selects RX12 yX12_hearsHow yX12_hearsHow))
abbrev mX12_hearsRequest : zY := (yX12_hearsRequest, cX12_hearsRequest, 5, none)
theorem cdX12_hearsRequest : zcode mX12_hearsRequest := ⟨zt8 (List.mem_of_getElem? (i := 98) (rfl : tables_1_8[98]? = some (Cond.code yX12_hearsRequest cX12_hearsRequest 5 none))), zt1 (List.mem_of_getElem? (i := 15) (rfl : tables_1_1[15]? = some (Cond.initialized RX12))), ⟨by decide, by decide⟩, by decide⟩
theorem naX12_hearsRequest : zinv mX12_hearsRequest 4 := by unfold zinv; decide +kernel
theorem imX12_hearsRequest : Cond.instanceMethod yX12_hearsRequest ∈ lw_tbl := zt8 (List.mem_of_getElem? (i := 97) (rfl : tables_1_8[97]? = some (Cond.instanceMethod yX12_hearsRequest)))
theorem seX12_hearsRequest : Cond.selects RX12 yX12_hearsRequest yX12_hearsRequest ∈ lw_tbl := List.mem_of_getElem? (i := 85) (by decide +kernel : lw_tbl[85]? = some (Cond.selects RX12 yX12_hearsRequest yX12_hearsRequest))
abbrev mX12_isHeard : zY := (yX12_isHeard, cX12_isHeard, 7, (some .boolean))
theorem cdX12_isHeard : zcode mX12_isHeard := ⟨zt8 (List.mem_of_getElem? (i := 20) (rfl : tables_1_8[20]? = some (Cond.code yX12_isHeard cX12_isHeard 7 (some .boolean)))), zt1 (List.mem_of_getElem? (i := 15) (rfl : tables_1_1[15]? = some (Cond.initialized RX12))), ⟨by decide, by decide⟩, by decide⟩
theorem naX12_isHeard : zinv mX12_isHeard 1 := by unfold zinv; decide +kernel
theorem imX12_isHeard : Cond.instanceMethod yX12_isHeard ∈ lw_tbl := zt8 (List.mem_of_getElem? (i := 19) (rfl : tables_1_8[19]? = some (Cond.instanceMethod yX12_isHeard)))
theorem seX12_isHeard : Cond.selects RX12 yX12_isHeard yX12_isHeard ∈ lw_tbl := List.mem_of_getElem? (i := 68) (by decide +kernel : lw_tbl[68]? = some (Cond.selects RX12 yX12_isHeard yX12_isHeard))
abbrev mX12_allCome : zY := (yX12_allCome, cX12_allCome, 6, (some .int))
theorem cdX12_allCome : zcode mX12_allCome := ⟨zt8 (List.mem_of_getElem? (i := 13) (rfl : tables_1_8[13]? = some (Cond.code yX12_allCome cX12_allCome 6 (some .int)))), zt1 (List.mem_of_getElem? (i := 15) (rfl : tables_1_1[15]? = some (Cond.initialized RX12))), ⟨by decide, by decide⟩, by decide⟩
theorem naX12_allCome : zinv mX12_allCome 0 := by unfold zinv; decide +kernel
theorem imX12_allCome : Cond.instanceMethod yX12_allCome ∈ lw_tbl := zt8 (List.mem_of_getElem? (i := 12) (rfl : tables_1_8[12]? = some (Cond.instanceMethod yX12_allCome)))
theorem seX12_allCome : Cond.selects RX12 yX12_allCome yX12_allCome ∈ lw_tbl := List.mem_of_getElem? (i := 67) (by decide +kernel : lw_tbl[67]? = some (Cond.selects RX12 yX12_allCome yX12_allCome))
abbrev mX12_isDue : zY := (yX12_isDue, cX12_isDue, 2, (some .boolean))
theorem cdX12_isDue : zcode mX12_isDue := ⟨zt8 (List.mem_of_getElem? (i := 109) (rfl : tables_1_8[109]? = some (Cond.code yX12_isDue cX12_isDue 2 (some .boolean)))), zt1 (List.mem_of_getElem? (i := 15) (rfl : tables_1_1[15]? = some (Cond.initialized RX12))), ⟨by decide, by decide⟩, by decide⟩
theorem naX12_isDue : zinv mX12_isDue 2 := by unfold zinv; decide +kernel
theorem stX12_isDue : Cond.static yX12_isDue ∈ lw_tbl := zt8 (List.mem_of_getElem? (i := 108) (rfl : tables_1_8[108]? = some (Cond.static yX12_isDue)))
abbrev mX12_talks : zY := (yX12_talks, cX12_talks, 3, none)
theorem cdX12_talks : zcode mX12_talks := ⟨zt8 (List.mem_of_getElem? (i := 106) (rfl : tables_1_8[106]? = some (Cond.code yX12_talks cX12_talks 3 none))), zt1 (List.mem_of_getElem? (i := 15) (rfl : tables_1_1[15]? = some (Cond.initialized RX12))), ⟨by decide, by decide⟩, by decide⟩
theorem naX12_talks : zinv mX12_talks 2 := by unfold zinv; decide +kernel
theorem imX12_talks : Cond.instanceMethod yX12_talks ∈ lw_tbl := zt8 (List.mem_of_getElem? (i := 105) (rfl : tables_1_8[105]? = some (Cond.instanceMethod yX12_talks)))
theorem seX12_talks : Cond.selects RX12 yX12_talks yX12_talks ∈ lw_tbl := List.mem_of_getElem? (i := 87) (by decide +kernel : lw_tbl[87]? = some (Cond.selects RX12 yX12_talks yX12_talks))
abbrev mX12_canSend : zY := (yX12_canSend, cX12_canSend, 1, (some .boolean))
theorem cdX12_canSend : zcode mX12_canSend := ⟨zt8 (List.mem_of_getElem? (i := 161) (rfl : tables_1_8[161]? = some (Cond.code yX12_canSend cX12_canSend 1 (some .boolean)))), zt1 (List.mem_of_getElem? (i := 15) (rfl : tables_1_1[15]? = some (Cond.initialized RX12))), ⟨by decide, by decide⟩, by decide⟩
theorem naX12_canSend : zinv mX12_canSend 0 := by unfold zinv; decide +kernel
theorem imX12_canSend : Cond.instanceMethod yX12_canSend ∈ lw_tbl := zt8 (List.mem_of_getElem? (i := 160) (rfl : tables_1_8[160]? = some (Cond.instanceMethod yX12_canSend)))
theorem seX12_canSend : Cond.selects RX12 yX12_canSend yX12_canSend ∈ lw_tbl := List.mem_of_getElem? (i := 99) (by decide +kernel : lw_tbl[99]? = some (Cond.selects RX12 yX12_canSend yX12_canSend))
abbrev mX12_isSent : zY := (yX12_isSent, cX12_isSent, 3, (some .int))
theorem cdX12_isSent : zcode mX12_isSent := ⟨zt8 (List.mem_of_getElem? (i := 165) (rfl : tables_1_8[165]? = some (Cond.code yX12_isSent cX12_isSent 3 (some .int)))), zt1 (List.mem_of_getElem? (i := 15) (rfl : tables_1_1[15]? = some (Cond.initialized RX12))), ⟨by decide, by decide⟩, by decide⟩
theorem naX12_isSent : zinv mX12_isSent 0 := by unfold zinv; decide +kernel
theorem imX12_isSent : Cond.instanceMethod yX12_isSent ∈ lw_tbl := zt8 (List.mem_of_getElem? (i := 164) (rfl : tables_1_8[164]? = some (Cond.instanceMethod yX12_isSent)))
theorem seX12_isSent : Cond.selects RX12 yX12_isSent yX12_isSent ∈ lw_tbl := List.mem_of_getElem? (i := 100) (by decide +kernel : lw_tbl[100]? = some (Cond.selects RX12 yX12_isSent yX12_isSent))
abbrev mX12_oneTick : zY := (yX12_oneTick, cX12_oneTick, 4, (some .int))
theorem cdX12_oneTick : zcode mX12_oneTick := ⟨zt8 (List.mem_of_getElem? (i := 9) (rfl : tables_1_8[9]? = some (Cond.code yX12_oneTick cX12_oneTick 4 (some .int)))), zt1 (List.mem_of_getElem? (i := 15) (rfl : tables_1_1[15]? = some (Cond.initialized RX12))), ⟨by decide, by decide⟩, by decide⟩
theorem naX12_oneTick : zinv mX12_oneTick 0 := by unfold zinv; decide +kernel
theorem imX12_oneTick : Cond.instanceMethod yX12_oneTick ∈ lw_tbl := zt8 (List.mem_of_getElem? (i := 8) (rfl : tables_1_8[8]? = some (Cond.instanceMethod yX12_oneTick)))
theorem seX12_oneTick : Cond.selects RX12 yX12_oneTick yX12_oneTick ∈ lw_tbl := List.mem_of_getElem? (i := 66) (by decide +kernel : lw_tbl[66]? = some (Cond.selects RX12 yX12_oneTick yX12_oneTick))
abbrev mX12_goesOn : zY := (yX12_goesOn, cX12_goesOn, 4, (some .int))
theorem cdX12_goesOn : zcode mX12_goesOn := ⟨zt8 (List.mem_of_getElem? (i := 5) (rfl : tables_1_8[5]? = some (Cond.code yX12_goesOn cX12_goesOn 4 (some .int)))), zt1 (List.mem_of_getElem? (i := 15) (rfl : tables_1_1[15]? = some (Cond.initialized RX12))), ⟨by decide, by decide⟩, by decide⟩
theorem naX12_goesOn : zinv mX12_goesOn 1 := by unfold zinv; decide +kernel
theorem imX12_goesOn : Cond.instanceMethod yX12_goesOn ∈ lw_tbl := zt8 (List.mem_of_getElem? (i := 4) (rfl : tables_1_8[4]? = some (Cond.instanceMethod yX12_goesOn)))
theorem seX12_goesOn : Cond.selects RX12 yX12_goesOn yX12_goesOn ∈ lw_tbl := List.mem_of_getElem? (i := 65) (by decide +kernel : lw_tbl[65]? = some (Cond.selects RX12 yX12_goesOn yX12_goesOn))
abbrev mX12_ticks : zY := (yX12_ticks, cX12_ticks, 2, (some .int))
theorem cdX12_ticks : zcode mX12_ticks := ⟨zt7 (List.mem_of_getElem? (i := 238) (rfl : tables_1_7[238]? = some (Cond.code yX12_ticks cX12_ticks 2 (some .int)))), zt1 (List.mem_of_getElem? (i := 15) (rfl : tables_1_1[15]? = some (Cond.initialized RX12))), ⟨by decide, by decide⟩, by decide⟩
theorem naX12_ticks : zinv mX12_ticks 1 := by unfold zinv; decide +kernel
theorem imX12_ticks : Cond.instanceMethod yX12_ticks ∈ lw_tbl := zt7 (List.mem_of_getElem? (i := 236) (rfl : tables_1_7[236]? = some (Cond.instanceMethod yX12_ticks)))
theorem seX12_ticks : Cond.selects RX12 yX12_ticks yX12_ticks ∈ lw_tbl := zt7 (List.mem_of_getElem? (i := 237) (rfl : tables_1_7[237]? = some (Cond.selects RX12 yX12_ticks yX12_ticks)))
abbrev mX12_send : zY := (yX12_send, cX12_send, 1, (some .int))
theorem cdX12_send : zcode mX12_send := ⟨zt8 (List.mem_of_getElem? (i := 169) (rfl : tables_1_8[169]? = some (Cond.code yX12_send cX12_send 1 (some .int)))), zt1 (List.mem_of_getElem? (i := 15) (rfl : tables_1_1[15]? = some (Cond.initialized RX12))), ⟨by decide, by decide⟩, by decide⟩
theorem naX12_send : zinv mX12_send 0 := by unfold zinv; decide +kernel
theorem imX12_send : Cond.instanceMethod yX12_send ∈ lw_tbl := zt8 (List.mem_of_getElem? (i := 167) (rfl : tables_1_8[167]? = some (Cond.instanceMethod yX12_send)))
theorem seX12_send : Cond.selects RX12 yX12_send yX12_send ∈ lw_tbl := zt8 (List.mem_of_getElem? (i := 168) (rfl : tables_1_8[168]? = some (Cond.selects RX12 yX12_send yX12_send)))
abbrev mX12_wake : zY := (yX12_wake, cX12_wake, 4, (some .boolean))
theorem cdX12_wake : zcode mX12_wake := ⟨zt8 (List.mem_of_getElem? (i := 173) (rfl : tables_1_8[173]? = some (Cond.code yX12_wake cX12_wake 4 (some .boolean)))), zt1 (List.mem_of_getElem? (i := 15) (rfl : tables_1_1[15]? = some (Cond.initialized RX12))), ⟨by decide, by decide⟩, by decide⟩
theorem naX12_wake : zinv mX12_wake 2 := by unfold zinv; decide +kernel
theorem imX12_wake : Cond.instanceMethod yX12_wake ∈ lw_tbl := zt8 (List.mem_of_getElem? (i := 171) (rfl : tables_1_8[171]? = some (Cond.instanceMethod yX12_wake)))
theorem seX12_wake : Cond.selects RX12 yX12_wake yX12_wake ∈ lw_tbl := zt8 (List.mem_of_getElem? (i := 172) (rfl : tables_1_8[172]? = some (Cond.selects RX12 yX12_wake yX12_wake)))
abbrev mX12_cut : zY := (yX12_cut, cX12_cut, 4, (some .boolean))
theorem cdX12_cut : zcode mX12_cut := ⟨zt8 (List.mem_of_getElem? (i := 181) (rfl : tables_1_8[181]? = some (Cond.code yX12_cut cX12_cut 4 (some .boolean)))), zt1 (List.mem_of_getElem? (i := 15) (rfl : tables_1_1[15]? = some (Cond.initialized RX12))), ⟨by decide, by decide⟩, by decide⟩
theorem naX12_cut : zinv mX12_cut 2 := by unfold zinv; decide +kernel
theorem imX12_cut : Cond.instanceMethod yX12_cut ∈ lw_tbl := zt8 (List.mem_of_getElem? (i := 179) (rfl : tables_1_8[179]? = some (Cond.instanceMethod yX12_cut)))
theorem seX12_cut : Cond.selects RX12 yX12_cut yX12_cut ∈ lw_tbl := zt8 (List.mem_of_getElem? (i := 180) (rfl : tables_1_8[180]? = some (Cond.selects RX12 yX12_cut yX12_cut)))
abbrev mX12_loss : zY := (yX12_loss, cX12_loss, 4, (some .int))
theorem cdX12_loss : zcode mX12_loss := ⟨zt8 (List.mem_of_getElem? (i := 189) (rfl : tables_1_8[189]? = some (Cond.code yX12_loss cX12_loss 4 (some .int)))), zt1 (List.mem_of_getElem? (i := 15) (rfl : tables_1_1[15]? = some (Cond.initialized RX12))), ⟨by decide, by decide⟩, by decide⟩
theorem naX12_loss : zinv mX12_loss 2 := by unfold zinv; decide +kernel
theorem imX12_loss : Cond.instanceMethod yX12_loss ∈ lw_tbl := zt8 (List.mem_of_getElem? (i := 187) (rfl : tables_1_8[187]? = some (Cond.instanceMethod yX12_loss)))
theorem seX12_loss : Cond.selects RX12 yX12_loss yX12_loss ∈ lw_tbl := zt8 (List.mem_of_getElem? (i := 188) (rfl : tables_1_8[188]? = some (Cond.selects RX12 yX12_loss yX12_loss)))
abbrev mX12_give : zY := (yX12_give, cX12_give, 5, (some .boolean))
theorem cdX12_give : zcode mX12_give := ⟨zt8 (List.mem_of_getElem? (i := 193) (rfl : tables_1_8[193]? = some (Cond.code yX12_give cX12_give 5 (some .boolean)))), zt1 (List.mem_of_getElem? (i := 15) (rfl : tables_1_1[15]? = some (Cond.initialized RX12))), ⟨by decide, by decide⟩, by decide⟩
theorem naX12_give : zinv mX12_give 3 := by unfold zinv; decide +kernel
theorem imX12_give : Cond.instanceMethod yX12_give ∈ lw_tbl := zt8 (List.mem_of_getElem? (i := 191) (rfl : tables_1_8[191]? = some (Cond.instanceMethod yX12_give)))
theorem seX12_give : Cond.selects RX12 yX12_give yX12_give ∈ lw_tbl := zt8 (List.mem_of_getElem? (i := 192) (rfl : tables_1_8[192]? = some (Cond.selects RX12 yX12_give yX12_give)))
abbrev mX12_node : zY := (yX12_node, cX12_node, 3, (some .int))
theorem cdX12_node : zcode mX12_node := ⟨zt8 (List.mem_of_getElem? (i := 200) (rfl : tables_1_8[200]? = some (Cond.code yX12_node cX12_node 3 (some .int)))), zt1 (List.mem_of_getElem? (i := 15) (rfl : tables_1_1[15]? = some (Cond.initialized RX12))), ⟨by decide, by decide⟩, by decide⟩
theorem naX12_node : zinv mX12_node 2 := by unfold zinv; decide +kernel
theorem imX12_node : Cond.instanceMethod yX12_node ∈ lw_tbl := zt8 (List.mem_of_getElem? (i := 198) (rfl : tables_1_8[198]? = some (Cond.instanceMethod yX12_node)))
theorem seX12_node : Cond.selects RX12 yX12_node yX12_node ∈ lw_tbl := zt8 (List.mem_of_getElem? (i := 199) (rfl : tables_1_8[199]? = some (Cond.selects RX12 yX12_node yX12_node)))
abbrev mX12_est : zY := (yX12_est, cX12_est, 3, (some .int))
theorem cdX12_est : zcode mX12_est := ⟨zt8 (List.mem_of_getElem? (i := 204) (rfl : tables_1_8[204]? = some (Cond.code yX12_est cX12_est 3 (some .int)))), zt1 (List.mem_of_getElem? (i := 15) (rfl : tables_1_1[15]? = some (Cond.initialized RX12))), ⟨by decide, by decide⟩, by decide⟩
theorem naX12_est : zinv mX12_est 2 := by unfold zinv; decide +kernel
theorem imX12_est : Cond.instanceMethod yX12_est ∈ lw_tbl := zt8 (List.mem_of_getElem? (i := 202) (rfl : tables_1_8[202]? = some (Cond.instanceMethod yX12_est)))
theorem seX12_est : Cond.selects RX12 yX12_est yX12_est ∈ lw_tbl := zt8 (List.mem_of_getElem? (i := 203) (rfl : tables_1_8[203]? = some (Cond.selects RX12 yX12_est yX12_est)))
abbrev mX12_noNodePacket : zY := (yX12_noNodePacket, cX12_noNodePacket, 3, (some .boolean))
theorem cdX12_noNodePacket : zcode mX12_noNodePacket := ⟨zt8 (List.mem_of_getElem? (i := 212) (rfl : tables_1_8[212]? = some (Cond.code yX12_noNodePacket cX12_noNodePacket 3 (some .boolean)))), zt1 (List.mem_of_getElem? (i := 15) (rfl : tables_1_1[15]? = some (Cond.initialized RX12))), ⟨by decide, by decide⟩, by decide⟩
theorem naX12_noNodePacket : zinv mX12_noNodePacket 2 := by unfold zinv; decide +kernel
theorem imX12_noNodePacket : Cond.instanceMethod yX12_noNodePacket ∈ lw_tbl := zt8 (List.mem_of_getElem? (i := 211) (rfl : tables_1_8[211]? = some (Cond.instanceMethod yX12_noNodePacket)))
theorem seX12_noNodePacket : Cond.selects RX12 yX12_noNodePacket yX12_noNodePacket ∈ lw_tbl := List.mem_of_getElem? (i := 103) (by decide +kernel : lw_tbl[103]? = some (Cond.selects RX12 yX12_noNodePacket yX12_noNodePacket))
abbrev mX12_timer : zY := (yX12_timer, cX12_timer, 5, (some .int))
theorem cdX12_timer : zcode mX12_timer := ⟨zt8 (List.mem_of_getElem? (i := 208) (rfl : tables_1_8[208]? = some (Cond.code yX12_timer cX12_timer 5 (some .int)))), zt1 (List.mem_of_getElem? (i := 15) (rfl : tables_1_1[15]? = some (Cond.initialized RX12))), ⟨by decide, by decide⟩, by decide⟩
theorem naX12_timer : zinv mX12_timer 3 := by unfold zinv; decide +kernel
theorem imX12_timer : Cond.instanceMethod yX12_timer ∈ lw_tbl := zt8 (List.mem_of_getElem? (i := 206) (rfl : tables_1_8[206]? = some (Cond.instanceMethod yX12_timer)))
theorem seX12_timer : Cond.selects RX12 yX12_timer yX12_timer ∈ lw_tbl := zt8 (List.mem_of_getElem? (i := 207) (rfl : tables_1_8[207]? = some (Cond.selects RX12 yX12_timer yX12_timer)))
abbrev mX12_gap : zY := (yX12_gap, cX12_gap, 4, (some .int))
theorem cdX12_gap : zcode mX12_gap := ⟨zt8 (List.mem_of_getElem? (i := 216) (rfl : tables_1_8[216]? = some (Cond.code yX12_gap cX12_gap 4 (some .int)))), zt1 (List.mem_of_getElem? (i := 15) (rfl : tables_1_1[15]? = some (Cond.initialized RX12))), ⟨by decide, by decide⟩, by decide⟩
theorem naX12_gap : zinv mX12_gap 3 := by unfold zinv; decide +kernel
theorem imX12_gap : Cond.instanceMethod yX12_gap ∈ lw_tbl := zt8 (List.mem_of_getElem? (i := 214) (rfl : tables_1_8[214]? = some (Cond.instanceMethod yX12_gap)))
theorem seX12_gap : Cond.selects RX12 yX12_gap yX12_gap ∈ lw_tbl := zt8 (List.mem_of_getElem? (i := 215) (rfl : tables_1_8[215]? = some (Cond.selects RX12 yX12_gap yX12_gap)))
abbrev mX12_link : zY := (yX12_link, cX12_link, 3, (some .int))
theorem cdX12_link : zcode mX12_link := ⟨zt8 (List.mem_of_getElem? (i := 220) (rfl : tables_1_8[220]? = some (Cond.code yX12_link cX12_link 3 (some .int)))), zt1 (List.mem_of_getElem? (i := 15) (rfl : tables_1_1[15]? = some (Cond.initialized RX12))), ⟨by decide, by decide⟩, by decide⟩
theorem naX12_link : zinv mX12_link 2 := by unfold zinv; decide +kernel
theorem imX12_link : Cond.instanceMethod yX12_link ∈ lw_tbl := zt8 (List.mem_of_getElem? (i := 218) (rfl : tables_1_8[218]? = some (Cond.instanceMethod yX12_link)))
theorem seX12_link : Cond.selects RX12 yX12_link yX12_link ∈ lw_tbl := zt8 (List.mem_of_getElem? (i := 219) (rfl : tables_1_8[219]? = some (Cond.selects RX12 yX12_link yX12_link)))
abbrev mX12_flight : zY := (yX12_flight, cX12_flight, 3, (some .int))
theorem cdX12_flight : zcode mX12_flight := ⟨zt8 (List.mem_of_getElem? (i := 224) (rfl : tables_1_8[224]? = some (Cond.code yX12_flight cX12_flight 3 (some .int)))), zt1 (List.mem_of_getElem? (i := 15) (rfl : tables_1_1[15]? = some (Cond.initialized RX12))), ⟨by decide, by decide⟩, by decide⟩
theorem naX12_flight : zinv mX12_flight 2 := by unfold zinv; decide +kernel
theorem imX12_flight : Cond.instanceMethod yX12_flight ∈ lw_tbl := zt8 (List.mem_of_getElem? (i := 222) (rfl : tables_1_8[222]? = some (Cond.instanceMethod yX12_flight)))
theorem seX12_flight : Cond.selects RX12 yX12_flight yX12_flight ∈ lw_tbl := zt8 (List.mem_of_getElem? (i := 223) (rfl : tables_1_8[223]? = some (Cond.selects RX12 yX12_flight yX12_flight)))
abbrev mX12_noTwo : zY := (yX12_noTwo, cX12_noTwo, 3, (some .boolean))
theorem cdX12_noTwo : zcode mX12_noTwo := ⟨zt8 (List.mem_of_getElem? (i := 232) (rfl : tables_1_8[232]? = some (Cond.code yX12_noTwo cX12_noTwo 3 (some .boolean)))), zt1 (List.mem_of_getElem? (i := 15) (rfl : tables_1_1[15]? = some (Cond.initialized RX12))), ⟨by decide, by decide⟩, by decide⟩
theorem naX12_noTwo : zinv mX12_noTwo 2 := by unfold zinv; decide +kernel
theorem imX12_noTwo : Cond.instanceMethod yX12_noTwo ∈ lw_tbl := zt8 (List.mem_of_getElem? (i := 231) (rfl : tables_1_8[231]? = some (Cond.instanceMethod yX12_noTwo)))
theorem seX12_noTwo : Cond.selects RX12 yX12_noTwo yX12_noTwo ∈ lw_tbl := List.mem_of_getElem? (i := 104) (by decide +kernel : lw_tbl[104]? = some (Cond.selects RX12 yX12_noTwo yX12_noTwo))
abbrev mX12_way : zY := (yX12_way, cX12_way, 4, (some .int))
theorem cdX12_way : zcode mX12_way := ⟨zt8 (List.mem_of_getElem? (i := 228) (rfl : tables_1_8[228]? = some (Cond.code yX12_way cX12_way 4 (some .int)))), zt1 (List.mem_of_getElem? (i := 15) (rfl : tables_1_1[15]? = some (Cond.initialized RX12))), ⟨by decide, by decide⟩, by decide⟩
theorem naX12_way : zinv mX12_way 3 := by unfold zinv; decide +kernel
theorem imX12_way : Cond.instanceMethod yX12_way ∈ lw_tbl := zt8 (List.mem_of_getElem? (i := 226) (rfl : tables_1_8[226]? = some (Cond.instanceMethod yX12_way)))
theorem seX12_way : Cond.selects RX12 yX12_way yX12_way ∈ lw_tbl := zt8 (List.mem_of_getElem? (i := 227) (rfl : tables_1_8[227]? = some (Cond.selects RX12 yX12_way yX12_way)))
abbrev mX12_above : zY := (yX12_above, cX12_above, 3, (some .int))
theorem cdX12_above : zcode mX12_above := ⟨zt8 (List.mem_of_getElem? (i := 236) (rfl : tables_1_8[236]? = some (Cond.code yX12_above cX12_above 3 (some .int)))), zt1 (List.mem_of_getElem? (i := 15) (rfl : tables_1_1[15]? = some (Cond.initialized RX12))), ⟨by decide, by decide⟩, by decide⟩
theorem naX12_above : zinv mX12_above 2 := by unfold zinv; decide +kernel
theorem imX12_above : Cond.instanceMethod yX12_above ∈ lw_tbl := zt8 (List.mem_of_getElem? (i := 234) (rfl : tables_1_8[234]? = some (Cond.instanceMethod yX12_above)))
theorem seX12_above : Cond.selects RX12 yX12_above yX12_above ∈ lw_tbl := zt8 (List.mem_of_getElem? (i := 235) (rfl : tables_1_8[235]? = some (Cond.selects RX12 yX12_above yX12_above)))
abbrev mX12_window : zY := (yX12_window, cX12_window, 4, (some .int))
theorem cdX12_window : zcode mX12_window := ⟨zt9 (List.mem_of_getElem? (i := 0) (rfl : tables_1_9[0]? = some (Cond.code yX12_window cX12_window 4 (some .int)))), zt1 (List.mem_of_getElem? (i := 15) (rfl : tables_1_1[15]? = some (Cond.initialized RX12))), ⟨by decide, by decide⟩, by decide⟩
theorem naX12_window : zinv mX12_window 3 := by unfold zinv; decide +kernel
theorem imX12_window : Cond.instanceMethod yX12_window ∈ lw_tbl := zt8 (List.mem_of_getElem? (i := 238) (rfl : tables_1_8[238]? = some (Cond.instanceMethod yX12_window)))
theorem seX12_window : Cond.selects RX12 yX12_window yX12_window ∈ lw_tbl := zt8 (List.mem_of_getElem? (i := 239) (rfl : tables_1_8[239]? = some (Cond.selects RX12 yX12_window yX12_window)))
abbrev mX12_isHolder : zY := (yX12_isHolder, cX12_isHolder, 3, (some .boolean))
theorem cdX12_isHolder : zcode mX12_isHolder := ⟨zt9 (List.mem_of_getElem? (i := 8) (rfl : tables_1_9[8]? = some (Cond.code yX12_isHolder cX12_isHolder 3 (some .boolean)))), zt1 (List.mem_of_getElem? (i := 15) (rfl : tables_1_1[15]? = some (Cond.initialized RX12))), ⟨by decide, by decide⟩, by decide⟩
theorem naX12_isHolder : zinv mX12_isHolder 2 := by unfold zinv; decide +kernel
theorem imX12_isHolder : Cond.instanceMethod yX12_isHolder ∈ lw_tbl := zt9 (List.mem_of_getElem? (i := 7) (rfl : tables_1_9[7]? = some (Cond.instanceMethod yX12_isHolder)))
theorem seX12_isHolder : Cond.selects RX12 yX12_isHolder yX12_isHolder ∈ lw_tbl := List.mem_of_getElem? (i := 105) (by decide +kernel : lw_tbl[105]? = some (Cond.selects RX12 yX12_isHolder yX12_isHolder))
abbrev mX12_near : zY := (yX12_near, cX12_near, 5, (some .int))
theorem cdX12_near : zcode mX12_near := ⟨zt9 (List.mem_of_getElem? (i := 4) (rfl : tables_1_9[4]? = some (Cond.code yX12_near cX12_near 5 (some .int)))), zt1 (List.mem_of_getElem? (i := 15) (rfl : tables_1_1[15]? = some (Cond.initialized RX12))), ⟨by decide, by decide⟩, by decide⟩
theorem naX12_near : zinv mX12_near 2 := by unfold zinv; decide +kernel
theorem imX12_near : Cond.instanceMethod yX12_near ∈ lw_tbl := zt9 (List.mem_of_getElem? (i := 2) (rfl : tables_1_9[2]? = some (Cond.instanceMethod yX12_near)))
theorem seX12_near : Cond.selects RX12 yX12_near yX12_near ∈ lw_tbl := zt9 (List.mem_of_getElem? (i := 3) (rfl : tables_1_9[3]? = some (Cond.selects RX12 yX12_near yX12_near)))
abbrev mX12_reachOf : zY := (yX12_reachOf, cX12_reachOf, 5, (some .int))
theorem cdX12_reachOf : zcode mX12_reachOf := ⟨zt9 (List.mem_of_getElem? (i := 16) (rfl : tables_1_9[16]? = some (Cond.code yX12_reachOf cX12_reachOf 5 (some .int)))), zt1 (List.mem_of_getElem? (i := 15) (rfl : tables_1_1[15]? = some (Cond.initialized RX12))), ⟨by decide, by decide⟩, by decide⟩
theorem naX12_reachOf : zinv mX12_reachOf 2 := by unfold zinv; decide +kernel
theorem imX12_reachOf : Cond.instanceMethod yX12_reachOf ∈ lw_tbl := zt9 (List.mem_of_getElem? (i := 15) (rfl : tables_1_9[15]? = some (Cond.instanceMethod yX12_reachOf)))
theorem seX12_reachOf : Cond.selects RX12 yX12_reachOf yX12_reachOf ∈ lw_tbl := List.mem_of_getElem? (i := 106) (by decide +kernel : lw_tbl[106]? = some (Cond.selects RX12 yX12_reachOf yX12_reachOf))
abbrev mX12_reach : zY := (yX12_reach, cX12_reach, 3, (some .int))
theorem cdX12_reach : zcode mX12_reach := ⟨zt9 (List.mem_of_getElem? (i := 12) (rfl : tables_1_9[12]? = some (Cond.code yX12_reach cX12_reach 3 (some .int)))), zt1 (List.mem_of_getElem? (i := 15) (rfl : tables_1_1[15]? = some (Cond.initialized RX12))), ⟨by decide, by decide⟩, by decide⟩
theorem naX12_reach : zinv mX12_reach 2 := by unfold zinv; decide +kernel
theorem imX12_reach : Cond.instanceMethod yX12_reach ∈ lw_tbl := zt9 (List.mem_of_getElem? (i := 10) (rfl : tables_1_9[10]? = some (Cond.instanceMethod yX12_reach)))
theorem seX12_reach : Cond.selects RX12 yX12_reach yX12_reach ∈ lw_tbl := zt9 (List.mem_of_getElem? (i := 11) (rfl : tables_1_9[11]? = some (Cond.selects RX12 yX12_reach yX12_reach)))
abbrev mX12_holdersOf : zY := (yX12_holdersOf, cX12_holdersOf, 4, (some .int))
theorem cdX12_holdersOf : zcode mX12_holdersOf := ⟨zt9 (List.mem_of_getElem? (i := 24) (rfl : tables_1_9[24]? = some (Cond.code yX12_holdersOf cX12_holdersOf 4 (some .int)))), zt1 (List.mem_of_getElem? (i := 15) (rfl : tables_1_1[15]? = some (Cond.initialized RX12))), ⟨by decide, by decide⟩, by decide⟩
theorem naX12_holdersOf : zinv mX12_holdersOf 1 := by unfold zinv; decide +kernel
theorem imX12_holdersOf : Cond.instanceMethod yX12_holdersOf ∈ lw_tbl := zt9 (List.mem_of_getElem? (i := 23) (rfl : tables_1_9[23]? = some (Cond.instanceMethod yX12_holdersOf)))
theorem seX12_holdersOf : Cond.selects RX12 yX12_holdersOf yX12_holdersOf ∈ lw_tbl := List.mem_of_getElem? (i := 107) (by decide +kernel : lw_tbl[107]? = some (Cond.selects RX12 yX12_holdersOf yX12_holdersOf))
abbrev mX12_far : zY := (yX12_far, cX12_far, 4, (some .int))
theorem cdX12_far : zcode mX12_far := ⟨zt9 (List.mem_of_getElem? (i := 20) (rfl : tables_1_9[20]? = some (Cond.code yX12_far cX12_far 4 (some .int)))), zt1 (List.mem_of_getElem? (i := 15) (rfl : tables_1_1[15]? = some (Cond.initialized RX12))), ⟨by decide, by decide⟩, by decide⟩
theorem naX12_far : zinv mX12_far 2 := by unfold zinv; decide +kernel
theorem imX12_far : Cond.instanceMethod yX12_far ∈ lw_tbl := zt9 (List.mem_of_getElem? (i := 18) (rfl : tables_1_9[18]? = some (Cond.instanceMethod yX12_far)))
theorem seX12_far : Cond.selects RX12 yX12_far yX12_far ∈ lw_tbl := zt9 (List.mem_of_getElem? (i := 19) (rfl : tables_1_9[19]? = some (Cond.selects RX12 yX12_far yX12_far)))
abbrev mX12_holders : zY := (yX12_holders, cX12_holders, 2, (some .int))
theorem cdX12_holders : zcode mX12_holders := ⟨zt9 (List.mem_of_getElem? (i := 28) (rfl : tables_1_9[28]? = some (Cond.code yX12_holders cX12_holders 2 (some .int)))), zt1 (List.mem_of_getElem? (i := 15) (rfl : tables_1_1[15]? = some (Cond.initialized RX12))), ⟨by decide, by decide⟩, by decide⟩
theorem naX12_holders : zinv mX12_holders 1 := by unfold zinv; decide +kernel
theorem imX12_holders : Cond.instanceMethod yX12_holders ∈ lw_tbl := zt9 (List.mem_of_getElem? (i := 26) (rfl : tables_1_9[26]? = some (Cond.instanceMethod yX12_holders)))
theorem seX12_holders : Cond.selects RX12 yX12_holders yX12_holders ∈ lw_tbl := zt9 (List.mem_of_getElem? (i := 27) (rfl : tables_1_9[27]? = some (Cond.selects RX12 yX12_holders yX12_holders)))
abbrev mX12_isWhole : zY := (yX12_isWhole, cX12_isWhole, 4, (some .boolean))
theorem cdX12_isWhole : zcode mX12_isWhole := ⟨zt9 (List.mem_of_getElem? (i := 40) (rfl : tables_1_9[40]? = some (Cond.code yX12_isWhole cX12_isWhole 4 (some .boolean)))), zt1 (List.mem_of_getElem? (i := 15) (rfl : tables_1_1[15]? = some (Cond.initialized RX12))), ⟨by decide, by decide⟩, by decide⟩
theorem naX12_isWhole : zinv mX12_isWhole 0 := by unfold zinv; decide +kernel
theorem imX12_isWhole : Cond.instanceMethod yX12_isWhole ∈ lw_tbl := zt9 (List.mem_of_getElem? (i := 39) (rfl : tables_1_9[39]? = some (Cond.instanceMethod yX12_isWhole)))
theorem seX12_isWhole : Cond.selects RX12 yX12_isWhole yX12_isWhole ∈ lw_tbl := List.mem_of_getElem? (i := 109) (by decide +kernel : lw_tbl[109]? = some (Cond.selects RX12 yX12_isWhole yX12_isWhole))
abbrev mX12_whole : zY := (yX12_whole, cX12_whole, 3, (some .int))
theorem cdX12_whole : zcode mX12_whole := ⟨zt9 (List.mem_of_getElem? (i := 32) (rfl : tables_1_9[32]? = some (Cond.code yX12_whole cX12_whole 3 (some .int)))), zt1 (List.mem_of_getElem? (i := 15) (rfl : tables_1_1[15]? = some (Cond.initialized RX12))), ⟨by decide, by decide⟩, by decide⟩
theorem naX12_whole : zinv mX12_whole 1 := by unfold zinv; decide +kernel
theorem imX12_whole : Cond.instanceMethod yX12_whole ∈ lw_tbl := zt9 (List.mem_of_getElem? (i := 30) (rfl : tables_1_9[30]? = some (Cond.instanceMethod yX12_whole)))
theorem seX12_whole : Cond.selects RX12 yX12_whole yX12_whole ∈ lw_tbl := zt9 (List.mem_of_getElem? (i := 31) (rfl : tables_1_9[31]? = some (Cond.selects RX12 yX12_whole yX12_whole)))
abbrev mX12_sentByAll : zY := (yX12_sentByAll, cX12_sentByAll, 4, (some .int))
theorem cdX12_sentByAll : zcode mX12_sentByAll := ⟨zt9 (List.mem_of_getElem? (i := 52) (rfl : tables_1_9[52]? = some (Cond.code yX12_sentByAll cX12_sentByAll 4 (some .int)))), zt1 (List.mem_of_getElem? (i := 15) (rfl : tables_1_1[15]? = some (Cond.initialized RX12))), ⟨by decide, by decide⟩, by decide⟩
theorem naX12_sentByAll : zinv mX12_sentByAll 1 := by unfold zinv; decide +kernel
theorem imX12_sentByAll : Cond.instanceMethod yX12_sentByAll ∈ lw_tbl := zt9 (List.mem_of_getElem? (i := 51) (rfl : tables_1_9[51]? = some (Cond.instanceMethod yX12_sentByAll)))
theorem seX12_sentByAll : Cond.selects RX12 yX12_sentByAll yX12_sentByAll ∈ lw_tbl := List.mem_of_getElem? (i := 111) (by decide +kernel : lw_tbl[111]? = some (Cond.selects RX12 yX12_sentByAll yX12_sentByAll))
abbrev mX12_talk : zY := (yX12_talk, cX12_talk, 7, (some .int))
theorem cdX12_talk : zcode mX12_talk := ⟨zt9 (List.mem_of_getElem? (i := 48) (rfl : tables_1_9[48]? = some (Cond.code yX12_talk cX12_talk 7 (some .int)))), zt1 (List.mem_of_getElem? (i := 15) (rfl : tables_1_1[15]? = some (Cond.initialized RX12))), ⟨by decide, by decide⟩, by decide⟩
theorem naX12_talk : zinv mX12_talk 3 := by unfold zinv; decide +kernel
theorem imX12_talk : Cond.instanceMethod yX12_talk ∈ lw_tbl := zt9 (List.mem_of_getElem? (i := 46) (rfl : tables_1_9[46]? = some (Cond.instanceMethod yX12_talk)))
theorem seX12_talk : Cond.selects RX12 yX12_talk yX12_talk ∈ lw_tbl := zt9 (List.mem_of_getElem? (i := 47) (rfl : tables_1_9[47]? = some (Cond.selects RX12 yX12_talk yX12_talk)))
abbrev mX12_requestsBy : zY := (yX12_requestsBy, cX12_requestsBy, 5, (some .int))
theorem cdX12_requestsBy : zcode mX12_requestsBy := ⟨zt9 (List.mem_of_getElem? (i := 60) (rfl : tables_1_9[60]? = some (Cond.code yX12_requestsBy cX12_requestsBy 5 (some .int)))), zt1 (List.mem_of_getElem? (i := 15) (rfl : tables_1_1[15]? = some (Cond.initialized RX12))), ⟨by decide, by decide⟩, by decide⟩
theorem naX12_requestsBy : zinv mX12_requestsBy 2 := by unfold zinv; decide +kernel
theorem imX12_requestsBy : Cond.instanceMethod yX12_requestsBy ∈ lw_tbl := zt9 (List.mem_of_getElem? (i := 59) (rfl : tables_1_9[59]? = some (Cond.instanceMethod yX12_requestsBy)))
theorem seX12_requestsBy : Cond.selects RX12 yX12_requestsBy yX12_requestsBy ∈ lw_tbl := List.mem_of_getElem? (i := 112) (by decide +kernel : lw_tbl[112]? = some (Cond.selects RX12 yX12_requestsBy yX12_requestsBy))
abbrev mX12_best : zY := (yX12_best, cX12_best, 7, (some .int))
theorem cdX12_best : zcode mX12_best := ⟨zt9 (List.mem_of_getElem? (i := 56) (rfl : tables_1_9[56]? = some (Cond.code yX12_best cX12_best 7 (some .int)))), zt1 (List.mem_of_getElem? (i := 15) (rfl : tables_1_1[15]? = some (Cond.initialized RX12))), ⟨by decide, by decide⟩, by decide⟩
theorem naX12_best : zinv mX12_best 2 := by unfold zinv; decide +kernel
theorem imX12_best : Cond.instanceMethod yX12_best ∈ lw_tbl := zt9 (List.mem_of_getElem? (i := 54) (rfl : tables_1_9[54]? = some (Cond.instanceMethod yX12_best)))
theorem seX12_best : Cond.selects RX12 yX12_best yX12_best ∈ lw_tbl := zt9 (List.mem_of_getElem? (i := 55) (rfl : tables_1_9[55]? = some (Cond.selects RX12 yX12_best yX12_best)))
abbrev mX12_laysGivers : zY := (yX12_laysGivers, cX12_laysGivers, 6, (some .int))
theorem cdX12_laysGivers : zcode mX12_laysGivers := ⟨zt9 (List.mem_of_getElem? (i := 68) (rfl : tables_1_9[68]? = some (Cond.code yX12_laysGivers cX12_laysGivers 6 (some .int)))), zt1 (List.mem_of_getElem? (i := 15) (rfl : tables_1_1[15]? = some (Cond.initialized RX12))), ⟨by decide, by decide⟩, by decide⟩
theorem naX12_laysGivers : zinv mX12_laysGivers 2 := by unfold zinv; decide +kernel
theorem imX12_laysGivers : Cond.instanceMethod yX12_laysGivers ∈ lw_tbl := zt9 (List.mem_of_getElem? (i := 67) (rfl : tables_1_9[67]? = some (Cond.instanceMethod yX12_laysGivers)))
theorem seX12_laysGivers : Cond.selects RX12 yX12_laysGivers yX12_laysGivers ∈ lw_tbl := List.mem_of_getElem? (i := 113) (by decide +kernel : lw_tbl[113]? = some (Cond.selects RX12 yX12_laysGivers yX12_laysGivers))
abbrev mX12_giver : zY := (yX12_giver, cX12_giver, 4, (some .int))
theorem cdX12_giver : zcode mX12_giver := ⟨zt9 (List.mem_of_getElem? (i := 64) (rfl : tables_1_9[64]? = some (Cond.code yX12_giver cX12_giver 4 (some .int)))), zt1 (List.mem_of_getElem? (i := 15) (rfl : tables_1_1[15]? = some (Cond.initialized RX12))), ⟨by decide, by decide⟩, by decide⟩
theorem naX12_giver : zinv mX12_giver 3 := by unfold zinv; decide +kernel
theorem imX12_giver : Cond.instanceMethod yX12_giver ∈ lw_tbl := zt9 (List.mem_of_getElem? (i := 62) (rfl : tables_1_9[62]? = some (Cond.instanceMethod yX12_giver)))
theorem seX12_giver : Cond.selects RX12 yX12_giver yX12_giver ∈ lw_tbl := zt9 (List.mem_of_getElem? (i := 63) (rfl : tables_1_9[63]? = some (Cond.selects RX12 yX12_giver yX12_giver)))
abbrev mX12_when : zY := (yX12_when, cX12_when, 3, (some .int))
theorem cdX12_when : zcode mX12_when := ⟨zt9 (List.mem_of_getElem? (i := 72) (rfl : tables_1_9[72]? = some (Cond.code yX12_when cX12_when 3 (some .int)))), zt1 (List.mem_of_getElem? (i := 15) (rfl : tables_1_1[15]? = some (Cond.initialized RX12))), ⟨by decide, by decide⟩, by decide⟩
theorem naX12_when : zinv mX12_when 2 := by unfold zinv; decide +kernel
theorem imX12_when : Cond.instanceMethod yX12_when ∈ lw_tbl := zt9 (List.mem_of_getElem? (i := 70) (rfl : tables_1_9[70]? = some (Cond.instanceMethod yX12_when)))
theorem seX12_when : Cond.selects RX12 yX12_when yX12_when ∈ lw_tbl := zt9 (List.mem_of_getElem? (i := 71) (rfl : tables_1_9[71]? = some (Cond.selects RX12 yX12_when yX12_when)))
abbrev mX12_route : zY := (yX12_route, cX12_route, 7, (some .int))
theorem cdX12_route : zcode mX12_route := ⟨zt9 (List.mem_of_getElem? (i := 76) (rfl : tables_1_9[76]? = some (Cond.code yX12_route cX12_route 7 (some .int)))), zt1 (List.mem_of_getElem? (i := 15) (rfl : tables_1_1[15]? = some (Cond.initialized RX12))), ⟨by decide, by decide⟩, by decide⟩
theorem naX12_route : zinv mX12_route 3 := by unfold zinv; decide +kernel
theorem imX12_route : Cond.instanceMethod yX12_route ∈ lw_tbl := zt9 (List.mem_of_getElem? (i := 74) (rfl : tables_1_9[74]? = some (Cond.instanceMethod yX12_route)))
theorem seX12_route : Cond.selects RX12 yX12_route yX12_route ∈ lw_tbl := zt9 (List.mem_of_getElem? (i := 75) (rfl : tables_1_9[75]? = some (Cond.selects RX12 yX12_route yX12_route)))
abbrev mX12_crossed : zY := (yX12_crossed, cX12_crossed, 5, (some .int))
theorem cdX12_crossed : zcode mX12_crossed := ⟨zt9 (List.mem_of_getElem? (i := 80) (rfl : tables_1_9[80]? = some (Cond.code yX12_crossed cX12_crossed 5 (some .int)))), zt1 (List.mem_of_getElem? (i := 15) (rfl : tables_1_1[15]? = some (Cond.initialized RX12))), ⟨by decide, by decide⟩, by decide⟩
theorem naX12_crossed : zinv mX12_crossed 2 := by unfold zinv; decide +kernel
theorem imX12_crossed : Cond.instanceMethod yX12_crossed ∈ lw_tbl := zt9 (List.mem_of_getElem? (i := 78) (rfl : tables_1_9[78]? = some (Cond.instanceMethod yX12_crossed)))
theorem seX12_crossed : Cond.selects RX12 yX12_crossed yX12_crossed ∈ lw_tbl := zt9 (List.mem_of_getElem? (i := 79) (rfl : tables_1_9[79]? = some (Cond.selects RX12 yX12_crossed yX12_crossed)))
abbrev mX12_greatestWay : zY := (yX12_greatestWay, cX12_greatestWay, 4, (some .int))
theorem cdX12_greatestWay : zcode mX12_greatestWay := ⟨zt9 (List.mem_of_getElem? (i := 92) (rfl : tables_1_9[92]? = some (Cond.code yX12_greatestWay cX12_greatestWay 4 (some .int)))), zt1 (List.mem_of_getElem? (i := 15) (rfl : tables_1_1[15]? = some (Cond.initialized RX12))), ⟨by decide, by decide⟩, by decide⟩
theorem naX12_greatestWay : zinv mX12_greatestWay 1 := by unfold zinv; decide +kernel
theorem imX12_greatestWay : Cond.instanceMethod yX12_greatestWay ∈ lw_tbl := zt9 (List.mem_of_getElem? (i := 91) (rfl : tables_1_9[91]? = some (Cond.instanceMethod yX12_greatestWay)))
theorem seX12_greatestWay : Cond.selects RX12 yX12_greatestWay yX12_greatestWay ∈ lw_tbl := List.mem_of_getElem? (i := 115) (by decide +kernel : lw_tbl[115]? = some (Cond.selects RX12 yX12_greatestWay yX12_greatestWay))
abbrev mX12_waysOf : zY := (yX12_waysOf, cX12_waysOf, 4, (some .int))
theorem cdX12_waysOf : zcode mX12_waysOf := ⟨zt9 (List.mem_of_getElem? (i := 88) (rfl : tables_1_9[88]? = some (Cond.code yX12_waysOf cX12_waysOf 4 (some .int)))), zt1 (List.mem_of_getElem? (i := 15) (rfl : tables_1_1[15]? = some (Cond.initialized RX12))), ⟨by decide, by decide⟩, by decide⟩
theorem naX12_waysOf : zinv mX12_waysOf 1 := by unfold zinv; decide +kernel
theorem imX12_waysOf : Cond.instanceMethod yX12_waysOf ∈ lw_tbl := zt9 (List.mem_of_getElem? (i := 87) (rfl : tables_1_9[87]? = some (Cond.instanceMethod yX12_waysOf)))
theorem seX12_waysOf : Cond.selects RX12 yX12_waysOf yX12_waysOf ∈ lw_tbl := List.mem_of_getElem? (i := 114) (by decide +kernel : lw_tbl[114]? = some (Cond.selects RX12 yX12_waysOf yX12_waysOf))
abbrev mX12_center : zY := (yX12_center, cX12_center, 4, (some .int))
theorem cdX12_center : zcode mX12_center := ⟨zt9 (List.mem_of_getElem? (i := 84) (rfl : tables_1_9[84]? = some (Cond.code yX12_center cX12_center 4 (some .int)))), zt1 (List.mem_of_getElem? (i := 15) (rfl : tables_1_1[15]? = some (Cond.initialized RX12))), ⟨by decide, by decide⟩, by decide⟩
theorem naX12_center : zinv mX12_center 0 := by unfold zinv; decide +kernel
theorem imX12_center : Cond.instanceMethod yX12_center ∈ lw_tbl := zt9 (List.mem_of_getElem? (i := 82) (rfl : tables_1_9[82]? = some (Cond.instanceMethod yX12_center)))
theorem seX12_center : Cond.selects RX12 yX12_center yX12_center ∈ lw_tbl := zt9 (List.mem_of_getElem? (i := 83) (rfl : tables_1_9[83]? = some (Cond.selects RX12 yX12_center yX12_center)))
abbrev mX12_first : zY := (yX12_first, cX12_first, 5, (some .int))
theorem cdX12_first : zcode mX12_first := ⟨zt9 (List.mem_of_getElem? (i := 96) (rfl : tables_1_9[96]? = some (Cond.code yX12_first cX12_first 5 (some .int)))), zt1 (List.mem_of_getElem? (i := 15) (rfl : tables_1_1[15]? = some (Cond.initialized RX12))), ⟨by decide, by decide⟩, by decide⟩
theorem naX12_first : zinv mX12_first 1 := by unfold zinv; decide +kernel
theorem imX12_first : Cond.instanceMethod yX12_first ∈ lw_tbl := zt9 (List.mem_of_getElem? (i := 94) (rfl : tables_1_9[94]? = some (Cond.instanceMethod yX12_first)))
theorem seX12_first : Cond.selects RX12 yX12_first yX12_first ∈ lw_tbl := zt9 (List.mem_of_getElem? (i := 95) (rfl : tables_1_9[95]? = some (Cond.selects RX12 yX12_first yX12_first)))
abbrev mX12_blind : zY := (yX12_blind, cX12_blind, 4, (some .int))
theorem cdX12_blind : zcode mX12_blind := ⟨zt9 (List.mem_of_getElem? (i := 100) (rfl : tables_1_9[100]? = some (Cond.code yX12_blind cX12_blind 4 (some .int)))), zt1 (List.mem_of_getElem? (i := 15) (rfl : tables_1_1[15]? = some (Cond.initialized RX12))), ⟨by decide, by decide⟩, by decide⟩
theorem naX12_blind : zinv mX12_blind 1 := by unfold zinv; decide +kernel
theorem imX12_blind : Cond.instanceMethod yX12_blind ∈ lw_tbl := zt9 (List.mem_of_getElem? (i := 98) (rfl : tables_1_9[98]? = some (Cond.instanceMethod yX12_blind)))
theorem seX12_blind : Cond.selects RX12 yX12_blind yX12_blind ∈ lw_tbl := zt9 (List.mem_of_getElem? (i := 99) (rfl : tables_1_9[99]? = some (Cond.selects RX12 yX12_blind yX12_blind)))
abbrev mX12_cuts : zY := (yX12_cuts, cX12_cuts, 3, (some .int))
theorem cdX12_cuts : zcode mX12_cuts := ⟨zt9 (List.mem_of_getElem? (i := 112) (rfl : tables_1_9[112]? = some (Cond.code yX12_cuts cX12_cuts 3 (some .int)))), zt1 (List.mem_of_getElem? (i := 15) (rfl : tables_1_1[15]? = some (Cond.initialized RX12))), ⟨by decide, by decide⟩, by decide⟩
theorem naX12_cuts : zinv mX12_cuts 0 := by unfold zinv; decide +kernel
theorem imX12_cuts : Cond.instanceMethod yX12_cuts ∈ lw_tbl := zt9 (List.mem_of_getElem? (i := 111) (rfl : tables_1_9[111]? = some (Cond.instanceMethod yX12_cuts)))
theorem seX12_cuts : Cond.selects RX12 yX12_cuts yX12_cuts ∈ lw_tbl := List.mem_of_getElem? (i := 117) (by decide +kernel : lw_tbl[117]? = some (Cond.selects RX12 yX12_cuts yX12_cuts))
abbrev mX12_isCut : zY := (yX12_isCut, cX12_isCut, 3, none)
theorem cdX12_isCut : zcode mX12_isCut := ⟨zt9 (List.mem_of_getElem? (i := 117) (rfl : tables_1_9[117]? = some (Cond.code yX12_isCut cX12_isCut 3 none))), zt1 (List.mem_of_getElem? (i := 15) (rfl : tables_1_1[15]? = some (Cond.initialized RX12))), ⟨by decide, by decide⟩, by decide⟩
theorem naX12_isCut : zinv mX12_isCut 1 := by unfold zinv; decide +kernel
theorem imX12_isCut : Cond.instanceMethod yX12_isCut ∈ lw_tbl := zt9 (List.mem_of_getElem? (i := 116) (rfl : tables_1_9[116]? = some (Cond.instanceMethod yX12_isCut)))
theorem seX12_isCut : Cond.selects RX12 yX12_isCut yX12_isCut ∈ lw_tbl := List.mem_of_getElem? (i := 118) (by decide +kernel : lw_tbl[118]? = some (Cond.selects RX12 yX12_isCut yX12_isCut))
abbrev mX12_isNearOne : zY := (yX12_isNearOne, cX12_isNearOne, 5, (some .boolean))
theorem cdX12_isNearOne : zcode mX12_isNearOne := ⟨zt9 (List.mem_of_getElem? (i := 108) (rfl : tables_1_9[108]? = some (Cond.code yX12_isNearOne cX12_isNearOne 5 (some .boolean)))), zt1 (List.mem_of_getElem? (i := 15) (rfl : tables_1_1[15]? = some (Cond.initialized RX12))), ⟨by decide, by decide⟩, by decide⟩
theorem naX12_isNearOne : zinv mX12_isNearOne 2 := by unfold zinv; decide +kernel
theorem imX12_isNearOne : Cond.instanceMethod yX12_isNearOne ∈ lw_tbl := zt9 (List.mem_of_getElem? (i := 107) (rfl : tables_1_9[107]? = some (Cond.instanceMethod yX12_isNearOne)))
theorem seX12_isNearOne : Cond.selects RX12 yX12_isNearOne yX12_isNearOne ∈ lw_tbl := List.mem_of_getElem? (i := 116) (by decide +kernel : lw_tbl[116]? = some (Cond.selects RX12 yX12_isNearOne yX12_isNearOne))
abbrev mX12_guard : zY := (yX12_guard, cX12_guard, 6, (some .int))
theorem cdX12_guard : zcode mX12_guard := ⟨zt9 (List.mem_of_getElem? (i := 104) (rfl : tables_1_9[104]? = some (Cond.code yX12_guard cX12_guard 6 (some .int)))), zt1 (List.mem_of_getElem? (i := 15) (rfl : tables_1_1[15]? = some (Cond.initialized RX12))), ⟨by decide, by decide⟩, by decide⟩
theorem naX12_guard : zinv mX12_guard 2 := by unfold zinv; decide +kernel
theorem imX12_guard : Cond.instanceMethod yX12_guard ∈ lw_tbl := zt9 (List.mem_of_getElem? (i := 102) (rfl : tables_1_9[102]? = some (Cond.instanceMethod yX12_guard)))
theorem seX12_guard : Cond.selects RX12 yX12_guard yX12_guard ∈ lw_tbl := zt9 (List.mem_of_getElem? (i := 103) (rfl : tables_1_9[103]? = some (Cond.selects RX12 yX12_guard yX12_guard)))
abbrev mX12_waysMany : zY := (yX12_waysMany, cX12_waysMany, 4, (some .int))
theorem cdX12_waysMany : zcode mX12_waysMany := ⟨zt9 (List.mem_of_getElem? (i := 125) (rfl : tables_1_9[125]? = some (Cond.code yX12_waysMany cX12_waysMany 4 (some .int)))), zt1 (List.mem_of_getElem? (i := 15) (rfl : tables_1_1[15]? = some (Cond.initialized RX12))), ⟨by decide, by decide⟩, by decide⟩
theorem naX12_waysMany : zinv mX12_waysMany 0 := by unfold zinv; decide +kernel
theorem imX12_waysMany : Cond.instanceMethod yX12_waysMany ∈ lw_tbl := zt9 (List.mem_of_getElem? (i := 124) (rfl : tables_1_9[124]? = some (Cond.instanceMethod yX12_waysMany)))
theorem seX12_waysMany : Cond.selects RX12 yX12_waysMany yX12_waysMany ∈ lw_tbl := List.mem_of_getElem? (i := 119) (by decide +kernel : lw_tbl[119]? = some (Cond.selects RX12 yX12_waysMany yX12_waysMany))
abbrev mX12_parts : zY := (yX12_parts, cX12_parts, 4, (some .int))
theorem cdX12_parts : zcode mX12_parts := ⟨zt9 (List.mem_of_getElem? (i := 121) (rfl : tables_1_9[121]? = some (Cond.code yX12_parts cX12_parts 4 (some .int)))), zt1 (List.mem_of_getElem? (i := 15) (rfl : tables_1_1[15]? = some (Cond.initialized RX12))), ⟨by decide, by decide⟩, by decide⟩
theorem naX12_parts : zinv mX12_parts 0 := by unfold zinv; decide +kernel
theorem imX12_parts : Cond.instanceMethod yX12_parts ∈ lw_tbl := zt9 (List.mem_of_getElem? (i := 119) (rfl : tables_1_9[119]? = some (Cond.instanceMethod yX12_parts)))
theorem seX12_parts : Cond.selects RX12 yX12_parts yX12_parts ∈ lw_tbl := zt9 (List.mem_of_getElem? (i := 120) (rfl : tables_1_9[120]? = some (Cond.selects RX12 yX12_parts yX12_parts)))
abbrev mX12_spread : zY := (yX12_spread, cX12_spread, 7, (some .int))
theorem cdX12_spread : zcode mX12_spread := ⟨zt9 (List.mem_of_getElem? (i := 129) (rfl : tables_1_9[129]? = some (Cond.code yX12_spread cX12_spread 7 (some .int)))), zt1 (List.mem_of_getElem? (i := 15) (rfl : tables_1_1[15]? = some (Cond.initialized RX12))), ⟨by decide, by decide⟩, by decide⟩
theorem naX12_spread : zinv mX12_spread 1 := by unfold zinv; decide +kernel
theorem imX12_spread : Cond.instanceMethod yX12_spread ∈ lw_tbl := zt9 (List.mem_of_getElem? (i := 127) (rfl : tables_1_9[127]? = some (Cond.instanceMethod yX12_spread)))
theorem seX12_spread : Cond.selects RX12 yX12_spread yX12_spread ∈ lw_tbl := zt9 (List.mem_of_getElem? (i := 128) (rfl : tables_1_9[128]? = some (Cond.selects RX12 yX12_spread yX12_spread)))
abbrev mX12_log : zY := (yX12_log, cX12_log, 3, (some .int))
theorem cdX12_log : zcode mX12_log := ⟨zt9 (List.mem_of_getElem? (i := 133) (rfl : tables_1_9[133]? = some (Cond.code yX12_log cX12_log 3 (some .int)))), zt1 (List.mem_of_getElem? (i := 15) (rfl : tables_1_1[15]? = some (Cond.initialized RX12))), ⟨by decide, by decide⟩, by decide⟩
theorem naX12_log : zinv mX12_log 2 := by unfold zinv; decide +kernel
theorem imX12_log : Cond.instanceMethod yX12_log ∈ lw_tbl := zt9 (List.mem_of_getElem? (i := 131) (rfl : tables_1_9[131]? = some (Cond.instanceMethod yX12_log)))
theorem seX12_log : Cond.selects RX12 yX12_log yX12_log ∈ lw_tbl := zt9 (List.mem_of_getElem? (i := 132) (rfl : tables_1_9[132]? = some (Cond.selects RX12 yX12_log yX12_log)))
abbrev mX12_seed : zY := (yX12_seed, cX12_seed, 3, (some .int))
theorem cdX12_seed : zcode mX12_seed := ⟨zt9 (List.mem_of_getElem? (i := 137) (rfl : tables_1_9[137]? = some (Cond.code yX12_seed cX12_seed 3 (some .int)))), zt1 (List.mem_of_getElem? (i := 15) (rfl : tables_1_1[15]? = some (Cond.initialized RX12))), ⟨by decide, by decide⟩, by decide⟩
theorem naX12_seed : zinv mX12_seed 1 := by unfold zinv; decide +kernel
theorem imX12_seed : Cond.instanceMethod yX12_seed ∈ lw_tbl := zt9 (List.mem_of_getElem? (i := 135) (rfl : tables_1_9[135]? = some (Cond.instanceMethod yX12_seed)))
theorem seX12_seed : Cond.selects RX12 yX12_seed yX12_seed ∈ lw_tbl := zt9 (List.mem_of_getElem? (i := 136) (rfl : tables_1_9[136]? = some (Cond.selects RX12 yX12_seed yX12_seed)))
abbrev mX12_count : zY := (yX12_count, cX12_count, 2, (some .int))
theorem cdX12_count : zcode mX12_count := ⟨zt9 (List.mem_of_getElem? (i := 141) (rfl : tables_1_9[141]? = some (Cond.code yX12_count cX12_count 2 (some .int)))), zt1 (List.mem_of_getElem? (i := 15) (rfl : tables_1_1[15]? = some (Cond.initialized RX12))), ⟨by decide, by decide⟩, by decide⟩
theorem naX12_count : zinv mX12_count 1 := by unfold zinv; decide +kernel
theorem imX12_count : Cond.instanceMethod yX12_count ∈ lw_tbl := zt9 (List.mem_of_getElem? (i := 139) (rfl : tables_1_9[139]? = some (Cond.instanceMethod yX12_count)))
theorem seX12_count : Cond.selects RX12 yX12_count yX12_count ∈ lw_tbl := zt9 (List.mem_of_getElem? (i := 140) (rfl : tables_1_9[140]? = some (Cond.selects RX12 yX12_count yX12_count)))
abbrev mJ6_bitCount_0f7a4 : zY := (yJ6_bitCount_0f7a4, cJ6_bitCount_0f7a4, 1, (some .int))
theorem cdJ6_bitCount_0f7a4 : zcode mJ6_bitCount_0f7a4 := ⟨zt6 (List.mem_of_getElem? (i := 228) (rfl : tables_1_6[228]? = some (Cond.code yJ6_bitCount_0f7a4 cJ6_bitCount_0f7a4 1 (some .int)))), zt1 (List.mem_of_getElem? (i := 29) (rfl : tables_1_1[29]? = some (Cond.initialized RJ6))), ⟨by decide, by decide⟩, by decide⟩
theorem naJ6_bitCount_0f7a4 : zinv mJ6_bitCount_0f7a4 1 := by unfold zinv; decide +kernel
theorem stJ6_bitCount_0f7a4 : Cond.static yJ6_bitCount_0f7a4 ∈ lw_tbl := zt6 (List.mem_of_getElem? (i := 227) (rfl : tables_1_6[227]? = some (Cond.static yJ6_bitCount_0f7a4)))
abbrev mJ9_floorDiv_7cf53 : zY := (yJ9_floorDiv_7cf53, cJ9_floorDiv_7cf53, 3, (some .int))
theorem cdJ9_floorDiv_7cf53 : zcode mJ9_floorDiv_7cf53 := ⟨zt3 (List.mem_of_getElem? (i := 199) (rfl : tables_1_3[199]? = some (Cond.code yJ9_floorDiv_7cf53 cJ9_floorDiv_7cf53 3 (some .int)))), zt1 (List.mem_of_getElem? (i := 8) (rfl : tables_1_1[8]? = some (Cond.initialized RJ9))), ⟨by decide, by decide⟩, by decide⟩
theorem naJ9_floorDiv_7cf53 : zinv mJ9_floorDiv_7cf53 2 := by unfold zinv; decide +kernel
theorem stJ9_floorDiv_7cf53 : Cond.static yJ9_floorDiv_7cf53 ∈ lw_tbl := zt3 (List.mem_of_getElem? (i := 198) (rfl : tables_1_3[198]? = some (Cond.static yJ9_floorDiv_7cf53)))
abbrev mJ9_max_7cf53 : zY := (yJ9_max_7cf53, cJ9_max_7cf53, 2, (some .int))
theorem cdJ9_max_7cf53 : zcode mJ9_max_7cf53 := ⟨zt1 (List.mem_of_getElem? (i := 159) (rfl : tables_1_1[159]? = some (Cond.code yJ9_max_7cf53 cJ9_max_7cf53 2 (some .int)))), zt1 (List.mem_of_getElem? (i := 8) (rfl : tables_1_1[8]? = some (Cond.initialized RJ9))), ⟨by decide, by decide⟩, by decide⟩
theorem naJ9_max_7cf53 : zinv mJ9_max_7cf53 2 := by unfold zinv; decide +kernel
theorem stJ9_max_7cf53 : Cond.static yJ9_max_7cf53 ∈ lw_tbl := zt1 (List.mem_of_getElem? (i := 158) (rfl : tables_1_1[158]? = some (Cond.static yJ9_max_7cf53)))
abbrev mJ9_min_7cf53 : zY := (yJ9_min_7cf53, cJ9_min_7cf53, 2, (some .int))
theorem cdJ9_min_7cf53 : zcode mJ9_min_7cf53 := ⟨zt3 (List.mem_of_getElem? (i := 106) (rfl : tables_1_3[106]? = some (Cond.code yJ9_min_7cf53 cJ9_min_7cf53 2 (some .int)))), zt1 (List.mem_of_getElem? (i := 8) (rfl : tables_1_1[8]? = some (Cond.initialized RJ9))), ⟨by decide, by decide⟩, by decide⟩
theorem naJ9_min_7cf53 : zinv mJ9_min_7cf53 2 := by unfold zinv; decide +kernel
theorem stJ9_min_7cf53 : Cond.static yJ9_min_7cf53 ∈ lw_tbl := zt3 (List.mem_of_getElem? (i := 105) (rfl : tables_1_3[105]? = some (Cond.static yJ9_min_7cf53)))
abbrev mJ0_length_8abf5 : zY := (yJ0_length_8abf5, cJ0_length_8abf5, 1, (some .int))
theorem cdJ0_length_8abf5 : zcode mJ0_length_8abf5 := ⟨zt4 (List.mem_of_getElem? (i := 171) (rfl : tables_1_4[171]? = some (Cond.code yJ0_length_8abf5 cJ0_length_8abf5 1 (some .int)))), zt1 (List.mem_of_getElem? (i := 17) (rfl : tables_1_1[17]? = some (Cond.initialized RJ0))), ⟨by decide, by decide⟩, by decide⟩
theorem naJ0_length_8abf5 : zinv mJ0_length_8abf5 0 := by unfold zinv; decide +kernel
theorem imJ0_length_8abf5 : Cond.instanceMethod yJ0_length_8abf5 ∈ lw_tbl := zt4 (List.mem_of_getElem? (i := 169) (rfl : tables_1_4[169]? = some (Cond.instanceMethod yJ0_length_8abf5)))
theorem seJ0_length_8abf5 : Cond.selects RJ0 yJ0_length_8abf5 yJ0_length_8abf5 ∈ lw_tbl := zt4 (List.mem_of_getElem? (i := 170) (rfl : tables_1_4[170]? = some (Cond.selects RJ0 yJ0_length_8abf5 yJ0_length_8abf5)))
abbrev mJ0_charAt_5068e : zY := (yJ0_charAt_5068e, cJ0_charAt_5068e, 2, (some .char))
theorem cdJ0_charAt_5068e : zcode mJ0_charAt_5068e := ⟨zt4 (List.mem_of_getElem? (i := 181) (rfl : tables_1_4[181]? = some (Cond.code yJ0_charAt_5068e cJ0_charAt_5068e 2 (some .char)))), zt1 (List.mem_of_getElem? (i := 17) (rfl : tables_1_1[17]? = some (Cond.initialized RJ0))), ⟨by decide, by decide⟩, by decide⟩
theorem naJ0_charAt_5068e : zinv mJ0_charAt_5068e 1 := by unfold zinv; decide +kernel
theorem imJ0_charAt_5068e : Cond.instanceMethod yJ0_charAt_5068e ∈ lw_tbl := zt4 (List.mem_of_getElem? (i := 179) (rfl : tables_1_4[179]? = some (Cond.instanceMethod yJ0_charAt_5068e)))
theorem seJ0_charAt_5068e : Cond.selects RJ0 yJ0_charAt_5068e yJ0_charAt_5068e ∈ lw_tbl := zt4 (List.mem_of_getElem? (i := 180) (rfl : tables_1_4[180]? = some (Cond.selects RJ0 yJ0_charAt_5068e yJ0_charAt_5068e)))
abbrev mJ0_coder_7d493 : zY := (yJ0_coder_7d493, cJ0_coder_7d493, 1, (some .byte))
theorem cdJ0_coder_7d493 : zcode mJ0_coder_7d493 := ⟨zt4 (List.mem_of_getElem? (i := 175) (rfl : tables_1_4[175]? = some (Cond.code yJ0_coder_7d493 cJ0_coder_7d493 1 (some .byte)))), zt1 (List.mem_of_getElem? (i := 17) (rfl : tables_1_1[17]? = some (Cond.initialized RJ0))), ⟨by decide, by decide⟩, by decide⟩
theorem naJ0_coder_7d493 : zinv mJ0_coder_7d493 0 := by unfold zinv; decide +kernel
theorem imJ0_coder_7d493 : Cond.instanceMethod yJ0_coder_7d493 ∈ lw_tbl := zt4 (List.mem_of_getElem? (i := 173) (rfl : tables_1_4[173]? = some (Cond.instanceMethod yJ0_coder_7d493)))
theorem seJ0_coder_7d493 : Cond.selects RJ0 yJ0_coder_7d493 yJ0_coder_7d493 ∈ lw_tbl := zt4 (List.mem_of_getElem? (i := 174) (rfl : tables_1_4[174]? = some (Cond.selects RJ0 yJ0_coder_7d493 yJ0_coder_7d493)))
abbrev mJ0_isLatin1_aae02 : zY := (yJ0_isLatin1_aae02, cJ0_isLatin1_aae02, 1, (some .boolean))
theorem cdJ0_isLatin1_aae02 : zcode mJ0_isLatin1_aae02 := ⟨zt4 (List.mem_of_getElem? (i := 185) (rfl : tables_1_4[185]? = some (Cond.code yJ0_isLatin1_aae02 cJ0_isLatin1_aae02 1 (some .boolean)))), zt1 (List.mem_of_getElem? (i := 17) (rfl : tables_1_1[17]? = some (Cond.initialized RJ0))), ⟨by decide, by decide⟩, by decide⟩
theorem naJ0_isLatin1_aae02 : zinv mJ0_isLatin1_aae02 0 := by unfold zinv; decide +kernel
theorem imJ0_isLatin1_aae02 : Cond.instanceMethod yJ0_isLatin1_aae02 ∈ lw_tbl := zt4 (List.mem_of_getElem? (i := 183) (rfl : tables_1_4[183]? = some (Cond.instanceMethod yJ0_isLatin1_aae02)))
theorem seJ0_isLatin1_aae02 : Cond.selects RJ0 yJ0_isLatin1_aae02 yJ0_isLatin1_aae02 ∈ lw_tbl := zt4 (List.mem_of_getElem? (i := 184) (rfl : tables_1_4[184]? = some (Cond.selects RJ0 yJ0_isLatin1_aae02 yJ0_isLatin1_aae02)))
abbrev mJ0_checkIndex_df160 : zY := (yJ0_checkIndex_df160, cJ0_checkIndex_df160, 2, none)
theorem cdJ0_checkIndex_df160 : zcode mJ0_checkIndex_df160 := ⟨zt4 (List.mem_of_getElem? (i := 191) (rfl : tables_1_4[191]? = some (Cond.code yJ0_checkIndex_df160 cJ0_checkIndex_df160 2 none))), zt1 (List.mem_of_getElem? (i := 17) (rfl : tables_1_1[17]? = some (Cond.initialized RJ0))), ⟨by decide, by decide⟩, by decide⟩
theorem naJ0_checkIndex_df160 : zinv mJ0_checkIndex_df160 2 := by unfold zinv; decide +kernel
theorem stJ0_checkIndex_df160 : Cond.static yJ0_checkIndex_df160 ∈ lw_tbl := zt4 (List.mem_of_getElem? (i := 190) (rfl : tables_1_4[190]? = some (Cond.static yJ0_checkIndex_df160)))
abbrev mJ1_charAt_3b067 : zY := (yJ1_charAt_3b067, cJ1_charAt_3b067, 2, (some .char))
theorem cdJ1_charAt_3b067 : zcode mJ1_charAt_3b067 := ⟨zt4 (List.mem_of_getElem? (i := 188) (rfl : tables_1_4[188]? = some (Cond.code yJ1_charAt_3b067 cJ1_charAt_3b067 2 (some .char)))), zt1 (List.mem_of_getElem? (i := 18) (rfl : tables_1_1[18]? = some (Cond.initialized RJ1))), ⟨by decide, by decide⟩, by decide⟩
theorem naJ1_charAt_3b067 : zinv mJ1_charAt_3b067 2 := by unfold zinv; decide +kernel
theorem stJ1_charAt_3b067 : Cond.static yJ1_charAt_3b067 ∈ lw_tbl := zt4 (List.mem_of_getElem? (i := 187) (rfl : tables_1_4[187]? = some (Cond.static yJ1_charAt_3b067)))
abbrev mJ2_getChar_3b067 : zY := (yJ2_getChar_3b067, cJ2_getChar_3b067, 2, (some .char))
theorem cdJ2_getChar_3b067 : zcode mJ2_getChar_3b067 := ⟨zt4 (List.mem_of_getElem? (i := 209) (rfl : tables_1_4[209]? = some (Cond.code yJ2_getChar_3b067 cJ2_getChar_3b067 2 (some .char)))), zt1 (List.mem_of_getElem? (i := 20) (rfl : tables_1_1[20]? = some (Cond.initialized RJ2))), ⟨by decide, by decide⟩, by decide⟩
theorem naJ2_getChar_3b067 : zinv mJ2_getChar_3b067 2 := by unfold zinv; decide +kernel
theorem stJ2_getChar_3b067 : Cond.static yJ2_getChar_3b067 ∈ lw_tbl := zt4 (List.mem_of_getElem? (i := 208) (rfl : tables_1_4[208]? = some (Cond.static yJ2_getChar_3b067)))
abbrev mJ2_length_9d52b : zY := (yJ2_length_9d52b, cJ2_length_9d52b, 1, (some .int))
theorem cdJ2_length_9d52b : zcode mJ2_length_9d52b := ⟨zt4 (List.mem_of_getElem? (i := 205) (rfl : tables_1_4[205]? = some (Cond.code yJ2_length_9d52b cJ2_length_9d52b 1 (some .int)))), zt1 (List.mem_of_getElem? (i := 20) (rfl : tables_1_1[20]? = some (Cond.initialized RJ2))), ⟨by decide, by decide⟩, by decide⟩
theorem naJ2_length_9d52b : zinv mJ2_length_9d52b 1 := by unfold zinv; decide +kernel
theorem stJ2_length_9d52b : Cond.static yJ2_length_9d52b ∈ lw_tbl := zt4 (List.mem_of_getElem? (i := 204) (rfl : tables_1_4[204]? = some (Cond.static yJ2_length_9d52b)))
abbrev mJ2_charAt_3b067 : zY := (yJ2_charAt_3b067, cJ2_charAt_3b067, 2, (some .char))
theorem cdJ2_charAt_3b067 : zcode mJ2_charAt_3b067 := ⟨zt4 (List.mem_of_getElem? (i := 199) (rfl : tables_1_4[199]? = some (Cond.code yJ2_charAt_3b067 cJ2_charAt_3b067 2 (some .char)))), zt1 (List.mem_of_getElem? (i := 20) (rfl : tables_1_1[20]? = some (Cond.initialized RJ2))), ⟨by decide, by decide⟩, by decide⟩
theorem naJ2_charAt_3b067 : zinv mJ2_charAt_3b067 2 := by unfold zinv; decide +kernel
theorem stJ2_charAt_3b067 : Cond.static yJ2_charAt_3b067 ∈ lw_tbl := zt4 (List.mem_of_getElem? (i := 198) (rfl : tables_1_4[198]? = some (Cond.static yJ2_charAt_3b067)))
abbrev mJ2_checkIndex_2214a : zY := (yJ2_checkIndex_2214a, cJ2_checkIndex_2214a, 2, none)
theorem cdJ2_checkIndex_2214a : zcode mJ2_checkIndex_2214a := ⟨zt4 (List.mem_of_getElem? (i := 202) (rfl : tables_1_4[202]? = some (Cond.code yJ2_checkIndex_2214a cJ2_checkIndex_2214a 2 none))), zt1 (List.mem_of_getElem? (i := 20) (rfl : tables_1_1[20]? = some (Cond.initialized RJ2))), ⟨by decide, by decide⟩, by decide⟩
theorem naJ2_checkIndex_2214a : zinv mJ2_checkIndex_2214a 2 := by unfold zinv; decide +kernel
theorem stJ2_checkIndex_2214a : Cond.static yJ2_checkIndex_2214a ∈ lw_tbl := zt4 (List.mem_of_getElem? (i := 201) (rfl : tables_1_4[201]? = some (Cond.static yJ2_checkIndex_2214a)))
abbrev mJ7_fill_53178 : zY := (yJ7_fill_53178, cJ7_fill_53178, 4, none)
theorem cdJ7_fill_53178 : zcode mJ7_fill_53178 := ⟨zt1 (List.mem_of_getElem? (i := 162) (rfl : tables_1_1[162]? = some (Cond.code yJ7_fill_53178 cJ7_fill_53178 4 none))), zt1 (List.mem_of_getElem? (i := 9) (rfl : tables_1_1[9]? = some (Cond.initialized RJ7))), ⟨by decide, by decide⟩, by decide⟩
theorem naJ7_fill_53178 : zinv mJ7_fill_53178 2 := by unfold zinv; decide +kernel
theorem stJ7_fill_53178 : Cond.static yJ7_fill_53178 ∈ lw_tbl := zt1 (List.mem_of_getElem? (i := 161) (rfl : tables_1_1[161]? = some (Cond.static yJ7_fill_53178)))
abbrev mJ3_checkIndex_8e157 : zY := (yJ3_checkIndex_8e157, cJ3_checkIndex_8e157, 3, (some .int))
theorem cdJ3_checkIndex_8e157 : zcode mJ3_checkIndex_8e157 := ⟨zt4 (List.mem_of_getElem? (i := 196) (rfl : tables_1_4[196]? = some (Cond.code yJ3_checkIndex_8e157 cJ3_checkIndex_8e157 3 (some .int)))), zt1 (List.mem_of_getElem? (i := 19) (rfl : tables_1_1[19]? = some (Cond.initialized RJ3))), ⟨by decide, by decide⟩, by decide⟩
theorem naJ3_checkIndex_8e157 : zinv mJ3_checkIndex_8e157 3 := by unfold zinv; decide +kernel
theorem stJ3_checkIndex_8e157 : Cond.static yJ3_checkIndex_8e157 ∈ lw_tbl := zt4 (List.mem_of_getElem? (i := 195) (rfl : tables_1_4[195]? = some (Cond.static yJ3_checkIndex_8e157)))
theorem fkX11_10 : zfk RX11 10 11 0 := ⟨RX11, TX11, 7, rfl, by decide, rfl, zt3 (List.mem_of_getElem? (i := 35) (rfl : tables_1_3[35]? = some (Cond.fieldLink RX11 10 RX11 (TX11 0).2.1 (TX11 0).2.2.1)))⟩
theorem fkX11_21 : zfk RX11 21 11 1 := ⟨RX11, TX11, 7, rfl, by decide, rfl, zt3 (List.mem_of_getElem? (i := 36) (rfl : tables_1_3[36]? = some (Cond.fieldLink RX11 21 RX11 (TX11 1).2.1 (TX11 1).2.2.1)))⟩
theorem fkX11_28 : zfk RX11 28 11 2 := ⟨RX11, TX11, 7, rfl, by decide, rfl, zt3 (List.mem_of_getElem? (i := 37) (rfl : tables_1_3[37]? = some (Cond.fieldLink RX11 28 RX11 (TX11 2).2.1 (TX11 2).2.2.1)))⟩
theorem fkX11_32 : zfk RX11 32 11 3 := ⟨RX11, TX11, 7, rfl, by decide, rfl, zt3 (List.mem_of_getElem? (i := 38) (rfl : tables_1_3[38]? = some (Cond.fieldLink RX11 32 RX11 (TX11 3).2.1 (TX11 3).2.2.1)))⟩
theorem fkX11_35 : zfk RX11 35 11 4 := ⟨RX11, TX11, 7, rfl, by decide, rfl, zt3 (List.mem_of_getElem? (i := 39) (rfl : tables_1_3[39]? = some (Cond.fieldLink RX11 35 RX11 (TX11 4).2.1 (TX11 4).2.2.1)))⟩
theorem fkX11_38 : zfk RX11 38 11 5 := ⟨RX11, TX11, 7, rfl, by decide, rfl, zt3 (List.mem_of_getElem? (i := 40) (rfl : tables_1_3[40]? = some (Cond.fieldLink RX11 38 RX11 (TX11 5).2.1 (TX11 5).2.2.1)))⟩
theorem fkX11_42 : zfk RX11 42 11 6 := ⟨RX11, TX11, 7, rfl, by decide, rfl, zt3 (List.mem_of_getElem? (i := 41) (rfl : tables_1_3[41]? = some (Cond.fieldLink RX11 42 RX11 (TX11 6).2.1 (TX11 6).2.2.1)))⟩
theorem fkX11_54 : zfk RX11 54 7 1 := ⟨RX7, TX7, 2, rfl, by decide, rfl, zt1 (List.mem_of_getElem? (i := 47) (rfl : tables_1_1[47]? = some (Cond.fieldLink RX11 54 RX7 (TX7 1).2.1 (TX7 1).2.2.1)))⟩
theorem fkX11_72 : zfk RX11 72 10 8 := ⟨RX10, TX10, 14, rfl, by decide, rfl, zt2 (List.mem_of_getElem? (i := 235) (rfl : tables_1_2[235]? = some (Cond.fieldLink RX11 72 RX10 (TX10 8).2.1 (TX10 8).2.2.1)))⟩
theorem fkX11_86 : zfk RX11 86 10 2 := ⟨RX10, TX10, 14, rfl, by decide, rfl, zt2 (List.mem_of_getElem? (i := 222) (rfl : tables_1_2[222]? = some (Cond.fieldLink RX11 86 RX10 (TX10 2).2.1 (TX10 2).2.2.1)))⟩
theorem fkX11_96 : zfk RX11 96 4 2 := ⟨RX4, TX4, 14, rfl, by decide, rfl, zt1 (List.mem_of_getElem? (i := 172) (rfl : tables_1_1[172]? = some (Cond.fieldLink RX11 96 RX4 (TX4 2).2.1 (TX4 2).2.2.1)))⟩
theorem fkX11_100 : zfk RX11 100 4 3 := ⟨RX4, TX4, 14, rfl, by decide, rfl, zt1 (List.mem_of_getElem? (i := 175) (rfl : tables_1_1[175]? = some (Cond.fieldLink RX11 100 RX4 (TX4 3).2.1 (TX4 3).2.2.1)))⟩
theorem fkX11_107 : zfk RX11 107 4 4 := ⟨RX4, TX4, 14, rfl, by decide, rfl, zt1 (List.mem_of_getElem? (i := 178) (rfl : tables_1_1[178]? = some (Cond.fieldLink RX11 107 RX4 (TX4 4).2.1 (TX4 4).2.2.1)))⟩
theorem fkX11_110 : zfk RX11 110 4 5 := ⟨RX4, TX4, 14, rfl, by decide, rfl, zt1 (List.mem_of_getElem? (i := 182) (rfl : tables_1_1[182]? = some (Cond.fieldLink RX11 110 RX4 (TX4 5).2.1 (TX4 5).2.2.1)))⟩
theorem fkX11_113 : zfk RX11 113 4 6 := ⟨RX4, TX4, 14, rfl, by decide, rfl, zt1 (List.mem_of_getElem? (i := 185) (rfl : tables_1_1[185]? = some (Cond.fieldLink RX11 113 RX4 (TX4 6).2.1 (TX4 6).2.2.1)))⟩
theorem fkX11_116 : zfk RX11 116 4 7 := ⟨RX4, TX4, 14, rfl, by decide, rfl, zt1 (List.mem_of_getElem? (i := 187) (rfl : tables_1_1[187]? = some (Cond.fieldLink RX11 116 RX4 (TX4 7).2.1 (TX4 7).2.2.1)))⟩
theorem fkX11_119 : zfk RX11 119 4 8 := ⟨RX4, TX4, 14, rfl, by decide, rfl, zt1 (List.mem_of_getElem? (i := 190) (rfl : tables_1_1[190]? = some (Cond.fieldLink RX11 119 RX4 (TX4 8).2.1 (TX4 8).2.2.1)))⟩
theorem fkX11_122 : zfk RX11 122 4 9 := ⟨RX4, TX4, 14, rfl, by decide, rfl, zt1 (List.mem_of_getElem? (i := 193) (rfl : tables_1_1[193]? = some (Cond.fieldLink RX11 122 RX4 (TX4 9).2.1 (TX4 9).2.2.1)))⟩
theorem fkX11_125 : zfk RX11 125 4 10 := ⟨RX4, TX4, 14, rfl, by decide, rfl, zt1 (List.mem_of_getElem? (i := 196) (rfl : tables_1_1[196]? = some (Cond.fieldLink RX11 125 RX4 (TX4 10).2.1 (TX4 10).2.2.1)))⟩
theorem fkX11_135 : zfk RX11 135 4 11 := ⟨RX4, TX4, 14, rfl, by decide, rfl, zt1 (List.mem_of_getElem? (i := 199) (rfl : tables_1_1[199]? = some (Cond.fieldLink RX11 135 RX4 (TX4 11).2.1 (TX4 11).2.2.1)))⟩
theorem fkX11_145 : zfk RX11 145 10 3 := ⟨RX10, TX10, 14, rfl, by decide, rfl, zt2 (List.mem_of_getElem? (i := 224) (rfl : tables_1_2[224]? = some (Cond.fieldLink RX11 145 RX10 (TX10 3).2.1 (TX10 3).2.2.1)))⟩
theorem fkX11_152 : zfk RX11 152 5 0 := ⟨RX5, TX5, 13, rfl, by decide, rfl, zt2 (List.mem_of_getElem? (i := 4) (rfl : tables_1_2[4]? = some (Cond.fieldLink RX11 152 RX5 (TX5 0).2.1 (TX5 0).2.2.1)))⟩
theorem fkX11_157 : zfk RX11 157 5 1 := ⟨RX5, TX5, 13, rfl, by decide, rfl, zt2 (List.mem_of_getElem? (i := 6) (rfl : tables_1_2[6]? = some (Cond.fieldLink RX11 157 RX5 (TX5 1).2.1 (TX5 1).2.2.1)))⟩
theorem fkX11_160 : zfk RX11 160 5 4 := ⟨RX5, TX5, 13, rfl, by decide, rfl, zt2 (List.mem_of_getElem? (i := 15) (rfl : tables_1_2[15]? = some (Cond.fieldLink RX11 160 RX5 (TX5 4).2.1 (TX5 4).2.2.1)))⟩
theorem fkX11_163 : zfk RX11 163 5 2 := ⟨RX5, TX5, 13, rfl, by decide, rfl, zt2 (List.mem_of_getElem? (i := 9) (rfl : tables_1_2[9]? = some (Cond.fieldLink RX11 163 RX5 (TX5 2).2.1 (TX5 2).2.2.1)))⟩
theorem fkX11_166 : zfk RX11 166 5 3 := ⟨RX5, TX5, 13, rfl, by decide, rfl, zt2 (List.mem_of_getElem? (i := 12) (rfl : tables_1_2[12]? = some (Cond.fieldLink RX11 166 RX5 (TX5 3).2.1 (TX5 3).2.2.1)))⟩
theorem fkX11_169 : zfk RX11 169 5 5 := ⟨RX5, TX5, 13, rfl, by decide, rfl, zt2 (List.mem_of_getElem? (i := 18) (rfl : tables_1_2[18]? = some (Cond.fieldLink RX11 169 RX5 (TX5 5).2.1 (TX5 5).2.2.1)))⟩
theorem fkX11_172 : zfk RX11 172 5 6 := ⟨RX5, TX5, 13, rfl, by decide, rfl, zt2 (List.mem_of_getElem? (i := 21) (rfl : tables_1_2[21]? = some (Cond.fieldLink RX11 172 RX5 (TX5 6).2.1 (TX5 6).2.2.1)))⟩
theorem fkX11_175 : zfk RX11 175 5 8 := ⟨RX5, TX5, 13, rfl, by decide, rfl, zt2 (List.mem_of_getElem? (i := 26) (rfl : tables_1_2[26]? = some (Cond.fieldLink RX11 175 RX5 (TX5 8).2.1 (TX5 8).2.2.1)))⟩
theorem fkX11_186 : zfk RX11 186 10 4 := ⟨RX10, TX10, 14, rfl, by decide, rfl, zt2 (List.mem_of_getElem? (i := 227) (rfl : tables_1_2[227]? = some (Cond.fieldLink RX11 186 RX10 (TX10 4).2.1 (TX10 4).2.2.1)))⟩
theorem fkX11_190 : zfk RX11 190 2 2 := ⟨RX2, TX2, 7, rfl, by decide, rfl, zt2 (List.mem_of_getElem? (i := 75) (rfl : tables_1_2[75]? = some (Cond.fieldLink RX11 190 RX2 (TX2 2).2.1 (TX2 2).2.2.1)))⟩
theorem fkX11_195 : zfk RX11 195 2 3 := ⟨RX2, TX2, 7, rfl, by decide, rfl, zt2 (List.mem_of_getElem? (i := 78) (rfl : tables_1_2[78]? = some (Cond.fieldLink RX11 195 RX2 (TX2 3).2.1 (TX2 3).2.2.1)))⟩
theorem fkX11_198 : zfk RX11 198 2 4 := ⟨RX2, TX2, 7, rfl, by decide, rfl, zt2 (List.mem_of_getElem? (i := 81) (rfl : tables_1_2[81]? = some (Cond.fieldLink RX11 198 RX2 (TX2 4).2.1 (TX2 4).2.2.1)))⟩
theorem fkX11_201 : zfk RX11 201 2 5 := ⟨RX2, TX2, 7, rfl, by decide, rfl, zt2 (List.mem_of_getElem? (i := 83) (rfl : tables_1_2[83]? = some (Cond.fieldLink RX11 201 RX2 (TX2 5).2.1 (TX2 5).2.2.1)))⟩
theorem fkX11_207 : zfk RX11 207 2 6 := ⟨RX2, TX2, 7, rfl, by decide, rfl, zt2 (List.mem_of_getElem? (i := 86) (rfl : tables_1_2[86]? = some (Cond.fieldLink RX11 207 RX2 (TX2 6).2.1 (TX2 6).2.2.1)))⟩
theorem fkX11_212 : zfk RX11 212 10 6 := ⟨RX10, TX10, 14, rfl, by decide, rfl, zt2 (List.mem_of_getElem? (i := 231) (rfl : tables_1_2[231]? = some (Cond.fieldLink RX11 212 RX10 (TX10 6).2.1 (TX10 6).2.2.1)))⟩
theorem fkX11_216 : zfk RX11 216 0 0 := ⟨RX0, TX0, 11, rfl, by decide, rfl, zt2 (List.mem_of_getElem? (i := 148) (rfl : tables_1_2[148]? = some (Cond.fieldLink RX11 216 RX0 (TX0 0).2.1 (TX0 0).2.2.1)))⟩
theorem fkX11_226 : zfk RX11 226 0 1 := ⟨RX0, TX0, 11, rfl, by decide, rfl, zt2 (List.mem_of_getElem? (i := 151) (rfl : tables_1_2[151]? = some (Cond.fieldLink RX11 226 RX0 (TX0 1).2.1 (TX0 1).2.2.1)))⟩
theorem fkX11_229 : zfk RX11 229 0 2 := ⟨RX0, TX0, 11, rfl, by decide, rfl, zt2 (List.mem_of_getElem? (i := 153) (rfl : tables_1_2[153]? = some (Cond.fieldLink RX11 229 RX0 (TX0 2).2.1 (TX0 2).2.2.1)))⟩
theorem fkX11_232 : zfk RX11 232 0 3 := ⟨RX0, TX0, 11, rfl, by decide, rfl, zt2 (List.mem_of_getElem? (i := 156) (rfl : tables_1_2[156]? = some (Cond.fieldLink RX11 232 RX0 (TX0 3).2.1 (TX0 3).2.2.1)))⟩
theorem fkX11_235 : zfk RX11 235 0 4 := ⟨RX0, TX0, 11, rfl, by decide, rfl, zt2 (List.mem_of_getElem? (i := 159) (rfl : tables_1_2[159]? = some (Cond.fieldLink RX11 235 RX0 (TX0 4).2.1 (TX0 4).2.2.1)))⟩
theorem fkX11_238 : zfk RX11 238 0 5 := ⟨RX0, TX0, 11, rfl, by decide, rfl, zt2 (List.mem_of_getElem? (i := 162) (rfl : tables_1_2[162]? = some (Cond.fieldLink RX11 238 RX0 (TX0 5).2.1 (TX0 5).2.2.1)))⟩
theorem fkX11_241 : zfk RX11 241 0 6 := ⟨RX0, TX0, 11, rfl, by decide, rfl, zt2 (List.mem_of_getElem? (i := 165) (rfl : tables_1_2[165]? = some (Cond.fieldLink RX11 241 RX0 (TX0 6).2.1 (TX0 6).2.2.1)))⟩
theorem fkX11_246 : zfk RX11 246 10 13 := ⟨RX10, TX10, 14, rfl, by decide, rfl, zt3 (List.mem_of_getElem? (i := 5) (rfl : tables_1_3[5]? = some (Cond.fieldLink RX11 246 RX10 (TX10 13).2.1 (TX10 13).2.2.1)))⟩
theorem fkX11_263 : zfk RX11 263 10 9 := ⟨RX10, TX10, 14, rfl, by decide, rfl, zt2 (List.mem_of_getElem? (i := 237) (rfl : tables_1_2[237]? = some (Cond.fieldLink RX11 263 RX10 (TX10 9).2.1 (TX10 9).2.2.1)))⟩
theorem fkX11_266 : zfk RX11 266 4 1 := ⟨RX4, TX4, 14, rfl, by decide, rfl, zt1 (List.mem_of_getElem? (i := 169) (rfl : tables_1_1[169]? = some (Cond.fieldLink RX11 266 RX4 (TX4 1).2.1 (TX4 1).2.2.1)))⟩
theorem fkX11_269 : zfk RX11 269 2 1 := ⟨RX2, TX2, 7, rfl, by decide, rfl, zt2 (List.mem_of_getElem? (i := 72) (rfl : tables_1_2[72]? = some (Cond.fieldLink RX11 269 RX2 (TX2 1).2.1 (TX2 1).2.2.1)))⟩
theorem fkX11_287 : zfk RX11 287 10 5 := ⟨RX10, TX10, 14, rfl, by decide, rfl, zt2 (List.mem_of_getElem? (i := 229) (rfl : tables_1_2[229]? = some (Cond.fieldLink RX11 287 RX10 (TX10 5).2.1 (TX10 5).2.2.1)))⟩
theorem fkX11_291 : zfk RX11 291 9 4 := ⟨RX9, TX9, 7, rfl, by decide, rfl, zt2 (List.mem_of_getElem? (i := 119) (rfl : tables_1_2[119]? = some (Cond.fieldLink RX11 291 RX9 (TX9 4).2.1 (TX9 4).2.2.1)))⟩
theorem fkX11_296 : zfk RX11 296 9 1 := ⟨RX9, TX9, 7, rfl, by decide, rfl, zt2 (List.mem_of_getElem? (i := 111) (rfl : tables_1_2[111]? = some (Cond.fieldLink RX11 296 RX9 (TX9 1).2.1 (TX9 1).2.2.1)))⟩
theorem fkX11_298 : zfk RX11 298 9 2 := ⟨RX9, TX9, 7, rfl, by decide, rfl, zt2 (List.mem_of_getElem? (i := 114) (rfl : tables_1_2[114]? = some (Cond.fieldLink RX11 298 RX9 (TX9 2).2.1 (TX9 2).2.2.1)))⟩
theorem fkX11_336 : zfk RX11 336 5 11 := ⟨RX5, TX5, 13, rfl, by decide, rfl, zt2 (List.mem_of_getElem? (i := 31) (rfl : tables_1_2[31]? = some (Cond.fieldLink RX11 336 RX5 (TX5 11).2.1 (TX5 11).2.2.1)))⟩
theorem fkX11_340 : zfk RX11 340 5 12 := ⟨RX5, TX5, 13, rfl, by decide, rfl, zt2 (List.mem_of_getElem? (i := 33) (rfl : tables_1_2[33]? = some (Cond.fieldLink RX11 340 RX5 (TX5 12).2.1 (TX5 12).2.2.1)))⟩
theorem fkX11_349 : zfk RX11 349 4 0 := ⟨RX4, TX4, 14, rfl, by decide, rfl, zt1 (List.mem_of_getElem? (i := 167) (rfl : tables_1_1[167]? = some (Cond.fieldLink RX11 349 RX4 (TX4 0).2.1 (TX4 0).2.2.1)))⟩
theorem fkX11_371 : zfk RX11 371 10 7 := ⟨RX10, TX10, 14, rfl, by decide, rfl, zt2 (List.mem_of_getElem? (i := 233) (rfl : tables_1_2[233]? = some (Cond.fieldLink RX11 371 RX10 (TX10 7).2.1 (TX10 7).2.2.1)))⟩
theorem fkX11_378 : zfk RX11 378 10 1 := ⟨RX10, TX10, 14, rfl, by decide, rfl, zt2 (List.mem_of_getElem? (i := 219) (rfl : tables_1_2[219]? = some (Cond.fieldLink RX11 378 RX10 (TX10 1).2.1 (TX10 1).2.2.1)))⟩
theorem fkX11_382 : zfk RX11 382 1 0 := ⟨RX1, TX1, 2, rfl, by decide, rfl, zt1 (List.mem_of_getElem? (i := 139) (rfl : tables_1_1[139]? = some (Cond.fieldLink RX11 382 RX1 (TX1 0).2.1 (TX1 0).2.2.1)))⟩
theorem fkX11_387 : zfk RX11 387 10 0 := ⟨RX10, TX10, 14, rfl, by decide, rfl, zt2 (List.mem_of_getElem? (i := 217) (rfl : tables_1_2[217]? = some (Cond.fieldLink RX11 387 RX10 (TX10 0).2.1 (TX10 0).2.2.1)))⟩
theorem fkX11_390 : zfk RX11 390 2 0 := ⟨RX2, TX2, 7, rfl, by decide, rfl, zt2 (List.mem_of_getElem? (i := 70) (rfl : tables_1_2[70]? = some (Cond.fieldLink RX11 390 RX2 (TX2 0).2.1 (TX2 0).2.2.1)))⟩
theorem fkX11_391 : zfk RX11 391 8 0 := ⟨RX8, TX8, 8, rfl, by decide, rfl, zt1 (List.mem_of_getElem? (i := 88) (rfl : tables_1_1[88]? = some (Cond.fieldLink RX11 391 RX8 (TX8 0).2.1 (TX8 0).2.2.1)))⟩
theorem fkX11_396 : zfk RX11 396 8 1 := ⟨RX8, TX8, 8, rfl, by decide, rfl, zt1 (List.mem_of_getElem? (i := 92) (rfl : tables_1_1[92]? = some (Cond.fieldLink RX11 396 RX8 (TX8 1).2.1 (TX8 1).2.2.1)))⟩
theorem fkX11_399 : zfk RX11 399 8 2 := ⟨RX8, TX8, 8, rfl, by decide, rfl, zt1 (List.mem_of_getElem? (i := 96) (rfl : tables_1_1[96]? = some (Cond.fieldLink RX11 399 RX8 (TX8 2).2.1 (TX8 2).2.2.1)))⟩
theorem fkX11_402 : zfk RX11 402 8 3 := ⟨RX8, TX8, 8, rfl, by decide, rfl, zt1 (List.mem_of_getElem? (i := 100) (rfl : tables_1_1[100]? = some (Cond.fieldLink RX11 402 RX8 (TX8 3).2.1 (TX8 3).2.2.1)))⟩
theorem fkX11_405 : zfk RX11 405 8 4 := ⟨RX8, TX8, 8, rfl, by decide, rfl, zt1 (List.mem_of_getElem? (i := 103) (rfl : tables_1_1[103]? = some (Cond.fieldLink RX11 405 RX8 (TX8 4).2.1 (TX8 4).2.2.1)))⟩
theorem fkX11_407 : zfk RX11 407 8 5 := ⟨RX8, TX8, 8, rfl, by decide, rfl, zt1 (List.mem_of_getElem? (i := 106) (rfl : tables_1_1[106]? = some (Cond.fieldLink RX11 407 RX8 (TX8 5).2.1 (TX8 5).2.2.1)))⟩
theorem fkX11_409 : zfk RX11 409 8 6 := ⟨RX8, TX8, 8, rfl, by decide, rfl, zt1 (List.mem_of_getElem? (i := 110) (rfl : tables_1_1[110]? = some (Cond.fieldLink RX11 409 RX8 (TX8 6).2.1 (TX8 6).2.2.1)))⟩
theorem fkX11_412 : zfk RX11 412 8 7 := ⟨RX8, TX8, 8, rfl, by decide, rfl, zt1 (List.mem_of_getElem? (i := 114) (rfl : tables_1_1[114]? = some (Cond.fieldLink RX11 412 RX8 (TX8 7).2.1 (TX8 7).2.2.1)))⟩
theorem fkX11_415 : zfk RX11 415 10 10 := ⟨RX10, TX10, 14, rfl, by decide, rfl, zt2 (List.mem_of_getElem? (i := 239) (rfl : tables_1_2[239]? = some (Cond.fieldLink RX11 415 RX10 (TX10 10).2.1 (TX10 10).2.2.1)))⟩
theorem fkX11_418 : zfk RX11 418 10 12 := ⟨RX10, TX10, 14, rfl, by decide, rfl, zt3 (List.mem_of_getElem? (i := 3) (rfl : tables_1_3[3]? = some (Cond.fieldLink RX11 418 RX10 (TX10 12).2.1 (TX10 12).2.2.1)))⟩
theorem fkX11_421 : zfk RX11 421 3 0 := ⟨RX3, TX3, 3, rfl, by decide, rfl, zt2 (List.mem_of_getElem? (i := 205) (rfl : tables_1_2[205]? = some (Cond.fieldLink RX11 421 RX3 (TX3 0).2.1 (TX3 0).2.2.1)))⟩
theorem fkX11_422 : zfk RX11 422 10 11 := ⟨RX10, TX10, 14, rfl, by decide, rfl, zt3 (List.mem_of_getElem? (i := 1) (rfl : tables_1_3[1]? = some (Cond.fieldLink RX11 422 RX10 (TX10 11).2.1 (TX10 11).2.2.1)))⟩
theorem fkX11_433 : zfk RX11 433 1 1 := ⟨RX1, TX1, 2, rfl, by decide, rfl, zt1 (List.mem_of_getElem? (i := 142) (rfl : tables_1_1[142]? = some (Cond.fieldLink RX11 433 RX1 (TX1 1).2.1 (TX1 1).2.2.1)))⟩
theorem fkX0_9 : zfk RX0 9 0 0 := ⟨RX0, TX0, 11, rfl, by decide, rfl, zt2 (List.mem_of_getElem? (i := 146) (rfl : tables_1_2[146]? = some (Cond.fieldLink RX0 9 RX0 (TX0 0).2.1 (TX0 0).2.2.1)))⟩
theorem fkX0_15 : zfk RX0 15 0 1 := ⟨RX0, TX0, 11, rfl, by decide, rfl, zt2 (List.mem_of_getElem? (i := 149) (rfl : tables_1_2[149]? = some (Cond.fieldLink RX0 15 RX0 (TX0 1).2.1 (TX0 1).2.2.1)))⟩
theorem fkX0_19 : zfk RX0 19 0 2 := ⟨RX0, TX0, 11, rfl, by decide, rfl, zt2 (List.mem_of_getElem? (i := 152) (rfl : tables_1_2[152]? = some (Cond.fieldLink RX0 19 RX0 (TX0 2).2.1 (TX0 2).2.2.1)))⟩
theorem fkX0_22 : zfk RX0 22 0 3 := ⟨RX0, TX0, 11, rfl, by decide, rfl, zt2 (List.mem_of_getElem? (i := 155) (rfl : tables_1_2[155]? = some (Cond.fieldLink RX0 22 RX0 (TX0 3).2.1 (TX0 3).2.2.1)))⟩
theorem fkX0_25 : zfk RX0 25 0 4 := ⟨RX0, TX0, 11, rfl, by decide, rfl, zt2 (List.mem_of_getElem? (i := 158) (rfl : tables_1_2[158]? = some (Cond.fieldLink RX0 25 RX0 (TX0 4).2.1 (TX0 4).2.2.1)))⟩
theorem fkX0_28 : zfk RX0 28 0 5 := ⟨RX0, TX0, 11, rfl, by decide, rfl, zt2 (List.mem_of_getElem? (i := 161) (rfl : tables_1_2[161]? = some (Cond.fieldLink RX0 28 RX0 (TX0 5).2.1 (TX0 5).2.2.1)))⟩
theorem fkX0_31 : zfk RX0 31 0 6 := ⟨RX0, TX0, 11, rfl, by decide, rfl, zt2 (List.mem_of_getElem? (i := 164) (rfl : tables_1_2[164]? = some (Cond.fieldLink RX0 31 RX0 (TX0 6).2.1 (TX0 6).2.2.1)))⟩
theorem fkX0_34 : zfk RX0 34 0 7 := ⟨RX0, TX0, 11, rfl, by decide, rfl, zt2 (List.mem_of_getElem? (i := 167) (rfl : tables_1_2[167]? = some (Cond.fieldLink RX0 34 RX0 (TX0 7).2.1 (TX0 7).2.2.1)))⟩
theorem fkX0_37 : zfk RX0 37 0 8 := ⟨RX0, TX0, 11, rfl, by decide, rfl, zt2 (List.mem_of_getElem? (i := 169) (rfl : tables_1_2[169]? = some (Cond.fieldLink RX0 37 RX0 (TX0 8).2.1 (TX0 8).2.2.1)))⟩
theorem fkX0_40 : zfk RX0 40 0 9 := ⟨RX0, TX0, 11, rfl, by decide, rfl, zt2 (List.mem_of_getElem? (i := 171) (rfl : tables_1_2[171]? = some (Cond.fieldLink RX0 40 RX0 (TX0 9).2.1 (TX0 9).2.2.1)))⟩
theorem fkX0_43 : zfk RX0 43 0 10 := ⟨RX0, TX0, 11, rfl, by decide, rfl, zt2 (List.mem_of_getElem? (i := 173) (rfl : tables_1_2[173]? = some (Cond.fieldLink RX0 43 RX0 (TX0 10).2.1 (TX0 10).2.2.1)))⟩
theorem fkX1_9 : zfk RX1 9 1 0 := ⟨RX1, TX1, 2, rfl, by decide, rfl, zt1 (List.mem_of_getElem? (i := 138) (rfl : tables_1_1[138]? = some (Cond.fieldLink RX1 9 RX1 (TX1 0).2.1 (TX1 0).2.2.1)))⟩
theorem fkX1_15 : zfk RX1 15 1 1 := ⟨RX1, TX1, 2, rfl, by decide, rfl, zt1 (List.mem_of_getElem? (i := 140) (rfl : tables_1_1[140]? = some (Cond.fieldLink RX1 15 RX1 (TX1 1).2.1 (TX1 1).2.2.1)))⟩
theorem fkX2_9 : zfk RX2 9 2 0 := ⟨RX2, TX2, 7, rfl, by decide, rfl, zt2 (List.mem_of_getElem? (i := 67) (rfl : tables_1_2[67]? = some (Cond.fieldLink RX2 9 RX2 (TX2 0).2.1 (TX2 0).2.2.1)))⟩
theorem fkX2_15 : zfk RX2 15 2 1 := ⟨RX2, TX2, 7, rfl, by decide, rfl, zt2 (List.mem_of_getElem? (i := 71) (rfl : tables_1_2[71]? = some (Cond.fieldLink RX2 15 RX2 (TX2 1).2.1 (TX2 1).2.2.1)))⟩
theorem fkX2_18 : zfk RX2 18 2 2 := ⟨RX2, TX2, 7, rfl, by decide, rfl, zt2 (List.mem_of_getElem? (i := 73) (rfl : tables_1_2[73]? = some (Cond.fieldLink RX2 18 RX2 (TX2 2).2.1 (TX2 2).2.2.1)))⟩
theorem fkX2_22 : zfk RX2 22 2 3 := ⟨RX2, TX2, 7, rfl, by decide, rfl, zt2 (List.mem_of_getElem? (i := 76) (rfl : tables_1_2[76]? = some (Cond.fieldLink RX2 22 RX2 (TX2 3).2.1 (TX2 3).2.2.1)))⟩
theorem fkX2_25 : zfk RX2 25 2 4 := ⟨RX2, TX2, 7, rfl, by decide, rfl, zt2 (List.mem_of_getElem? (i := 79) (rfl : tables_1_2[79]? = some (Cond.fieldLink RX2 25 RX2 (TX2 4).2.1 (TX2 4).2.2.1)))⟩
theorem fkX2_28 : zfk RX2 28 2 5 := ⟨RX2, TX2, 7, rfl, by decide, rfl, zt2 (List.mem_of_getElem? (i := 82) (rfl : tables_1_2[82]? = some (Cond.fieldLink RX2 28 RX2 (TX2 5).2.1 (TX2 5).2.2.1)))⟩
theorem fkX2_31 : zfk RX2 31 2 6 := ⟨RX2, TX2, 7, rfl, by decide, rfl, zt2 (List.mem_of_getElem? (i := 85) (rfl : tables_1_2[85]? = some (Cond.fieldLink RX2 31 RX2 (TX2 6).2.1 (TX2 6).2.2.1)))⟩
theorem fkX3_9 : zfk RX3 9 3 0 := ⟨RX3, TX3, 3, rfl, by decide, rfl, zt2 (List.mem_of_getElem? (i := 204) (rfl : tables_1_2[204]? = some (Cond.fieldLink RX3 9 RX3 (TX3 0).2.1 (TX3 0).2.2.1)))⟩
theorem fkX3_15 : zfk RX3 15 3 1 := ⟨RX3, TX3, 3, rfl, by decide, rfl, zt2 (List.mem_of_getElem? (i := 206) (rfl : tables_1_2[206]? = some (Cond.fieldLink RX3 15 RX3 (TX3 1).2.1 (TX3 1).2.2.1)))⟩
theorem fkX3_18 : zfk RX3 18 3 2 := ⟨RX3, TX3, 3, rfl, by decide, rfl, zt2 (List.mem_of_getElem? (i := 207) (rfl : tables_1_2[207]? = some (Cond.fieldLink RX3 18 RX3 (TX3 2).2.1 (TX3 2).2.2.1)))⟩
theorem fkX4_9 : zfk RX4 9 4 0 := ⟨RX4, TX4, 14, rfl, by decide, rfl, zt1 (List.mem_of_getElem? (i := 164) (rfl : tables_1_1[164]? = some (Cond.fieldLink RX4 9 RX4 (TX4 0).2.1 (TX4 0).2.2.1)))⟩
theorem fkX4_15 : zfk RX4 15 4 1 := ⟨RX4, TX4, 14, rfl, by decide, rfl, zt1 (List.mem_of_getElem? (i := 168) (rfl : tables_1_1[168]? = some (Cond.fieldLink RX4 15 RX4 (TX4 1).2.1 (TX4 1).2.2.1)))⟩
theorem fkX4_18 : zfk RX4 18 4 2 := ⟨RX4, TX4, 14, rfl, by decide, rfl, zt1 (List.mem_of_getElem? (i := 170) (rfl : tables_1_1[170]? = some (Cond.fieldLink RX4 18 RX4 (TX4 2).2.1 (TX4 2).2.2.1)))⟩
theorem fkX4_26 : zfk RX4 26 4 3 := ⟨RX4, TX4, 14, rfl, by decide, rfl, zt1 (List.mem_of_getElem? (i := 173) (rfl : tables_1_1[173]? = some (Cond.fieldLink RX4 26 RX4 (TX4 3).2.1 (TX4 3).2.2.1)))⟩
theorem fkX4_29 : zfk RX4 29 4 4 := ⟨RX4, TX4, 14, rfl, by decide, rfl, zt1 (List.mem_of_getElem? (i := 176) (rfl : tables_1_1[176]? = some (Cond.fieldLink RX4 29 RX4 (TX4 4).2.1 (TX4 4).2.2.1)))⟩
theorem fkX4_32 : zfk RX4 32 4 5 := ⟨RX4, TX4, 14, rfl, by decide, rfl, zt1 (List.mem_of_getElem? (i := 180) (rfl : tables_1_1[180]? = some (Cond.fieldLink RX4 32 RX4 (TX4 5).2.1 (TX4 5).2.2.1)))⟩
theorem fkX4_35 : zfk RX4 35 4 6 := ⟨RX4, TX4, 14, rfl, by decide, rfl, zt1 (List.mem_of_getElem? (i := 184) (rfl : tables_1_1[184]? = some (Cond.fieldLink RX4 35 RX4 (TX4 6).2.1 (TX4 6).2.2.1)))⟩
theorem fkX4_38 : zfk RX4 38 4 7 := ⟨RX4, TX4, 14, rfl, by decide, rfl, zt1 (List.mem_of_getElem? (i := 186) (rfl : tables_1_1[186]? = some (Cond.fieldLink RX4 38 RX4 (TX4 7).2.1 (TX4 7).2.2.1)))⟩
theorem fkX4_41 : zfk RX4 41 4 8 := ⟨RX4, TX4, 14, rfl, by decide, rfl, zt1 (List.mem_of_getElem? (i := 189) (rfl : tables_1_1[189]? = some (Cond.fieldLink RX4 41 RX4 (TX4 8).2.1 (TX4 8).2.2.1)))⟩
theorem fkX4_44 : zfk RX4 44 4 9 := ⟨RX4, TX4, 14, rfl, by decide, rfl, zt1 (List.mem_of_getElem? (i := 192) (rfl : tables_1_1[192]? = some (Cond.fieldLink RX4 44 RX4 (TX4 9).2.1 (TX4 9).2.2.1)))⟩
theorem fkX4_47 : zfk RX4 47 4 10 := ⟨RX4, TX4, 14, rfl, by decide, rfl, zt1 (List.mem_of_getElem? (i := 195) (rfl : tables_1_1[195]? = some (Cond.fieldLink RX4 47 RX4 (TX4 10).2.1 (TX4 10).2.2.1)))⟩
theorem fkX4_50 : zfk RX4 50 4 11 := ⟨RX4, TX4, 14, rfl, by decide, rfl, zt1 (List.mem_of_getElem? (i := 198) (rfl : tables_1_1[198]? = some (Cond.fieldLink RX4 50 RX4 (TX4 11).2.1 (TX4 11).2.2.1)))⟩
theorem fkX4_53 : zfk RX4 53 4 12 := ⟨RX4, TX4, 14, rfl, by decide, rfl, zt1 (List.mem_of_getElem? (i := 201) (rfl : tables_1_1[201]? = some (Cond.fieldLink RX4 53 RX4 (TX4 12).2.1 (TX4 12).2.2.1)))⟩
theorem fkX4_56 : zfk RX4 56 4 13 := ⟨RX4, TX4, 14, rfl, by decide, rfl, zt1 (List.mem_of_getElem? (i := 203) (rfl : tables_1_1[203]? = some (Cond.fieldLink RX4 56 RX4 (TX4 13).2.1 (TX4 13).2.2.1)))⟩
theorem fkX5_15 : zfk RX5 15 5 0 := ⟨RX5, TX5, 13, rfl, by decide, rfl, zt2 (List.mem_of_getElem? (i := 2) (rfl : tables_1_2[2]? = some (Cond.fieldLink RX5 15 RX5 (TX5 0).2.1 (TX5 0).2.2.1)))⟩
theorem fkX5_19 : zfk RX5 19 5 1 := ⟨RX5, TX5, 13, rfl, by decide, rfl, zt2 (List.mem_of_getElem? (i := 5) (rfl : tables_1_2[5]? = some (Cond.fieldLink RX5 19 RX5 (TX5 1).2.1 (TX5 1).2.2.1)))⟩
theorem fkX5_22 : zfk RX5 22 5 2 := ⟨RX5, TX5, 13, rfl, by decide, rfl, zt2 (List.mem_of_getElem? (i := 8) (rfl : tables_1_2[8]? = some (Cond.fieldLink RX5 22 RX5 (TX5 2).2.1 (TX5 2).2.2.1)))⟩
theorem fkX5_25 : zfk RX5 25 5 3 := ⟨RX5, TX5, 13, rfl, by decide, rfl, zt2 (List.mem_of_getElem? (i := 11) (rfl : tables_1_2[11]? = some (Cond.fieldLink RX5 25 RX5 (TX5 3).2.1 (TX5 3).2.2.1)))⟩
theorem fkX5_28 : zfk RX5 28 5 4 := ⟨RX5, TX5, 13, rfl, by decide, rfl, zt2 (List.mem_of_getElem? (i := 14) (rfl : tables_1_2[14]? = some (Cond.fieldLink RX5 28 RX5 (TX5 4).2.1 (TX5 4).2.2.1)))⟩
theorem fkX5_31 : zfk RX5 31 5 5 := ⟨RX5, TX5, 13, rfl, by decide, rfl, zt2 (List.mem_of_getElem? (i := 17) (rfl : tables_1_2[17]? = some (Cond.fieldLink RX5 31 RX5 (TX5 5).2.1 (TX5 5).2.2.1)))⟩
theorem fkX5_34 : zfk RX5 34 5 6 := ⟨RX5, TX5, 13, rfl, by decide, rfl, zt2 (List.mem_of_getElem? (i := 20) (rfl : tables_1_2[20]? = some (Cond.fieldLink RX5 34 RX5 (TX5 6).2.1 (TX5 6).2.2.1)))⟩
theorem fkX5_37 : zfk RX5 37 5 7 := ⟨RX5, TX5, 13, rfl, by decide, rfl, zt2 (List.mem_of_getElem? (i := 23) (rfl : tables_1_2[23]? = some (Cond.fieldLink RX5 37 RX5 (TX5 7).2.1 (TX5 7).2.2.1)))⟩
theorem fkX5_40 : zfk RX5 40 5 8 := ⟨RX5, TX5, 13, rfl, by decide, rfl, zt2 (List.mem_of_getElem? (i := 25) (rfl : tables_1_2[25]? = some (Cond.fieldLink RX5 40 RX5 (TX5 8).2.1 (TX5 8).2.2.1)))⟩
theorem fkX5_43 : zfk RX5 43 5 9 := ⟨RX5, TX5, 13, rfl, by decide, rfl, zt2 (List.mem_of_getElem? (i := 28) (rfl : tables_1_2[28]? = some (Cond.fieldLink RX5 43 RX5 (TX5 9).2.1 (TX5 9).2.2.1)))⟩
theorem fkX5_46 : zfk RX5 46 5 10 := ⟨RX5, TX5, 13, rfl, by decide, rfl, zt2 (List.mem_of_getElem? (i := 29) (rfl : tables_1_2[29]? = some (Cond.fieldLink RX5 46 RX5 (TX5 10).2.1 (TX5 10).2.2.1)))⟩
theorem fkX5_49 : zfk RX5 49 5 11 := ⟨RX5, TX5, 13, rfl, by decide, rfl, zt2 (List.mem_of_getElem? (i := 30) (rfl : tables_1_2[30]? = some (Cond.fieldLink RX5 49 RX5 (TX5 11).2.1 (TX5 11).2.2.1)))⟩
theorem fkX5_52 : zfk RX5 52 5 12 := ⟨RX5, TX5, 13, rfl, by decide, rfl, zt2 (List.mem_of_getElem? (i := 32) (rfl : tables_1_2[32]? = some (Cond.fieldLink RX5 52 RX5 (TX5 12).2.1 (TX5 12).2.2.1)))⟩
theorem fkX6_9 : zfk RX6 9 6 0 := ⟨RX6, TX6, 4, rfl, by decide, rfl, zt1 (List.mem_of_getElem? (i := 60) (rfl : tables_1_1[60]? = some (Cond.fieldLink RX6 9 RX6 (TX6 0).2.1 (TX6 0).2.2.1)))⟩
theorem fkX6_15 : zfk RX6 15 6 1 := ⟨RX6, TX6, 4, rfl, by decide, rfl, zt1 (List.mem_of_getElem? (i := 61) (rfl : tables_1_1[61]? = some (Cond.fieldLink RX6 15 RX6 (TX6 1).2.1 (TX6 1).2.2.1)))⟩
theorem fkX6_19 : zfk RX6 19 6 2 := ⟨RX6, TX6, 4, rfl, by decide, rfl, zt1 (List.mem_of_getElem? (i := 62) (rfl : tables_1_1[62]? = some (Cond.fieldLink RX6 19 RX6 (TX6 2).2.1 (TX6 2).2.2.1)))⟩
theorem fkX6_22 : zfk RX6 22 6 3 := ⟨RX6, TX6, 4, rfl, by decide, rfl, zt1 (List.mem_of_getElem? (i := 63) (rfl : tables_1_1[63]? = some (Cond.fieldLink RX6 22 RX6 (TX6 3).2.1 (TX6 3).2.2.1)))⟩
theorem fkX6_28 : zfk RX6 28 7 1 := ⟨RX7, TX7, 2, rfl, by decide, rfl, zt1 (List.mem_of_getElem? (i := 46) (rfl : tables_1_1[46]? = some (Cond.fieldLink RX6 28 RX7 (TX7 1).2.1 (TX7 1).2.2.1)))⟩
theorem fkX6_65 : zfk RX6 65 10 0 := ⟨RX10, TX10, 14, rfl, by decide, rfl, zt2 (List.mem_of_getElem? (i := 216) (rfl : tables_1_2[216]? = some (Cond.fieldLink RX6 65 RX10 (TX10 0).2.1 (TX10 0).2.2.1)))⟩
theorem fkX6_78 : zfk RX6 78 10 2 := ⟨RX10, TX10, 14, rfl, by decide, rfl, zt2 (List.mem_of_getElem? (i := 221) (rfl : tables_1_2[221]? = some (Cond.fieldLink RX6 78 RX10 (TX10 2).2.1 (TX10 2).2.2.1)))⟩
theorem fkX6_82 : zfk RX6 82 4 0 := ⟨RX4, TX4, 14, rfl, by decide, rfl, zt1 (List.mem_of_getElem? (i := 166) (rfl : tables_1_1[166]? = some (Cond.fieldLink RX6 82 RX4 (TX4 0).2.1 (TX4 0).2.2.1)))⟩
theorem fkX6_100 : zfk RX6 100 8 4 := ⟨RX8, TX8, 8, rfl, by decide, rfl, zt1 (List.mem_of_getElem? (i := 102) (rfl : tables_1_1[102]? = some (Cond.fieldLink RX6 100 RX8 (TX8 4).2.1 (TX8 4).2.2.1)))⟩
theorem fkX6_105 : zfk RX6 105 8 5 := ⟨RX8, TX8, 8, rfl, by decide, rfl, zt1 (List.mem_of_getElem? (i := 105) (rfl : tables_1_1[105]? = some (Cond.fieldLink RX6 105 RX8 (TX8 5).2.1 (TX8 5).2.2.1)))⟩
theorem fkX6_112 : zfk RX6 112 10 4 := ⟨RX10, TX10, 14, rfl, by decide, rfl, zt2 (List.mem_of_getElem? (i := 226) (rfl : tables_1_2[226]? = some (Cond.fieldLink RX6 112 RX10 (TX10 4).2.1 (TX10 4).2.2.1)))⟩
theorem fkX6_116 : zfk RX6 116 2 0 := ⟨RX2, TX2, 7, rfl, by decide, rfl, zt2 (List.mem_of_getElem? (i := 69) (rfl : tables_1_2[69]? = some (Cond.fieldLink RX6 116 RX2 (TX2 0).2.1 (TX2 0).2.2.1)))⟩
theorem fkX6_133 : zfk RX6 133 4 4 := ⟨RX4, TX4, 14, rfl, by decide, rfl, zt1 (List.mem_of_getElem? (i := 177) (rfl : tables_1_1[177]? = some (Cond.fieldLink RX6 133 RX4 (TX4 4).2.1 (TX4 4).2.2.1)))⟩
theorem fkX6_142 : zfk RX6 142 4 5 := ⟨RX4, TX4, 14, rfl, by decide, rfl, zt1 (List.mem_of_getElem? (i := 181) (rfl : tables_1_1[181]? = some (Cond.fieldLink RX6 142 RX4 (TX4 5).2.1 (TX4 5).2.2.1)))⟩
theorem fkX6_144 : zfk RX6 144 8 6 := ⟨RX8, TX8, 8, rfl, by decide, rfl, zt1 (List.mem_of_getElem? (i := 108) (rfl : tables_1_1[108]? = some (Cond.fieldLink RX6 144 RX8 (TX8 6).2.1 (TX8 6).2.2.1)))⟩
theorem fkX6_147 : zfk RX6 147 8 7 := ⟨RX8, TX8, 8, rfl, by decide, rfl, zt1 (List.mem_of_getElem? (i := 112) (rfl : tables_1_1[112]? = some (Cond.fieldLink RX6 147 RX8 (TX8 7).2.1 (TX8 7).2.2.1)))⟩
theorem fkX6_152 : zfk RX6 152 8 0 := ⟨RX8, TX8, 8, rfl, by decide, rfl, zt1 (List.mem_of_getElem? (i := 87) (rfl : tables_1_1[87]? = some (Cond.fieldLink RX6 152 RX8 (TX8 0).2.1 (TX8 0).2.2.1)))⟩
theorem fkX6_156 : zfk RX6 156 8 1 := ⟨RX8, TX8, 8, rfl, by decide, rfl, zt1 (List.mem_of_getElem? (i := 90) (rfl : tables_1_1[90]? = some (Cond.fieldLink RX6 156 RX8 (TX8 1).2.1 (TX8 1).2.2.1)))⟩
theorem fkX6_160 : zfk RX6 160 8 2 := ⟨RX8, TX8, 8, rfl, by decide, rfl, zt1 (List.mem_of_getElem? (i := 94) (rfl : tables_1_1[94]? = some (Cond.fieldLink RX6 160 RX8 (TX8 2).2.1 (TX8 2).2.2.1)))⟩
theorem fkX6_165 : zfk RX6 165 8 3 := ⟨RX8, TX8, 8, rfl, by decide, rfl, zt1 (List.mem_of_getElem? (i := 99) (rfl : tables_1_1[99]? = some (Cond.fieldLink RX6 165 RX8 (TX8 3).2.1 (TX8 3).2.2.1)))⟩
theorem fkX7_9 : zfk RX7 9 7 0 := ⟨RX7, TX7, 2, rfl, by decide, rfl, zt1 (List.mem_of_getElem? (i := 44) (rfl : tables_1_1[44]? = some (Cond.fieldLink RX7 9 RX7 (TX7 0).2.1 (TX7 0).2.2.1)))⟩
theorem fkX7_15 : zfk RX7 15 7 1 := ⟨RX7, TX7, 2, rfl, by decide, rfl, zt1 (List.mem_of_getElem? (i := 45) (rfl : tables_1_1[45]? = some (Cond.fieldLink RX7 15 RX7 (TX7 1).2.1 (TX7 1).2.2.1)))⟩
theorem fkX8_7 : zfk RX8 7 8 0 := ⟨RX8, TX8, 8, rfl, by decide, rfl, zt1 (List.mem_of_getElem? (i := 85) (rfl : tables_1_1[85]? = some (Cond.fieldLink RX8 7 RX8 (TX8 0).2.1 (TX8 0).2.2.1)))⟩
theorem fkX8_13 : zfk RX8 13 8 1 := ⟨RX8, TX8, 8, rfl, by decide, rfl, zt1 (List.mem_of_getElem? (i := 89) (rfl : tables_1_1[89]? = some (Cond.fieldLink RX8 13 RX8 (TX8 1).2.1 (TX8 1).2.2.1)))⟩
theorem fkX8_16 : zfk RX8 16 8 2 := ⟨RX8, TX8, 8, rfl, by decide, rfl, zt1 (List.mem_of_getElem? (i := 93) (rfl : tables_1_1[93]? = some (Cond.fieldLink RX8 16 RX8 (TX8 2).2.1 (TX8 2).2.2.1)))⟩
theorem fkX8_19 : zfk RX8 19 8 3 := ⟨RX8, TX8, 8, rfl, by decide, rfl, zt1 (List.mem_of_getElem? (i := 97) (rfl : tables_1_1[97]? = some (Cond.fieldLink RX8 19 RX8 (TX8 3).2.1 (TX8 3).2.2.1)))⟩
theorem fkX8_22 : zfk RX8 22 8 4 := ⟨RX8, TX8, 8, rfl, by decide, rfl, zt1 (List.mem_of_getElem? (i := 101) (rfl : tables_1_1[101]? = some (Cond.fieldLink RX8 22 RX8 (TX8 4).2.1 (TX8 4).2.2.1)))⟩
theorem fkX8_25 : zfk RX8 25 8 5 := ⟨RX8, TX8, 8, rfl, by decide, rfl, zt1 (List.mem_of_getElem? (i := 104) (rfl : tables_1_1[104]? = some (Cond.fieldLink RX8 25 RX8 (TX8 5).2.1 (TX8 5).2.2.1)))⟩
theorem fkX8_28 : zfk RX8 28 8 6 := ⟨RX8, TX8, 8, rfl, by decide, rfl, zt1 (List.mem_of_getElem? (i := 107) (rfl : tables_1_1[107]? = some (Cond.fieldLink RX8 28 RX8 (TX8 6).2.1 (TX8 6).2.2.1)))⟩
theorem fkX8_31 : zfk RX8 31 8 7 := ⟨RX8, TX8, 8, rfl, by decide, rfl, zt1 (List.mem_of_getElem? (i := 111) (rfl : tables_1_1[111]? = some (Cond.fieldLink RX8 31 RX8 (TX8 7).2.1 (TX8 7).2.2.1)))⟩
theorem fkX9_9 : zfk RX9 9 9 0 := ⟨RX9, TX9, 7, rfl, by decide, rfl, zt2 (List.mem_of_getElem? (i := 109) (rfl : tables_1_2[109]? = some (Cond.fieldLink RX9 9 RX9 (TX9 0).2.1 (TX9 0).2.2.1)))⟩
theorem fkX9_19 : zfk RX9 19 9 1 := ⟨RX9, TX9, 7, rfl, by decide, rfl, zt2 (List.mem_of_getElem? (i := 110) (rfl : tables_1_2[110]? = some (Cond.fieldLink RX9 19 RX9 (TX9 1).2.1 (TX9 1).2.2.1)))⟩
theorem fkX9_23 : zfk RX9 23 9 2 := ⟨RX9, TX9, 7, rfl, by decide, rfl, zt2 (List.mem_of_getElem? (i := 113) (rfl : tables_1_2[113]? = some (Cond.fieldLink RX9 23 RX9 (TX9 2).2.1 (TX9 2).2.2.1)))⟩
theorem fkX9_26 : zfk RX9 26 9 3 := ⟨RX9, TX9, 7, rfl, by decide, rfl, zt2 (List.mem_of_getElem? (i := 116) (rfl : tables_1_2[116]? = some (Cond.fieldLink RX9 26 RX9 (TX9 3).2.1 (TX9 3).2.2.1)))⟩
theorem fkX9_29 : zfk RX9 29 9 4 := ⟨RX9, TX9, 7, rfl, by decide, rfl, zt2 (List.mem_of_getElem? (i := 118) (rfl : tables_1_2[118]? = some (Cond.fieldLink RX9 29 RX9 (TX9 4).2.1 (TX9 4).2.2.1)))⟩
theorem fkX9_32 : zfk RX9 32 9 5 := ⟨RX9, TX9, 7, rfl, by decide, rfl, zt2 (List.mem_of_getElem? (i := 121) (rfl : tables_1_2[121]? = some (Cond.fieldLink RX9 32 RX9 (TX9 5).2.1 (TX9 5).2.2.1)))⟩
theorem fkX9_35 : zfk RX9 35 9 6 := ⟨RX9, TX9, 7, rfl, by decide, rfl, zt2 (List.mem_of_getElem? (i := 123) (rfl : tables_1_2[123]? = some (Cond.fieldLink RX9 35 RX9 (TX9 6).2.1 (TX9 6).2.2.1)))⟩
theorem fkX9_63 : zfk RX9 63 2 0 := ⟨RX2, TX2, 7, rfl, by decide, rfl, zt2 (List.mem_of_getElem? (i := 68) (rfl : tables_1_2[68]? = some (Cond.fieldLink RX9 63 RX2 (TX2 0).2.1 (TX2 0).2.2.1)))⟩
theorem fkX9_72 : zfk RX9 72 2 2 := ⟨RX2, TX2, 7, rfl, by decide, rfl, zt2 (List.mem_of_getElem? (i := 74) (rfl : tables_1_2[74]? = some (Cond.fieldLink RX9 72 RX2 (TX2 2).2.1 (TX2 2).2.2.1)))⟩
theorem fkX9_75 : zfk RX9 75 2 3 := ⟨RX2, TX2, 7, rfl, by decide, rfl, zt2 (List.mem_of_getElem? (i := 77) (rfl : tables_1_2[77]? = some (Cond.fieldLink RX9 75 RX2 (TX2 3).2.1 (TX2 3).2.2.1)))⟩
theorem fkX9_78 : zfk RX9 78 2 4 := ⟨RX2, TX2, 7, rfl, by decide, rfl, zt2 (List.mem_of_getElem? (i := 80) (rfl : tables_1_2[80]? = some (Cond.fieldLink RX9 78 RX2 (TX2 4).2.1 (TX2 4).2.2.1)))⟩
theorem fkX10_12 : zfk RX10 12 10 0 := ⟨RX10, TX10, 14, rfl, by decide, rfl, zt2 (List.mem_of_getElem? (i := 215) (rfl : tables_1_2[215]? = some (Cond.fieldLink RX10 12 RX10 (TX10 0).2.1 (TX10 0).2.2.1)))⟩
theorem fkX10_21 : zfk RX10 21 10 1 := ⟨RX10, TX10, 14, rfl, by decide, rfl, zt2 (List.mem_of_getElem? (i := 218) (rfl : tables_1_2[218]? = some (Cond.fieldLink RX10 21 RX10 (TX10 1).2.1 (TX10 1).2.2.1)))⟩
theorem fkX10_28 : zfk RX10 28 10 2 := ⟨RX10, TX10, 14, rfl, by decide, rfl, zt2 (List.mem_of_getElem? (i := 220) (rfl : tables_1_2[220]? = some (Cond.fieldLink RX10 28 RX10 (TX10 2).2.1 (TX10 2).2.2.1)))⟩
theorem fkX10_35 : zfk RX10 35 10 3 := ⟨RX10, TX10, 14, rfl, by decide, rfl, zt2 (List.mem_of_getElem? (i := 223) (rfl : tables_1_2[223]? = some (Cond.fieldLink RX10 35 RX10 (TX10 3).2.1 (TX10 3).2.2.1)))⟩
theorem fkX10_42 : zfk RX10 42 10 4 := ⟨RX10, TX10, 14, rfl, by decide, rfl, zt2 (List.mem_of_getElem? (i := 225) (rfl : tables_1_2[225]? = some (Cond.fieldLink RX10 42 RX10 (TX10 4).2.1 (TX10 4).2.2.1)))⟩
theorem fkX10_49 : zfk RX10 49 10 5 := ⟨RX10, TX10, 14, rfl, by decide, rfl, zt2 (List.mem_of_getElem? (i := 228) (rfl : tables_1_2[228]? = some (Cond.fieldLink RX10 49 RX10 (TX10 5).2.1 (TX10 5).2.2.1)))⟩
theorem fkX10_56 : zfk RX10 56 10 6 := ⟨RX10, TX10, 14, rfl, by decide, rfl, zt2 (List.mem_of_getElem? (i := 230) (rfl : tables_1_2[230]? = some (Cond.fieldLink RX10 56 RX10 (TX10 6).2.1 (TX10 6).2.2.1)))⟩
theorem fkX10_63 : zfk RX10 63 10 7 := ⟨RX10, TX10, 14, rfl, by decide, rfl, zt2 (List.mem_of_getElem? (i := 232) (rfl : tables_1_2[232]? = some (Cond.fieldLink RX10 63 RX10 (TX10 7).2.1 (TX10 7).2.2.1)))⟩
theorem fkX10_67 : zfk RX10 67 10 8 := ⟨RX10, TX10, 14, rfl, by decide, rfl, zt2 (List.mem_of_getElem? (i := 234) (rfl : tables_1_2[234]? = some (Cond.fieldLink RX10 67 RX10 (TX10 8).2.1 (TX10 8).2.2.1)))⟩
theorem fkX10_71 : zfk RX10 71 10 9 := ⟨RX10, TX10, 14, rfl, by decide, rfl, zt2 (List.mem_of_getElem? (i := 236) (rfl : tables_1_2[236]? = some (Cond.fieldLink RX10 71 RX10 (TX10 9).2.1 (TX10 9).2.2.1)))⟩
theorem fkX10_74 : zfk RX10 74 10 10 := ⟨RX10, TX10, 14, rfl, by decide, rfl, zt2 (List.mem_of_getElem? (i := 238) (rfl : tables_1_2[238]? = some (Cond.fieldLink RX10 74 RX10 (TX10 10).2.1 (TX10 10).2.2.1)))⟩
theorem fkX10_77 : zfk RX10 77 10 11 := ⟨RX10, TX10, 14, rfl, by decide, rfl, zt3 (List.mem_of_getElem? (i := 0) (rfl : tables_1_3[0]? = some (Cond.fieldLink RX10 77 RX10 (TX10 11).2.1 (TX10 11).2.2.1)))⟩
theorem fkX10_80 : zfk RX10 80 10 12 := ⟨RX10, TX10, 14, rfl, by decide, rfl, zt3 (List.mem_of_getElem? (i := 2) (rfl : tables_1_3[2]? = some (Cond.fieldLink RX10 80 RX10 (TX10 12).2.1 (TX10 12).2.2.1)))⟩
theorem fkX10_83 : zfk RX10 83 10 13 := ⟨RX10, TX10, 14, rfl, by decide, rfl, zt3 (List.mem_of_getElem? (i := 4) (rfl : tables_1_3[4]? = some (Cond.fieldLink RX10 83 RX10 (TX10 13).2.1 (TX10 13).2.2.1)))⟩
theorem fkX10_111 : zfk RX10 111 4 0 := ⟨RX4, TX4, 14, rfl, by decide, rfl, zt1 (List.mem_of_getElem? (i := 165) (rfl : tables_1_1[165]? = some (Cond.fieldLink RX10 111 RX4 (TX4 0).2.1 (TX4 0).2.2.1)))⟩
theorem fkX10_118 : zfk RX10 118 0 0 := ⟨RX0, TX0, 11, rfl, by decide, rfl, zt2 (List.mem_of_getElem? (i := 147) (rfl : tables_1_2[147]? = some (Cond.fieldLink RX10 118 RX0 (TX0 0).2.1 (TX0 0).2.2.1)))⟩
theorem fkX10_119 : zfk RX10 119 0 1 := ⟨RX0, TX0, 11, rfl, by decide, rfl, zt2 (List.mem_of_getElem? (i := 150) (rfl : tables_1_2[150]? = some (Cond.fieldLink RX10 119 RX0 (TX0 1).2.1 (TX0 1).2.2.1)))⟩
theorem fkX10_137 : zfk RX10 137 8 3 := ⟨RX8, TX8, 8, rfl, by decide, rfl, zt1 (List.mem_of_getElem? (i := 98) (rfl : tables_1_1[98]? = some (Cond.fieldLink RX10 137 RX8 (TX8 3).2.1 (TX8 3).2.2.1)))⟩
theorem fkX10_147 : zfk RX10 147 8 0 := ⟨RX8, TX8, 8, rfl, by decide, rfl, zt1 (List.mem_of_getElem? (i := 86) (rfl : tables_1_1[86]? = some (Cond.fieldLink RX10 147 RX8 (TX8 0).2.1 (TX8 0).2.2.1)))⟩
theorem fkX10_150 : zfk RX10 150 4 2 := ⟨RX4, TX4, 14, rfl, by decide, rfl, zt1 (List.mem_of_getElem? (i := 171) (rfl : tables_1_1[171]? = some (Cond.fieldLink RX10 150 RX4 (TX4 2).2.1 (TX4 2).2.2.1)))⟩
theorem fkX10_153 : zfk RX10 153 4 3 := ⟨RX4, TX4, 14, rfl, by decide, rfl, zt1 (List.mem_of_getElem? (i := 174) (rfl : tables_1_1[174]? = some (Cond.fieldLink RX10 153 RX4 (TX4 3).2.1 (TX4 3).2.2.1)))⟩
theorem fkX10_176 : zfk RX10 176 5 0 := ⟨RX5, TX5, 13, rfl, by decide, rfl, zt2 (List.mem_of_getElem? (i := 3) (rfl : tables_1_2[3]? = some (Cond.fieldLink RX10 176 RX5 (TX5 0).2.1 (TX5 0).2.2.1)))⟩
theorem fkX10_193 : zfk RX10 193 4 5 := ⟨RX4, TX4, 14, rfl, by decide, rfl, zt1 (List.mem_of_getElem? (i := 183) (rfl : tables_1_1[183]? = some (Cond.fieldLink RX10 193 RX4 (TX4 5).2.1 (TX4 5).2.2.1)))⟩
theorem fkX10_196 : zfk RX10 196 4 4 := ⟨RX4, TX4, 14, rfl, by decide, rfl, zt1 (List.mem_of_getElem? (i := 179) (rfl : tables_1_1[179]? = some (Cond.fieldLink RX10 196 RX4 (TX4 4).2.1 (TX4 4).2.2.1)))⟩
theorem fkX10_199 : zfk RX10 199 5 1 := ⟨RX5, TX5, 13, rfl, by decide, rfl, zt2 (List.mem_of_getElem? (i := 7) (rfl : tables_1_2[7]? = some (Cond.fieldLink RX10 199 RX5 (TX5 1).2.1 (TX5 1).2.2.1)))⟩
theorem fkX10_205 : zfk RX10 205 4 11 := ⟨RX4, TX4, 14, rfl, by decide, rfl, zt1 (List.mem_of_getElem? (i := 200) (rfl : tables_1_1[200]? = some (Cond.fieldLink RX10 205 RX4 (TX4 11).2.1 (TX4 11).2.2.1)))⟩
theorem fkX10_220 : zfk RX10 220 5 4 := ⟨RX5, TX5, 13, rfl, by decide, rfl, zt2 (List.mem_of_getElem? (i := 16) (rfl : tables_1_2[16]? = some (Cond.fieldLink RX10 220 RX5 (TX5 4).2.1 (TX5 4).2.2.1)))⟩
theorem fkX10_223 : zfk RX10 223 8 7 := ⟨RX8, TX8, 8, rfl, by decide, rfl, zt1 (List.mem_of_getElem? (i := 113) (rfl : tables_1_1[113]? = some (Cond.fieldLink RX10 223 RX8 (TX8 7).2.1 (TX8 7).2.2.1)))⟩
theorem fkX10_226 : zfk RX10 226 8 6 := ⟨RX8, TX8, 8, rfl, by decide, rfl, zt1 (List.mem_of_getElem? (i := 109) (rfl : tables_1_1[109]? = some (Cond.fieldLink RX10 226 RX8 (TX8 6).2.1 (TX8 6).2.2.1)))⟩
theorem fkX10_232 : zfk RX10 232 5 8 := ⟨RX5, TX5, 13, rfl, by decide, rfl, zt2 (List.mem_of_getElem? (i := 27) (rfl : tables_1_2[27]? = some (Cond.fieldLink RX10 232 RX5 (TX5 8).2.1 (TX5 8).2.2.1)))⟩
theorem fkX10_235 : zfk RX10 235 0 2 := ⟨RX0, TX0, 11, rfl, by decide, rfl, zt2 (List.mem_of_getElem? (i := 154) (rfl : tables_1_2[154]? = some (Cond.fieldLink RX10 235 RX0 (TX0 2).2.1 (TX0 2).2.2.1)))⟩
theorem fkX10_238 : zfk RX10 238 0 4 := ⟨RX0, TX0, 11, rfl, by decide, rfl, zt2 (List.mem_of_getElem? (i := 160) (rfl : tables_1_2[160]? = some (Cond.fieldLink RX10 238 RX0 (TX0 4).2.1 (TX0 4).2.2.1)))⟩
theorem fkX10_241 : zfk RX10 241 0 5 := ⟨RX0, TX0, 11, rfl, by decide, rfl, zt2 (List.mem_of_getElem? (i := 163) (rfl : tables_1_2[163]? = some (Cond.fieldLink RX10 241 RX0 (TX0 5).2.1 (TX0 5).2.2.1)))⟩
theorem fkX10_254 : zfk RX10 254 0 6 := ⟨RX0, TX0, 11, rfl, by decide, rfl, zt2 (List.mem_of_getElem? (i := 166) (rfl : tables_1_2[166]? = some (Cond.fieldLink RX10 254 RX0 (TX0 6).2.1 (TX0 6).2.2.1)))⟩
theorem fkX10_261 : zfk RX10 261 0 3 := ⟨RX0, TX0, 11, rfl, by decide, rfl, zt2 (List.mem_of_getElem? (i := 157) (rfl : tables_1_2[157]? = some (Cond.fieldLink RX10 261 RX0 (TX0 3).2.1 (TX0 3).2.2.1)))⟩
theorem fkX10_264 : zfk RX10 264 4 12 := ⟨RX4, TX4, 14, rfl, by decide, rfl, zt1 (List.mem_of_getElem? (i := 202) (rfl : tables_1_1[202]? = some (Cond.fieldLink RX10 264 RX4 (TX4 12).2.1 (TX4 12).2.2.1)))⟩
theorem fkX10_267 : zfk RX10 267 0 8 := ⟨RX0, TX0, 11, rfl, by decide, rfl, zt2 (List.mem_of_getElem? (i := 170) (rfl : tables_1_2[170]? = some (Cond.fieldLink RX10 267 RX0 (TX0 8).2.1 (TX0 8).2.2.1)))⟩
theorem fkX10_270 : zfk RX10 270 4 13 := ⟨RX4, TX4, 14, rfl, by decide, rfl, zt1 (List.mem_of_getElem? (i := 204) (rfl : tables_1_1[204]? = some (Cond.fieldLink RX10 270 RX4 (TX4 13).2.1 (TX4 13).2.2.1)))⟩
theorem fkX10_273 : zfk RX10 273 0 9 := ⟨RX0, TX0, 11, rfl, by decide, rfl, zt2 (List.mem_of_getElem? (i := 172) (rfl : tables_1_2[172]? = some (Cond.fieldLink RX10 273 RX0 (TX0 9).2.1 (TX0 9).2.2.1)))⟩
theorem fkX10_276 : zfk RX10 276 0 10 := ⟨RX0, TX0, 11, rfl, by decide, rfl, zt2 (List.mem_of_getElem? (i := 174) (rfl : tables_1_2[174]? = some (Cond.fieldLink RX10 276 RX0 (TX0 10).2.1 (TX0 10).2.2.1)))⟩
theorem fkX10_282 : zfk RX10 282 4 9 := ⟨RX4, TX4, 14, rfl, by decide, rfl, zt1 (List.mem_of_getElem? (i := 194) (rfl : tables_1_1[194]? = some (Cond.fieldLink RX10 282 RX4 (TX4 9).2.1 (TX4 9).2.2.1)))⟩
theorem fkX10_285 : zfk RX10 285 5 5 := ⟨RX5, TX5, 13, rfl, by decide, rfl, zt2 (List.mem_of_getElem? (i := 19) (rfl : tables_1_2[19]? = some (Cond.fieldLink RX10 285 RX5 (TX5 5).2.1 (TX5 5).2.2.1)))⟩
theorem fkX10_288 : zfk RX10 288 4 10 := ⟨RX4, TX4, 14, rfl, by decide, rfl, zt1 (List.mem_of_getElem? (i := 197) (rfl : tables_1_1[197]? = some (Cond.fieldLink RX10 288 RX4 (TX4 10).2.1 (TX4 10).2.2.1)))⟩
theorem fkX10_294 : zfk RX10 294 5 3 := ⟨RX5, TX5, 13, rfl, by decide, rfl, zt2 (List.mem_of_getElem? (i := 13) (rfl : tables_1_2[13]? = some (Cond.fieldLink RX10 294 RX5 (TX5 3).2.1 (TX5 3).2.2.1)))⟩
theorem fkX10_309 : zfk RX10 309 0 7 := ⟨RX0, TX0, 11, rfl, by decide, rfl, zt2 (List.mem_of_getElem? (i := 168) (rfl : tables_1_2[168]? = some (Cond.fieldLink RX10 309 RX0 (TX0 7).2.1 (TX0 7).2.2.1)))⟩
theorem fkX10_324 : zfk RX10 324 8 2 := ⟨RX8, TX8, 8, rfl, by decide, rfl, zt1 (List.mem_of_getElem? (i := 95) (rfl : tables_1_1[95]? = some (Cond.fieldLink RX10 324 RX8 (TX8 2).2.1 (TX8 2).2.2.1)))⟩
theorem fkX10_327 : zfk RX10 327 8 1 := ⟨RX8, TX8, 8, rfl, by decide, rfl, zt1 (List.mem_of_getElem? (i := 91) (rfl : tables_1_1[91]? = some (Cond.fieldLink RX10 327 RX8 (TX8 1).2.1 (TX8 1).2.2.1)))⟩
theorem fkX10_329 : zfk RX10 329 5 2 := ⟨RX5, TX5, 13, rfl, by decide, rfl, zt2 (List.mem_of_getElem? (i := 10) (rfl : tables_1_2[10]? = some (Cond.fieldLink RX10 329 RX5 (TX5 2).2.1 (TX5 2).2.2.1)))⟩
theorem fkX10_335 : zfk RX10 335 4 7 := ⟨RX4, TX4, 14, rfl, by decide, rfl, zt1 (List.mem_of_getElem? (i := 188) (rfl : tables_1_1[188]? = some (Cond.fieldLink RX10 335 RX4 (TX4 7).2.1 (TX4 7).2.2.1)))⟩
theorem fkX10_338 : zfk RX10 338 5 7 := ⟨RX5, TX5, 13, rfl, by decide, rfl, zt2 (List.mem_of_getElem? (i := 24) (rfl : tables_1_2[24]? = some (Cond.fieldLink RX10 338 RX5 (TX5 7).2.1 (TX5 7).2.2.1)))⟩
theorem fkX10_341 : zfk RX10 341 5 6 := ⟨RX5, TX5, 13, rfl, by decide, rfl, zt2 (List.mem_of_getElem? (i := 22) (rfl : tables_1_2[22]? = some (Cond.fieldLink RX10 341 RX5 (TX5 6).2.1 (TX5 6).2.2.1)))⟩
theorem fkX10_344 : zfk RX10 344 4 8 := ⟨RX4, TX4, 14, rfl, by decide, rfl, zt1 (List.mem_of_getElem? (i := 191) (rfl : tables_1_1[191]? = some (Cond.fieldLink RX10 344 RX4 (TX4 8).2.1 (TX4 8).2.2.1)))⟩
theorem fkX10_347 : zfk RX10 347 9 6 := ⟨RX9, TX9, 7, rfl, by decide, rfl, zt2 (List.mem_of_getElem? (i := 124) (rfl : tables_1_2[124]? = some (Cond.fieldLink RX10 347 RX9 (TX9 6).2.1 (TX9 6).2.2.1)))⟩
theorem fkX10_350 : zfk RX10 350 9 5 := ⟨RX9, TX9, 7, rfl, by decide, rfl, zt2 (List.mem_of_getElem? (i := 122) (rfl : tables_1_2[122]? = some (Cond.fieldLink RX10 350 RX9 (TX9 5).2.1 (TX9 5).2.2.1)))⟩
theorem fkX10_353 : zfk RX10 353 9 3 := ⟨RX9, TX9, 7, rfl, by decide, rfl, zt2 (List.mem_of_getElem? (i := 117) (rfl : tables_1_2[117]? = some (Cond.fieldLink RX10 353 RX9 (TX9 3).2.1 (TX9 3).2.2.1)))⟩
theorem fkX10_356 : zfk RX10 356 9 2 := ⟨RX9, TX9, 7, rfl, by decide, rfl, zt2 (List.mem_of_getElem? (i := 115) (rfl : tables_1_2[115]? = some (Cond.fieldLink RX10 356 RX9 (TX9 2).2.1 (TX9 2).2.2.1)))⟩
theorem fkX10_359 : zfk RX10 359 9 4 := ⟨RX9, TX9, 7, rfl, by decide, rfl, zt2 (List.mem_of_getElem? (i := 120) (rfl : tables_1_2[120]? = some (Cond.fieldLink RX10 359 RX9 (TX9 4).2.1 (TX9 4).2.2.1)))⟩
theorem fkX10_381 : zfk RX10 381 1 1 := ⟨RX1, TX1, 2, rfl, by decide, rfl, zt1 (List.mem_of_getElem? (i := 141) (rfl : tables_1_1[141]? = some (Cond.fieldLink RX10 381 RX1 (TX1 1).2.1 (TX1 1).2.2.1)))⟩
theorem fkX10_384 : zfk RX10 384 2 5 := ⟨RX2, TX2, 7, rfl, by decide, rfl, zt2 (List.mem_of_getElem? (i := 84) (rfl : tables_1_2[84]? = some (Cond.fieldLink RX10 384 RX2 (TX2 5).2.1 (TX2 5).2.2.1)))⟩
theorem fkX10_387 : zfk RX10 387 9 1 := ⟨RX9, TX9, 7, rfl, by decide, rfl, zt2 (List.mem_of_getElem? (i := 112) (rfl : tables_1_2[112]? = some (Cond.fieldLink RX10 387 RX9 (TX9 1).2.1 (TX9 1).2.2.1)))⟩
theorem fkX12_3 : zfk RX12 3 12 0 := ⟨RX12, TX12, 19, rfl, by decide, rfl, zt7 (List.mem_of_getElem? (i := 47) (rfl : tables_1_7[47]? = some (Cond.fieldLink RX12 3 RX12 (TX12 0).2.1 (TX12 0).2.2.1)))⟩
theorem fkX12_13 : zfk RX12 13 12 1 := ⟨RX12, TX12, 19, rfl, by decide, rfl, zt7 (List.mem_of_getElem? (i := 48) (rfl : tables_1_7[48]? = some (Cond.fieldLink RX12 13 RX12 (TX12 1).2.1 (TX12 1).2.2.1)))⟩
theorem fkX12_17 : zfk RX12 17 12 2 := ⟨RX12, TX12, 19, rfl, by decide, rfl, zt7 (List.mem_of_getElem? (i := 49) (rfl : tables_1_7[49]? = some (Cond.fieldLink RX12 17 RX12 (TX12 2).2.1 (TX12 2).2.2.1)))⟩
theorem fkX12_20 : zfk RX12 20 12 3 := ⟨RX12, TX12, 19, rfl, by decide, rfl, zt7 (List.mem_of_getElem? (i := 50) (rfl : tables_1_7[50]? = some (Cond.fieldLink RX12 20 RX12 (TX12 3).2.1 (TX12 3).2.2.1)))⟩
theorem fkX12_23 : zfk RX12 23 12 4 := ⟨RX12, TX12, 19, rfl, by decide, rfl, zt7 (List.mem_of_getElem? (i := 51) (rfl : tables_1_7[51]? = some (Cond.fieldLink RX12 23 RX12 (TX12 4).2.1 (TX12 4).2.2.1)))⟩
theorem fkX12_26 : zfk RX12 26 12 6 := ⟨RX12, TX12, 19, rfl, by decide, rfl, zt7 (List.mem_of_getElem? (i := 53) (rfl : tables_1_7[53]? = some (Cond.fieldLink RX12 26 RX12 (TX12 6).2.1 (TX12 6).2.2.1)))⟩
theorem fkX12_30 : zfk RX12 30 12 11 := ⟨RX12, TX12, 19, rfl, by decide, rfl, zt7 (List.mem_of_getElem? (i := 58) (rfl : tables_1_7[58]? = some (Cond.fieldLink RX12 30 RX12 (TX12 11).2.1 (TX12 11).2.2.1)))⟩
theorem fkX12_33 : zfk RX12 33 12 12 := ⟨RX12, TX12, 19, rfl, by decide, rfl, zt7 (List.mem_of_getElem? (i := 59) (rfl : tables_1_7[59]? = some (Cond.fieldLink RX12 33 RX12 (TX12 12).2.1 (TX12 12).2.2.1)))⟩
theorem fkX12_36 : zfk RX12 36 12 13 := ⟨RX12, TX12, 19, rfl, by decide, rfl, zt7 (List.mem_of_getElem? (i := 60) (rfl : tables_1_7[60]? = some (Cond.fieldLink RX12 36 RX12 (TX12 13).2.1 (TX12 13).2.2.1)))⟩
theorem fkX12_39 : zfk RX12 39 12 14 := ⟨RX12, TX12, 19, rfl, by decide, rfl, zt7 (List.mem_of_getElem? (i := 61) (rfl : tables_1_7[61]? = some (Cond.fieldLink RX12 39 RX12 (TX12 14).2.1 (TX12 14).2.2.1)))⟩
theorem fkX12_42 : zfk RX12 42 12 15 := ⟨RX12, TX12, 19, rfl, by decide, rfl, zt7 (List.mem_of_getElem? (i := 62) (rfl : tables_1_7[62]? = some (Cond.fieldLink RX12 42 RX12 (TX12 15).2.1 (TX12 15).2.2.1)))⟩
theorem fkX12_45 : zfk RX12 45 12 17 := ⟨RX12, TX12, 19, rfl, by decide, rfl, zt7 (List.mem_of_getElem? (i := 64) (rfl : tables_1_7[64]? = some (Cond.fieldLink RX12 45 RX12 (TX12 17).2.1 (TX12 17).2.2.1)))⟩
theorem fkX12_49 : zfk RX12 49 12 18 := ⟨RX12, TX12, 19, rfl, by decide, rfl, zt7 (List.mem_of_getElem? (i := 65) (rfl : tables_1_7[65]? = some (Cond.fieldLink RX12 49 RX12 (TX12 18).2.1 (TX12 18).2.2.1)))⟩
theorem fkX12_52 : zfk RX12 52 12 5 := ⟨RX12, TX12, 19, rfl, by decide, rfl, zt7 (List.mem_of_getElem? (i := 52) (rfl : tables_1_7[52]? = some (Cond.fieldLink RX12 52 RX12 (TX12 5).2.1 (TX12 5).2.2.1)))⟩
theorem fkX12_86 : zfk RX12 86 12 7 := ⟨RX12, TX12, 19, rfl, by decide, rfl, zt7 (List.mem_of_getElem? (i := 54) (rfl : tables_1_7[54]? = some (Cond.fieldLink RX12 86 RX12 (TX12 7).2.1 (TX12 7).2.2.1)))⟩
theorem fkX12_89 : zfk RX12 89 12 8 := ⟨RX12, TX12, 19, rfl, by decide, rfl, zt7 (List.mem_of_getElem? (i := 55) (rfl : tables_1_7[55]? = some (Cond.fieldLink RX12 89 RX12 (TX12 8).2.1 (TX12 8).2.2.1)))⟩
theorem fkX12_92 : zfk RX12 92 12 9 := ⟨RX12, TX12, 19, rfl, by decide, rfl, zt7 (List.mem_of_getElem? (i := 56) (rfl : tables_1_7[56]? = some (Cond.fieldLink RX12 92 RX12 (TX12 9).2.1 (TX12 9).2.2.1)))⟩
theorem fkX12_98 : zfk RX12 98 12 10 := ⟨RX12, TX12, 19, rfl, by decide, rfl, zt7 (List.mem_of_getElem? (i := 57) (rfl : tables_1_7[57]? = some (Cond.fieldLink RX12 98 RX12 (TX12 10).2.1 (TX12 10).2.2.1)))⟩
theorem fkX12_220 : zfk RX12 220 12 16 := ⟨RX12, TX12, 19, rfl, by decide, rfl, zt7 (List.mem_of_getElem? (i := 63) (rfl : tables_1_7[63]? = some (Cond.fieldLink RX12 220 RX12 (TX12 16).2.1 (TX12 16).2.2.1)))⟩
theorem lkX11_18 : Cond.methodLink RX11 18 yX6_init ∈ lw_tbl := zt1 (List.mem_of_getElem? (i := 56) (rfl : tables_1_1[56]? = some (Cond.methodLink RX11 18 yX6_init)))
theorem lkX11_46 : Cond.methodLink RX11 46 yX7_hasRoom ∈ lw_tbl := zt3 (List.mem_of_getElem? (i := 61) (rfl : tables_1_3[61]? = some (Cond.methodLink RX11 46 yX7_hasRoom)))
theorem lkX11_50 : Cond.methodLink RX11 50 yX7_put ∈ lw_tbl := zt3 (List.mem_of_getElem? (i := 65) (rfl : tables_1_3[65]? = some (Cond.methodLink RX11 50 yX7_put)))
theorem lkX11_57 : Cond.methodLink RX11 57 yX10_copy ∈ lw_tbl := zt3 (List.mem_of_getElem? (i := 85) (rfl : tables_1_3[85]? = some (Cond.methodLink RX11 57 yX10_copy)))
theorem lkX11_61 : Cond.methodLink RX11 61 yX6_read ∈ lw_tbl := zt4 (List.mem_of_getElem? (i := 140) (rfl : tables_1_4[140]? = some (Cond.methodLink RX11 61 yX6_read)))
theorem lkX11_80 : Cond.methodLink RX11 80 yX10_findWays ∈ lw_tbl := zt5 (List.mem_of_getElem? (i := 119) (rfl : tables_1_5[119]? = some (Cond.methodLink RX11 80 yX10_findWays)))
theorem lkX11_83 : Cond.methodLink RX11 83 yX11_checkNode ∈ lw_tbl := zt5 (List.mem_of_getElem? (i := 155) (rfl : tables_1_5[155]? = some (Cond.methodLink RX11 83 yX11_checkNode)))
theorem lkX11_90 : Cond.methodLink RX11 90 yX4_isUp ∈ lw_tbl := zt5 (List.mem_of_getElem? (i := 175) (rfl : tables_1_5[175]? = some (Cond.methodLink RX11 90 yX4_isUp)))
theorem lkX11_103 : Cond.methodLink RX11 103 yX4_missing ∈ lw_tbl := zt5 (List.mem_of_getElem? (i := 176) (rfl : tables_1_5[176]? = some (Cond.methodLink RX11 103 yX4_missing)))
theorem lkX11_138 : Cond.methodLink RX11 138 yX11_pair ∈ lw_tbl := zt5 (List.mem_of_getElem? (i := 201) (rfl : tables_1_5[201]? = some (Cond.methodLink RX11 138 yX11_pair)))
theorem lkX11_142 : Cond.methodLink RX11 142 yX11_checkPacket ∈ lw_tbl := zt5 (List.mem_of_getElem? (i := 209) (rfl : tables_1_5[209]? = some (Cond.methodLink RX11 142 yX11_checkPacket)))
theorem lkX11_149 : Cond.methodLink RX11 149 yX11_cell ∈ lw_tbl := zt5 (List.mem_of_getElem? (i := 213) (rfl : tables_1_5[213]? = some (Cond.methodLink RX11 149 yX11_cell)))
theorem lkX11_180 : Cond.methodLink RX11 180 yX5_gapBehind ∈ lw_tbl := zt5 (List.mem_of_getElem? (i := 222) (rfl : tables_1_5[222]? = some (Cond.methodLink RX11 180 yX5_gapBehind)))
theorem lkX11_183 : Cond.methodLink RX11 183 yX11_checkLink ∈ lw_tbl := zt5 (List.mem_of_getElem? (i := 233) (rfl : tables_1_5[233]? = some (Cond.methodLink RX11 183 yX11_checkLink)))
theorem lkX11_204 : Cond.methodLink RX11 204 yX2_isCut ∈ lw_tbl := zt5 (List.mem_of_getElem? (i := 238) (rfl : tables_1_5[238]? = some (Cond.methodLink RX11 204 yX2_isCut)))
theorem lkX11_249 : Cond.methodLink RX11 249 yX10_step ∈ lw_tbl := zt3 (List.mem_of_getElem? (i := 149) (rfl : tables_1_3[149]? = some (Cond.methodLink RX11 249 yX10_step)))
theorem lkX11_252 : Cond.methodLink RX11 252 yX10_canSend ∈ lw_tbl := zt6 (List.mem_of_getElem? (i := 25) (rfl : tables_1_6[25]? = some (Cond.methodLink RX11 252 yX10_canSend)))
theorem lkX11_260 : Cond.methodLink RX11 260 yX10_sendNext ∈ lw_tbl := zt6 (List.mem_of_getElem? (i := 42) (rfl : tables_1_6[42]? = some (Cond.methodLink RX11 260 yX10_sendNext)))
theorem lkX11_276 : Cond.methodLink RX11 276 yX4_hasPacket ∈ lw_tbl := zt6 (List.mem_of_getElem? (i := 73) (rfl : tables_1_6[73]? = some (Cond.methodLink RX11 276 yX4_hasPacket)))
theorem lkX11_280 : Cond.methodLink RX11 280 yX10_handOver ∈ lw_tbl := zt6 (List.mem_of_getElem? (i := 74) (rfl : tables_1_6[74]? = some (Cond.methodLink RX11 280 yX10_handOver)))
theorem lkX11_284 : Cond.methodLink RX11 284 yX10_takeAway ∈ lw_tbl := zt6 (List.mem_of_getElem? (i := 78) (rfl : tables_1_6[78]? = some (Cond.methodLink RX11 284 yX10_takeAway)))
theorem lkX11_301 : Cond.methodLink RX11 301 yX10_askWindow ∈ lw_tbl := zt6 (List.mem_of_getElem? (i := 103) (rfl : tables_1_6[103]? = some (Cond.methodLink RX11 301 yX10_askWindow)))
theorem lkX11_305 : Cond.methodLink RX11 305 yX4_holdersOf ∈ lw_tbl := zt6 (List.mem_of_getElem? (i := 114) (rfl : tables_1_6[114]? = some (Cond.methodLink RX11 305 yX4_holdersOf)))
theorem lkX11_308 : Cond.methodLink RX11 308 yX9_nearest ∈ lw_tbl := zt6 (List.mem_of_getElem? (i := 120) (rfl : tables_1_6[120]? = some (Cond.methodLink RX11 308 yX9_nearest)))
theorem lkX11_311 : Cond.methodLink RX11 311 yX11_checkScope ∈ lw_tbl := zt6 (List.mem_of_getElem? (i := 132) (rfl : tables_1_6[132]? = some (Cond.methodLink RX11 311 yX11_checkScope)))
theorem lkX11_314 : Cond.methodLink RX11 314 yX9_within ∈ lw_tbl := zt6 (List.mem_of_getElem? (i := 136) (rfl : tables_1_6[136]? = some (Cond.methodLink RX11 314 yX9_within)))
theorem lkX11_317 : Cond.methodLink RX11 317 yX11_lookAhead ∈ lw_tbl := zt3 (List.mem_of_getElem? (i := 81) (rfl : tables_1_3[81]? = some (Cond.methodLink RX11 317 yX11_lookAhead)))
theorem lkX11_321 : Cond.methodLink RX11 321 yX10_isWhole ∈ lw_tbl := zt3 (List.mem_of_getElem? (i := 135) (rfl : tables_1_3[135]? = some (Cond.methodLink RX11 321 yX10_isWhole)))
theorem lkX11_326 : Cond.methodLink RX11 326 yX4_allRepairs ∈ lw_tbl := zt6 (List.mem_of_getElem? (i := 155) (rfl : tables_1_6[155]? = some (Cond.methodLink RX11 326 yX4_allRepairs)))
theorem lkX11_330 : Cond.methodLink RX11 330 yX4_allRequests ∈ lw_tbl := zt6 (List.mem_of_getElem? (i := 163) (rfl : tables_1_6[163]? = some (Cond.methodLink RX11 330 yX4_allRequests)))
theorem lkX11_333 : Cond.methodLink RX11 333 yX2_bridges ∈ lw_tbl := zt4 (List.mem_of_getElem? (i := 89) (rfl : tables_1_4[89]? = some (Cond.methodLink RX11 333 yX2_bridges)))
theorem lkX11_337 : Cond.methodLink RX11 337 yX11_isIn ∈ lw_tbl := zt6 (List.mem_of_getElem? (i := 174) (rfl : tables_1_6[174]? = some (Cond.methodLink RX11 337 yX11_isIn)))
theorem lkX11_343 : Cond.methodLink RX11 343 yX9_linksWithin ∈ lw_tbl := zt6 (List.mem_of_getElem? (i := 196) (rfl : tables_1_6[196]? = some (Cond.methodLink RX11 343 yX9_linksWithin)))
theorem lkX11_346 : Cond.methodLink RX11 346 yX9_middle ∈ lw_tbl := zt4 (List.mem_of_getElem? (i := 106) (rfl : tables_1_4[106]? = some (Cond.methodLink RX11 346 yX9_middle)))
theorem lkX11_350 : Cond.methodLink RX11 350 yX11_bitsBelow ∈ lw_tbl := zt6 (List.mem_of_getElem? (i := 214) (rfl : tables_1_6[214]? = some (Cond.methodLink RX11 350 yX11_bitsBelow)))
theorem lkX11_353 : Cond.methodLink RX11 353 yX2_fewestAround ∈ lw_tbl := zt6 (List.mem_of_getElem? (i := 222) (rfl : tables_1_6[222]? = some (Cond.methodLink RX11 353 yX2_fewestAround)))
theorem lkX11_358 : Cond.methodLink RX11 358 yJ7_fill_53178 ∈ lw_tbl := zt1 (List.mem_of_getElem? (i := 160) (rfl : tables_1_1[160]? = some (Cond.methodLink RX11 358 yJ7_fill_53178)))
theorem lkX11_364 : Cond.methodLink RX11 364 yX9_fewestCovering ∈ lw_tbl := zt7 (List.mem_of_getElem? (i := 7) (rfl : tables_1_7[7]? = some (Cond.methodLink RX11 364 yX9_fewestCovering)))
theorem lkX11_375 : Cond.methodLink RX11 375 yX3_told ∈ lw_tbl := zt7 (List.mem_of_getElem? (i := 33) (rfl : tables_1_7[33]? = some (Cond.methodLink RX11 375 yX3_told)))
theorem lkX11_436 : Cond.methodLink RX11 436 yJ9_min_7cf53 ∈ lw_tbl := zt3 (List.mem_of_getElem? (i := 104) (rfl : tables_1_3[104]? = some (Cond.methodLink RX11 436 yJ9_min_7cf53)))
theorem lkX11_447 : Cond.methodLink RX11 447 yJ9_max_7cf53 ∈ lw_tbl := zt1 (List.mem_of_getElem? (i := 157) (rfl : tables_1_1[157]? = some (Cond.methodLink RX11 447 yJ9_max_7cf53)))
theorem lkX0_50 : Cond.methodLink RX0 50 yX0_move ∈ lw_tbl := zt4 (List.mem_of_getElem? (i := 27) (rfl : tables_1_4[27]? = some (Cond.methodLink RX0 50 yX0_move)))
theorem lkX2_42 : Cond.methodLink RX2 42 yJ9_min_7cf53 ∈ lw_tbl := zt4 (List.mem_of_getElem? (i := 52) (rfl : tables_1_4[52]? = some (Cond.methodLink RX2 42 yJ9_min_7cf53)))
theorem lkX2_48 : Cond.methodLink RX2 48 yX2_isCut ∈ lw_tbl := zt4 (List.mem_of_getElem? (i := 93) (rfl : tables_1_4[93]? = some (Cond.methodLink RX2 48 yX2_isCut)))
theorem lkX2_52 : Cond.methodLink RX2 52 yX2_joined ∈ lw_tbl := zt4 (List.mem_of_getElem? (i := 98) (rfl : tables_1_4[98]? = some (Cond.methodLink RX2 52 yX2_joined)))
theorem lkX2_55 : Cond.methodLink RX2 55 yJ6_bitCount_0f7a4 ∈ lw_tbl := zt6 (List.mem_of_getElem? (i := 226) (rfl : tables_1_6[226]? = some (Cond.methodLink RX2 55 yJ6_bitCount_0f7a4)))
theorem lkX3_26 : Cond.methodLink RX3 26 yJ9_min_7cf53 ∈ lw_tbl := zt3 (List.mem_of_getElem? (i := 192) (rfl : tables_1_3[192]? = some (Cond.methodLink RX3 26 yJ9_min_7cf53)))
theorem lkX4_59 : Cond.methodLink RX4 59 yJ7_fill_53178 ∈ lw_tbl := zt1 (List.mem_of_getElem? (i := 163) (rfl : tables_1_1[163]? = some (Cond.methodLink RX4 59 yJ7_fill_53178)))
theorem lkX4_77 : Cond.methodLink RX4 77 yX4_isUp ∈ lw_tbl := zt6 (List.mem_of_getElem? (i := 118) (rfl : tables_1_6[118]? = some (Cond.methodLink RX4 77 yX4_isUp)))
theorem lkX4_81 : Cond.methodLink RX4 81 yX4_hasPacket ∈ lw_tbl := zt6 (List.mem_of_getElem? (i := 119) (rfl : tables_1_6[119]? = some (Cond.methodLink RX4 81 yX4_hasPacket)))
theorem lkX4_84 : Cond.methodLink RX4 84 yX4_sum ∈ lw_tbl := zt6 (List.mem_of_getElem? (i := 159) (rfl : tables_1_6[159]? = some (Cond.methodLink RX4 84 yX4_sum)))
theorem lkX4_88 : Cond.methodLink RX4 88 yJ9_floorDiv_7cf53 ∈ lw_tbl := zt3 (List.mem_of_getElem? (i := 197) (rfl : tables_1_3[197]? = some (Cond.methodLink RX4 88 yJ9_floorDiv_7cf53)))
theorem lkX4_94 : Cond.methodLink RX4 94 yJ9_min_7cf53 ∈ lw_tbl := zt3 (List.mem_of_getElem? (i := 200) (rfl : tables_1_3[200]? = some (Cond.methodLink RX4 94 yJ9_min_7cf53)))
theorem lkX4_97 : Cond.methodLink RX4 97 yJ9_max_7cf53 ∈ lw_tbl := zt3 (List.mem_of_getElem? (i := 201) (rfl : tables_1_3[201]? = some (Cond.methodLink RX4 97 yJ9_max_7cf53)))
theorem lkX5_59 : Cond.methodLink RX5 59 yJ9_min_7cf53 ∈ lw_tbl := zt4 (List.mem_of_getElem? (i := 22) (rfl : tables_1_4[22]? = some (Cond.methodLink RX5 59 yJ9_min_7cf53)))
theorem lkX5_65 : Cond.methodLink RX5 65 yX5_beginAnswer ∈ lw_tbl := zt3 (List.mem_of_getElem? (i := 206) (rfl : tables_1_3[206]? = some (Cond.methodLink RX5 65 yX5_beginAnswer)))
theorem lkX6_25 : Cond.methodLink RX6 25 yX6_skipBlanks ∈ lw_tbl := zt4 (List.mem_of_getElem? (i := 144) (rfl : tables_1_4[144]? = some (Cond.methodLink RX6 25 yX6_skipBlanks)))
theorem lkX6_33 : Cond.methodLink RX6 33 yX6_readLine ∈ lw_tbl := zt4 (List.mem_of_getElem? (i := 152) (rfl : tables_1_4[152]? = some (Cond.methodLink RX6 33 yX6_readLine)))
theorem lkX6_37 : Cond.methodLink RX6 37 yX7_byteAt ∈ lw_tbl := zt4 (List.mem_of_getElem? (i := 148) (rfl : tables_1_4[148]? = some (Cond.methodLink RX6 37 yX7_byteAt)))
theorem lkX6_41 : Cond.methodLink RX6 41 yX6_takeWord ∈ lw_tbl := zt4 (List.mem_of_getElem? (i := 156) (rfl : tables_1_4[156]? = some (Cond.methodLink RX6 41 yX6_takeWord)))
theorem lkX6_46 : Cond.methodLink RX6 46 yX6_isWord ∈ lw_tbl := zt4 (List.mem_of_getElem? (i := 164) (rfl : tables_1_4[164]? = some (Cond.methodLink RX6 46 yX6_isWord)))
theorem lkX6_50 : Cond.methodLink RX6 50 yX6_readNode ∈ lw_tbl := zt4 (List.mem_of_getElem? (i := 216) (rfl : tables_1_4[216]? = some (Cond.methodLink RX6 50 yX6_readNode)))
theorem lkX6_55 : Cond.methodLink RX6 55 yX6_readLink ∈ lw_tbl := zt4 (List.mem_of_getElem? (i := 234) (rfl : tables_1_4[234]? = some (Cond.methodLink RX6 55 yX6_readLink)))
theorem lkX6_60 : Cond.methodLink RX6 60 yX6_readRequest ∈ lw_tbl := zt5 (List.mem_of_getElem? (i := 16) (rfl : tables_1_5[16]? = some (Cond.methodLink RX6 60 yX6_readRequest)))
theorem lkX6_71 : Cond.methodLink RX6 71 yX6_readRepair ∈ lw_tbl := zt5 (List.mem_of_getElem? (i := 22) (rfl : tables_1_5[22]? = some (Cond.methodLink RX6 71 yX6_readRepair)))
theorem lkX6_75 : Cond.methodLink RX6 75 yX6_readNumber ∈ lw_tbl := zt5 (List.mem_of_getElem? (i := 26) (rfl : tables_1_5[26]? = some (Cond.methodLink RX6 75 yX6_readNumber)))
theorem lkX6_87 : Cond.methodLink RX6 87 yX6_fail ∈ lw_tbl := zt4 (List.mem_of_getElem? (i := 220) (rfl : tables_1_4[220]? = some (Cond.methodLink RX6 87 yX6_fail)))
theorem lkX6_91 : Cond.methodLink RX6 91 yX6_isLetter ∈ lw_tbl := zt4 (List.mem_of_getElem? (i := 160) (rfl : tables_1_4[160]? = some (Cond.methodLink RX6 91 yX6_isLetter)))
theorem lkX6_97 : Cond.methodLink RX6 97 yX6_takeThisWord ∈ lw_tbl := zt4 (List.mem_of_getElem? (i := 225) (rfl : tables_1_4[225]? = some (Cond.methodLink RX6 97 yX6_takeThisWord)))
theorem lkX6_108 : Cond.methodLink RX6 108 yX4_add ∈ lw_tbl := zt4 (List.mem_of_getElem? (i := 229) (rfl : tables_1_4[229]? = some (Cond.methodLink RX6 108 yX4_add)))
theorem lkX6_119 : Cond.methodLink RX6 119 yX6_takeNumber ∈ lw_tbl := zt4 (List.mem_of_getElem? (i := 238) (rfl : tables_1_4[238]? = some (Cond.methodLink RX6 119 yX6_takeNumber)))
theorem lkX6_123 : Cond.methodLink RX6 123 yX2_between ∈ lw_tbl := zt5 (List.mem_of_getElem? (i := 5) (rfl : tables_1_5[5]? = some (Cond.methodLink RX6 123 yX2_between)))
theorem lkX6_130 : Cond.methodLink RX6 130 yX2_add ∈ lw_tbl := zt5 (List.mem_of_getElem? (i := 11) (rfl : tables_1_5[11]? = some (Cond.methodLink RX6 130 yX2_add)))
theorem lkX6_136 : Cond.methodLink RX6 136 yJ7_fill_53178 ∈ lw_tbl := zt5 (List.mem_of_getElem? (i := 20) (rfl : tables_1_5[20]? = some (Cond.methodLink RX6 136 yJ7_fill_53178)))
theorem lkX6_167 : Cond.methodLink RX6 167 yX6_isDigit ∈ lw_tbl := zt5 (List.mem_of_getElem? (i := 2) (rfl : tables_1_5[2]? = some (Cond.methodLink RX6 167 yX6_isDigit)))
theorem lkX6_170 : Cond.methodLink RX6 170 yJ0_length_8abf5 ∈ lw_tbl := zt4 (List.mem_of_getElem? (i := 168) (rfl : tables_1_4[168]? = some (Cond.methodLink RX6 170 yJ0_length_8abf5)))
theorem lkX6_175 : Cond.methodLink RX6 175 yJ0_charAt_5068e ∈ lw_tbl := zt4 (List.mem_of_getElem? (i := 178) (rfl : tables_1_4[178]? = some (Cond.methodLink RX6 175 yJ0_charAt_5068e)))
theorem lkX9_42 : Cond.methodLink RX9 42 yJ7_fill_53178 ∈ lw_tbl := zt5 (List.mem_of_getElem? (i := 127) (rfl : tables_1_5[127]? = some (Cond.methodLink RX9 42 yJ7_fill_53178)))
theorem lkX9_48 : Cond.methodLink RX9 48 yX9_measure ∈ lw_tbl := zt5 (List.mem_of_getElem? (i := 128) (rfl : tables_1_5[128]? = some (Cond.methodLink RX9 48 yX9_measure)))
theorem lkX9_52 : Cond.methodLink RX9 52 yX9_sort ∈ lw_tbl := zt5 (List.mem_of_getElem? (i := 137) (rfl : tables_1_5[137]? = some (Cond.methodLink RX9 52 yX9_sort)))
theorem lkX9_56 : Cond.methodLink RX9 56 yX9_hang ∈ lw_tbl := zt5 (List.mem_of_getElem? (i := 141) (rfl : tables_1_5[141]? = some (Cond.methodLink RX9 56 yX9_hang)))
theorem lkX9_68 : Cond.methodLink RX9 68 yX2_isCut ∈ lw_tbl := zt5 (List.mem_of_getElem? (i := 132) (rfl : tables_1_5[132]? = some (Cond.methodLink RX9 68 yX2_isCut)))
theorem lkX9_81 : Cond.methodLink RX9 81 yX9_shorten ∈ lw_tbl := zt5 (List.mem_of_getElem? (i := 133) (rfl : tables_1_5[133]? = some (Cond.methodLink RX9 81 yX9_shorten)))
theorem lkX9_85 : Cond.methodLink RX9 85 yX2_between ∈ lw_tbl := zt5 (List.mem_of_getElem? (i := 145) (rfl : tables_1_5[145]? = some (Cond.methodLink RX9 85 yX2_between)))
theorem lkX9_92 : Cond.methodLink RX9 92 yX9_longest ∈ lw_tbl := zt4 (List.mem_of_getElem? (i := 110) (rfl : tables_1_4[110]? = some (Cond.methodLink RX9 92 yX9_longest)))
theorem lkX9_99 : Cond.methodLink RX9 99 yJ6_bitCount_0f7a4 ∈ lw_tbl := zt7 (List.mem_of_getElem? (i := 12) (rfl : tables_1_7[12]? = some (Cond.methodLink RX9 99 yJ6_bitCount_0f7a4)))
theorem lkX9_104 : Cond.methodLink RX9 104 yX9_covered ∈ lw_tbl := zt7 (List.mem_of_getElem? (i := 13) (rfl : tables_1_7[13]? = some (Cond.methodLink RX9 104 yX9_covered)))
theorem lkX9_107 : Cond.methodLink RX9 107 yX9_within ∈ lw_tbl := zt7 (List.mem_of_getElem? (i := 17) (rfl : tables_1_7[17]? = some (Cond.methodLink RX9 107 yX9_within)))
theorem lkX10_27 : Cond.methodLink RX10 27 yX4_init ∈ lw_tbl := zt1 (List.mem_of_getElem? (i := 150) (rfl : tables_1_1[150]? = some (Cond.methodLink RX10 27 yX4_init)))
theorem lkX10_86 : Cond.methodLink RX10 86 yX8_copy ∈ lw_tbl := zt3 (List.mem_of_getElem? (i := 89) (rfl : tables_1_3[89]? = some (Cond.methodLink RX10 86 yX8_copy)))
theorem lkX10_90 : Cond.methodLink RX10 90 yX1_copy ∈ lw_tbl := zt3 (List.mem_of_getElem? (i := 93) (rfl : tables_1_3[93]? = some (Cond.methodLink RX10 90 yX1_copy)))
theorem lkX10_93 : Cond.methodLink RX10 93 yX4_copy ∈ lw_tbl := zt3 (List.mem_of_getElem? (i := 97) (rfl : tables_1_3[97]? = some (Cond.methodLink RX10 93 yX4_copy)))
theorem lkX10_96 : Cond.methodLink RX10 96 yX5_copy ∈ lw_tbl := zt3 (List.mem_of_getElem? (i := 110) (rfl : tables_1_3[110]? = some (Cond.methodLink RX10 96 yX5_copy)))
theorem lkX10_99 : Cond.methodLink RX10 99 yX2_copy ∈ lw_tbl := zt3 (List.mem_of_getElem? (i := 115) (rfl : tables_1_3[115]? = some (Cond.methodLink RX10 99 yX2_copy)))
theorem lkX10_102 : Cond.methodLink RX10 102 yX9_copy ∈ lw_tbl := zt3 (List.mem_of_getElem? (i := 120) (rfl : tables_1_3[120]? = some (Cond.methodLink RX10 102 yX9_copy)))
theorem lkX10_105 : Cond.methodLink RX10 105 yX0_copy ∈ lw_tbl := zt3 (List.mem_of_getElem? (i := 125) (rfl : tables_1_3[125]? = some (Cond.methodLink RX10 105 yX0_copy)))
theorem lkX10_108 : Cond.methodLink RX10 108 yX3_copy ∈ lw_tbl := zt3 (List.mem_of_getElem? (i := 130) (rfl : tables_1_3[130]? = some (Cond.methodLink RX10 108 yX3_copy)))
theorem lkX10_114 : Cond.methodLink RX10 114 yX9_find ∈ lw_tbl := zt5 (List.mem_of_getElem? (i := 123) (rfl : tables_1_5[123]? = some (Cond.methodLink RX10 114 yX9_find)))
theorem lkX10_123 : Cond.methodLink RX10 123 yX10_hear ∈ lw_tbl := zt3 (List.mem_of_getElem? (i := 153) (rfl : tables_1_3[153]? = some (Cond.methodLink RX10 123 yX10_hear)))
theorem lkX10_127 : Cond.methodLink RX10 127 yX0_dropDue ∈ lw_tbl := zt4 (List.mem_of_getElem? (i := 23) (rfl : tables_1_4[23]? = some (Cond.methodLink RX10 127 yX0_dropDue)))
theorem lkX10_130 : Cond.methodLink RX10 130 yX4_isUp ∈ lw_tbl := zt3 (List.mem_of_getElem? (i := 142) (rfl : tables_1_3[142]? = some (Cond.methodLink RX10 130 yX4_isUp)))
theorem lkX10_134 : Cond.methodLink RX10 134 yX10_act ∈ lw_tbl := zt4 (List.mem_of_getElem? (i := 31) (rfl : tables_1_4[31]? = some (Cond.methodLink RX10 134 yX10_act)))
theorem lkX10_140 : Cond.methodLink RX10 140 yX10_canSend ∈ lw_tbl := zt4 (List.mem_of_getElem? (i := 77) (rfl : tables_1_4[77]? = some (Cond.methodLink RX10 140 yX10_canSend)))
theorem lkX10_144 : Cond.methodLink RX10 144 yX10_sendNext ∈ lw_tbl := zt4 (List.mem_of_getElem? (i := 81) (rfl : tables_1_4[81]? = some (Cond.methodLink RX10 144 yX10_sendNext)))
theorem lkX10_160 : Cond.methodLink RX10 160 yX5_setGiver ∈ lw_tbl := zt3 (List.mem_of_getElem? (i := 184) (rfl : tables_1_3[184]? = some (Cond.methodLink RX10 160 yX5_setGiver)))
theorem lkX10_164 : Cond.methodLink RX10 164 yX3_put ∈ lw_tbl := zt3 (List.mem_of_getElem? (i := 188) (rfl : tables_1_3[188]? = some (Cond.methodLink RX10 164 yX3_put)))
theorem lkX10_168 : Cond.methodLink RX10 168 yX10_flood ∈ lw_tbl := zt4 (List.mem_of_getElem? (i := 40) (rfl : tables_1_4[40]? = some (Cond.methodLink RX10 168 yX10_flood)))
theorem lkX10_171 : Cond.methodLink RX10 171 yJ9_max_7cf53 ∈ lw_tbl := zt3 (List.mem_of_getElem? (i := 175) (rfl : tables_1_3[175]? = some (Cond.methodLink RX10 171 yJ9_max_7cf53)))
theorem lkX10_179 : Cond.methodLink RX10 179 yX5_setGap ∈ lw_tbl := zt3 (List.mem_of_getElem? (i := 164) (rfl : tables_1_3[164]? = some (Cond.methodLink RX10 179 yX5_setGap)))
theorem lkX10_183 : Cond.methodLink RX10 183 yX5_dropAnswer ∈ lw_tbl := zt3 (List.mem_of_getElem? (i := 202) (rfl : tables_1_3[202]? = some (Cond.methodLink RX10 183 yX5_dropAnswer)))
theorem lkX10_190 : Cond.methodLink RX10 190 yX10_sourceDistance ∈ lw_tbl := zt3 (List.mem_of_getElem? (i := 232) (rfl : tables_1_3[232]? = some (Cond.methodLink RX10 190 yX10_sourceDistance)))
theorem lkX10_202 : Cond.methodLink RX10 202 yX10_timeOf ∈ lw_tbl := zt4 (List.mem_of_getElem? (i := 1) (rfl : tables_1_4[1]? = some (Cond.methodLink RX10 202 yX10_timeOf)))
theorem lkX10_211 : Cond.methodLink RX10 211 yX1_upTo ∈ lw_tbl := zt3 (List.mem_of_getElem? (i := 236) (rfl : tables_1_3[236]? = some (Cond.methodLink RX10 211 yX1_upTo)))
theorem lkX10_214 : Cond.methodLink RX10 214 yX5_backOff ∈ lw_tbl := zt4 (List.mem_of_getElem? (i := 18) (rfl : tables_1_4[18]? = some (Cond.methodLink RX10 214 yX5_backOff)))
theorem lkX10_217 : Cond.methodLink RX10 217 yX10_setAsk ∈ lw_tbl := zt3 (List.mem_of_getElem? (i := 228) (rfl : tables_1_3[228]? = some (Cond.methodLink RX10 217 yX10_setAsk)))
theorem lkX10_229 : Cond.methodLink RX10 229 yX5_beginAnswer ∈ lw_tbl := zt4 (List.mem_of_getElem? (i := 13) (rfl : tables_1_4[13]? = some (Cond.methodLink RX10 229 yX5_beginAnswer)))
theorem lkX10_244 : Cond.methodLink RX10 244 yX4_hasPacket ∈ lw_tbl := zt3 (List.mem_of_getElem? (i := 157) (rfl : tables_1_3[157]? = some (Cond.methodLink RX10 244 yX4_hasPacket)))
theorem lkX10_248 : Cond.methodLink RX10 248 yX10_hearReport ∈ lw_tbl := zt3 (List.mem_of_getElem? (i := 168) (rfl : tables_1_3[168]? = some (Cond.methodLink RX10 248 yX10_hearReport)))
theorem lkX10_251 : Cond.methodLink RX10 251 yX10_hearPacket ∈ lw_tbl := zt3 (List.mem_of_getElem? (i := 176) (rfl : tables_1_3[176]? = some (Cond.methodLink RX10 251 yX10_hearPacket)))
theorem lkX10_255 : Cond.methodLink RX10 255 yX10_hearOf ∈ lw_tbl := zt3 (List.mem_of_getElem? (i := 214) (rfl : tables_1_3[214]? = some (Cond.methodLink RX10 255 yX10_hearOf)))
theorem lkX10_258 : Cond.methodLink RX10 258 yX10_hearRequest ∈ lw_tbl := zt4 (List.mem_of_getElem? (i := 5) (rfl : tables_1_4[5]? = some (Cond.methodLink RX10 258 yX10_hearRequest)))
theorem lkX10_279 : Cond.methodLink RX10 279 yX10_getPacket ∈ lw_tbl := zt3 (List.mem_of_getElem? (i := 180) (rfl : tables_1_3[180]? = some (Cond.methodLink RX10 279 yX10_getPacket)))
theorem lkX10_291 : Cond.methodLink RX10 291 yX10_rest ∈ lw_tbl := zt3 (List.mem_of_getElem? (i := 210) (rfl : tables_1_3[210]? = some (Cond.methodLink RX10 291 yX10_rest)))
theorem lkX10_297 : Cond.methodLink RX10 297 yX4_adapt ∈ lw_tbl := zt3 (List.mem_of_getElem? (i := 193) (rfl : tables_1_3[193]? = some (Cond.methodLink RX10 297 yX4_adapt)))
theorem lkX10_300 : Cond.methodLink RX10 300 yX4_missing ∈ lw_tbl := zt3 (List.mem_of_getElem? (i := 218) (rfl : tables_1_3[218]? = some (Cond.methodLink RX10 300 yX4_missing)))
theorem lkX10_306 : Cond.methodLink RX10 306 yX5_beginAsk ∈ lw_tbl := zt3 (List.mem_of_getElem? (i := 224) (rfl : tables_1_3[224]? = some (Cond.methodLink RX10 306 yX5_beginAsk)))
theorem lkX10_312 : Cond.methodLink RX10 312 yX10_setAnswer ∈ lw_tbl := zt4 (List.mem_of_getElem? (i := 9) (rfl : tables_1_4[9]? = some (Cond.methodLink RX10 312 yX10_setAnswer)))
theorem lkX10_315 : Cond.methodLink RX10 315 yX10_askLater ∈ lw_tbl := zt4 (List.mem_of_getElem? (i := 14) (rfl : tables_1_4[14]? = some (Cond.methodLink RX10 315 yX10_askLater)))
theorem lkX10_318 : Cond.methodLink RX10 318 yX10_request ∈ lw_tbl := zt4 (List.mem_of_getElem? (i := 35) (rfl : tables_1_4[35]? = some (Cond.methodLink RX10 318 yX10_request)))
theorem lkX10_321 : Cond.methodLink RX10 321 yX10_repair ∈ lw_tbl := zt4 (List.mem_of_getElem? (i := 73) (rfl : tables_1_4[73]? = some (Cond.methodLink RX10 321 yX10_repair)))
theorem lkX10_332 : Cond.methodLink RX10 332 yJ9_min_7cf53 ∈ lw_tbl := zt4 (List.mem_of_getElem? (i := 39) (rfl : tables_1_4[39]? = some (Cond.methodLink RX10 332 yJ9_min_7cf53)))
theorem lkX10_362 : Cond.methodLink RX10 362 yX10_crosses ∈ lw_tbl := zt4 (List.mem_of_getElem? (i := 44) (rfl : tables_1_4[44]? = some (Cond.methodLink RX10 362 yX10_crosses)))
theorem lkX10_365 : Cond.methodLink RX10 365 yX0_isFull ∈ lw_tbl := zt4 (List.mem_of_getElem? (i := 53) (rfl : tables_1_4[53]? = some (Cond.methodLink RX10 365 yX0_isFull)))
theorem lkX10_368 : Cond.methodLink RX10 368 yX10_launch ∈ lw_tbl := zt4 (List.mem_of_getElem? (i := 57) (rfl : tables_1_4[57]? = some (Cond.methodLink RX10 368 yX10_launch)))
theorem lkX10_372 : Cond.methodLink RX10 372 yX10_tellGap ∈ lw_tbl := zt4 (List.mem_of_getElem? (i := 61) (rfl : tables_1_4[61]? = some (Cond.methodLink RX10 372 yX10_tellGap)))
theorem lkX10_375 : Cond.methodLink RX10 375 yX10_tellNoWay ∈ lw_tbl := zt4 (List.mem_of_getElem? (i := 69) (rfl : tables_1_4[69]? = some (Cond.methodLink RX10 375 yX10_tellNoWay)))
theorem lkX10_378 : Cond.methodLink RX10 378 yX2_addLoad ∈ lw_tbl := zt4 (List.mem_of_getElem? (i := 48) (rfl : tables_1_4[48]? = some (Cond.methodLink RX10 378 yX2_addLoad)))
theorem lkX10_390 : Cond.methodLink RX10 390 yX5_setGapBehind ∈ lw_tbl := zt4 (List.mem_of_getElem? (i := 65) (rfl : tables_1_4[65]? = some (Cond.methodLink RX10 390 yX5_setGapBehind)))
theorem lkL_7 : Cond.methodLink RL 7 yX11_group ∈ lw_tbl := zt4 (List.mem_of_getElem? (i := 136) (rfl : tables_1_4[136]? = some (Cond.methodLink RL 7 yX11_group)))
theorem lkL_17 : Cond.methodLink RL 17 yX11_node ∈ lw_tbl := zt5 (List.mem_of_getElem? (i := 151) (rfl : tables_1_5[151]? = some (Cond.methodLink RL 17 yX11_node)))
theorem lkL_25 : Cond.methodLink RL 25 yX11_est ∈ lw_tbl := zt5 (List.mem_of_getElem? (i := 196) (rfl : tables_1_5[196]? = some (Cond.methodLink RL 25 yX11_est)))
theorem lkL_28 : Cond.methodLink RL 28 yX11_timer ∈ lw_tbl := zt5 (List.mem_of_getElem? (i := 205) (rfl : tables_1_5[205]? = some (Cond.methodLink RL 28 yX11_timer)))
theorem lkL_32 : Cond.methodLink RL 32 yX11_gap ∈ lw_tbl := zt5 (List.mem_of_getElem? (i := 218) (rfl : tables_1_5[218]? = some (Cond.methodLink RL 32 yX11_gap)))
theorem lkL_35 : Cond.methodLink RL 35 yX11_link ∈ lw_tbl := zt5 (List.mem_of_getElem? (i := 229) (rfl : tables_1_5[229]? = some (Cond.methodLink RL 35 yX11_link)))
theorem lkL_38 : Cond.methodLink RL 38 yX11_flight ∈ lw_tbl := zt6 (List.mem_of_getElem? (i := 3) (rfl : tables_1_6[3]? = some (Cond.methodLink RL 38 yX11_flight)))
theorem lkL_41 : Cond.methodLink RL 41 yX11_ticks ∈ lw_tbl := zt6 (List.mem_of_getElem? (i := 12) (rfl : tables_1_6[12]? = some (Cond.methodLink RL 41 yX11_ticks)))
theorem lkL_45 : Cond.methodLink RL 45 yX11_send ∈ lw_tbl := zt6 (List.mem_of_getElem? (i := 21) (rfl : tables_1_6[21]? = some (Cond.methodLink RL 45 yX11_send)))
theorem lkL_50 : Cond.methodLink RL 50 yX11_wake ∈ lw_tbl := zt6 (List.mem_of_getElem? (i := 46) (rfl : tables_1_6[46]? = some (Cond.methodLink RL 50 yX11_wake)))
theorem lkL_54 : Cond.methodLink RL 54 yX11_cut ∈ lw_tbl := zt6 (List.mem_of_getElem? (i := 53) (rfl : tables_1_6[53]? = some (Cond.methodLink RL 54 yX11_cut)))
theorem lkL_57 : Cond.methodLink RL 57 yX11_loss ∈ lw_tbl := zt6 (List.mem_of_getElem? (i := 60) (rfl : tables_1_6[60]? = some (Cond.methodLink RL 57 yX11_loss)))
theorem lkL_60 : Cond.methodLink RL 60 yX11_give ∈ lw_tbl := zt6 (List.mem_of_getElem? (i := 68) (rfl : tables_1_6[68]? = some (Cond.methodLink RL 60 yX11_give)))
theorem lkL_64 : Cond.methodLink RL 64 yX11_way ∈ lw_tbl := zt6 (List.mem_of_getElem? (i := 85) (rfl : tables_1_6[85]? = some (Cond.methodLink RL 64 yX11_way)))
theorem lkL_68 : Cond.methodLink RL 68 yX11_above ∈ lw_tbl := zt6 (List.mem_of_getElem? (i := 92) (rfl : tables_1_6[92]? = some (Cond.methodLink RL 68 yX11_above)))
theorem lkL_71 : Cond.methodLink RL 71 yX11_window ∈ lw_tbl := zt6 (List.mem_of_getElem? (i := 99) (rfl : tables_1_6[99]? = some (Cond.methodLink RL 71 yX11_window)))
theorem lkL_74 : Cond.methodLink RL 74 yX11_near ∈ lw_tbl := zt6 (List.mem_of_getElem? (i := 110) (rfl : tables_1_6[110]? = some (Cond.methodLink RL 74 yX11_near)))
theorem lkL_77 : Cond.methodLink RL 77 yX11_reach ∈ lw_tbl := zt6 (List.mem_of_getElem? (i := 128) (rfl : tables_1_6[128]? = some (Cond.methodLink RL 77 yX11_reach)))
theorem lkL_80 : Cond.methodLink RL 80 yX11_far ∈ lw_tbl := zt6 (List.mem_of_getElem? (i := 143) (rfl : tables_1_6[143]? = some (Cond.methodLink RL 80 yX11_far)))
theorem lkL_83 : Cond.methodLink RL 83 yX11_talk ∈ lw_tbl := zt6 (List.mem_of_getElem? (i := 150) (rfl : tables_1_6[150]? = some (Cond.methodLink RL 83 yX11_talk)))
theorem lkL_87 : Cond.methodLink RL 87 yX11_giver ∈ lw_tbl := zt6 (List.mem_of_getElem? (i := 170) (rfl : tables_1_6[170]? = some (Cond.methodLink RL 87 yX11_giver)))
theorem lkL_90 : Cond.methodLink RL 90 yX11_when ∈ lw_tbl := zt6 (List.mem_of_getElem? (i := 178) (rfl : tables_1_6[178]? = some (Cond.methodLink RL 90 yX11_when)))
theorem lkL_93 : Cond.methodLink RL 93 yX11_route ∈ lw_tbl := zt6 (List.mem_of_getElem? (i := 185) (rfl : tables_1_6[185]? = some (Cond.methodLink RL 93 yX11_route)))
theorem lkL_96 : Cond.methodLink RL 96 yX11_crossed ∈ lw_tbl := zt6 (List.mem_of_getElem? (i := 192) (rfl : tables_1_6[192]? = some (Cond.methodLink RL 96 yX11_crossed)))
theorem lkL_99 : Cond.methodLink RL 99 yX11_first ∈ lw_tbl := zt6 (List.mem_of_getElem? (i := 203) (rfl : tables_1_6[203]? = some (Cond.methodLink RL 99 yX11_first)))
theorem lkL_102 : Cond.methodLink RL 102 yX11_blind ∈ lw_tbl := zt6 (List.mem_of_getElem? (i := 210) (rfl : tables_1_6[210]? = some (Cond.methodLink RL 102 yX11_blind)))
theorem lkL_105 : Cond.methodLink RL 105 yX11_guard ∈ lw_tbl := zt6 (List.mem_of_getElem? (i := 218) (rfl : tables_1_6[218]? = some (Cond.methodLink RL 105 yX11_guard)))
theorem lkL_108 : Cond.methodLink RL 108 yX11_best ∈ lw_tbl := zt6 (List.mem_of_getElem? (i := 235) (rfl : tables_1_6[235]? = some (Cond.methodLink RL 108 yX11_best)))
theorem lkL_112 : Cond.methodLink RL 112 yX11_spread ∈ lw_tbl := zt7 (List.mem_of_getElem? (i := 3) (rfl : tables_1_7[3]? = some (Cond.methodLink RL 112 yX11_spread)))
theorem lkL_115 : Cond.methodLink RL 115 yX11_holders ∈ lw_tbl := zt7 (List.mem_of_getElem? (i := 21) (rfl : tables_1_7[21]? = some (Cond.methodLink RL 115 yX11_holders)))
theorem lkL_118 : Cond.methodLink RL 118 yX11_log ∈ lw_tbl := zt7 (List.mem_of_getElem? (i := 28) (rfl : tables_1_7[28]? = some (Cond.methodLink RL 118 yX11_log)))
theorem lkL_121 : Cond.methodLink RL 121 yX11_init ∈ lw_tbl := zt1 (List.mem_of_getElem? (i := 32) (rfl : tables_1_1[32]? = some (Cond.methodLink RL 121 yX11_init)))
theorem lkL_124 : Cond.methodLink RL 124 yX12_init ∈ lw_tbl := zt7 (List.mem_of_getElem? (i := 43) (rfl : tables_1_7[43]? = some (Cond.methodLink RL 124 yX12_init)))
theorem lkL_125 : Cond.methodLink RL 125 yX11_feed ∈ lw_tbl := zt3 (List.mem_of_getElem? (i := 57) (rfl : tables_1_3[57]? = some (Cond.methodLink RL 125 yX11_feed)))
theorem lkL_129 : Cond.methodLink RL 129 yX12_feed ∈ lw_tbl := zt7 (List.mem_of_getElem? (i := 114) (rfl : tables_1_7[114]? = some (Cond.methodLink RL 129 yX12_feed)))
theorem lkL_130 : Cond.methodLink RL 130 yX11_end ∈ lw_tbl := zt3 (List.mem_of_getElem? (i := 69) (rfl : tables_1_3[69]? = some (Cond.methodLink RL 130 yX11_end)))
theorem lkL_134 : Cond.methodLink RL 134 yX12_end ∈ lw_tbl := zt7 (List.mem_of_getElem? (i := 118) (rfl : tables_1_7[118]? = some (Cond.methodLink RL 134 yX12_end)))
theorem lkL_135 : Cond.methodLink RL 135 yL_group ∈ lw_tbl := zt4 (List.mem_of_getElem? (i := 131) (rfl : tables_1_4[131]? = some (Cond.methodLink RL 135 yL_group)))
theorem lkL_140 : Cond.methodLink RL 140 yX12_group ∈ lw_tbl := zt7 (List.mem_of_getElem? (i := 126) (rfl : tables_1_7[126]? = some (Cond.methodLink RL 140 yX12_group)))
theorem lkL_141 : Cond.methodLink RL 141 yX12_thrown ∈ lw_tbl := zt7 (List.mem_of_getElem? (i := 37) (rfl : tables_1_7[37]? = some (Cond.methodLink RL 141 yX12_thrown)))
theorem lkL_144 : Cond.methodLink RL 144 yX11_fault ∈ lw_tbl := zt3 (List.mem_of_getElem? (i := 73) (rfl : tables_1_3[73]? = some (Cond.methodLink RL 144 yX11_fault)))
theorem lkL_147 : Cond.methodLink RL 147 yX12_fault ∈ lw_tbl := zt7 (List.mem_of_getElem? (i := 122) (rfl : tables_1_7[122]? = some (Cond.methodLink RL 147 yX12_fault)))
theorem lkL_148 : Cond.methodLink RL 148 yL_node ∈ lw_tbl := zt5 (List.mem_of_getElem? (i := 146) (rfl : tables_1_5[146]? = some (Cond.methodLink RL 148 yL_node)))
theorem lkL_151 : Cond.methodLink RL 151 yX12_node ∈ lw_tbl := zt8 (List.mem_of_getElem? (i := 197) (rfl : tables_1_8[197]? = some (Cond.methodLink RL 151 yX12_node)))
theorem lkL_152 : Cond.methodLink RL 152 yL_est ∈ lw_tbl := zt5 (List.mem_of_getElem? (i := 193) (rfl : tables_1_5[193]? = some (Cond.methodLink RL 152 yL_est)))
theorem lkL_154 : Cond.methodLink RL 154 yX12_est ∈ lw_tbl := zt8 (List.mem_of_getElem? (i := 201) (rfl : tables_1_8[201]? = some (Cond.methodLink RL 154 yX12_est)))
theorem lkL_155 : Cond.methodLink RL 155 yL_timer ∈ lw_tbl := zt5 (List.mem_of_getElem? (i := 202) (rfl : tables_1_5[202]? = some (Cond.methodLink RL 155 yL_timer)))
theorem lkL_158 : Cond.methodLink RL 158 yX12_timer ∈ lw_tbl := zt8 (List.mem_of_getElem? (i := 205) (rfl : tables_1_8[205]? = some (Cond.methodLink RL 158 yX12_timer)))
theorem lkL_159 : Cond.methodLink RL 159 yL_gap ∈ lw_tbl := zt5 (List.mem_of_getElem? (i := 215) (rfl : tables_1_5[215]? = some (Cond.methodLink RL 159 yL_gap)))
theorem lkL_161 : Cond.methodLink RL 161 yX12_gap ∈ lw_tbl := zt8 (List.mem_of_getElem? (i := 213) (rfl : tables_1_8[213]? = some (Cond.methodLink RL 161 yX12_gap)))
theorem lkL_162 : Cond.methodLink RL 162 yL_link ∈ lw_tbl := zt5 (List.mem_of_getElem? (i := 226) (rfl : tables_1_5[226]? = some (Cond.methodLink RL 162 yL_link)))
theorem lkL_164 : Cond.methodLink RL 164 yX12_link ∈ lw_tbl := zt8 (List.mem_of_getElem? (i := 217) (rfl : tables_1_8[217]? = some (Cond.methodLink RL 164 yX12_link)))
theorem lkL_165 : Cond.methodLink RL 165 yL_flight ∈ lw_tbl := zt6 (List.mem_of_getElem? (i := 0) (rfl : tables_1_6[0]? = some (Cond.methodLink RL 165 yL_flight)))
theorem lkL_167 : Cond.methodLink RL 167 yX12_flight ∈ lw_tbl := zt8 (List.mem_of_getElem? (i := 221) (rfl : tables_1_8[221]? = some (Cond.methodLink RL 167 yX12_flight)))
theorem lkL_168 : Cond.methodLink RL 168 yL_ticks ∈ lw_tbl := zt6 (List.mem_of_getElem? (i := 9) (rfl : tables_1_6[9]? = some (Cond.methodLink RL 168 yL_ticks)))
theorem lkL_171 : Cond.methodLink RL 171 yX12_ticks ∈ lw_tbl := zt7 (List.mem_of_getElem? (i := 235) (rfl : tables_1_7[235]? = some (Cond.methodLink RL 171 yX12_ticks)))
theorem lkL_172 : Cond.methodLink RL 172 yL_send ∈ lw_tbl := zt6 (List.mem_of_getElem? (i := 17) (rfl : tables_1_6[17]? = some (Cond.methodLink RL 172 yL_send)))
theorem lkL_174 : Cond.methodLink RL 174 yX12_send ∈ lw_tbl := zt8 (List.mem_of_getElem? (i := 166) (rfl : tables_1_8[166]? = some (Cond.methodLink RL 174 yX12_send)))
theorem lkL_175 : Cond.methodLink RL 175 yL_wake ∈ lw_tbl := zt6 (List.mem_of_getElem? (i := 43) (rfl : tables_1_6[43]? = some (Cond.methodLink RL 175 yL_wake)))
theorem lkL_178 : Cond.methodLink RL 178 yX12_wake ∈ lw_tbl := zt8 (List.mem_of_getElem? (i := 170) (rfl : tables_1_8[170]? = some (Cond.methodLink RL 178 yX12_wake)))
theorem lkL_179 : Cond.methodLink RL 179 yL_cut ∈ lw_tbl := zt6 (List.mem_of_getElem? (i := 50) (rfl : tables_1_6[50]? = some (Cond.methodLink RL 179 yL_cut)))
theorem lkL_181 : Cond.methodLink RL 181 yX12_cut ∈ lw_tbl := zt8 (List.mem_of_getElem? (i := 178) (rfl : tables_1_8[178]? = some (Cond.methodLink RL 181 yX12_cut)))
theorem lkL_182 : Cond.methodLink RL 182 yL_loss ∈ lw_tbl := zt6 (List.mem_of_getElem? (i := 57) (rfl : tables_1_6[57]? = some (Cond.methodLink RL 182 yL_loss)))
theorem lkL_184 : Cond.methodLink RL 184 yX12_loss ∈ lw_tbl := zt8 (List.mem_of_getElem? (i := 186) (rfl : tables_1_8[186]? = some (Cond.methodLink RL 184 yX12_loss)))
theorem lkL_185 : Cond.methodLink RL 185 yL_give ∈ lw_tbl := zt6 (List.mem_of_getElem? (i := 65) (rfl : tables_1_6[65]? = some (Cond.methodLink RL 185 yL_give)))
theorem lkL_188 : Cond.methodLink RL 188 yX12_give ∈ lw_tbl := zt8 (List.mem_of_getElem? (i := 190) (rfl : tables_1_8[190]? = some (Cond.methodLink RL 188 yX12_give)))
theorem lkL_189 : Cond.methodLink RL 189 yL_way ∈ lw_tbl := zt6 (List.mem_of_getElem? (i := 82) (rfl : tables_1_6[82]? = some (Cond.methodLink RL 189 yL_way)))
theorem lkL_191 : Cond.methodLink RL 191 yX12_way ∈ lw_tbl := zt8 (List.mem_of_getElem? (i := 225) (rfl : tables_1_8[225]? = some (Cond.methodLink RL 191 yX12_way)))
theorem lkL_192 : Cond.methodLink RL 192 yL_above ∈ lw_tbl := zt6 (List.mem_of_getElem? (i := 89) (rfl : tables_1_6[89]? = some (Cond.methodLink RL 192 yL_above)))
theorem lkL_194 : Cond.methodLink RL 194 yX12_above ∈ lw_tbl := zt8 (List.mem_of_getElem? (i := 233) (rfl : tables_1_8[233]? = some (Cond.methodLink RL 194 yX12_above)))
theorem lkL_195 : Cond.methodLink RL 195 yL_window ∈ lw_tbl := zt6 (List.mem_of_getElem? (i := 96) (rfl : tables_1_6[96]? = some (Cond.methodLink RL 195 yL_window)))
theorem lkL_197 : Cond.methodLink RL 197 yX12_window ∈ lw_tbl := zt8 (List.mem_of_getElem? (i := 237) (rfl : tables_1_8[237]? = some (Cond.methodLink RL 197 yX12_window)))
theorem lkL_198 : Cond.methodLink RL 198 yL_near ∈ lw_tbl := zt6 (List.mem_of_getElem? (i := 107) (rfl : tables_1_6[107]? = some (Cond.methodLink RL 198 yL_near)))
theorem lkL_200 : Cond.methodLink RL 200 yX12_near ∈ lw_tbl := zt9 (List.mem_of_getElem? (i := 1) (rfl : tables_1_9[1]? = some (Cond.methodLink RL 200 yX12_near)))
theorem lkL_201 : Cond.methodLink RL 201 yL_reach ∈ lw_tbl := zt6 (List.mem_of_getElem? (i := 125) (rfl : tables_1_6[125]? = some (Cond.methodLink RL 201 yL_reach)))
theorem lkL_203 : Cond.methodLink RL 203 yX12_reach ∈ lw_tbl := zt9 (List.mem_of_getElem? (i := 9) (rfl : tables_1_9[9]? = some (Cond.methodLink RL 203 yX12_reach)))
theorem lkL_204 : Cond.methodLink RL 204 yL_far ∈ lw_tbl := zt6 (List.mem_of_getElem? (i := 140) (rfl : tables_1_6[140]? = some (Cond.methodLink RL 204 yL_far)))
theorem lkL_206 : Cond.methodLink RL 206 yX12_far ∈ lw_tbl := zt9 (List.mem_of_getElem? (i := 17) (rfl : tables_1_9[17]? = some (Cond.methodLink RL 206 yX12_far)))
theorem lkL_207 : Cond.methodLink RL 207 yX11_whole ∈ lw_tbl := zt3 (List.mem_of_getElem? (i := 77) (rfl : tables_1_3[77]? = some (Cond.methodLink RL 207 yX11_whole)))
theorem lkL_211 : Cond.methodLink RL 211 yX12_whole ∈ lw_tbl := zt9 (List.mem_of_getElem? (i := 29) (rfl : tables_1_9[29]? = some (Cond.methodLink RL 211 yX12_whole)))
theorem lkL_212 : Cond.methodLink RL 212 yL_talk ∈ lw_tbl := zt6 (List.mem_of_getElem? (i := 147) (rfl : tables_1_6[147]? = some (Cond.methodLink RL 212 yL_talk)))
theorem lkL_215 : Cond.methodLink RL 215 yX12_talk ∈ lw_tbl := zt9 (List.mem_of_getElem? (i := 45) (rfl : tables_1_9[45]? = some (Cond.methodLink RL 215 yX12_talk)))
theorem lkL_216 : Cond.methodLink RL 216 yX11_parts ∈ lw_tbl := zt4 (List.mem_of_getElem? (i := 85) (rfl : tables_1_4[85]? = some (Cond.methodLink RL 216 yX11_parts)))
theorem lkL_219 : Cond.methodLink RL 219 yX12_parts ∈ lw_tbl := zt9 (List.mem_of_getElem? (i := 118) (rfl : tables_1_9[118]? = some (Cond.methodLink RL 219 yX12_parts)))
theorem lkL_220 : Cond.methodLink RL 220 yL_giver ∈ lw_tbl := zt6 (List.mem_of_getElem? (i := 167) (rfl : tables_1_6[167]? = some (Cond.methodLink RL 220 yL_giver)))
theorem lkL_222 : Cond.methodLink RL 222 yX12_giver ∈ lw_tbl := zt9 (List.mem_of_getElem? (i := 61) (rfl : tables_1_9[61]? = some (Cond.methodLink RL 222 yX12_giver)))
theorem lkL_223 : Cond.methodLink RL 223 yL_when ∈ lw_tbl := zt6 (List.mem_of_getElem? (i := 175) (rfl : tables_1_6[175]? = some (Cond.methodLink RL 223 yL_when)))
theorem lkL_225 : Cond.methodLink RL 225 yX12_when ∈ lw_tbl := zt9 (List.mem_of_getElem? (i := 69) (rfl : tables_1_9[69]? = some (Cond.methodLink RL 225 yX12_when)))
theorem lkL_226 : Cond.methodLink RL 226 yL_route ∈ lw_tbl := zt6 (List.mem_of_getElem? (i := 182) (rfl : tables_1_6[182]? = some (Cond.methodLink RL 226 yL_route)))
theorem lkL_228 : Cond.methodLink RL 228 yX12_route ∈ lw_tbl := zt9 (List.mem_of_getElem? (i := 73) (rfl : tables_1_9[73]? = some (Cond.methodLink RL 228 yX12_route)))
theorem lkL_229 : Cond.methodLink RL 229 yL_crossed ∈ lw_tbl := zt6 (List.mem_of_getElem? (i := 189) (rfl : tables_1_6[189]? = some (Cond.methodLink RL 229 yL_crossed)))
theorem lkL_231 : Cond.methodLink RL 231 yX12_crossed ∈ lw_tbl := zt9 (List.mem_of_getElem? (i := 77) (rfl : tables_1_9[77]? = some (Cond.methodLink RL 231 yX12_crossed)))
theorem lkL_232 : Cond.methodLink RL 232 yX11_center ∈ lw_tbl := zt4 (List.mem_of_getElem? (i := 102) (rfl : tables_1_4[102]? = some (Cond.methodLink RL 232 yX11_center)))
theorem lkL_235 : Cond.methodLink RL 235 yX12_center ∈ lw_tbl := zt9 (List.mem_of_getElem? (i := 81) (rfl : tables_1_9[81]? = some (Cond.methodLink RL 235 yX12_center)))
theorem lkL_236 : Cond.methodLink RL 236 yL_first ∈ lw_tbl := zt6 (List.mem_of_getElem? (i := 200) (rfl : tables_1_6[200]? = some (Cond.methodLink RL 236 yL_first)))
theorem lkL_238 : Cond.methodLink RL 238 yX12_first ∈ lw_tbl := zt9 (List.mem_of_getElem? (i := 93) (rfl : tables_1_9[93]? = some (Cond.methodLink RL 238 yX12_first)))
theorem lkL_239 : Cond.methodLink RL 239 yL_blind ∈ lw_tbl := zt6 (List.mem_of_getElem? (i := 207) (rfl : tables_1_6[207]? = some (Cond.methodLink RL 239 yL_blind)))
theorem lkL_241 : Cond.methodLink RL 241 yX12_blind ∈ lw_tbl := zt9 (List.mem_of_getElem? (i := 97) (rfl : tables_1_9[97]? = some (Cond.methodLink RL 241 yX12_blind)))
theorem lkL_242 : Cond.methodLink RL 242 yL_guard ∈ lw_tbl := zt6 (List.mem_of_getElem? (i := 215) (rfl : tables_1_6[215]? = some (Cond.methodLink RL 242 yL_guard)))
theorem lkL_244 : Cond.methodLink RL 244 yX12_guard ∈ lw_tbl := zt9 (List.mem_of_getElem? (i := 101) (rfl : tables_1_9[101]? = some (Cond.methodLink RL 244 yX12_guard)))
theorem lkL_245 : Cond.methodLink RL 245 yL_best ∈ lw_tbl := zt6 (List.mem_of_getElem? (i := 232) (rfl : tables_1_6[232]? = some (Cond.methodLink RL 245 yL_best)))
theorem lkL_247 : Cond.methodLink RL 247 yX12_best ∈ lw_tbl := zt9 (List.mem_of_getElem? (i := 53) (rfl : tables_1_9[53]? = some (Cond.methodLink RL 247 yX12_best)))
theorem lkL_248 : Cond.methodLink RL 248 yL_spread ∈ lw_tbl := zt7 (List.mem_of_getElem? (i := 0) (rfl : tables_1_7[0]? = some (Cond.methodLink RL 248 yL_spread)))
theorem lkL_250 : Cond.methodLink RL 250 yX12_spread ∈ lw_tbl := zt9 (List.mem_of_getElem? (i := 126) (rfl : tables_1_9[126]? = some (Cond.methodLink RL 250 yX12_spread)))
theorem lkL_251 : Cond.methodLink RL 251 yL_holders ∈ lw_tbl := zt7 (List.mem_of_getElem? (i := 18) (rfl : tables_1_7[18]? = some (Cond.methodLink RL 251 yL_holders)))
theorem lkL_253 : Cond.methodLink RL 253 yX12_holders ∈ lw_tbl := zt9 (List.mem_of_getElem? (i := 25) (rfl : tables_1_9[25]? = some (Cond.methodLink RL 253 yX12_holders)))
theorem lkL_254 : Cond.methodLink RL 254 yL_log ∈ lw_tbl := zt7 (List.mem_of_getElem? (i := 25) (rfl : tables_1_7[25]? = some (Cond.methodLink RL 254 yL_log)))
theorem lkL_256 : Cond.methodLink RL 256 yX12_log ∈ lw_tbl := zt9 (List.mem_of_getElem? (i := 130) (rfl : tables_1_9[130]? = some (Cond.methodLink RL 256 yX12_log)))
theorem lkL_257 : Cond.methodLink RL 257 yX11_seed ∈ lw_tbl := zt4 (List.mem_of_getElem? (i := 115) (rfl : tables_1_4[115]? = some (Cond.methodLink RL 257 yX11_seed)))
theorem lkL_260 : Cond.methodLink RL 260 yX12_seed ∈ lw_tbl := zt9 (List.mem_of_getElem? (i := 134) (rfl : tables_1_9[134]? = some (Cond.methodLink RL 260 yX12_seed)))
theorem lkL_261 : Cond.methodLink RL 261 yX11_image ∈ lw_tbl := zt4 (List.mem_of_getElem? (i := 119) (rfl : tables_1_4[119]? = some (Cond.methodLink RL 261 yX11_image)))
theorem lkL_264 : Cond.methodLink RL 264 yX12_image ∈ lw_tbl := zt7 (List.mem_of_getElem? (i := 106) (rfl : tables_1_7[106]? = some (Cond.methodLink RL 264 yX12_image)))
theorem lkL_265 : Cond.methodLink RL 265 yX11_back ∈ lw_tbl := zt4 (List.mem_of_getElem? (i := 123) (rfl : tables_1_4[123]? = some (Cond.methodLink RL 265 yX11_back)))
theorem lkL_269 : Cond.methodLink RL 269 yX12_back ∈ lw_tbl := zt7 (List.mem_of_getElem? (i := 110) (rfl : tables_1_7[110]? = some (Cond.methodLink RL 269 yX12_back)))
theorem lkL_270 : Cond.methodLink RL 270 yX11_count ∈ lw_tbl := zt4 (List.mem_of_getElem? (i := 127) (rfl : tables_1_4[127]? = some (Cond.methodLink RL 270 yX11_count)))
theorem lkL_273 : Cond.methodLink RL 273 yX12_count ∈ lw_tbl := zt9 (List.mem_of_getElem? (i := 138) (rfl : tables_1_9[138]? = some (Cond.methodLink RL 273 yX12_count)))
theorem lkX12_56 : Cond.methodLink RX12 56 yX12_nodeAt ∈ lw_tbl := zt7 (List.mem_of_getElem? (i := 165) (rfl : tables_1_7[165]? = some (Cond.methodLink RX12 56 yX12_nodeAt)))
theorem lkX12_60 : Cond.methodLink RX12 60 yX12_packetAt ∈ lw_tbl := zt7 (List.mem_of_getElem? (i := 180) (rfl : tables_1_7[180]? = some (Cond.methodLink RX12 60 yX12_packetAt)))
theorem lkX12_64 : Cond.methodLink RX12 64 yX12_linkAt ∈ lw_tbl := zt7 (List.mem_of_getElem? (i := 208) (rfl : tables_1_7[208]? = some (Cond.methodLink RX12 64 yX12_linkAt)))
theorem lkX12_67 : Cond.methodLink RX12 67 yX12_nodes ∈ lw_tbl := zt7 (List.mem_of_getElem? (i := 161) (rfl : tables_1_7[161]? = some (Cond.methodLink RX12 67 yX12_nodes)))
theorem lkX12_71 : Cond.methodLink RX12 71 yX12_in ∈ lw_tbl := zt7 (List.mem_of_getElem? (i := 239) (rfl : tables_1_7[239]? = some (Cond.methodLink RX12 71 yX12_in)))
theorem lkX12_75 : Cond.methodLink RX12 75 yX12_links ∈ lw_tbl := zt7 (List.mem_of_getElem? (i := 192) (rfl : tables_1_7[192]? = some (Cond.methodLink RX12 75 yX12_links)))
theorem lkX12_78 : Cond.methodLink RX12 78 yX12_of ∈ lw_tbl := zt8 (List.mem_of_getElem? (i := 25) (rfl : tables_1_8[25]? = some (Cond.methodLink RX12 78 yX12_of)))
theorem lkX12_81 : Cond.methodLink RX12 81 yX12_has ∈ lw_tbl := zt8 (List.mem_of_getElem? (i := 33) (rfl : tables_1_8[33]? = some (Cond.methodLink RX12 81 yX12_has)))
theorem lkX12_95 : Cond.methodLink RX12 95 yX12_isAt ∈ lw_tbl := zt7 (List.mem_of_getElem? (i := 138) (rfl : tables_1_7[138]? = some (Cond.methodLink RX12 95 yX12_isAt)))
theorem lkX12_101 : Cond.methodLink RX12 101 yX12_blanks ∈ lw_tbl := zt7 (List.mem_of_getElem? (i := 134) (rfl : tables_1_7[134]? = some (Cond.methodLink RX12 101 yX12_blanks)))
theorem lkX12_104 : Cond.methodLink RX12 104 yJ0_length_8abf5 ∈ lw_tbl := zt7 (List.mem_of_getElem? (i := 155) (rfl : tables_1_7[155]? = some (Cond.methodLink RX12 104 yJ0_length_8abf5)))
theorem lkX12_109 : Cond.methodLink RX12 109 yJ0_charAt_5068e ∈ lw_tbl := zt7 (List.mem_of_getElem? (i := 156) (rfl : tables_1_7[156]? = some (Cond.methodLink RX12 109 yJ0_charAt_5068e)))
theorem lkX12_113 : Cond.methodLink RX12 113 yX12_letters ∈ lw_tbl := zt7 (List.mem_of_getElem? (i := 142) (rfl : tables_1_7[142]? = some (Cond.methodLink RX12 113 yX12_letters)))
theorem lkX12_116 : Cond.methodLink RX12 116 yX12_isWord ∈ lw_tbl := zt7 (List.mem_of_getElem? (i := 151) (rfl : tables_1_7[151]? = some (Cond.methodLink RX12 116 yX12_isWord)))
theorem lkX12_120 : Cond.methodLink RX12 120 yX12_number ∈ lw_tbl := zt7 (List.mem_of_getElem? (i := 196) (rfl : tables_1_7[196]? = some (Cond.methodLink RX12 120 yX12_number)))
theorem lkX12_125 : Cond.methodLink RX12 125 yX12_passes ∈ lw_tbl := zt7 (List.mem_of_getElem? (i := 169) (rfl : tables_1_7[169]? = some (Cond.methodLink RX12 125 yX12_passes)))
theorem lkX12_128 : Cond.methodLink RX12 128 yX12_knows ∈ lw_tbl := zt7 (List.mem_of_getElem? (i := 173) (rfl : tables_1_7[173]? = some (Cond.methodLink RX12 128 yX12_knows)))
theorem lkX12_132 : Cond.methodLink RX12 132 yX12_hasItFrom ∈ lw_tbl := zt7 (List.mem_of_getElem? (i := 183) (rfl : tables_1_7[183]? = some (Cond.methodLink RX12 132 yX12_hasItFrom)))
theorem lkX12_136 : Cond.methodLink RX12 136 yX12_otherAt ∈ lw_tbl := zt7 (List.mem_of_getElem? (i := 177) (rfl : tables_1_7[177]? = some (Cond.methodLink RX12 136 yX12_otherAt)))
theorem lkX12_139 : Cond.methodLink RX12 139 yX12_ofLink ∈ lw_tbl := zt7 (List.mem_of_getElem? (i := 204) (rfl : tables_1_7[204]? = some (Cond.methodLink RX12 139 yX12_ofLink)))
theorem lkX12_142 : Cond.methodLink RX12 142 yX12_between ∈ lw_tbl := zt7 (List.mem_of_getElem? (i := 200) (rfl : tables_1_7[200]? = some (Cond.methodLink RX12 142 yX12_between)))
theorem lkX12_147 : Cond.methodLink RX12 147 yX12_behind ∈ lw_tbl := zt7 (List.mem_of_getElem? (i := 212) (rfl : tables_1_7[212]? = some (Cond.methodLink RX12 147 yX12_behind)))
theorem lkX12_153 : Cond.methodLink RX12 153 yX12_readNumber ∈ lw_tbl := zt7 (List.mem_of_getElem? (i := 218) (rfl : tables_1_7[218]? = some (Cond.methodLink RX12 153 yX12_readNumber)))
theorem lkX12_158 : Cond.methodLink RX12 158 yX12_readNode ∈ lw_tbl := zt7 (List.mem_of_getElem? (i := 157) (rfl : tables_1_7[157]? = some (Cond.methodLink RX12 158 yX12_readNode)))
theorem lkX12_164 : Cond.methodLink RX12 164 yX12_readLink ∈ lw_tbl := zt7 (List.mem_of_getElem? (i := 188) (rfl : tables_1_7[188]? = some (Cond.methodLink RX12 164 yX12_readLink)))
theorem lkX12_171 : Cond.methodLink RX12 171 yX12_readRequest ∈ lw_tbl := zt7 (List.mem_of_getElem? (i := 223) (rfl : tables_1_7[223]? = some (Cond.methodLink RX12 171 yX12_readRequest)))
theorem lkX12_182 : Cond.methodLink RX12 182 yX12_readLine ∈ lw_tbl := zt7 (List.mem_of_getElem? (i := 146) (rfl : tables_1_7[146]? = some (Cond.methodLink RX12 182 yX12_readLine)))
theorem lkX12_185 : Cond.methodLink RX12 185 yX12_readGroup ∈ lw_tbl := zt7 (List.mem_of_getElem? (i := 130) (rfl : tables_1_7[130]? = some (Cond.methodLink RX12 185 yX12_readGroup)))
theorem lkX12_188 : Cond.methodLink RX12 188 yX12_throwsIf ∈ lw_tbl := zt7 (List.mem_of_getElem? (i := 231) (rfl : tables_1_7[231]? = some (Cond.methodLink RX12 188 yX12_throwsIf)))
theorem lkX12_193 : Cond.methodLink RX12 193 yX12_at ∈ lw_tbl := zt8 (List.mem_of_getElem? (i := 118) (rfl : tables_1_8[118]? = some (Cond.methodLink RX12 193 yX12_at)))
theorem lkX12_196 : Cond.methodLink RX12 196 yX12_delayOf ∈ lw_tbl := zt8 (List.mem_of_getElem? (i := 121) (rfl : tables_1_8[121]? = some (Cond.methodLink RX12 196 yX12_delayOf)))
theorem lkX12_199 : Cond.methodLink RX12 199 yJ9_min_7cf53 ∈ lw_tbl := zt8 (List.mem_of_getElem? (i := 65) (rfl : tables_1_8[65]? = some (Cond.methodLink RX12 199 yJ9_min_7cf53)))
theorem lkX12_204 : Cond.methodLink RX12 204 yX12_isWay ∈ lw_tbl := zt8 (List.mem_of_getElem? (i := 126) (rfl : tables_1_8[126]? = some (Cond.methodLink RX12 204 yX12_isWay)))
theorem lkX12_207 : Cond.methodLink RX12 207 yX12_aboveOf ∈ lw_tbl := zt8 (List.mem_of_getElem? (i := 130) (rfl : tables_1_8[130]? = some (Cond.methodLink RX12 207 yX12_aboveOf)))
theorem lkX12_210 : Cond.methodLink RX12 210 yX12_hopsOf ∈ lw_tbl := zt8 (List.mem_of_getElem? (i := 134) (rfl : tables_1_8[134]? = some (Cond.methodLink RX12 210 yX12_hopsOf)))
theorem lkX12_213 : Cond.methodLink RX12 213 yX12_ofPacket ∈ lw_tbl := zt8 (List.mem_of_getElem? (i := 66) (rfl : tables_1_8[66]? = some (Cond.methodLink RX12 213 yX12_ofPacket)))
theorem lkX12_216 : Cond.methodLink RX12 216 yX12_hasGap ∈ lw_tbl := zt8 (List.mem_of_getElem? (i := 36) (rfl : tables_1_8[36]? = some (Cond.methodLink RX12 216 yX12_hasGap)))
theorem lkX12_223 : Cond.methodLink RX12 223 yX12_drawn ∈ lw_tbl := zt8 (List.mem_of_getElem? (i := 90) (rfl : tables_1_8[90]? = some (Cond.methodLink RX12 223 yX12_drawn)))
theorem lkX12_227 : Cond.methodLink RX12 227 yX12_messageAt ∈ lw_tbl := zt8 (List.mem_of_getElem? (i := 14) (rfl : tables_1_8[14]? = some (Cond.methodLink RX12 227 yX12_messageAt)))
theorem lkX12_230 : Cond.methodLink RX12 230 yX12_comesBehind ∈ lw_tbl := zt8 (List.mem_of_getElem? (i := 142) (rfl : tables_1_8[142]? = some (Cond.methodLink RX12 230 yX12_comesBehind)))
theorem lkX12_233 : Cond.methodLink RX12 233 yX12_laysWays ∈ lw_tbl := zt8 (List.mem_of_getElem? (i := 114) (rfl : tables_1_8[114]? = some (Cond.methodLink RX12 233 yX12_laysWays)))
theorem lkX12_236 : Cond.methodLink RX12 236 yX12_behindIn ∈ lw_tbl := zt8 (List.mem_of_getElem? (i := 138) (rfl : tables_1_8[138]? = some (Cond.methodLink RX12 236 yX12_behindIn)))
theorem lkX12_239 : Cond.methodLink RX12 239 yX12_isLost ∈ lw_tbl := zt8 (List.mem_of_getElem? (i := 146) (rfl : tables_1_8[146]? = some (Cond.methodLink RX12 239 yX12_isLost)))
theorem lkX12_243 : Cond.methodLink RX12 243 yX12_isOnWay ∈ lw_tbl := zt8 (List.mem_of_getElem? (i := 150) (rfl : tables_1_8[150]? = some (Cond.methodLink RX12 243 yX12_isOnWay)))
theorem lkX12_247 : Cond.methodLink RX12 247 yX12_hasGapBehind ∈ lw_tbl := zt8 (List.mem_of_getElem? (i := 154) (rfl : tables_1_8[154]? = some (Cond.methodLink RX12 247 yX12_hasGapBehind)))
theorem lkX12_250 : Cond.methodLink RX12 250 yX12_noGap ∈ lw_tbl := zt8 (List.mem_of_getElem? (i := 57) (rfl : tables_1_8[57]? = some (Cond.methodLink RX12 250 yX12_noGap)))
theorem lkX12_253 : Cond.methodLink RX12 253 yJ9_max_7cf53 ∈ lw_tbl := zt8 (List.mem_of_getElem? (i := 48) (rfl : tables_1_8[48]? = some (Cond.methodLink RX12 253 yJ9_max_7cf53)))
theorem lkX12_256 : Cond.methodLink RX12 256 yX12_estOf ∈ lw_tbl := zt8 (List.mem_of_getElem? (i := 74) (rfl : tables_1_8[74]? = some (Cond.methodLink RX12 256 yX12_estOf)))
theorem lkX12_259 : Cond.methodLink RX12 259 yX12_timeBy ∈ lw_tbl := zt8 (List.mem_of_getElem? (i := 86) (rfl : tables_1_8[86]? = some (Cond.methodLink RX12 259 yX12_timeBy)))
theorem lkX12_263 : Cond.methodLink RX12 263 yX12_asksAnew ∈ lw_tbl := zt8 (List.mem_of_getElem? (i := 82) (rfl : tables_1_8[82]? = some (Cond.methodLink RX12 263 yX12_asksAnew)))
theorem lkX12_266 : Cond.methodLink RX12 266 yJ9_floorDiv_7cf53 ∈ lw_tbl := zt8 (List.mem_of_getElem? (i := 47) (rfl : tables_1_8[47]? = some (Cond.methodLink RX12 266 yJ9_floorDiv_7cf53)))
theorem lkX12_269 : Cond.methodLink RX12 269 yX12_half ∈ lw_tbl := zt8 (List.mem_of_getElem? (i := 44) (rfl : tables_1_8[44]? = some (Cond.methodLink RX12 269 yX12_half)))
theorem lkX12_272 : Cond.methodLink RX12 272 yX12_hasIt ∈ lw_tbl := zt8 (List.mem_of_getElem? (i := 29) (rfl : tables_1_8[29]? = some (Cond.methodLink RX12 272 yX12_hasIt)))
theorem lkX12_275 : Cond.methodLink RX12 275 yX12_more ∈ lw_tbl := zt8 (List.mem_of_getElem? (i := 53) (rfl : tables_1_8[53]? = some (Cond.methodLink RX12 275 yX12_more)))
theorem lkX12_278 : Cond.methodLink RX12 278 yX12_isTold ∈ lw_tbl := zt8 (List.mem_of_getElem? (i := 61) (rfl : tables_1_8[61]? = some (Cond.methodLink RX12 278 yX12_isTold)))
theorem lkX12_281 : Cond.methodLink RX12 281 yX12_adapts ∈ lw_tbl := zt8 (List.mem_of_getElem? (i := 70) (rfl : tables_1_8[70]? = some (Cond.methodLink RX12 281 yX12_adapts)))
theorem lkX12_284 : Cond.methodLink RX12 284 yX12_backsOff ∈ lw_tbl := zt8 (List.mem_of_getElem? (i := 99) (rfl : tables_1_8[99]? = some (Cond.methodLink RX12 284 yX12_backsOff)))
theorem lkX12_287 : Cond.methodLink RX12 287 yX12_isUp ∈ lw_tbl := zt8 (List.mem_of_getElem? (i := 21) (rfl : tables_1_8[21]? = some (Cond.methodLink RX12 287 yX12_isUp)))
theorem lkX12_290 : Cond.methodLink RX12 290 yX12_hearsReport ∈ lw_tbl := zt8 (List.mem_of_getElem? (i := 40) (rfl : tables_1_8[40]? = some (Cond.methodLink RX12 290 yX12_hearsReport)))
theorem lkX12_293 : Cond.methodLink RX12 293 yX12_hearsPacket ∈ lw_tbl := zt8 (List.mem_of_getElem? (i := 49) (rfl : tables_1_8[49]? = some (Cond.methodLink RX12 293 yX12_hearsPacket)))
theorem lkX12_297 : Cond.methodLink RX12 297 yX12_hearsHow ∈ lw_tbl := zt8 (List.mem_of_getElem? (i := 78) (rfl : tables_1_8[78]? = some (Cond.methodLink RX12 297 yX12_hearsHow)))
theorem lkX12_300 : Cond.methodLink RX12 300 yX12_hearsRequest ∈ lw_tbl := zt8 (List.mem_of_getElem? (i := 95) (rfl : tables_1_8[95]? = some (Cond.methodLink RX12 300 yX12_hearsRequest)))
theorem lkX12_303 : Cond.methodLink RX12 303 yX12_isHeard ∈ lw_tbl := zt8 (List.mem_of_getElem? (i := 17) (rfl : tables_1_8[17]? = some (Cond.methodLink RX12 303 yX12_isHeard)))
theorem lkX12_306 : Cond.methodLink RX12 306 yX12_isDue ∈ lw_tbl := zt8 (List.mem_of_getElem? (i := 107) (rfl : tables_1_8[107]? = some (Cond.methodLink RX12 306 yX12_isDue)))
theorem lkX12_309 : Cond.methodLink RX12 309 yX12_flood ∈ lw_tbl := zt8 (List.mem_of_getElem? (i := 110) (rfl : tables_1_8[110]? = some (Cond.methodLink RX12 309 yX12_flood)))
theorem lkX12_312 : Cond.methodLink RX12 312 yX12_allCome ∈ lw_tbl := zt8 (List.mem_of_getElem? (i := 10) (rfl : tables_1_8[10]? = some (Cond.methodLink RX12 312 yX12_allCome)))
theorem lkX12_315 : Cond.methodLink RX12 315 yX12_talks ∈ lw_tbl := zt8 (List.mem_of_getElem? (i := 103) (rfl : tables_1_8[103]? = some (Cond.methodLink RX12 315 yX12_talks)))
theorem lkX12_318 : Cond.methodLink RX12 318 yX12_canSend ∈ lw_tbl := zt8 (List.mem_of_getElem? (i := 158) (rfl : tables_1_8[158]? = some (Cond.methodLink RX12 318 yX12_canSend)))
theorem lkX12_321 : Cond.methodLink RX12 321 yX12_isSent ∈ lw_tbl := zt8 (List.mem_of_getElem? (i := 162) (rfl : tables_1_8[162]? = some (Cond.methodLink RX12 321 yX12_isSent)))
theorem lkX12_324 : Cond.methodLink RX12 324 yX12_oneTick ∈ lw_tbl := zt8 (List.mem_of_getElem? (i := 6) (rfl : tables_1_8[6]? = some (Cond.methodLink RX12 324 yX12_oneTick)))
theorem lkX12_327 : Cond.methodLink RX12 327 yX12_goesOn ∈ lw_tbl := zt8 (List.mem_of_getElem? (i := 2) (rfl : tables_1_8[2]? = some (Cond.methodLink RX12 327 yX12_goesOn)))
theorem lkX12_330 : Cond.methodLink RX12 330 yX12_noNode ∈ lw_tbl := zt8 (List.mem_of_getElem? (i := 174) (rfl : tables_1_8[174]? = some (Cond.methodLink RX12 330 yX12_noNode)))
theorem lkX12_333 : Cond.methodLink RX12 333 yX12_noLink ∈ lw_tbl := zt8 (List.mem_of_getElem? (i := 182) (rfl : tables_1_8[182]? = some (Cond.methodLink RX12 333 yX12_noLink)))
theorem lkX12_336 : Cond.methodLink RX12 336 yX12_noPacket ∈ lw_tbl := zt8 (List.mem_of_getElem? (i := 194) (rfl : tables_1_8[194]? = some (Cond.methodLink RX12 336 yX12_noPacket)))
theorem lkX12_339 : Cond.methodLink RX12 339 yX12_noNodePacket ∈ lw_tbl := zt8 (List.mem_of_getElem? (i := 209) (rfl : tables_1_8[209]? = some (Cond.methodLink RX12 339 yX12_noNodePacket)))
theorem lkX12_342 : Cond.methodLink RX12 342 yX12_noTwo ∈ lw_tbl := zt8 (List.mem_of_getElem? (i := 229) (rfl : tables_1_8[229]? = some (Cond.methodLink RX12 342 yX12_noTwo)))
theorem lkX12_345 : Cond.methodLink RX12 345 yX12_isHolder ∈ lw_tbl := zt9 (List.mem_of_getElem? (i := 5) (rfl : tables_1_9[5]? = some (Cond.methodLink RX12 345 yX12_isHolder)))
theorem lkX12_348 : Cond.methodLink RX12 348 yX12_reachOf ∈ lw_tbl := zt9 (List.mem_of_getElem? (i := 13) (rfl : tables_1_9[13]? = some (Cond.methodLink RX12 348 yX12_reachOf)))
theorem lkX12_351 : Cond.methodLink RX12 351 yX12_holdersOf ∈ lw_tbl := zt9 (List.mem_of_getElem? (i := 21) (rfl : tables_1_9[21]? = some (Cond.methodLink RX12 351 yX12_holdersOf)))
theorem lkX12_354 : Cond.methodLink RX12 354 yX12_keepsAll ∈ lw_tbl := zt9 (List.mem_of_getElem? (i := 33) (rfl : tables_1_9[33]? = some (Cond.methodLink RX12 354 yX12_keepsAll)))
theorem lkX12_357 : Cond.methodLink RX12 357 yX12_isWhole ∈ lw_tbl := zt9 (List.mem_of_getElem? (i := 37) (rfl : tables_1_9[37]? = some (Cond.methodLink RX12 357 yX12_isWhole)))
theorem lkX12_360 : Cond.methodLink RX12 360 yX12_bringsBack ∈ lw_tbl := zt9 (List.mem_of_getElem? (i := 41) (rfl : tables_1_9[41]? = some (Cond.methodLink RX12 360 yX12_bringsBack)))
theorem lkX12_363 : Cond.methodLink RX12 363 yX12_sentByAll ∈ lw_tbl := zt9 (List.mem_of_getElem? (i := 49) (rfl : tables_1_9[49]? = some (Cond.methodLink RX12 363 yX12_sentByAll)))
theorem lkX12_366 : Cond.methodLink RX12 366 yX12_requestsBy ∈ lw_tbl := zt9 (List.mem_of_getElem? (i := 57) (rfl : tables_1_9[57]? = some (Cond.methodLink RX12 366 yX12_requestsBy)))
theorem lkX12_369 : Cond.methodLink RX12 369 yX12_laysGivers ∈ lw_tbl := zt9 (List.mem_of_getElem? (i := 65) (rfl : tables_1_9[65]? = some (Cond.methodLink RX12 369 yX12_laysGivers)))
theorem lkX12_372 : Cond.methodLink RX12 372 yX12_waysOf ∈ lw_tbl := zt9 (List.mem_of_getElem? (i := 85) (rfl : tables_1_9[85]? = some (Cond.methodLink RX12 372 yX12_waysOf)))
theorem lkX12_375 : Cond.methodLink RX12 375 yX12_greatestWay ∈ lw_tbl := zt9 (List.mem_of_getElem? (i := 89) (rfl : tables_1_9[89]? = some (Cond.methodLink RX12 375 yX12_greatestWay)))
theorem lkX12_378 : Cond.methodLink RX12 378 yX12_isNearOne ∈ lw_tbl := zt9 (List.mem_of_getElem? (i := 105) (rfl : tables_1_9[105]? = some (Cond.methodLink RX12 378 yX12_isNearOne)))
theorem lkX12_381 : Cond.methodLink RX12 381 yX12_cuts ∈ lw_tbl := zt9 (List.mem_of_getElem? (i := 109) (rfl : tables_1_9[109]? = some (Cond.methodLink RX12 381 yX12_cuts)))
theorem lkX12_384 : Cond.methodLink RX12 384 yJ6_bitCount_0f7a4 ∈ lw_tbl := zt9 (List.mem_of_getElem? (i := 113) (rfl : tables_1_9[113]? = some (Cond.methodLink RX12 384 yJ6_bitCount_0f7a4)))
theorem lkX12_389 : Cond.methodLink RX12 389 yX12_isCut ∈ lw_tbl := zt9 (List.mem_of_getElem? (i := 114) (rfl : tables_1_9[114]? = some (Cond.methodLink RX12 389 yX12_isCut)))
theorem lkX12_393 : Cond.methodLink RX12 393 yX12_waysMany ∈ lw_tbl := zt9 (List.mem_of_getElem? (i := 122) (rfl : tables_1_9[122]? = some (Cond.methodLink RX12 393 yX12_waysMany)))
theorem lkJ0_335 : Cond.methodLink RJ0 335 yJ0_coder_7d493 ∈ lw_tbl := zt4 (List.mem_of_getElem? (i := 172) (rfl : tables_1_4[172]? = some (Cond.methodLink RJ0 335 yJ0_coder_7d493)))
theorem lkJ0_492 : Cond.methodLink RJ0 492 yJ0_isLatin1_aae02 ∈ lw_tbl := zt4 (List.mem_of_getElem? (i := 182) (rfl : tables_1_4[182]? = some (Cond.methodLink RJ0 492 yJ0_isLatin1_aae02)))
theorem lkJ0_495 : Cond.methodLink RJ0 495 yJ1_charAt_3b067 ∈ lw_tbl := zt4 (List.mem_of_getElem? (i := 186) (rfl : tables_1_4[186]? = some (Cond.methodLink RJ0 495 yJ1_charAt_3b067)))
theorem lkJ0_498 : Cond.methodLink RJ0 498 yJ2_charAt_3b067 ∈ lw_tbl := zt4 (List.mem_of_getElem? (i := 197) (rfl : tables_1_4[197]? = some (Cond.methodLink RJ0 498 yJ2_charAt_3b067)))
theorem lkJ0_1059 : Cond.methodLink RJ0 1059 yJ3_checkIndex_8e157 ∈ lw_tbl := zt4 (List.mem_of_getElem? (i := 194) (rfl : tables_1_4[194]? = some (Cond.methodLink RJ0 1059 yJ3_checkIndex_8e157)))
theorem lkJ1_9 : Cond.methodLink RJ1 9 yJ0_checkIndex_df160 ∈ lw_tbl := zt4 (List.mem_of_getElem? (i := 189) (rfl : tables_1_4[189]? = some (Cond.methodLink RJ1 9 yJ0_checkIndex_df160)))
theorem lkJ2_48 : Cond.methodLink RJ2 48 yJ2_length_9d52b ∈ lw_tbl := zt4 (List.mem_of_getElem? (i := 203) (rfl : tables_1_4[203]? = some (Cond.methodLink RJ2 48 yJ2_length_9d52b)))
theorem lkJ2_67 : Cond.methodLink RJ2 67 yJ2_checkIndex_2214a ∈ lw_tbl := zt4 (List.mem_of_getElem? (i := 200) (rfl : tables_1_4[200]? = some (Cond.methodLink RJ2 67 yJ2_checkIndex_2214a)))
theorem lkJ2_71 : Cond.methodLink RJ2 71 yJ2_getChar_3b067 ∈ lw_tbl := zt4 (List.mem_of_getElem? (i := 207) (rfl : tables_1_4[207]? = some (Cond.methodLink RJ2 71 yJ2_getChar_3b067)))
theorem lkJ2_414 : Cond.methodLink RJ2 414 yJ0_checkIndex_df160 ∈ lw_tbl := zt4 (List.mem_of_getElem? (i := 206) (rfl : tables_1_4[206]? = some (Cond.methodLink RJ2 414 yJ0_checkIndex_df160)))
theorem lkX11_9 : Cond.methodLinkNest RX11 9 yX7_init RX11 ∈ lw_tbl := zt1 (List.mem_of_getElem? (i := 40) (rfl : tables_1_1[40]? = some (Cond.methodLinkNest RX11 9 yX7_init RX11)))
theorem lkX11_27 : Cond.methodLinkNest RX11 27 yX10_init RX11 ∈ lw_tbl := zt1 (List.mem_of_getElem? (i := 75) (rfl : tables_1_1[75]? = some (Cond.methodLinkNest RX11 27 yX10_init RX11)))
theorem lkX0_46 : Cond.methodLinkNest RX0 46 yX11_copyRow RX11 ∈ lw_tbl := zt3 (List.mem_of_getElem? (i := 129) (rfl : tables_1_3[129]? = some (Cond.methodLinkNest RX0 46 yX11_copyRow RX11)))
theorem lkX2_34 : Cond.methodLinkNest RX2 34 yX11_copyRow RX11 ∈ lw_tbl := zt3 (List.mem_of_getElem? (i := 119) (rfl : tables_1_3[119]? = some (Cond.methodLinkNest RX2 34 yX11_copyRow RX11)))
theorem lkX2_38 : Cond.methodLinkNest RX2 38 yX11_isIn RX11 ∈ lw_tbl := zt4 (List.mem_of_getElem? (i := 97) (rfl : tables_1_4[97]? = some (Cond.methodLinkNest RX2 38 yX11_isIn RX11)))
theorem lkX3_22 : Cond.methodLinkNest RX3 22 yX11_copyRow RX11 ∈ lw_tbl := zt3 (List.mem_of_getElem? (i := 134) (rfl : tables_1_3[134]? = some (Cond.methodLinkNest RX3 22 yX11_copyRow RX11)))
theorem lkX4_22 : Cond.methodLinkNest RX4 22 yX11_rowOfNone RX11 ∈ lw_tbl := zt1 (List.mem_of_getElem? (i := 154) (rfl : tables_1_1[154]? = some (Cond.methodLinkNest RX4 22 yX11_rowOfNone RX11)))
theorem lkX4_65 : Cond.methodLinkNest RX4 65 yX11_copyRow RX11 ∈ lw_tbl := zt3 (List.mem_of_getElem? (i := 101) (rfl : tables_1_3[101]? = some (Cond.methodLinkNest RX4 65 yX11_copyRow RX11)))
theorem lkX4_69 : Cond.methodLinkNest RX4 69 yX11_isIn RX11 ∈ lw_tbl := zt3 (List.mem_of_getElem? (i := 146) (rfl : tables_1_3[146]? = some (Cond.methodLinkNest RX4 69 yX11_isIn RX11)))
theorem lkX4_73 : Cond.methodLinkNest RX4 73 yX11_bitsBelow RX11 ∈ lw_tbl := zt3 (List.mem_of_getElem? (i := 222) (rfl : tables_1_3[222]? = some (Cond.methodLinkNest RX4 73 yX11_bitsBelow RX11)))
theorem lkX5_11 : Cond.methodLinkNest RX5 11 yX11_rowOfNone RX11 ∈ lw_tbl := zt2 (List.mem_of_getElem? (i := 1) (rfl : tables_1_2[1]? = some (Cond.methodLinkNest RX5 11 yX11_rowOfNone RX11)))
theorem lkX5_55 : Cond.methodLinkNest RX5 55 yX11_copyRow RX11 ∈ lw_tbl := zt3 (List.mem_of_getElem? (i := 114) (rfl : tables_1_3[114]? = some (Cond.methodLinkNest RX5 55 yX11_copyRow RX11)))
theorem lkX9_15 : Cond.methodLinkNest RX9 15 yX11_rowOfNone RX11 ∈ lw_tbl := zt2 (List.mem_of_getElem? (i := 108) (rfl : tables_1_2[108]? = some (Cond.methodLinkNest RX9 15 yX11_rowOfNone RX11)))
theorem lkX9_38 : Cond.methodLinkNest RX9 38 yX11_copyRow RX11 ∈ lw_tbl := zt3 (List.mem_of_getElem? (i := 124) (rfl : tables_1_3[124]? = some (Cond.methodLinkNest RX9 38 yX11_copyRow RX11)))
theorem lkX9_59 : Cond.methodLinkNest RX9 59 yX11_pair RX11 ∈ lw_tbl := zt4 (List.mem_of_getElem? (i := 114) (rfl : tables_1_4[114]? = some (Cond.methodLinkNest RX9 59 yX11_pair RX11)))
theorem lkX9_88 : Cond.methodLinkNest RX9 88 yX11_isIn RX11 ∈ lw_tbl := zt6 (List.mem_of_getElem? (i := 124) (rfl : tables_1_6[124]? = some (Cond.methodLinkNest RX9 88 yX11_isIn RX11)))
theorem lkX9_96 : Cond.methodLinkNest RX9 96 yX11_bitsBelow RX11 ∈ lw_tbl := zt7 (List.mem_of_getElem? (i := 11) (rfl : tables_1_7[11]? = some (Cond.methodLinkNest RX9 96 yX11_bitsBelow RX11)))
theorem lkX10_11 : Cond.methodLinkNest RX10 11 yX8_init RX11 ∈ lw_tbl := zt1 (List.mem_of_getElem? (i := 81) (rfl : tables_1_1[81]? = some (Cond.methodLinkNest RX10 11 yX8_init RX11)))
theorem lkX10_20 : Cond.methodLinkNest RX10 20 yX1_init RX11 ∈ lw_tbl := zt1 (List.mem_of_getElem? (i := 134) (rfl : tables_1_1[134]? = some (Cond.methodLinkNest RX10 20 yX1_init RX11)))
theorem lkX10_34 : Cond.methodLinkNest RX10 34 yX5_init RX11 ∈ lw_tbl := zt1 (List.mem_of_getElem? (i := 237) (rfl : tables_1_1[237]? = some (Cond.methodLinkNest RX10 34 yX5_init RX11)))
theorem lkX10_41 : Cond.methodLinkNest RX10 41 yX2_init RX11 ∈ lw_tbl := zt2 (List.mem_of_getElem? (i := 63) (rfl : tables_1_2[63]? = some (Cond.methodLinkNest RX10 41 yX2_init RX11)))
theorem lkX10_48 : Cond.methodLinkNest RX10 48 yX9_init RX11 ∈ lw_tbl := zt2 (List.mem_of_getElem? (i := 104) (rfl : tables_1_2[104]? = some (Cond.methodLinkNest RX10 48 yX9_init RX11)))
theorem lkX10_55 : Cond.methodLinkNest RX10 55 yX0_init RX11 ∈ lw_tbl := zt2 (List.mem_of_getElem? (i := 142) (rfl : tables_1_2[142]? = some (Cond.methodLinkNest RX10 55 yX0_init RX11)))
theorem lkX10_62 : Cond.methodLinkNest RX10 62 yX3_init RX11 ∈ lw_tbl := zt2 (List.mem_of_getElem? (i := 200) (rfl : tables_1_2[200]? = some (Cond.methodLinkNest RX10 62 yX3_init RX11)))
theorem lkX10_156 : Cond.methodLinkNest RX10 156 yX11_cell RX11 ∈ lw_tbl := zt3 (List.mem_of_getElem? (i := 161) (rfl : tables_1_3[161]? = some (Cond.methodLinkNest RX10 156 yX11_cell RX11)))
theorem lkX10_186 : Cond.methodLinkNest RX10 186 yX11_bitsBelow RX11 ∈ lw_tbl := zt3 (List.mem_of_getElem? (i := 139) (rfl : tables_1_3[139]? = some (Cond.methodLinkNest RX10 186 yX11_bitsBelow RX11)))
theorem lkX10_208 : Cond.methodLinkNest RX10 208 yX11_pair RX11 ∈ lw_tbl := zt3 (List.mem_of_getElem? (i := 172) (rfl : tables_1_3[172]? = some (Cond.methodLinkNest RX10 208 yX11_pair RX11)))
theorem lkX10_303 : Cond.methodLinkNest RX10 303 yX11_isIn RX11 ∈ lw_tbl := zt3 (List.mem_of_getElem? (i := 223) (rfl : tables_1_3[223]? = some (Cond.methodLinkNest RX10 303 yX11_isIn RX11)))
theorem ckX1_18 : Cond.constant RX1 18 (1103515245) ∈ lw_tbl := zt4 (List.mem_of_getElem? (i := 0) (rfl : tables_1_4[0]? = some (Cond.constant RX1 18 (1103515245))))
theorem ckX12_85 : Cond.constant RX12 85 (1103515245) ∈ lw_tbl := zt8 (List.mem_of_getElem? (i := 94) (rfl : tables_1_8[94]? = some (Cond.constant RX12 85 (1103515245))))
theorem ckX12_192 : Cond.constant RX12 192 (1000000) ∈ lw_tbl := zt8 (List.mem_of_getElem? (i := 125) (rfl : tables_1_8[125]? = some (Cond.constant RX12 192 (1000000))))
theorem ckJ6_265 : Cond.constant RJ6 265 (1431655765) ∈ lw_tbl := zt6 (List.mem_of_getElem? (i := 229) (rfl : tables_1_6[229]? = some (Cond.constant RJ6 265 (1431655765))))
theorem ckJ6_266 : Cond.constant RJ6 266 (858993459) ∈ lw_tbl := zt6 (List.mem_of_getElem? (i := 230) (rfl : tables_1_6[230]? = some (Cond.constant RJ6 266 (858993459))))
theorem ckJ6_267 : Cond.constant RJ6 267 (252645135) ∈ lw_tbl := zt6 (List.mem_of_getElem? (i := 231) (rfl : tables_1_6[231]? = some (Cond.constant RJ6 267 (252645135))))
