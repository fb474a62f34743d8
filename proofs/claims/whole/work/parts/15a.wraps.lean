-- L_group
abbrev hhL_group : zHH := [(0, 8, 11, 13), (0, 8, 14, 15)]
abbrev mL_group : zY := (yL_group, cL_group, 3, (some .int))
set_option maxRecDepth 20000 in
set_option maxHeartbeats 4000000 in
theorem tL_group_r {F : Nat} {μ μ1 : zM} {r : Int32} (h : eX11_group F μ = some (.inl r, μ1)) : LMW mL_group hhL_group 12 (4, 24) [zq 0 0, zq 2 0] μ (some (zi (nI 0))) (zg μ1 2 (zw (μ1 2) 0 0 r)) := by
  refine LMW.of (by decide +kernel) rfl (Nat.le_of_ble_eq_true rfl) ?_
  show zJ mL_group 12 (4, 24) (0, 0) _ 0 [some (zq 0 0), some (zq 2 0), none] [] _
  refine z_aload dL_group_0 rfl (z_const dL_group_1 (z_aload dL_group_2 rfl (z_callVC dL_group_3 (tX11_group h) (Nat.le_of_ble_eq_true rfl) cdX11_group naX11_group lkL_7 imX11_group seX11_group in0_0 sh0_0 rfl rfl rfl (Nat.le_of_ble_eq_true rfl) ⟨(Nat.le_of_ble_eq_true rfl), (Nat.le_of_ble_eq_true rfl)⟩ (fun q hq => ?_) (fun E hE => by cases hE))))
  cases hq
  exact z_i2l dL_group_6 (z_focus 2 (z_lastN dL_group_7 in2_0 sh2_0 (Nat.le_of_ble_eq_true rfl) (Nat.le_of_ble_eq_true rfl) (z_goto dL_group_8 (z_const dL_group_17 (z_iretW dL_group_18 rfl rfl)))))
theorem hnL_group_0 : zHnd RL hhL_group "java/lang/IllegalArgumentException" 3 11 := ⟨[], (0, 8, 11, 13), [(0, 8, 14, 15)], "java/lang/IllegalArgumentException", rfl, (fun z hz => by cases hz), by decide, by decide, zt4 (List.mem_of_getElem? (i := 134) (rfl : tables_1_4[134]? = some (Cond.classLink RL 13 "java/lang/IllegalArgumentException"))), zt5 (List.mem_of_getElem? (i := 36) (rfl : tables_1_5[36]? = some (Cond.castable "java/lang/IllegalArgumentException" "java/lang/IllegalArgumentException"))), rfl⟩
set_option maxRecDepth 20000 in
set_option maxHeartbeats 4000000 in
theorem tL_group_0 {F : Nat} {μ μ1 : zM} (h : eX11_group F μ = some (.inr "java/lang/IllegalArgumentException", μ1)) : LMW mL_group hhL_group 12 (4, 24) [zq 0 0, zq 2 0] μ (some (zi (nI 1))) μ1 := by
  refine LMW.of (by decide +kernel) rfl (Nat.le_of_ble_eq_true rfl) ?_
  show zJ mL_group 12 (4, 24) (0, 0) _ 0 [some (zq 0 0), some (zq 2 0), none] [] _
  refine z_aload dL_group_0 rfl (z_const dL_group_1 (z_aload dL_group_2 rfl (z_callVC dL_group_3 (tX11_group h) (Nat.le_of_ble_eq_true rfl) cdX11_group naX11_group lkL_7 imX11_group seX11_group in0_0 sh0_0 rfl rfl rfl (Nat.le_of_ble_eq_true rfl) ⟨(Nat.le_of_ble_eq_true rfl), (Nat.le_of_ble_eq_true rfl)⟩ (fun q hq => by cases hq) (fun E hE => ?_))))
  cases hE
  exact ⟨_, _, _, hnL_group_0, dL_group_11, (Nat.le_of_ble_eq_true rfl), z_const dL_group_12 (z_iretW dL_group_13 rfl rfl)⟩
theorem hnL_group_1 : zHnd RL hhL_group "java/lang/UnsupportedOperationException" 3 14 := ⟨[(0, 8, 11, 13)], (0, 8, 14, 15), [], "java/lang/UnsupportedOperationException", rfl, (fun z hz => by
      cases List.mem_singleton.mp hz
      exact ⟨by decide, "java/lang/IllegalArgumentException", zt4 (List.mem_of_getElem? (i := 134) (rfl : tables_1_4[134]? = some (Cond.classLink RL 13 "java/lang/IllegalArgumentException"))), by decide +kernel⟩), by decide, by decide, zt4 (List.mem_of_getElem? (i := 135) (rfl : tables_1_4[135]? = some (Cond.classLink RL 15 "java/lang/UnsupportedOperationException"))), zt5 (List.mem_of_getElem? (i := 105) (rfl : tables_1_5[105]? = some (Cond.castable "java/lang/UnsupportedOperationException" "java/lang/UnsupportedOperationException"))), rfl⟩
set_option maxRecDepth 20000 in
set_option maxHeartbeats 4000000 in
theorem tL_group_1 {F : Nat} {μ μ1 : zM} (h : eX11_group F μ = some (.inr "java/lang/UnsupportedOperationException", μ1)) : LMW mL_group hhL_group 12 (4, 24) [zq 0 0, zq 2 0] μ (some (zi (nI 2))) μ1 := by
  refine LMW.of (by decide +kernel) rfl (Nat.le_of_ble_eq_true rfl) ?_
  show zJ mL_group 12 (4, 24) (0, 0) _ 0 [some (zq 0 0), some (zq 2 0), none] [] _
  refine z_aload dL_group_0 rfl (z_const dL_group_1 (z_aload dL_group_2 rfl (z_callVC dL_group_3 (tX11_group h) (Nat.le_of_ble_eq_true rfl) cdX11_group naX11_group lkL_7 imX11_group seX11_group in0_0 sh0_0 rfl rfl rfl (Nat.le_of_ble_eq_true rfl) ⟨(Nat.le_of_ble_eq_true rfl), (Nat.le_of_ble_eq_true rfl)⟩ (fun q hq => by cases hq) (fun E hE => ?_))))
  cases hE
  exact ⟨_, _, _, hnL_group_1, dL_group_14, (Nat.le_of_ble_eq_true rfl), z_const dL_group_15 (z_iretW dL_group_16 rfl rfl)⟩
-- L_node
abbrev hhL_node : zHH := [(0, 10, 13, 21), (0, 10, 17, 23)]
abbrev mL_node : zY := (yL_node, cL_node, 5, (some .int))
set_option maxRecDepth 20000 in
set_option maxHeartbeats 4000000 in
theorem tL_node_r {x0 x1 : Int32} {μ μ1 : zM} {r : Int32} (h : eX11_node x0 x1 μ = some (.inl r, μ1)) : LMW mL_node hhL_node 8 (4, 24) [zq 0 0, zi x0, zi x1, zq 2 0] μ (some (zi (nI 0))) (zg μ1 2 (zw (μ1 2) 0 0 r)) := by
  refine LMW.of (by decide +kernel) rfl (Nat.le_of_ble_eq_true rfl) ?_
  show zJ mL_node 8 (4, 24) (0, 0) _ 0 [some (zq 0 0), some (zi x0), some (zi x1), some (zq 2 0), none] [] _
  refine z_aload dL_node_0 rfl (z_const dL_node_1 (z_aload dL_node_2 rfl (z_iload dL_node_3 rfl (z_iload dL_node_4 rfl (z_callVC dL_node_5 (tX11_node h) (Nat.le_of_ble_eq_true rfl) cdX11_node naX11_node lkL_17 imX11_node seX11_node in0_0 sh0_0 rfl rfl rfl (Nat.le_of_ble_eq_true rfl) ⟨(Nat.le_of_ble_eq_true rfl), (Nat.le_of_ble_eq_true rfl)⟩ (fun q hq => ?_) (fun E hE => by cases hE))))))
  cases hq
  exact z_i2l dL_node_8 (z_focus 2 (z_lastN dL_node_9 in2_0 sh2_0 (Nat.le_of_ble_eq_true rfl) (Nat.le_of_ble_eq_true rfl) (z_goto dL_node_10 (z_const dL_node_21 (z_iretW dL_node_22 rfl rfl)))))
theorem hnL_node_0 : zHnd RL hhL_node "java/lang/IndexOutOfBoundsException" 5 13 := ⟨[], (0, 10, 13, 21), [(0, 10, 17, 23)], "java/lang/IndexOutOfBoundsException", rfl, (fun z hz => by cases hz), by decide, by decide, zt5 (List.mem_of_getElem? (i := 149) (rfl : tables_1_5[149]? = some (Cond.classLink RL 21 "java/lang/IndexOutOfBoundsException"))), zt5 (List.mem_of_getElem? (i := 161) (rfl : tables_1_5[161]? = some (Cond.castable "java/lang/IndexOutOfBoundsException" "java/lang/IndexOutOfBoundsException"))), rfl⟩
set_option maxRecDepth 20000 in
set_option maxHeartbeats 4000000 in
theorem tL_node_0 {x0 x1 : Int32} {μ μ1 : zM} (h : eX11_node x0 x1 μ = some (.inr "java/lang/IndexOutOfBoundsException", μ1)) : LMW mL_node hhL_node 8 (4, 24) [zq 0 0, zi x0, zi x1, zq 2 0] μ (some (zi (nI 1))) μ1 := by
  refine LMW.of (by decide +kernel) rfl (Nat.le_of_ble_eq_true rfl) ?_
  show zJ mL_node 8 (4, 24) (0, 0) _ 0 [some (zq 0 0), some (zi x0), some (zi x1), some (zq 2 0), none] [] _
  refine z_aload dL_node_0 rfl (z_const dL_node_1 (z_aload dL_node_2 rfl (z_iload dL_node_3 rfl (z_iload dL_node_4 rfl (z_callVC dL_node_5 (tX11_node h) (Nat.le_of_ble_eq_true rfl) cdX11_node naX11_node lkL_17 imX11_node seX11_node in0_0 sh0_0 rfl rfl rfl (Nat.le_of_ble_eq_true rfl) ⟨(Nat.le_of_ble_eq_true rfl), (Nat.le_of_ble_eq_true rfl)⟩ (fun q hq => by cases hq) (fun E hE => ?_))))))
  cases hE
  exact ⟨_, _, _, hnL_node_0, dL_node_13, (Nat.le_of_ble_eq_true rfl), z_const dL_node_15 (z_iretW dL_node_16 rfl rfl)⟩
theorem hnL_node_1 : zHnd RL hhL_node "java/util/NoSuchElementException" 5 17 := ⟨[(0, 10, 13, 21)], (0, 10, 17, 23), [], "java/util/NoSuchElementException", rfl, (fun z hz => by
      cases List.mem_singleton.mp hz
      exact ⟨by decide, "java/lang/IndexOutOfBoundsException", zt5 (List.mem_of_getElem? (i := 149) (rfl : tables_1_5[149]? = some (Cond.classLink RL 21 "java/lang/IndexOutOfBoundsException"))), by decide +kernel⟩), by decide, by decide, zt5 (List.mem_of_getElem? (i := 150) (rfl : tables_1_5[150]? = some (Cond.classLink RL 23 "java/util/NoSuchElementException"))), zt5 (List.mem_of_getElem? (i := 179) (rfl : tables_1_5[179]? = some (Cond.castable "java/util/NoSuchElementException" "java/util/NoSuchElementException"))), rfl⟩
set_option maxRecDepth 20000 in
set_option maxHeartbeats 4000000 in
theorem tL_node_1 {x0 x1 : Int32} {μ μ1 : zM} (h : eX11_node x0 x1 μ = some (.inr "java/util/NoSuchElementException", μ1)) : LMW mL_node hhL_node 8 (4, 24) [zq 0 0, zi x0, zi x1, zq 2 0] μ (some (zi (nI 2))) μ1 := by
  refine LMW.of (by decide +kernel) rfl (Nat.le_of_ble_eq_true rfl) ?_
  show zJ mL_node 8 (4, 24) (0, 0) _ 0 [some (zq 0 0), some (zi x0), some (zi x1), some (zq 2 0), none] [] _
  refine z_aload dL_node_0 rfl (z_const dL_node_1 (z_aload dL_node_2 rfl (z_iload dL_node_3 rfl (z_iload dL_node_4 rfl (z_callVC dL_node_5 (tX11_node h) (Nat.le_of_ble_eq_true rfl) cdX11_node naX11_node lkL_17 imX11_node seX11_node in0_0 sh0_0 rfl rfl rfl (Nat.le_of_ble_eq_true rfl) ⟨(Nat.le_of_ble_eq_true rfl), (Nat.le_of_ble_eq_true rfl)⟩ (fun q hq => by cases hq) (fun E hE => ?_))))))
  cases hE
  exact ⟨_, _, _, hnL_node_1, dL_node_17, (Nat.le_of_ble_eq_true rfl), z_const dL_node_19 (z_iretW dL_node_20 rfl rfl)⟩
-- L_est
abbrev hhL_est : zHH := [(0, 10, 13, 21), (0, 10, 17, 13)]
abbrev mL_est : zY := (yL_est, cL_est, 5, (some .int))
set_option maxRecDepth 20000 in
set_option maxHeartbeats 4000000 in
theorem tL_est_r {x0 x1 : Int32} {μ μ1 : zM} {r : Int32} (h : eX11_est x0 x1 μ = some (.inl r, μ1)) : LMW mL_est hhL_est 8 (4, 24) [zq 0 0, zi x0, zi x1, zq 2 0] μ (some (zi (nI 0))) (zg μ1 2 (zw (μ1 2) 0 0 r)) := by
  refine LMW.of (by decide +kernel) rfl (Nat.le_of_ble_eq_true rfl) ?_
  show zJ mL_est 8 (4, 24) (0, 0) _ 0 [some (zq 0 0), some (zi x0), some (zi x1), some (zq 2 0), none] [] _
  refine z_aload dL_est_0 rfl (z_const dL_est_1 (z_aload dL_est_2 rfl (z_iload dL_est_3 rfl (z_iload dL_est_4 rfl (z_callVC dL_est_5 (tX11_est h) (Nat.le_of_ble_eq_true rfl) cdX11_est naX11_est lkL_25 imX11_est seX11_est in0_0 sh0_0 rfl rfl rfl (Nat.le_of_ble_eq_true rfl) ⟨(Nat.le_of_ble_eq_true rfl), (Nat.le_of_ble_eq_true rfl)⟩ (fun q hq => ?_) (fun E hE => by cases hE))))))
  cases hq
  exact z_i2l dL_est_8 (z_focus 2 (z_lastN dL_est_9 in2_0 sh2_0 (Nat.le_of_ble_eq_true rfl) (Nat.le_of_ble_eq_true rfl) (z_goto dL_est_10 (z_const dL_est_21 (z_iretW dL_est_22 rfl rfl)))))
theorem hnL_est_0 : zHnd RL hhL_est "java/lang/IndexOutOfBoundsException" 5 13 := ⟨[], (0, 10, 13, 21), [(0, 10, 17, 13)], "java/lang/IndexOutOfBoundsException", rfl, (fun z hz => by cases hz), by decide, by decide, zt5 (List.mem_of_getElem? (i := 149) (rfl : tables_1_5[149]? = some (Cond.classLink RL 21 "java/lang/IndexOutOfBoundsException"))), zt5 (List.mem_of_getElem? (i := 161) (rfl : tables_1_5[161]? = some (Cond.castable "java/lang/IndexOutOfBoundsException" "java/lang/IndexOutOfBoundsException"))), rfl⟩
set_option maxRecDepth 20000 in
set_option maxHeartbeats 4000000 in
theorem tL_est_0 {x0 x1 : Int32} {μ μ1 : zM} (h : eX11_est x0 x1 μ = some (.inr "java/lang/IndexOutOfBoundsException", μ1)) : LMW mL_est hhL_est 8 (4, 24) [zq 0 0, zi x0, zi x1, zq 2 0] μ (some (zi (nI 1))) μ1 := by
  refine LMW.of (by decide +kernel) rfl (Nat.le_of_ble_eq_true rfl) ?_
  show zJ mL_est 8 (4, 24) (0, 0) _ 0 [some (zq 0 0), some (zi x0), some (zi x1), some (zq 2 0), none] [] _
  refine z_aload dL_est_0 rfl (z_const dL_est_1 (z_aload dL_est_2 rfl (z_iload dL_est_3 rfl (z_iload dL_est_4 rfl (z_callVC dL_est_5 (tX11_est h) (Nat.le_of_ble_eq_true rfl) cdX11_est naX11_est lkL_25 imX11_est seX11_est in0_0 sh0_0 rfl rfl rfl (Nat.le_of_ble_eq_true rfl) ⟨(Nat.le_of_ble_eq_true rfl), (Nat.le_of_ble_eq_true rfl)⟩ (fun q hq => by cases hq) (fun E hE => ?_))))))
  cases hE
  exact ⟨_, _, _, hnL_est_0, dL_est_13, (Nat.le_of_ble_eq_true rfl), z_const dL_est_15 (z_iretW dL_est_16 rfl rfl)⟩
theorem hnL_est_1 : zHnd RL hhL_est "java/lang/IllegalArgumentException" 5 17 := ⟨[(0, 10, 13, 21)], (0, 10, 17, 13), [], "java/lang/IllegalArgumentException", rfl, (fun z hz => by
      cases List.mem_singleton.mp hz
      exact ⟨by decide, "java/lang/IndexOutOfBoundsException", zt5 (List.mem_of_getElem? (i := 149) (rfl : tables_1_5[149]? = some (Cond.classLink RL 21 "java/lang/IndexOutOfBoundsException"))), by decide +kernel⟩), by decide, by decide, zt4 (List.mem_of_getElem? (i := 134) (rfl : tables_1_4[134]? = some (Cond.classLink RL 13 "java/lang/IllegalArgumentException"))), zt5 (List.mem_of_getElem? (i := 36) (rfl : tables_1_5[36]? = some (Cond.castable "java/lang/IllegalArgumentException" "java/lang/IllegalArgumentException"))), rfl⟩
set_option maxRecDepth 20000 in
set_option maxHeartbeats 4000000 in
theorem tL_est_1 {x0 x1 : Int32} {μ μ1 : zM} (h : eX11_est x0 x1 μ = some (.inr "java/lang/IllegalArgumentException", μ1)) : LMW mL_est hhL_est 8 (4, 24) [zq 0 0, zi x0, zi x1, zq 2 0] μ (some (zi (nI 2))) μ1 := by
  refine LMW.of (by decide +kernel) rfl (Nat.le_of_ble_eq_true rfl) ?_
  show zJ mL_est 8 (4, 24) (0, 0) _ 0 [some (zq 0 0), some (zi x0), some (zi x1), some (zq 2 0), none] [] _
  refine z_aload dL_est_0 rfl (z_const dL_est_1 (z_aload dL_est_2 rfl (z_iload dL_est_3 rfl (z_iload dL_est_4 rfl (z_callVC dL_est_5 (tX11_est h) (Nat.le_of_ble_eq_true rfl) cdX11_est naX11_est lkL_25 imX11_est seX11_est in0_0 sh0_0 rfl rfl rfl (Nat.le_of_ble_eq_true rfl) ⟨(Nat.le_of_ble_eq_true rfl), (Nat.le_of_ble_eq_true rfl)⟩ (fun q hq => by cases hq) (fun E hE => ?_))))))
  cases hE
  exact ⟨_, _, _, hnL_est_1, dL_est_17, (Nat.le_of_ble_eq_true rfl), z_const dL_est_19 (z_iretW dL_est_20 rfl rfl)⟩
-- L_timer
abbrev hhL_timer : zHH := [(0, 12, 15, 21), (0, 12, 19, 23)]
abbrev mL_timer : zY := (yL_timer, cL_timer, 6, (some .int))
set_option maxRecDepth 20000 in
set_option maxHeartbeats 4000000 in
theorem tL_timer_r {x0 x1 x2 : Int32} {μ μ1 : zM} {r : Int32} (h : eX11_timer x0 x1 x2 μ = some (.inl r, μ1)) : LMW mL_timer hhL_timer 8 (4, 24) [zq 0 0, zi x0, zi x1, zi x2, zq 2 0] μ (some (zi (nI 0))) (zg μ1 2 (zw (μ1 2) 0 0 r)) := by
  refine LMW.of (by decide +kernel) rfl (Nat.le_of_ble_eq_true rfl) ?_
  show zJ mL_timer 8 (4, 24) (0, 0) _ 0 [some (zq 0 0), some (zi x0), some (zi x1), some (zi x2), some (zq 2 0), none] [] _
  refine z_aload dL_timer_0 rfl (z_const dL_timer_2 (z_aload dL_timer_3 rfl (z_iload dL_timer_4 rfl (z_iload dL_timer_5 rfl (z_iload dL_timer_6 rfl (z_callVC dL_timer_7 (tX11_timer h) (Nat.le_of_ble_eq_true rfl) cdX11_timer naX11_timer lkL_28 imX11_timer seX11_timer in0_0 sh0_0 rfl rfl rfl (Nat.le_of_ble_eq_true rfl) ⟨(Nat.le_of_ble_eq_true rfl), (Nat.le_of_ble_eq_true rfl)⟩ (fun q hq => ?_) (fun E hE => by cases hE)))))))
  cases hq
  exact z_i2l dL_timer_10 (z_focus 2 (z_lastN dL_timer_11 in2_0 sh2_0 (Nat.le_of_ble_eq_true rfl) (Nat.le_of_ble_eq_true rfl) (z_goto dL_timer_12 (z_const dL_timer_23 (z_iretW dL_timer_24 rfl rfl)))))
theorem hnL_timer_0 : zHnd RL hhL_timer "java/lang/IndexOutOfBoundsException" 7 15 := ⟨[], (0, 12, 15, 21), [(0, 12, 19, 23)], "java/lang/IndexOutOfBoundsException", rfl, (fun z hz => by cases hz), by decide, by decide, zt5 (List.mem_of_getElem? (i := 149) (rfl : tables_1_5[149]? = some (Cond.classLink RL 21 "java/lang/IndexOutOfBoundsException"))), zt5 (List.mem_of_getElem? (i := 161) (rfl : tables_1_5[161]? = some (Cond.castable "java/lang/IndexOutOfBoundsException" "java/lang/IndexOutOfBoundsException"))), rfl⟩
set_option maxRecDepth 20000 in
set_option maxHeartbeats 4000000 in
theorem tL_timer_0 {x0 x1 x2 : Int32} {μ μ1 : zM} (h : eX11_timer x0 x1 x2 μ = some (.inr "java/lang/IndexOutOfBoundsException", μ1)) : LMW mL_timer hhL_timer 8 (4, 24) [zq 0 0, zi x0, zi x1, zi x2, zq 2 0] μ (some (zi (nI 1))) μ1 := by
  refine LMW.of (by decide +kernel) rfl (Nat.le_of_ble_eq_true rfl) ?_
  show zJ mL_timer 8 (4, 24) (0, 0) _ 0 [some (zq 0 0), some (zi x0), some (zi x1), some (zi x2), some (zq 2 0), none] [] _
  refine z_aload dL_timer_0 rfl (z_const dL_timer_2 (z_aload dL_timer_3 rfl (z_iload dL_timer_4 rfl (z_iload dL_timer_5 rfl (z_iload dL_timer_6 rfl (z_callVC dL_timer_7 (tX11_timer h) (Nat.le_of_ble_eq_true rfl) cdX11_timer naX11_timer lkL_28 imX11_timer seX11_timer in0_0 sh0_0 rfl rfl rfl (Nat.le_of_ble_eq_true rfl) ⟨(Nat.le_of_ble_eq_true rfl), (Nat.le_of_ble_eq_true rfl)⟩ (fun q hq => by cases hq) (fun E hE => ?_)))))))
  cases hE
  exact ⟨_, _, _, hnL_timer_0, dL_timer_15, (Nat.le_of_ble_eq_true rfl), z_const dL_timer_17 (z_iretW dL_timer_18 rfl rfl)⟩
theorem hnL_timer_1 : zHnd RL hhL_timer "java/util/NoSuchElementException" 7 19 := ⟨[(0, 12, 15, 21)], (0, 12, 19, 23), [], "java/util/NoSuchElementException", rfl, (fun z hz => by
      cases List.mem_singleton.mp hz
      exact ⟨by decide, "java/lang/IndexOutOfBoundsException", zt5 (List.mem_of_getElem? (i := 149) (rfl : tables_1_5[149]? = some (Cond.classLink RL 21 "java/lang/IndexOutOfBoundsException"))), by decide +kernel⟩), by decide, by decide, zt5 (List.mem_of_getElem? (i := 150) (rfl : tables_1_5[150]? = some (Cond.classLink RL 23 "java/util/NoSuchElementException"))), zt5 (List.mem_of_getElem? (i := 179) (rfl : tables_1_5[179]? = some (Cond.castable "java/util/NoSuchElementException" "java/util/NoSuchElementException"))), rfl⟩
set_option maxRecDepth 20000 in
set_option maxHeartbeats 4000000 in
theorem tL_timer_1 {x0 x1 x2 : Int32} {μ μ1 : zM} (h : eX11_timer x0 x1 x2 μ = some (.inr "java/util/NoSuchElementException", μ1)) : LMW mL_timer hhL_timer 8 (4, 24) [zq 0 0, zi x0, zi x1, zi x2, zq 2 0] μ (some (zi (nI 2))) μ1 := by
  refine LMW.of (by decide +kernel) rfl (Nat.le_of_ble_eq_true rfl) ?_
  show zJ mL_timer 8 (4, 24) (0, 0) _ 0 [some (zq 0 0), some (zi x0), some (zi x1), some (zi x2), some (zq 2 0), none] [] _
  refine z_aload dL_timer_0 rfl (z_const dL_timer_2 (z_aload dL_timer_3 rfl (z_iload dL_timer_4 rfl (z_iload dL_timer_5 rfl (z_iload dL_timer_6 rfl (z_callVC dL_timer_7 (tX11_timer h) (Nat.le_of_ble_eq_true rfl) cdX11_timer naX11_timer lkL_28 imX11_timer seX11_timer in0_0 sh0_0 rfl rfl rfl (Nat.le_of_ble_eq_true rfl) ⟨(Nat.le_of_ble_eq_true rfl), (Nat.le_of_ble_eq_true rfl)⟩ (fun q hq => by cases hq) (fun E hE => ?_)))))))
  cases hE
  exact ⟨_, _, _, hnL_timer_1, dL_timer_19, (Nat.le_of_ble_eq_true rfl), z_const dL_timer_21 (z_iretW dL_timer_22 rfl rfl)⟩
-- L_gap
abbrev hhL_gap : zHH := [(0, 12, 15, 21)]
abbrev mL_gap : zY := (yL_gap, cL_gap, 6, (some .int))
set_option maxRecDepth 20000 in
set_option maxHeartbeats 4000000 in
theorem tL_gap_r {x0 x1 x2 : Int32} {μ μ1 : zM} {r : Int32} (h : eX11_gap x0 x1 x2 μ = some (.inl r, μ1)) : LMW mL_gap hhL_gap 8 (4, 24) [zq 0 0, zi x0, zi x1, zi x2, zq 2 0] μ (some (zi (nI 0))) (zg μ1 2 (zw (μ1 2) 0 0 r)) := by
  refine LMW.of (by decide +kernel) rfl (Nat.le_of_ble_eq_true rfl) ?_
  show zJ mL_gap 8 (4, 24) (0, 0) _ 0 [some (zq 0 0), some (zi x0), some (zi x1), some (zi x2), some (zq 2 0), none] [] _
  refine z_aload dL_gap_0 rfl (z_const dL_gap_2 (z_aload dL_gap_3 rfl (z_iload dL_gap_4 rfl (z_iload dL_gap_5 rfl (z_iload dL_gap_6 rfl (z_callVC dL_gap_7 (tX11_gap h) (Nat.le_of_ble_eq_true rfl) cdX11_gap naX11_gap lkL_32 imX11_gap seX11_gap in0_0 sh0_0 rfl rfl rfl (Nat.le_of_ble_eq_true rfl) ⟨(Nat.le_of_ble_eq_true rfl), (Nat.le_of_ble_eq_true rfl)⟩ (fun q hq => ?_) (fun E hE => by cases hE)))))))
  cases hq
  exact z_i2l dL_gap_10 (z_focus 2 (z_lastN dL_gap_11 in2_0 sh2_0 (Nat.le_of_ble_eq_true rfl) (Nat.le_of_ble_eq_true rfl) (z_goto dL_gap_12 (z_const dL_gap_19 (z_iretW dL_gap_20 rfl rfl)))))
theorem hnL_gap_0 : zHnd RL hhL_gap "java/lang/IndexOutOfBoundsException" 7 15 := ⟨[], (0, 12, 15, 21), [], "java/lang/IndexOutOfBoundsException", rfl, (fun z hz => by cases hz), by decide, by decide, zt5 (List.mem_of_getElem? (i := 149) (rfl : tables_1_5[149]? = some (Cond.classLink RL 21 "java/lang/IndexOutOfBoundsException"))), zt5 (List.mem_of_getElem? (i := 161) (rfl : tables_1_5[161]? = some (Cond.castable "java/lang/IndexOutOfBoundsException" "java/lang/IndexOutOfBoundsException"))), rfl⟩
set_option maxRecDepth 20000 in
set_option maxHeartbeats 4000000 in
theorem tL_gap_0 {x0 x1 x2 : Int32} {μ μ1 : zM} (h : eX11_gap x0 x1 x2 μ = some (.inr "java/lang/IndexOutOfBoundsException", μ1)) : LMW mL_gap hhL_gap 8 (4, 24) [zq 0 0, zi x0, zi x1, zi x2, zq 2 0] μ (some (zi (nI 1))) μ1 := by
  refine LMW.of (by decide +kernel) rfl (Nat.le_of_ble_eq_true rfl) ?_
  show zJ mL_gap 8 (4, 24) (0, 0) _ 0 [some (zq 0 0), some (zi x0), some (zi x1), some (zi x2), some (zq 2 0), none] [] _
  refine z_aload dL_gap_0 rfl (z_const dL_gap_2 (z_aload dL_gap_3 rfl (z_iload dL_gap_4 rfl (z_iload dL_gap_5 rfl (z_iload dL_gap_6 rfl (z_callVC dL_gap_7 (tX11_gap h) (Nat.le_of_ble_eq_true rfl) cdX11_gap naX11_gap lkL_32 imX11_gap seX11_gap in0_0 sh0_0 rfl rfl rfl (Nat.le_of_ble_eq_true rfl) ⟨(Nat.le_of_ble_eq_true rfl), (Nat.le_of_ble_eq_true rfl)⟩ (fun q hq => by cases hq) (fun E hE => ?_)))))))
  cases hE
  exact ⟨_, _, _, hnL_gap_0, dL_gap_15, (Nat.le_of_ble_eq_true rfl), z_const dL_gap_17 (z_iretW dL_gap_18 rfl rfl)⟩
-- L_link
abbrev hhL_link : zHH := [(0, 10, 13, 21), (0, 10, 17, 23)]
abbrev mL_link : zY := (yL_link, cL_link, 5, (some .int))
set_option maxRecDepth 20000 in
set_option maxHeartbeats 4000000 in
theorem tL_link_r {x0 x1 : Int32} {μ μ1 : zM} {r : Int32} (h : eX11_link x0 x1 μ = some (.inl r, μ1)) : LMW mL_link hhL_link 8 (4, 24) [zq 0 0, zi x0, zi x1, zq 2 0] μ (some (zi (nI 0))) (zg μ1 2 (zw (μ1 2) 0 0 r)) := by
  refine LMW.of (by decide +kernel) rfl (Nat.le_of_ble_eq_true rfl) ?_
  show zJ mL_link 8 (4, 24) (0, 0) _ 0 [some (zq 0 0), some (zi x0), some (zi x1), some (zq 2 0), none] [] _
  refine z_aload dL_link_0 rfl (z_const dL_link_1 (z_aload dL_link_2 rfl (z_iload dL_link_3 rfl (z_iload dL_link_4 rfl (z_callVC dL_link_5 (tX11_link h) (Nat.le_of_ble_eq_true rfl) cdX11_link naX11_link lkL_35 imX11_link seX11_link in0_0 sh0_0 rfl rfl rfl (Nat.le_of_ble_eq_true rfl) ⟨(Nat.le_of_ble_eq_true rfl), (Nat.le_of_ble_eq_true rfl)⟩ (fun q hq => ?_) (fun E hE => by cases hE))))))
  cases hq
  exact z_i2l dL_link_8 (z_focus 2 (z_lastN dL_link_9 in2_0 sh2_0 (Nat.le_of_ble_eq_true rfl) (Nat.le_of_ble_eq_true rfl) (z_goto dL_link_10 (z_const dL_link_21 (z_iretW dL_link_22 rfl rfl)))))
theorem hnL_link_0 : zHnd RL hhL_link "java/lang/IndexOutOfBoundsException" 5 13 := ⟨[], (0, 10, 13, 21), [(0, 10, 17, 23)], "java/lang/IndexOutOfBoundsException", rfl, (fun z hz => by cases hz), by decide, by decide, zt5 (List.mem_of_getElem? (i := 149) (rfl : tables_1_5[149]? = some (Cond.classLink RL 21 "java/lang/IndexOutOfBoundsException"))), zt5 (List.mem_of_getElem? (i := 161) (rfl : tables_1_5[161]? = some (Cond.castable "java/lang/IndexOutOfBoundsException" "java/lang/IndexOutOfBoundsException"))), rfl⟩
set_option maxRecDepth 20000 in
set_option maxHeartbeats 4000000 in
theorem tL_link_0 {x0 x1 : Int32} {μ μ1 : zM} (h : eX11_link x0 x1 μ = some (.inr "java/lang/IndexOutOfBoundsException", μ1)) : LMW mL_link hhL_link 8 (4, 24) [zq 0 0, zi x0, zi x1, zq 2 0] μ (some (zi (nI 1))) μ1 := by
  refine LMW.of (by decide +kernel) rfl (Nat.le_of_ble_eq_true rfl) ?_
  show zJ mL_link 8 (4, 24) (0, 0) _ 0 [some (zq 0 0), some (zi x0), some (zi x1), some (zq 2 0), none] [] _
  refine z_aload dL_link_0 rfl (z_const dL_link_1 (z_aload dL_link_2 rfl (z_iload dL_link_3 rfl (z_iload dL_link_4 rfl (z_callVC dL_link_5 (tX11_link h) (Nat.le_of_ble_eq_true rfl) cdX11_link naX11_link lkL_35 imX11_link seX11_link in0_0 sh0_0 rfl rfl rfl (Nat.le_of_ble_eq_true rfl) ⟨(Nat.le_of_ble_eq_true rfl), (Nat.le_of_ble_eq_true rfl)⟩ (fun q hq => by cases hq) (fun E hE => ?_))))))
  cases hE
  exact ⟨_, _, _, hnL_link_0, dL_link_13, (Nat.le_of_ble_eq_true rfl), z_const dL_link_15 (z_iretW dL_link_16 rfl rfl)⟩
theorem hnL_link_1 : zHnd RL hhL_link "java/util/NoSuchElementException" 5 17 := ⟨[(0, 10, 13, 21)], (0, 10, 17, 23), [], "java/util/NoSuchElementException", rfl, (fun z hz => by
      cases List.mem_singleton.mp hz
      exact ⟨by decide, "java/lang/IndexOutOfBoundsException", zt5 (List.mem_of_getElem? (i := 149) (rfl : tables_1_5[149]? = some (Cond.classLink RL 21 "java/lang/IndexOutOfBoundsException"))), by decide +kernel⟩), by decide, by decide, zt5 (List.mem_of_getElem? (i := 150) (rfl : tables_1_5[150]? = some (Cond.classLink RL 23 "java/util/NoSuchElementException"))), zt5 (List.mem_of_getElem? (i := 179) (rfl : tables_1_5[179]? = some (Cond.castable "java/util/NoSuchElementException" "java/util/NoSuchElementException"))), rfl⟩
set_option maxRecDepth 20000 in
set_option maxHeartbeats 4000000 in
theorem tL_link_1 {x0 x1 : Int32} {μ μ1 : zM} (h : eX11_link x0 x1 μ = some (.inr "java/util/NoSuchElementException", μ1)) : LMW mL_link hhL_link 8 (4, 24) [zq 0 0, zi x0, zi x1, zq 2 0] μ (some (zi (nI 2))) μ1 := by
  refine LMW.of (by decide +kernel) rfl (Nat.le_of_ble_eq_true rfl) ?_
  show zJ mL_link 8 (4, 24) (0, 0) _ 0 [some (zq 0 0), some (zi x0), some (zi x1), some (zq 2 0), none] [] _
  refine z_aload dL_link_0 rfl (z_const dL_link_1 (z_aload dL_link_2 rfl (z_iload dL_link_3 rfl (z_iload dL_link_4 rfl (z_callVC dL_link_5 (tX11_link h) (Nat.le_of_ble_eq_true rfl) cdX11_link naX11_link lkL_35 imX11_link seX11_link in0_0 sh0_0 rfl rfl rfl (Nat.le_of_ble_eq_true rfl) ⟨(Nat.le_of_ble_eq_true rfl), (Nat.le_of_ble_eq_true rfl)⟩ (fun q hq => by cases hq) (fun E hE => ?_))))))
  cases hE
  exact ⟨_, _, _, hnL_link_1, dL_link_17, (Nat.le_of_ble_eq_true rfl), z_const dL_link_19 (z_iretW dL_link_20 rfl rfl)⟩
-- L_flight
abbrev hhL_flight : zHH := [(0, 10, 13, 21), (0, 10, 17, 23)]
abbrev mL_flight : zY := (yL_flight, cL_flight, 5, (some .int))
set_option maxRecDepth 20000 in
set_option maxHeartbeats 4000000 in
theorem tL_flight_r {x0 x1 : Int32} {μ μ1 : zM} {r : Int32} (h : eX11_flight x0 x1 μ = some (.inl r, μ1)) : LMW mL_flight hhL_flight 8 (4, 24) [zq 0 0, zi x0, zi x1, zq 2 0] μ (some (zi (nI 0))) (zg μ1 2 (zw (μ1 2) 0 0 r)) := by
  refine LMW.of (by decide +kernel) rfl (Nat.le_of_ble_eq_true rfl) ?_
  show zJ mL_flight 8 (4, 24) (0, 0) _ 0 [some (zq 0 0), some (zi x0), some (zi x1), some (zq 2 0), none] [] _
  refine z_aload dL_flight_0 rfl (z_const dL_flight_1 (z_aload dL_flight_2 rfl (z_iload dL_flight_3 rfl (z_iload dL_flight_4 rfl (z_callVC dL_flight_5 (tX11_flight h) (Nat.le_of_ble_eq_true rfl) cdX11_flight naX11_flight lkL_38 imX11_flight seX11_flight in0_0 sh0_0 rfl rfl rfl (Nat.le_of_ble_eq_true rfl) ⟨(Nat.le_of_ble_eq_true rfl), (Nat.le_of_ble_eq_true rfl)⟩ (fun q hq => ?_) (fun E hE => by cases hE))))))
  cases hq
  exact z_i2l dL_flight_8 (z_focus 2 (z_lastN dL_flight_9 in2_0 sh2_0 (Nat.le_of_ble_eq_true rfl) (Nat.le_of_ble_eq_true rfl) (z_goto dL_flight_10 (z_const dL_flight_21 (z_iretW dL_flight_22 rfl rfl)))))
theorem hnL_flight_0 : zHnd RL hhL_flight "java/lang/IndexOutOfBoundsException" 5 13 := ⟨[], (0, 10, 13, 21), [(0, 10, 17, 23)], "java/lang/IndexOutOfBoundsException", rfl, (fun z hz => by cases hz), by decide, by decide, zt5 (List.mem_of_getElem? (i := 149) (rfl : tables_1_5[149]? = some (Cond.classLink RL 21 "java/lang/IndexOutOfBoundsException"))), zt5 (List.mem_of_getElem? (i := 161) (rfl : tables_1_5[161]? = some (Cond.castable "java/lang/IndexOutOfBoundsException" "java/lang/IndexOutOfBoundsException"))), rfl⟩
set_option maxRecDepth 20000 in
set_option maxHeartbeats 4000000 in
theorem tL_flight_0 {x0 x1 : Int32} {μ μ1 : zM} (h : eX11_flight x0 x1 μ = some (.inr "java/lang/IndexOutOfBoundsException", μ1)) : LMW mL_flight hhL_flight 8 (4, 24) [zq 0 0, zi x0, zi x1, zq 2 0] μ (some (zi (nI 1))) μ1 := by
  refine LMW.of (by decide +kernel) rfl (Nat.le_of_ble_eq_true rfl) ?_
  show zJ mL_flight 8 (4, 24) (0, 0) _ 0 [some (zq 0 0), some (zi x0), some (zi x1), some (zq 2 0), none] [] _
  refine z_aload dL_flight_0 rfl (z_const dL_flight_1 (z_aload dL_flight_2 rfl (z_iload dL_flight_3 rfl (z_iload dL_flight_4 rfl (z_callVC dL_flight_5 (tX11_flight h) (Nat.le_of_ble_eq_true rfl) cdX11_flight naX11_flight lkL_38 imX11_flight seX11_flight in0_0 sh0_0 rfl rfl rfl (Nat.le_of_ble_eq_true rfl) ⟨(Nat.le_of_ble_eq_true rfl), (Nat.le_of_ble_eq_true rfl)⟩ (fun q hq => by cases hq) (fun E hE => ?_))))))
  cases hE
  exact ⟨_, _, _, hnL_flight_0, dL_flight_13, (Nat.le_of_ble_eq_true rfl), z_const dL_flight_15 (z_iretW dL_flight_16 rfl rfl)⟩
theorem hnL_flight_1 : zHnd RL hhL_flight "java/util/NoSuchElementException" 5 17 := ⟨[(0, 10, 13, 21)], (0, 10, 17, 23), [], "java/util/NoSuchElementException", rfl, (fun z hz => by
      cases List.mem_singleton.mp hz
      exact ⟨by decide, "java/lang/IndexOutOfBoundsException", zt5 (List.mem_of_getElem? (i := 149) (rfl : tables_1_5[149]? = some (Cond.classLink RL 21 "java/lang/IndexOutOfBoundsException"))), by decide +kernel⟩), by decide, by decide, zt5 (List.mem_of_getElem? (i := 150) (rfl : tables_1_5[150]? = some (Cond.classLink RL 23 "java/util/NoSuchElementException"))), zt5 (List.mem_of_getElem? (i := 179) (rfl : tables_1_5[179]? = some (Cond.castable "java/util/NoSuchElementException" "java/util/NoSuchElementException"))), rfl⟩
set_option maxRecDepth 20000 in
set_option maxHeartbeats 4000000 in
theorem tL_flight_1 {x0 x1 : Int32} {μ μ1 : zM} (h : eX11_flight x0 x1 μ = some (.inr "java/util/NoSuchElementException", μ1)) : LMW mL_flight hhL_flight 8 (4, 24) [zq 0 0, zi x0, zi x1, zq 2 0] μ (some (zi (nI 2))) μ1 := by
  refine LMW.of (by decide +kernel) rfl (Nat.le_of_ble_eq_true rfl) ?_
  show zJ mL_flight 8 (4, 24) (0, 0) _ 0 [some (zq 0 0), some (zi x0), some (zi x1), some (zq 2 0), none] [] _
  refine z_aload dL_flight_0 rfl (z_const dL_flight_1 (z_aload dL_flight_2 rfl (z_iload dL_flight_3 rfl (z_iload dL_flight_4 rfl (z_callVC dL_flight_5 (tX11_flight h) (Nat.le_of_ble_eq_true rfl) cdX11_flight naX11_flight lkL_38 imX11_flight seX11_flight in0_0 sh0_0 rfl rfl rfl (Nat.le_of_ble_eq_true rfl) ⟨(Nat.le_of_ble_eq_true rfl), (Nat.le_of_ble_eq_true rfl)⟩ (fun q hq => by cases hq) (fun E hE => ?_))))))
  cases hE
  exact ⟨_, _, _, hnL_flight_1, dL_flight_17, (Nat.le_of_ble_eq_true rfl), z_const dL_flight_19 (z_iretW dL_flight_20 rfl rfl)⟩
-- L_ticks
abbrev hhL_ticks : zHH := [(0, 9, 12, 13)]
abbrev mL_ticks : zY := (yL_ticks, cL_ticks, 4, (some .int))
set_option maxRecDepth 20000 in
set_option maxHeartbeats 4000000 in
theorem tL_ticks_r {F : Nat} {x0 : Int32} {μ μ1 : zM} {r : Int32} (h : eX11_ticks F x0 μ = some (.inl r, μ1)) : LMW mL_ticks hhL_ticks 9 (4, 24) [zq 0 0, zi x0, zq 2 0] μ (some (zi (nI 0))) (zg μ1 2 (zw (μ1 2) 0 0 r)) := by
  refine LMW.of (by decide +kernel) rfl (Nat.le_of_ble_eq_true rfl) ?_
  show zJ mL_ticks 9 (4, 24) (0, 0) _ 0 [some (zq 0 0), some (zi x0), some (zq 2 0), none] [] _
  refine z_aload dL_ticks_0 rfl (z_const dL_ticks_1 (z_aload dL_ticks_2 rfl (z_iload dL_ticks_3 rfl (z_callVC dL_ticks_4 (tX11_ticks h) (Nat.le_of_ble_eq_true rfl) cdX11_ticks naX11_ticks lkL_41 imX11_ticks seX11_ticks in0_0 sh0_0 rfl rfl rfl (Nat.le_of_ble_eq_true rfl) ⟨(Nat.le_of_ble_eq_true rfl), (Nat.le_of_ble_eq_true rfl)⟩ (fun q hq => ?_) (fun E hE => by cases hE)))))
  cases hq
  exact z_i2l dL_ticks_7 (z_focus 2 (z_lastN dL_ticks_8 in2_0 sh2_0 (Nat.le_of_ble_eq_true rfl) (Nat.le_of_ble_eq_true rfl) (z_goto dL_ticks_9 (z_const dL_ticks_15 (z_iretW dL_ticks_16 rfl rfl)))))
theorem hnL_ticks_0 : zHnd RL hhL_ticks "java/lang/IllegalArgumentException" 4 12 := ⟨[], (0, 9, 12, 13), [], "java/lang/IllegalArgumentException", rfl, (fun z hz => by cases hz), by decide, by decide, zt4 (List.mem_of_getElem? (i := 134) (rfl : tables_1_4[134]? = some (Cond.classLink RL 13 "java/lang/IllegalArgumentException"))), zt5 (List.mem_of_getElem? (i := 36) (rfl : tables_1_5[36]? = some (Cond.castable "java/lang/IllegalArgumentException" "java/lang/IllegalArgumentException"))), rfl⟩
set_option maxRecDepth 20000 in
set_option maxHeartbeats 4000000 in
theorem tL_ticks_0 {F : Nat} {x0 : Int32} {μ μ1 : zM} (h : eX11_ticks F x0 μ = some (.inr "java/lang/IllegalArgumentException", μ1)) : LMW mL_ticks hhL_ticks 9 (4, 24) [zq 0 0, zi x0, zq 2 0] μ (some (zi (nI 1))) μ1 := by
  refine LMW.of (by decide +kernel) rfl (Nat.le_of_ble_eq_true rfl) ?_
  show zJ mL_ticks 9 (4, 24) (0, 0) _ 0 [some (zq 0 0), some (zi x0), some (zq 2 0), none] [] _
  refine z_aload dL_ticks_0 rfl (z_const dL_ticks_1 (z_aload dL_ticks_2 rfl (z_iload dL_ticks_3 rfl (z_callVC dL_ticks_4 (tX11_ticks h) (Nat.le_of_ble_eq_true rfl) cdX11_ticks naX11_ticks lkL_41 imX11_ticks seX11_ticks in0_0 sh0_0 rfl rfl rfl (Nat.le_of_ble_eq_true rfl) ⟨(Nat.le_of_ble_eq_true rfl), (Nat.le_of_ble_eq_true rfl)⟩ (fun q hq => by cases hq) (fun E hE => ?_)))))
  cases hE
  exact ⟨_, _, _, hnL_ticks_0, dL_ticks_12, (Nat.le_of_ble_eq_true rfl), z_const dL_ticks_13 (z_iretW dL_ticks_14 rfl rfl)⟩
-- L_send
abbrev hhL_send : zHH := [(0, 8, 11, 48)]
abbrev mL_send : zY := (yL_send, cL_send, 3, (some .int))
set_option maxRecDepth 20000 in
set_option maxHeartbeats 4000000 in
theorem tL_send_r {F : Nat} {μ μ1 : zM} {r : Int32} (h : eX11_send F μ = some (.inl r, μ1)) : LMW mL_send hhL_send 8 (4, 24) [zq 0 0, zq 2 0] μ (some (zi (nI 0))) (zg μ1 2 (zw (μ1 2) 0 0 r)) := by
  refine LMW.of (by decide +kernel) rfl (Nat.le_of_ble_eq_true rfl) ?_
  show zJ mL_send 8 (4, 24) (0, 0) _ 0 [some (zq 0 0), some (zq 2 0), none] [] _
  refine z_aload dL_send_0 rfl (z_const dL_send_1 (z_aload dL_send_2 rfl (z_callVC dL_send_3 (tX11_send h) (Nat.le_of_ble_eq_true rfl) cdX11_send naX11_send lkL_45 imX11_send seX11_send in0_0 sh0_0 rfl rfl rfl (Nat.le_of_ble_eq_true rfl) ⟨(Nat.le_of_ble_eq_true rfl), (Nat.le_of_ble_eq_true rfl)⟩ (fun q hq => ?_) (fun E hE => by cases hE))))
  cases hq
  exact z_i2l dL_send_6 (z_focus 2 (z_lastN dL_send_7 in2_0 sh2_0 (Nat.le_of_ble_eq_true rfl) (Nat.le_of_ble_eq_true rfl) (z_goto dL_send_8 (z_const dL_send_14 (z_iretW dL_send_15 rfl rfl)))))
theorem hnL_send_0 : zHnd RL hhL_send "java/lang/IllegalStateException" 3 11 := ⟨[], (0, 8, 11, 48), [], "java/lang/IllegalStateException", rfl, (fun z hz => by cases hz), by decide, by decide, zt6 (List.mem_of_getElem? (i := 20) (rfl : tables_1_6[20]? = some (Cond.classLink RL 48 "java/lang/IllegalStateException"))), zt6 (List.mem_of_getElem? (i := 28) (rfl : tables_1_6[28]? = some (Cond.castable "java/lang/IllegalStateException" "java/lang/IllegalStateException"))), rfl⟩
set_option maxRecDepth 20000 in
set_option maxHeartbeats 4000000 in
theorem tL_send_0 {F : Nat} {μ μ1 : zM} (h : eX11_send F μ = some (.inr "java/lang/IllegalStateException", μ1)) : LMW mL_send hhL_send 8 (4, 24) [zq 0 0, zq 2 0] μ (some (zi (nI 1))) μ1 := by
  refine LMW.of (by decide +kernel) rfl (Nat.le_of_ble_eq_true rfl) ?_
  show zJ mL_send 8 (4, 24) (0, 0) _ 0 [some (zq 0 0), some (zq 2 0), none] [] _
  refine z_aload dL_send_0 rfl (z_const dL_send_1 (z_aload dL_send_2 rfl (z_callVC dL_send_3 (tX11_send h) (Nat.le_of_ble_eq_true rfl) cdX11_send naX11_send lkL_45 imX11_send seX11_send in0_0 sh0_0 rfl rfl rfl (Nat.le_of_ble_eq_true rfl) ⟨(Nat.le_of_ble_eq_true rfl), (Nat.le_of_ble_eq_true rfl)⟩ (fun q hq => by cases hq) (fun E hE => ?_))))
  cases hE
  exact ⟨_, _, _, hnL_send_0, dL_send_11, (Nat.le_of_ble_eq_true rfl), z_const dL_send_12 (z_iretW dL_send_13 rfl rfl)⟩
-- L_wake
abbrev hhL_wake : zHH := [(0, 17, 20, 21)]
abbrev mL_wake : zY := (yL_wake, cL_wake, 5, (some .int))
set_option maxRecDepth 20000 in
set_option maxHeartbeats 4000000 in
theorem tL_wake_r {x0 x1 : Int32} {μ μ1 : zM} {r : Int32} (h : eX11_wake x0 x1 μ = some (.inl r, μ1)) : LMW mL_wake hhL_wake 8 (4, 24) [zq 0 0, zi x0, zi x1, zq 2 0] μ (some (zi (nI 0))) (zg μ1 2 (zw (μ1 2) 0 0 (if r = 0 then nI 0 else nI 1))) := by
  refine LMW.of (by decide +kernel) rfl (Nat.le_of_ble_eq_true rfl) ?_
  show zJ mL_wake 8 (4, 24) (0, 0) _ 0 [some (zq 0 0), some (zi x0), some (zi x1), some (zq 2 0), none] [] _
  refine z_aload dL_wake_0 rfl (z_const dL_wake_1 (z_aload dL_wake_2 rfl (z_iload dL_wake_3 rfl (z_iload dL_wake_4 rfl (z_callVC dL_wake_5 (tX11_wake h) (Nat.le_of_ble_eq_true rfl) cdX11_wake naX11_wake lkL_50 imX11_wake seX11_wake in0_0 sh0_0 rfl rfl rfl (Nat.le_of_ble_eq_true rfl) ⟨(Nat.le_of_ble_eq_true rfl), (Nat.le_of_ble_eq_true rfl)⟩ (fun q hq => ?_) (fun E hE => by cases hE))))))
  cases hq
  refine z_if_eq dL_wake_8 (fun c => ?_) (fun c => ?_)
  · rw [if_pos c]
    exact z_lconst (v := nI 0) dL_wake_15 (by decide) (z_focus 2 (z_lastN dL_wake_16 in2_0 sh2_0 (Nat.le_of_ble_eq_true rfl) (Nat.le_of_ble_eq_true rfl) (z_goto dL_wake_17 (z_const dL_wake_24 (z_iretW dL_wake_25 rfl rfl)))))
  · rw [if_neg c]
    exact z_lconst (v := nI 1) dL_wake_11 (by decide) (z_goto dL_wake_12 (z_focus 2 (z_lastN dL_wake_16 in2_0 sh2_0 (Nat.le_of_ble_eq_true rfl) (Nat.le_of_ble_eq_true rfl) (z_goto dL_wake_17 (z_const dL_wake_24 (z_iretW dL_wake_25 rfl rfl))))))
theorem hnL_wake_0 : zHnd RL hhL_wake "java/lang/IndexOutOfBoundsException" 5 20 := ⟨[], (0, 17, 20, 21), [], "java/lang/IndexOutOfBoundsException", rfl, (fun z hz => by cases hz), by decide, by decide, zt5 (List.mem_of_getElem? (i := 149) (rfl : tables_1_5[149]? = some (Cond.classLink RL 21 "java/lang/IndexOutOfBoundsException"))), zt5 (List.mem_of_getElem? (i := 161) (rfl : tables_1_5[161]? = some (Cond.castable "java/lang/IndexOutOfBoundsException" "java/lang/IndexOutOfBoundsException"))), rfl⟩
set_option maxRecDepth 20000 in
set_option maxHeartbeats 4000000 in
theorem tL_wake_0 {x0 x1 : Int32} {μ μ1 : zM} (h : eX11_wake x0 x1 μ = some (.inr "java/lang/IndexOutOfBoundsException", μ1)) : LMW mL_wake hhL_wake 8 (4, 24) [zq 0 0, zi x0, zi x1, zq 2 0] μ (some (zi (nI 1))) μ1 := by
  refine LMW.of (by decide +kernel) rfl (Nat.le_of_ble_eq_true rfl) ?_
  show zJ mL_wake 8 (4, 24) (0, 0) _ 0 [some (zq 0 0), some (zi x0), some (zi x1), some (zq 2 0), none] [] _
  refine z_aload dL_wake_0 rfl (z_const dL_wake_1 (z_aload dL_wake_2 rfl (z_iload dL_wake_3 rfl (z_iload dL_wake_4 rfl (z_callVC dL_wake_5 (tX11_wake h) (Nat.le_of_ble_eq_true rfl) cdX11_wake naX11_wake lkL_50 imX11_wake seX11_wake in0_0 sh0_0 rfl rfl rfl (Nat.le_of_ble_eq_true rfl) ⟨(Nat.le_of_ble_eq_true rfl), (Nat.le_of_ble_eq_true rfl)⟩ (fun q hq => by cases hq) (fun E hE => ?_))))))
  cases hE
  exact ⟨_, _, _, hnL_wake_0, dL_wake_20, (Nat.le_of_ble_eq_true rfl), z_const dL_wake_22 (z_iretW dL_wake_23 rfl rfl)⟩
-- L_cut
abbrev hhL_cut : zHH := [(0, 17, 20, 21)]
abbrev mL_cut : zY := (yL_cut, cL_cut, 5, (some .int))
set_option maxRecDepth 20000 in
set_option maxHeartbeats 4000000 in
theorem tL_cut_r {F : Nat} {x0 x1 : Int32} {μ μ1 : zM} {r : Int32} (h : eX11_cut F x0 x1 μ = some (.inl r, μ1)) : LMW mL_cut hhL_cut 8 (4, 24) [zq 0 0, zi x0, zi x1, zq 2 0] μ (some (zi (nI 0))) (zg μ1 2 (zw (μ1 2) 0 0 (if r = 0 then nI 0 else nI 1))) := by
  refine LMW.of (by decide +kernel) rfl (Nat.le_of_ble_eq_true rfl) ?_
  show zJ mL_cut 8 (4, 24) (0, 0) _ 0 [some (zq 0 0), some (zi x0), some (zi x1), some (zq 2 0), none] [] _
  refine z_aload dL_cut_0 rfl (z_const dL_cut_1 (z_aload dL_cut_2 rfl (z_iload dL_cut_3 rfl (z_iload dL_cut_4 rfl (z_callVC dL_cut_5 (tX11_cut h) (Nat.le_of_ble_eq_true rfl) cdX11_cut naX11_cut lkL_54 imX11_cut seX11_cut in0_0 sh0_0 rfl rfl rfl (Nat.le_of_ble_eq_true rfl) ⟨(Nat.le_of_ble_eq_true rfl), (Nat.le_of_ble_eq_true rfl)⟩ (fun q hq => ?_) (fun E hE => by cases hE))))))
  cases hq
  refine z_if_eq dL_cut_8 (fun c => ?_) (fun c => ?_)
  · rw [if_pos c]
    exact z_lconst (v := nI 0) dL_cut_15 (by decide) (z_focus 2 (z_lastN dL_cut_16 in2_0 sh2_0 (Nat.le_of_ble_eq_true rfl) (Nat.le_of_ble_eq_true rfl) (z_goto dL_cut_17 (z_const dL_cut_24 (z_iretW dL_cut_25 rfl rfl)))))
  · rw [if_neg c]
    exact z_lconst (v := nI 1) dL_cut_11 (by decide) (z_goto dL_cut_12 (z_focus 2 (z_lastN dL_cut_16 in2_0 sh2_0 (Nat.le_of_ble_eq_true rfl) (Nat.le_of_ble_eq_true rfl) (z_goto dL_cut_17 (z_const dL_cut_24 (z_iretW dL_cut_25 rfl rfl))))))
theorem hnL_cut_0 : zHnd RL hhL_cut "java/lang/IndexOutOfBoundsException" 5 20 := ⟨[], (0, 17, 20, 21), [], "java/lang/IndexOutOfBoundsException", rfl, (fun z hz => by cases hz), by decide, by decide, zt5 (List.mem_of_getElem? (i := 149) (rfl : tables_1_5[149]? = some (Cond.classLink RL 21 "java/lang/IndexOutOfBoundsException"))), zt5 (List.mem_of_getElem? (i := 161) (rfl : tables_1_5[161]? = some (Cond.castable "java/lang/IndexOutOfBoundsException" "java/lang/IndexOutOfBoundsException"))), rfl⟩
set_option maxRecDepth 20000 in
set_option maxHeartbeats 4000000 in
theorem tL_cut_0 {F : Nat} {x0 x1 : Int32} {μ μ1 : zM} (h : eX11_cut F x0 x1 μ = some (.inr "java/lang/IndexOutOfBoundsException", μ1)) : LMW mL_cut hhL_cut 8 (4, 24) [zq 0 0, zi x0, zi x1, zq 2 0] μ (some (zi (nI 1))) μ1 := by
  refine LMW.of (by decide +kernel) rfl (Nat.le_of_ble_eq_true rfl) ?_
  show zJ mL_cut 8 (4, 24) (0, 0) _ 0 [some (zq 0 0), some (zi x0), some (zi x1), some (zq 2 0), none] [] _
  refine z_aload dL_cut_0 rfl (z_const dL_cut_1 (z_aload dL_cut_2 rfl (z_iload dL_cut_3 rfl (z_iload dL_cut_4 rfl (z_callVC dL_cut_5 (tX11_cut h) (Nat.le_of_ble_eq_true rfl) cdX11_cut naX11_cut lkL_54 imX11_cut seX11_cut in0_0 sh0_0 rfl rfl rfl (Nat.le_of_ble_eq_true rfl) ⟨(Nat.le_of_ble_eq_true rfl), (Nat.le_of_ble_eq_true rfl)⟩ (fun q hq => by cases hq) (fun E hE => ?_))))))
  cases hE
  exact ⟨_, _, _, hnL_cut_0, dL_cut_20, (Nat.le_of_ble_eq_true rfl), z_const dL_cut_22 (z_iretW dL_cut_23 rfl rfl)⟩
-- L_loss
abbrev hhL_loss : zHH := [(0, 10, 13, 21), (0, 10, 17, 13)]
abbrev mL_loss : zY := (yL_loss, cL_loss, 5, (some .int))
set_option maxRecDepth 20000 in
set_option maxHeartbeats 4000000 in
theorem tL_loss_r {x0 x1 : Int32} {μ μ1 : zM} {r : Int32} (h : eX11_loss x0 x1 μ = some (.inl r, μ1)) : LMW mL_loss hhL_loss 8 (4, 24) [zq 0 0, zi x0, zi x1, zq 2 0] μ (some (zi (nI 0))) (zg μ1 2 (zw (μ1 2) 0 0 r)) := by
  refine LMW.of (by decide +kernel) rfl (Nat.le_of_ble_eq_true rfl) ?_
  show zJ mL_loss 8 (4, 24) (0, 0) _ 0 [some (zq 0 0), some (zi x0), some (zi x1), some (zq 2 0), none] [] _
  refine z_aload dL_loss_0 rfl (z_const dL_loss_1 (z_aload dL_loss_2 rfl (z_iload dL_loss_3 rfl (z_iload dL_loss_4 rfl (z_callVC dL_loss_5 (tX11_loss h) (Nat.le_of_ble_eq_true rfl) cdX11_loss naX11_loss lkL_57 imX11_loss seX11_loss in0_0 sh0_0 rfl rfl rfl (Nat.le_of_ble_eq_true rfl) ⟨(Nat.le_of_ble_eq_true rfl), (Nat.le_of_ble_eq_true rfl)⟩ (fun q hq => ?_) (fun E hE => by cases hE))))))
  cases hq
  exact z_i2l dL_loss_8 (z_focus 2 (z_lastN dL_loss_9 in2_0 sh2_0 (Nat.le_of_ble_eq_true rfl) (Nat.le_of_ble_eq_true rfl) (z_goto dL_loss_10 (z_const dL_loss_21 (z_iretW dL_loss_22 rfl rfl)))))
theorem hnL_loss_0 : zHnd RL hhL_loss "java/lang/IndexOutOfBoundsException" 5 13 := ⟨[], (0, 10, 13, 21), [(0, 10, 17, 13)], "java/lang/IndexOutOfBoundsException", rfl, (fun z hz => by cases hz), by decide, by decide, zt5 (List.mem_of_getElem? (i := 149) (rfl : tables_1_5[149]? = some (Cond.classLink RL 21 "java/lang/IndexOutOfBoundsException"))), zt5 (List.mem_of_getElem? (i := 161) (rfl : tables_1_5[161]? = some (Cond.castable "java/lang/IndexOutOfBoundsException" "java/lang/IndexOutOfBoundsException"))), rfl⟩
set_option maxRecDepth 20000 in
set_option maxHeartbeats 4000000 in
theorem tL_loss_0 {x0 x1 : Int32} {μ μ1 : zM} (h : eX11_loss x0 x1 μ = some (.inr "java/lang/IndexOutOfBoundsException", μ1)) : LMW mL_loss hhL_loss 8 (4, 24) [zq 0 0, zi x0, zi x1, zq 2 0] μ (some (zi (nI 1))) μ1 := by
  refine LMW.of (by decide +kernel) rfl (Nat.le_of_ble_eq_true rfl) ?_
  show zJ mL_loss 8 (4, 24) (0, 0) _ 0 [some (zq 0 0), some (zi x0), some (zi x1), some (zq 2 0), none] [] _
  refine z_aload dL_loss_0 rfl (z_const dL_loss_1 (z_aload dL_loss_2 rfl (z_iload dL_loss_3 rfl (z_iload dL_loss_4 rfl (z_callVC dL_loss_5 (tX11_loss h) (Nat.le_of_ble_eq_true rfl) cdX11_loss naX11_loss lkL_57 imX11_loss seX11_loss in0_0 sh0_0 rfl rfl rfl (Nat.le_of_ble_eq_true rfl) ⟨(Nat.le_of_ble_eq_true rfl), (Nat.le_of_ble_eq_true rfl)⟩ (fun q hq => by cases hq) (fun E hE => ?_))))))
  cases hE
  exact ⟨_, _, _, hnL_loss_0, dL_loss_13, (Nat.le_of_ble_eq_true rfl), z_const dL_loss_15 (z_iretW dL_loss_16 rfl rfl)⟩
theorem hnL_loss_1 : zHnd RL hhL_loss "java/lang/IllegalArgumentException" 5 17 := ⟨[(0, 10, 13, 21)], (0, 10, 17, 13), [], "java/lang/IllegalArgumentException", rfl, (fun z hz => by
      cases List.mem_singleton.mp hz
      exact ⟨by decide, "java/lang/IndexOutOfBoundsException", zt5 (List.mem_of_getElem? (i := 149) (rfl : tables_1_5[149]? = some (Cond.classLink RL 21 "java/lang/IndexOutOfBoundsException"))), by decide +kernel⟩), by decide, by decide, zt4 (List.mem_of_getElem? (i := 134) (rfl : tables_1_4[134]? = some (Cond.classLink RL 13 "java/lang/IllegalArgumentException"))), zt5 (List.mem_of_getElem? (i := 36) (rfl : tables_1_5[36]? = some (Cond.castable "java/lang/IllegalArgumentException" "java/lang/IllegalArgumentException"))), rfl⟩
set_option maxRecDepth 20000 in
set_option maxHeartbeats 4000000 in
theorem tL_loss_1 {x0 x1 : Int32} {μ μ1 : zM} (h : eX11_loss x0 x1 μ = some (.inr "java/lang/IllegalArgumentException", μ1)) : LMW mL_loss hhL_loss 8 (4, 24) [zq 0 0, zi x0, zi x1, zq 2 0] μ (some (zi (nI 2))) μ1 := by
  refine LMW.of (by decide +kernel) rfl (Nat.le_of_ble_eq_true rfl) ?_
  show zJ mL_loss 8 (4, 24) (0, 0) _ 0 [some (zq 0 0), some (zi x0), some (zi x1), some (zq 2 0), none] [] _
  refine z_aload dL_loss_0 rfl (z_const dL_loss_1 (z_aload dL_loss_2 rfl (z_iload dL_loss_3 rfl (z_iload dL_loss_4 rfl (z_callVC dL_loss_5 (tX11_loss h) (Nat.le_of_ble_eq_true rfl) cdX11_loss naX11_loss lkL_57 imX11_loss seX11_loss in0_0 sh0_0 rfl rfl rfl (Nat.le_of_ble_eq_true rfl) ⟨(Nat.le_of_ble_eq_true rfl), (Nat.le_of_ble_eq_true rfl)⟩ (fun q hq => by cases hq) (fun E hE => ?_))))))
  cases hE
  exact ⟨_, _, _, hnL_loss_1, dL_loss_17, (Nat.le_of_ble_eq_true rfl), z_const dL_loss_19 (z_iretW dL_loss_20 rfl rfl)⟩
-- L_give
abbrev hhL_give : zHH := [(0, 19, 22, 21), (0, 19, 26, 48)]
abbrev mL_give : zY := (yL_give, cL_give, 6, (some .int))
set_option maxRecDepth 20000 in
set_option maxHeartbeats 4000000 in
theorem tL_give_r {x0 x1 x2 : Int32} {μ μ1 : zM} {r : Int32} (h : eX11_give x0 x1 x2 μ = some (.inl r, μ1)) : LMW mL_give hhL_give 8 (4, 24) [zq 0 0, zi x0, zi x1, zi x2, zq 2 0] μ (some (zi (nI 0))) (zg μ1 2 (zw (μ1 2) 0 0 (if r = 0 then nI 0 else nI 1))) := by
  refine LMW.of (by decide +kernel) rfl (Nat.le_of_ble_eq_true rfl) ?_
  show zJ mL_give 8 (4, 24) (0, 0) _ 0 [some (zq 0 0), some (zi x0), some (zi x1), some (zi x2), some (zq 2 0), none] [] _
  refine z_aload dL_give_0 rfl (z_const dL_give_2 (z_aload dL_give_3 rfl (z_iload dL_give_4 rfl (z_iload dL_give_5 rfl (z_iload dL_give_6 rfl (z_callVC dL_give_7 (tX11_give h) (Nat.le_of_ble_eq_true rfl) cdX11_give naX11_give lkL_60 imX11_give seX11_give in0_0 sh0_0 rfl rfl rfl (Nat.le_of_ble_eq_true rfl) ⟨(Nat.le_of_ble_eq_true rfl), (Nat.le_of_ble_eq_true rfl)⟩ (fun q hq => ?_) (fun E hE => by cases hE)))))))
  cases hq
  refine z_if_eq dL_give_10 (fun c => ?_) (fun c => ?_)
  · rw [if_pos c]
    exact z_lconst (v := nI 0) dL_give_17 (by decide) (z_focus 2 (z_lastN dL_give_18 in2_0 sh2_0 (Nat.le_of_ble_eq_true rfl) (Nat.le_of_ble_eq_true rfl) (z_goto dL_give_19 (z_const dL_give_30 (z_iretW dL_give_31 rfl rfl)))))
  · rw [if_neg c]
    exact z_lconst (v := nI 1) dL_give_13 (by decide) (z_goto dL_give_14 (z_focus 2 (z_lastN dL_give_18 in2_0 sh2_0 (Nat.le_of_ble_eq_true rfl) (Nat.le_of_ble_eq_true rfl) (z_goto dL_give_19 (z_const dL_give_30 (z_iretW dL_give_31 rfl rfl))))))
theorem hnL_give_0 : zHnd RL hhL_give "java/lang/IndexOutOfBoundsException" 7 22 := ⟨[], (0, 19, 22, 21), [(0, 19, 26, 48)], "java/lang/IndexOutOfBoundsException", rfl, (fun z hz => by cases hz), by decide, by decide, zt5 (List.mem_of_getElem? (i := 149) (rfl : tables_1_5[149]? = some (Cond.classLink RL 21 "java/lang/IndexOutOfBoundsException"))), zt5 (List.mem_of_getElem? (i := 161) (rfl : tables_1_5[161]? = some (Cond.castable "java/lang/IndexOutOfBoundsException" "java/lang/IndexOutOfBoundsException"))), rfl⟩
set_option maxRecDepth 20000 in
set_option maxHeartbeats 4000000 in
theorem tL_give_0 {x0 x1 x2 : Int32} {μ μ1 : zM} (h : eX11_give x0 x1 x2 μ = some (.inr "java/lang/IndexOutOfBoundsException", μ1)) : LMW mL_give hhL_give 8 (4, 24) [zq 0 0, zi x0, zi x1, zi x2, zq 2 0] μ (some (zi (nI 1))) μ1 := by
  refine LMW.of (by decide +kernel) rfl (Nat.le_of_ble_eq_true rfl) ?_
  show zJ mL_give 8 (4, 24) (0, 0) _ 0 [some (zq 0 0), some (zi x0), some (zi x1), some (zi x2), some (zq 2 0), none] [] _
  refine z_aload dL_give_0 rfl (z_const dL_give_2 (z_aload dL_give_3 rfl (z_iload dL_give_4 rfl (z_iload dL_give_5 rfl (z_iload dL_give_6 rfl (z_callVC dL_give_7 (tX11_give h) (Nat.le_of_ble_eq_true rfl) cdX11_give naX11_give lkL_60 imX11_give seX11_give in0_0 sh0_0 rfl rfl rfl (Nat.le_of_ble_eq_true rfl) ⟨(Nat.le_of_ble_eq_true rfl), (Nat.le_of_ble_eq_true rfl)⟩ (fun q hq => by cases hq) (fun E hE => ?_)))))))
  cases hE
  exact ⟨_, _, _, hnL_give_0, dL_give_22, (Nat.le_of_ble_eq_true rfl), z_const dL_give_24 (z_iretW dL_give_25 rfl rfl)⟩
theorem hnL_give_1 : zHnd RL hhL_give "java/lang/IllegalStateException" 7 26 := ⟨[(0, 19, 22, 21)], (0, 19, 26, 48), [], "java/lang/IllegalStateException", rfl, (fun z hz => by
      cases List.mem_singleton.mp hz
      exact ⟨by decide, "java/lang/IndexOutOfBoundsException", zt5 (List.mem_of_getElem? (i := 149) (rfl : tables_1_5[149]? = some (Cond.classLink RL 21 "java/lang/IndexOutOfBoundsException"))), by decide +kernel⟩), by decide, by decide, zt6 (List.mem_of_getElem? (i := 20) (rfl : tables_1_6[20]? = some (Cond.classLink RL 48 "java/lang/IllegalStateException"))), zt6 (List.mem_of_getElem? (i := 28) (rfl : tables_1_6[28]? = some (Cond.castable "java/lang/IllegalStateException" "java/lang/IllegalStateException"))), rfl⟩
set_option maxRecDepth 20000 in
set_option maxHeartbeats 4000000 in
theorem tL_give_1 {x0 x1 x2 : Int32} {μ μ1 : zM} (h : eX11_give x0 x1 x2 μ = some (.inr "java/lang/IllegalStateException", μ1)) : LMW mL_give hhL_give 8 (4, 24) [zq 0 0, zi x0, zi x1, zi x2, zq 2 0] μ (some (zi (nI 2))) μ1 := by
  refine LMW.of (by decide +kernel) rfl (Nat.le_of_ble_eq_true rfl) ?_
  show zJ mL_give 8 (4, 24) (0, 0) _ 0 [some (zq 0 0), some (zi x0), some (zi x1), some (zi x2), some (zq 2 0), none] [] _
  refine z_aload dL_give_0 rfl (z_const dL_give_2 (z_aload dL_give_3 rfl (z_iload dL_give_4 rfl (z_iload dL_give_5 rfl (z_iload dL_give_6 rfl (z_callVC dL_give_7 (tX11_give h) (Nat.le_of_ble_eq_true rfl) cdX11_give naX11_give lkL_60 imX11_give seX11_give in0_0 sh0_0 rfl rfl rfl (Nat.le_of_ble_eq_true rfl) ⟨(Nat.le_of_ble_eq_true rfl), (Nat.le_of_ble_eq_true rfl)⟩ (fun q hq => by cases hq) (fun E hE => ?_)))))))
  cases hE
  exact ⟨_, _, _, hnL_give_1, dL_give_26, (Nat.le_of_ble_eq_true rfl), z_const dL_give_28 (z_iretW dL_give_29 rfl rfl)⟩
-- L_way
abbrev hhL_way : zHH := [(0, 12, 15, 21)]
abbrev mL_way : zY := (yL_way, cL_way, 6, (some .int))
set_option maxRecDepth 20000 in
set_option maxHeartbeats 4000000 in
theorem tL_way_r {x0 x1 x2 : Int32} {μ μ1 : zM} {r : Int32} (h : eX11_way x0 x1 x2 μ = some (.inl r, μ1)) : LMW mL_way hhL_way 8 (4, 24) [zq 0 0, zi x0, zi x1, zi x2, zq 2 0] μ (some (zi (nI 0))) (zg μ1 2 (zw (μ1 2) 0 0 r)) := by
  refine LMW.of (by decide +kernel) rfl (Nat.le_of_ble_eq_true rfl) ?_
  show zJ mL_way 8 (4, 24) (0, 0) _ 0 [some (zq 0 0), some (zi x0), some (zi x1), some (zi x2), some (zq 2 0), none] [] _
  refine z_aload dL_way_0 rfl (z_const dL_way_2 (z_aload dL_way_3 rfl (z_iload dL_way_4 rfl (z_iload dL_way_5 rfl (z_iload dL_way_6 rfl (z_callVC dL_way_7 (tX11_way h) (Nat.le_of_ble_eq_true rfl) cdX11_way naX11_way lkL_64 imX11_way seX11_way in0_0 sh0_0 rfl rfl rfl (Nat.le_of_ble_eq_true rfl) ⟨(Nat.le_of_ble_eq_true rfl), (Nat.le_of_ble_eq_true rfl)⟩ (fun q hq => ?_) (fun E hE => by cases hE)))))))
  cases hq
  exact z_i2l dL_way_10 (z_focus 2 (z_lastN dL_way_11 in2_0 sh2_0 (Nat.le_of_ble_eq_true rfl) (Nat.le_of_ble_eq_true rfl) (z_goto dL_way_12 (z_const dL_way_19 (z_iretW dL_way_20 rfl rfl)))))
theorem hnL_way_0 : zHnd RL hhL_way "java/lang/IndexOutOfBoundsException" 7 15 := ⟨[], (0, 12, 15, 21), [], "java/lang/IndexOutOfBoundsException", rfl, (fun z hz => by cases hz), by decide, by decide, zt5 (List.mem_of_getElem? (i := 149) (rfl : tables_1_5[149]? = some (Cond.classLink RL 21 "java/lang/IndexOutOfBoundsException"))), zt5 (List.mem_of_getElem? (i := 161) (rfl : tables_1_5[161]? = some (Cond.castable "java/lang/IndexOutOfBoundsException" "java/lang/IndexOutOfBoundsException"))), rfl⟩
set_option maxRecDepth 20000 in
set_option maxHeartbeats 4000000 in
theorem tL_way_0 {x0 x1 x2 : Int32} {μ μ1 : zM} (h : eX11_way x0 x1 x2 μ = some (.inr "java/lang/IndexOutOfBoundsException", μ1)) : LMW mL_way hhL_way 8 (4, 24) [zq 0 0, zi x0, zi x1, zi x2, zq 2 0] μ (some (zi (nI 1))) μ1 := by
  refine LMW.of (by decide +kernel) rfl (Nat.le_of_ble_eq_true rfl) ?_
  show zJ mL_way 8 (4, 24) (0, 0) _ 0 [some (zq 0 0), some (zi x0), some (zi x1), some (zi x2), some (zq 2 0), none] [] _
  refine z_aload dL_way_0 rfl (z_const dL_way_2 (z_aload dL_way_3 rfl (z_iload dL_way_4 rfl (z_iload dL_way_5 rfl (z_iload dL_way_6 rfl (z_callVC dL_way_7 (tX11_way h) (Nat.le_of_ble_eq_true rfl) cdX11_way naX11_way lkL_64 imX11_way seX11_way in0_0 sh0_0 rfl rfl rfl (Nat.le_of_ble_eq_true rfl) ⟨(Nat.le_of_ble_eq_true rfl), (Nat.le_of_ble_eq_true rfl)⟩ (fun q hq => by cases hq) (fun E hE => ?_)))))))
  cases hE
  exact ⟨_, _, _, hnL_way_0, dL_way_15, (Nat.le_of_ble_eq_true rfl), z_const dL_way_17 (z_iretW dL_way_18 rfl rfl)⟩
-- L_above
abbrev hhL_above : zHH := [(0, 10, 13, 21)]
abbrev mL_above : zY := (yL_above, cL_above, 5, (some .int))
set_option maxRecDepth 20000 in
set_option maxHeartbeats 4000000 in
theorem tL_above_r {x0 x1 : Int32} {μ μ1 : zM} {r : Int32} (h : eX11_above x0 x1 μ = some (.inl r, μ1)) : LMW mL_above hhL_above 8 (4, 24) [zq 0 0, zi x0, zi x1, zq 2 0] μ (some (zi (nI 0))) (zg μ1 2 (zw (μ1 2) 0 0 r)) := by
  refine LMW.of (by decide +kernel) rfl (Nat.le_of_ble_eq_true rfl) ?_
  show zJ mL_above 8 (4, 24) (0, 0) _ 0 [some (zq 0 0), some (zi x0), some (zi x1), some (zq 2 0), none] [] _
  refine z_aload dL_above_0 rfl (z_const dL_above_1 (z_aload dL_above_2 rfl (z_iload dL_above_3 rfl (z_iload dL_above_4 rfl (z_callVC dL_above_5 (tX11_above h) (Nat.le_of_ble_eq_true rfl) cdX11_above naX11_above lkL_68 imX11_above seX11_above in0_0 sh0_0 rfl rfl rfl (Nat.le_of_ble_eq_true rfl) ⟨(Nat.le_of_ble_eq_true rfl), (Nat.le_of_ble_eq_true rfl)⟩ (fun q hq => ?_) (fun E hE => by cases hE))))))
  cases hq
  exact z_i2l dL_above_8 (z_focus 2 (z_lastN dL_above_9 in2_0 sh2_0 (Nat.le_of_ble_eq_true rfl) (Nat.le_of_ble_eq_true rfl) (z_goto dL_above_10 (z_const dL_above_17 (z_iretW dL_above_18 rfl rfl)))))
theorem hnL_above_0 : zHnd RL hhL_above "java/lang/IndexOutOfBoundsException" 5 13 := ⟨[], (0, 10, 13, 21), [], "java/lang/IndexOutOfBoundsException", rfl, (fun z hz => by cases hz), by decide, by decide, zt5 (List.mem_of_getElem? (i := 149) (rfl : tables_1_5[149]? = some (Cond.classLink RL 21 "java/lang/IndexOutOfBoundsException"))), zt5 (List.mem_of_getElem? (i := 161) (rfl : tables_1_5[161]? = some (Cond.castable "java/lang/IndexOutOfBoundsException" "java/lang/IndexOutOfBoundsException"))), rfl⟩
set_option maxRecDepth 20000 in
set_option maxHeartbeats 4000000 in
theorem tL_above_0 {x0 x1 : Int32} {μ μ1 : zM} (h : eX11_above x0 x1 μ = some (.inr "java/lang/IndexOutOfBoundsException", μ1)) : LMW mL_above hhL_above 8 (4, 24) [zq 0 0, zi x0, zi x1, zq 2 0] μ (some (zi (nI 1))) μ1 := by
  refine LMW.of (by decide +kernel) rfl (Nat.le_of_ble_eq_true rfl) ?_
  show zJ mL_above 8 (4, 24) (0, 0) _ 0 [some (zq 0 0), some (zi x0), some (zi x1), some (zq 2 0), none] [] _
  refine z_aload dL_above_0 rfl (z_const dL_above_1 (z_aload dL_above_2 rfl (z_iload dL_above_3 rfl (z_iload dL_above_4 rfl (z_callVC dL_above_5 (tX11_above h) (Nat.le_of_ble_eq_true rfl) cdX11_above naX11_above lkL_68 imX11_above seX11_above in0_0 sh0_0 rfl rfl rfl (Nat.le_of_ble_eq_true rfl) ⟨(Nat.le_of_ble_eq_true rfl), (Nat.le_of_ble_eq_true rfl)⟩ (fun q hq => by cases hq) (fun E hE => ?_))))))
  cases hE
  exact ⟨_, _, _, hnL_above_0, dL_above_13, (Nat.le_of_ble_eq_true rfl), z_const dL_above_15 (z_iretW dL_above_16 rfl rfl)⟩
-- L_window
abbrev hhL_window : zHH := [(0, 12, 15, 21)]
abbrev mL_window : zY := (yL_window, cL_window, 6, (some .int))
set_option maxRecDepth 20000 in
set_option maxHeartbeats 4000000 in
theorem tL_window_r {x0 x1 x2 : Int32} {μ μ1 : zM} {r : Int32} (h : eX11_window x0 x1 x2 μ = some (.inl r, μ1)) : LMW mL_window hhL_window 8 (4, 24) [zq 0 0, zi x0, zi x1, zi x2, zq 2 0] μ (some (zi (nI 0))) (zg μ1 2 (zw (μ1 2) 0 0 r)) := by
  refine LMW.of (by decide +kernel) rfl (Nat.le_of_ble_eq_true rfl) ?_
  show zJ mL_window 8 (4, 24) (0, 0) _ 0 [some (zq 0 0), some (zi x0), some (zi x1), some (zi x2), some (zq 2 0), none] [] _
  refine z_aload dL_window_0 rfl (z_const dL_window_2 (z_aload dL_window_3 rfl (z_iload dL_window_4 rfl (z_iload dL_window_5 rfl (z_iload dL_window_6 rfl (z_callVC dL_window_7 (tX11_window h) (Nat.le_of_ble_eq_true rfl) cdX11_window naX11_window lkL_71 imX11_window seX11_window in0_0 sh0_0 rfl rfl rfl (Nat.le_of_ble_eq_true rfl) ⟨(Nat.le_of_ble_eq_true rfl), (Nat.le_of_ble_eq_true rfl)⟩ (fun q hq => ?_) (fun E hE => by cases hE)))))))
  cases hq
  exact z_i2l dL_window_10 (z_focus 2 (z_lastN dL_window_11 in2_0 sh2_0 (Nat.le_of_ble_eq_true rfl) (Nat.le_of_ble_eq_true rfl) (z_goto dL_window_12 (z_const dL_window_19 (z_iretW dL_window_20 rfl rfl)))))
theorem hnL_window_0 : zHnd RL hhL_window "java/lang/IndexOutOfBoundsException" 7 15 := ⟨[], (0, 12, 15, 21), [], "java/lang/IndexOutOfBoundsException", rfl, (fun z hz => by cases hz), by decide, by decide, zt5 (List.mem_of_getElem? (i := 149) (rfl : tables_1_5[149]? = some (Cond.classLink RL 21 "java/lang/IndexOutOfBoundsException"))), zt5 (List.mem_of_getElem? (i := 161) (rfl : tables_1_5[161]? = some (Cond.castable "java/lang/IndexOutOfBoundsException" "java/lang/IndexOutOfBoundsException"))), rfl⟩
set_option maxRecDepth 20000 in
set_option maxHeartbeats 4000000 in
theorem tL_window_0 {x0 x1 x2 : Int32} {μ μ1 : zM} (h : eX11_window x0 x1 x2 μ = some (.inr "java/lang/IndexOutOfBoundsException", μ1)) : LMW mL_window hhL_window 8 (4, 24) [zq 0 0, zi x0, zi x1, zi x2, zq 2 0] μ (some (zi (nI 1))) μ1 := by
  refine LMW.of (by decide +kernel) rfl (Nat.le_of_ble_eq_true rfl) ?_
  show zJ mL_window 8 (4, 24) (0, 0) _ 0 [some (zq 0 0), some (zi x0), some (zi x1), some (zi x2), some (zq 2 0), none] [] _
  refine z_aload dL_window_0 rfl (z_const dL_window_2 (z_aload dL_window_3 rfl (z_iload dL_window_4 rfl (z_iload dL_window_5 rfl (z_iload dL_window_6 rfl (z_callVC dL_window_7 (tX11_window h) (Nat.le_of_ble_eq_true rfl) cdX11_window naX11_window lkL_71 imX11_window seX11_window in0_0 sh0_0 rfl rfl rfl (Nat.le_of_ble_eq_true rfl) ⟨(Nat.le_of_ble_eq_true rfl), (Nat.le_of_ble_eq_true rfl)⟩ (fun q hq => by cases hq) (fun E hE => ?_)))))))
  cases hE
  exact ⟨_, _, _, hnL_window_0, dL_window_15, (Nat.le_of_ble_eq_true rfl), z_const dL_window_17 (z_iretW dL_window_18 rfl rfl)⟩
-- L_near
abbrev hhL_near : zHH := [(0, 10, 13, 21)]
abbrev mL_near : zY := (yL_near, cL_near, 5, (some .int))
set_option maxRecDepth 20000 in
set_option maxHeartbeats 4000000 in
theorem tL_near_r {F : Nat} {x0 x1 : Int32} {μ μ1 : zM} {r : Int32} (h : eX11_near F x0 x1 μ = some (.inl r, μ1)) : LMW mL_near hhL_near 8 (4, 24) [zq 0 0, zi x0, zi x1, zq 2 0] μ (some (zi (nI 0))) (zg μ1 2 (zw (μ1 2) 0 0 r)) := by
  refine LMW.of (by decide +kernel) rfl (Nat.le_of_ble_eq_true rfl) ?_
  show zJ mL_near 8 (4, 24) (0, 0) _ 0 [some (zq 0 0), some (zi x0), some (zi x1), some (zq 2 0), none] [] _
  refine z_aload dL_near_0 rfl (z_const dL_near_1 (z_aload dL_near_2 rfl (z_iload dL_near_3 rfl (z_iload dL_near_4 rfl (z_callVC dL_near_5 (tX11_near h) (Nat.le_of_ble_eq_true rfl) cdX11_near naX11_near lkL_74 imX11_near seX11_near in0_0 sh0_0 rfl rfl rfl (Nat.le_of_ble_eq_true rfl) ⟨(Nat.le_of_ble_eq_true rfl), (Nat.le_of_ble_eq_true rfl)⟩ (fun q hq => ?_) (fun E hE => by cases hE))))))
  cases hq
  exact z_i2l dL_near_8 (z_focus 2 (z_lastN dL_near_9 in2_0 sh2_0 (Nat.le_of_ble_eq_true rfl) (Nat.le_of_ble_eq_true rfl) (z_goto dL_near_10 (z_const dL_near_17 (z_iretW dL_near_18 rfl rfl)))))
theorem hnL_near_0 : zHnd RL hhL_near "java/lang/IndexOutOfBoundsException" 5 13 := ⟨[], (0, 10, 13, 21), [], "java/lang/IndexOutOfBoundsException", rfl, (fun z hz => by cases hz), by decide, by decide, zt5 (List.mem_of_getElem? (i := 149) (rfl : tables_1_5[149]? = some (Cond.classLink RL 21 "java/lang/IndexOutOfBoundsException"))), zt5 (List.mem_of_getElem? (i := 161) (rfl : tables_1_5[161]? = some (Cond.castable "java/lang/IndexOutOfBoundsException" "java/lang/IndexOutOfBoundsException"))), rfl⟩
set_option maxRecDepth 20000 in
set_option maxHeartbeats 4000000 in
theorem tL_near_0 {F : Nat} {x0 x1 : Int32} {μ μ1 : zM} (h : eX11_near F x0 x1 μ = some (.inr "java/lang/IndexOutOfBoundsException", μ1)) : LMW mL_near hhL_near 8 (4, 24) [zq 0 0, zi x0, zi x1, zq 2 0] μ (some (zi (nI 1))) μ1 := by
  refine LMW.of (by decide +kernel) rfl (Nat.le_of_ble_eq_true rfl) ?_
  show zJ mL_near 8 (4, 24) (0, 0) _ 0 [some (zq 0 0), some (zi x0), some (zi x1), some (zq 2 0), none] [] _
  refine z_aload dL_near_0 rfl (z_const dL_near_1 (z_aload dL_near_2 rfl (z_iload dL_near_3 rfl (z_iload dL_near_4 rfl (z_callVC dL_near_5 (tX11_near h) (Nat.le_of_ble_eq_true rfl) cdX11_near naX11_near lkL_74 imX11_near seX11_near in0_0 sh0_0 rfl rfl rfl (Nat.le_of_ble_eq_true rfl) ⟨(Nat.le_of_ble_eq_true rfl), (Nat.le_of_ble_eq_true rfl)⟩ (fun q hq => by cases hq) (fun E hE => ?_))))))
  cases hE
  exact ⟨_, _, _, hnL_near_0, dL_near_13, (Nat.le_of_ble_eq_true rfl), z_const dL_near_15 (z_iretW dL_near_16 rfl rfl)⟩
-- L_reach
abbrev hhL_reach : zHH := [(0, 10, 13, 21), (0, 10, 17, 13)]
abbrev mL_reach : zY := (yL_reach, cL_reach, 5, (some .int))
set_option maxRecDepth 20000 in
set_option maxHeartbeats 4000000 in
theorem tL_reach_r {F : Nat} {x0 x1 : Int32} {μ μ1 : zM} {r : Int32} (h : eX11_reach F x0 x1 μ = some (.inl r, μ1)) : LMW mL_reach hhL_reach 8 (4, 24) [zq 0 0, zi x0, zi x1, zq 2 0] μ (some (zi (nI 0))) (zg μ1 2 (zw (μ1 2) 0 0 r)) := by
  refine LMW.of (by decide +kernel) rfl (Nat.le_of_ble_eq_true rfl) ?_
  show zJ mL_reach 8 (4, 24) (0, 0) _ 0 [some (zq 0 0), some (zi x0), some (zi x1), some (zq 2 0), none] [] _
  refine z_aload dL_reach_0 rfl (z_const dL_reach_1 (z_aload dL_reach_2 rfl (z_iload dL_reach_3 rfl (z_iload dL_reach_4 rfl (z_callVC dL_reach_5 (tX11_reach h) (Nat.le_of_ble_eq_true rfl) cdX11_reach naX11_reach lkL_77 imX11_reach seX11_reach in0_0 sh0_0 rfl rfl rfl (Nat.le_of_ble_eq_true rfl) ⟨(Nat.le_of_ble_eq_true rfl), (Nat.le_of_ble_eq_true rfl)⟩ (fun q hq => ?_) (fun E hE => by cases hE))))))
  cases hq
  exact z_i2l dL_reach_8 (z_focus 2 (z_lastN dL_reach_9 in2_0 sh2_0 (Nat.le_of_ble_eq_true rfl) (Nat.le_of_ble_eq_true rfl) (z_goto dL_reach_10 (z_const dL_reach_21 (z_iretW dL_reach_22 rfl rfl)))))
theorem hnL_reach_0 : zHnd RL hhL_reach "java/lang/IndexOutOfBoundsException" 5 13 := ⟨[], (0, 10, 13, 21), [(0, 10, 17, 13)], "java/lang/IndexOutOfBoundsException", rfl, (fun z hz => by cases hz), by decide, by decide, zt5 (List.mem_of_getElem? (i := 149) (rfl : tables_1_5[149]? = some (Cond.classLink RL 21 "java/lang/IndexOutOfBoundsException"))), zt5 (List.mem_of_getElem? (i := 161) (rfl : tables_1_5[161]? = some (Cond.castable "java/lang/IndexOutOfBoundsException" "java/lang/IndexOutOfBoundsException"))), rfl⟩
set_option maxRecDepth 20000 in
set_option maxHeartbeats 4000000 in
theorem tL_reach_0 {F : Nat} {x0 x1 : Int32} {μ μ1 : zM} (h : eX11_reach F x0 x1 μ = some (.inr "java/lang/IndexOutOfBoundsException", μ1)) : LMW mL_reach hhL_reach 8 (4, 24) [zq 0 0, zi x0, zi x1, zq 2 0] μ (some (zi (nI 1))) μ1 := by
  refine LMW.of (by decide +kernel) rfl (Nat.le_of_ble_eq_true rfl) ?_
  show zJ mL_reach 8 (4, 24) (0, 0) _ 0 [some (zq 0 0), some (zi x0), some (zi x1), some (zq 2 0), none] [] _
  refine z_aload dL_reach_0 rfl (z_const dL_reach_1 (z_aload dL_reach_2 rfl (z_iload dL_reach_3 rfl (z_iload dL_reach_4 rfl (z_callVC dL_reach_5 (tX11_reach h) (Nat.le_of_ble_eq_true rfl) cdX11_reach naX11_reach lkL_77 imX11_reach seX11_reach in0_0 sh0_0 rfl rfl rfl (Nat.le_of_ble_eq_true rfl) ⟨(Nat.le_of_ble_eq_true rfl), (Nat.le_of_ble_eq_true rfl)⟩ (fun q hq => by cases hq) (fun E hE => ?_))))))
  cases hE
  exact ⟨_, _, _, hnL_reach_0, dL_reach_13, (Nat.le_of_ble_eq_true rfl), z_const dL_reach_15 (z_iretW dL_reach_16 rfl rfl)⟩
theorem hnL_reach_1 : zHnd RL hhL_reach "java/lang/IllegalArgumentException" 5 17 := ⟨[(0, 10, 13, 21)], (0, 10, 17, 13), [], "java/lang/IllegalArgumentException", rfl, (fun z hz => by
      cases List.mem_singleton.mp hz
      exact ⟨by decide, "java/lang/IndexOutOfBoundsException", zt5 (List.mem_of_getElem? (i := 149) (rfl : tables_1_5[149]? = some (Cond.classLink RL 21 "java/lang/IndexOutOfBoundsException"))), by decide +kernel⟩), by decide, by decide, zt4 (List.mem_of_getElem? (i := 134) (rfl : tables_1_4[134]? = some (Cond.classLink RL 13 "java/lang/IllegalArgumentException"))), zt5 (List.mem_of_getElem? (i := 36) (rfl : tables_1_5[36]? = some (Cond.castable "java/lang/IllegalArgumentException" "java/lang/IllegalArgumentException"))), rfl⟩
set_option maxRecDepth 20000 in
set_option maxHeartbeats 4000000 in
theorem tL_reach_1 {F : Nat} {x0 x1 : Int32} {μ μ1 : zM} (h : eX11_reach F x0 x1 μ = some (.inr "java/lang/IllegalArgumentException", μ1)) : LMW mL_reach hhL_reach 8 (4, 24) [zq 0 0, zi x0, zi x1, zq 2 0] μ (some (zi (nI 2))) μ1 := by
  refine LMW.of (by decide +kernel) rfl (Nat.le_of_ble_eq_true rfl) ?_
  show zJ mL_reach 8 (4, 24) (0, 0) _ 0 [some (zq 0 0), some (zi x0), some (zi x1), some (zq 2 0), none] [] _
  refine z_aload dL_reach_0 rfl (z_const dL_reach_1 (z_aload dL_reach_2 rfl (z_iload dL_reach_3 rfl (z_iload dL_reach_4 rfl (z_callVC dL_reach_5 (tX11_reach h) (Nat.le_of_ble_eq_true rfl) cdX11_reach naX11_reach lkL_77 imX11_reach seX11_reach in0_0 sh0_0 rfl rfl rfl (Nat.le_of_ble_eq_true rfl) ⟨(Nat.le_of_ble_eq_true rfl), (Nat.le_of_ble_eq_true rfl)⟩ (fun q hq => by cases hq) (fun E hE => ?_))))))
  cases hE
  exact ⟨_, _, _, hnL_reach_1, dL_reach_17, (Nat.le_of_ble_eq_true rfl), z_const dL_reach_19 (z_iretW dL_reach_20 rfl rfl)⟩
-- L_far
abbrev hhL_far : zHH := [(0, 10, 13, 21)]
abbrev mL_far : zY := (yL_far, cL_far, 5, (some .int))
set_option maxRecDepth 20000 in
set_option maxHeartbeats 4000000 in
theorem tL_far_r {F : Nat} {x0 x1 : Int32} {μ μ1 : zM} {r : Int32} (h : eX11_far F x0 x1 μ = some (.inl r, μ1)) : LMW mL_far hhL_far 8 (4, 24) [zq 0 0, zi x0, zi x1, zq 2 0] μ (some (zi (nI 0))) (zg μ1 2 (zw (μ1 2) 0 0 r)) := by
  refine LMW.of (by decide +kernel) rfl (Nat.le_of_ble_eq_true rfl) ?_
  show zJ mL_far 8 (4, 24) (0, 0) _ 0 [some (zq 0 0), some (zi x0), some (zi x1), some (zq 2 0), none] [] _
  refine z_aload dL_far_0 rfl (z_const dL_far_1 (z_aload dL_far_2 rfl (z_iload dL_far_3 rfl (z_iload dL_far_4 rfl (z_callVC dL_far_5 (tX11_far h) (Nat.le_of_ble_eq_true rfl) cdX11_far naX11_far lkL_80 imX11_far seX11_far in0_0 sh0_0 rfl rfl rfl (Nat.le_of_ble_eq_true rfl) ⟨(Nat.le_of_ble_eq_true rfl), (Nat.le_of_ble_eq_true rfl)⟩ (fun q hq => ?_) (fun E hE => by cases hE))))))
  cases hq
  exact z_i2l dL_far_8 (z_focus 2 (z_lastN dL_far_9 in2_0 sh2_0 (Nat.le_of_ble_eq_true rfl) (Nat.le_of_ble_eq_true rfl) (z_goto dL_far_10 (z_const dL_far_17 (z_iretW dL_far_18 rfl rfl)))))
theorem hnL_far_0 : zHnd RL hhL_far "java/lang/IndexOutOfBoundsException" 5 13 := ⟨[], (0, 10, 13, 21), [], "java/lang/IndexOutOfBoundsException", rfl, (fun z hz => by cases hz), by decide, by decide, zt5 (List.mem_of_getElem? (i := 149) (rfl : tables_1_5[149]? = some (Cond.classLink RL 21 "java/lang/IndexOutOfBoundsException"))), zt5 (List.mem_of_getElem? (i := 161) (rfl : tables_1_5[161]? = some (Cond.castable "java/lang/IndexOutOfBoundsException" "java/lang/IndexOutOfBoundsException"))), rfl⟩
set_option maxRecDepth 20000 in
set_option maxHeartbeats 4000000 in
theorem tL_far_0 {F : Nat} {x0 x1 : Int32} {μ μ1 : zM} (h : eX11_far F x0 x1 μ = some (.inr "java/lang/IndexOutOfBoundsException", μ1)) : LMW mL_far hhL_far 8 (4, 24) [zq 0 0, zi x0, zi x1, zq 2 0] μ (some (zi (nI 1))) μ1 := by
  refine LMW.of (by decide +kernel) rfl (Nat.le_of_ble_eq_true rfl) ?_
  show zJ mL_far 8 (4, 24) (0, 0) _ 0 [some (zq 0 0), some (zi x0), some (zi x1), some (zq 2 0), none] [] _
  refine z_aload dL_far_0 rfl (z_const dL_far_1 (z_aload dL_far_2 rfl (z_iload dL_far_3 rfl (z_iload dL_far_4 rfl (z_callVC dL_far_5 (tX11_far h) (Nat.le_of_ble_eq_true rfl) cdX11_far naX11_far lkL_80 imX11_far seX11_far in0_0 sh0_0 rfl rfl rfl (Nat.le_of_ble_eq_true rfl) ⟨(Nat.le_of_ble_eq_true rfl), (Nat.le_of_ble_eq_true rfl)⟩ (fun q hq => by cases hq) (fun E hE => ?_))))))
  cases hE
  exact ⟨_, _, _, hnL_far_0, dL_far_13, (Nat.le_of_ble_eq_true rfl), z_const dL_far_15 (z_iretW dL_far_16 rfl rfl)⟩
-- L_talk
abbrev hhL_talk : zHH := [(0, 12, 15, 13)]
abbrev mL_talk : zY := (yL_talk, cL_talk, 6, (some .int))
set_option maxRecDepth 20000 in
set_option maxHeartbeats 4000000 in
theorem tL_talk_r {F : Nat} {x0 x1 x2 : Int32} {μ μ1 : zM} {r : Int32} (h : eX11_talk F x0 x1 x2 μ = some (.inl r, μ1)) : LMW mL_talk hhL_talk 9 (4, 24) [zq 0 0, zi x0, zi x1, zi x2, zq 2 0] μ (some (zi (nI 0))) (zg μ1 2 (zw (μ1 2) 0 0 r)) := by
  refine LMW.of (by decide +kernel) rfl (Nat.le_of_ble_eq_true rfl) ?_
  show zJ mL_talk 9 (4, 24) (0, 0) _ 0 [some (zq 0 0), some (zi x0), some (zi x1), some (zi x2), some (zq 2 0), none] [] _
  refine z_aload dL_talk_0 rfl (z_const dL_talk_2 (z_aload dL_talk_3 rfl (z_iload dL_talk_4 rfl (z_iload dL_talk_5 rfl (z_iload dL_talk_6 rfl (z_callVC dL_talk_7 (tX11_talk h) (Nat.le_of_ble_eq_true rfl) cdX11_talk naX11_talk lkL_83 imX11_talk seX11_talk in0_0 sh0_0 rfl rfl rfl (Nat.le_of_ble_eq_true rfl) ⟨(Nat.le_of_ble_eq_true rfl), (Nat.le_of_ble_eq_true rfl)⟩ (fun q hq => ?_) (fun E hE => by cases hE)))))))
  cases hq
  exact z_i2l dL_talk_10 (z_focus 2 (z_lastN dL_talk_11 in2_0 sh2_0 (Nat.le_of_ble_eq_true rfl) (Nat.le_of_ble_eq_true rfl) (z_goto dL_talk_12 (z_const dL_talk_19 (z_iretW dL_talk_20 rfl rfl)))))
theorem hnL_talk_0 : zHnd RL hhL_talk "java/lang/IllegalArgumentException" 7 15 := ⟨[], (0, 12, 15, 13), [], "java/lang/IllegalArgumentException", rfl, (fun z hz => by cases hz), by decide, by decide, zt4 (List.mem_of_getElem? (i := 134) (rfl : tables_1_4[134]? = some (Cond.classLink RL 13 "java/lang/IllegalArgumentException"))), zt5 (List.mem_of_getElem? (i := 36) (rfl : tables_1_5[36]? = some (Cond.castable "java/lang/IllegalArgumentException" "java/lang/IllegalArgumentException"))), rfl⟩
set_option maxRecDepth 20000 in
set_option maxHeartbeats 4000000 in
theorem tL_talk_0 {F : Nat} {x0 x1 x2 : Int32} {μ μ1 : zM} (h : eX11_talk F x0 x1 x2 μ = some (.inr "java/lang/IllegalArgumentException", μ1)) : LMW mL_talk hhL_talk 9 (4, 24) [zq 0 0, zi x0, zi x1, zi x2, zq 2 0] μ (some (zi (nI 1))) μ1 := by
  refine LMW.of (by decide +kernel) rfl (Nat.le_of_ble_eq_true rfl) ?_
  show zJ mL_talk 9 (4, 24) (0, 0) _ 0 [some (zq 0 0), some (zi x0), some (zi x1), some (zi x2), some (zq 2 0), none] [] _
  refine z_aload dL_talk_0 rfl (z_const dL_talk_2 (z_aload dL_talk_3 rfl (z_iload dL_talk_4 rfl (z_iload dL_talk_5 rfl (z_iload dL_talk_6 rfl (z_callVC dL_talk_7 (tX11_talk h) (Nat.le_of_ble_eq_true rfl) cdX11_talk naX11_talk lkL_83 imX11_talk seX11_talk in0_0 sh0_0 rfl rfl rfl (Nat.le_of_ble_eq_true rfl) ⟨(Nat.le_of_ble_eq_true rfl), (Nat.le_of_ble_eq_true rfl)⟩ (fun q hq => by cases hq) (fun E hE => ?_)))))))
  cases hE
  exact ⟨_, _, _, hnL_talk_0, dL_talk_15, (Nat.le_of_ble_eq_true rfl), z_const dL_talk_17 (z_iretW dL_talk_18 rfl rfl)⟩
-- L_giver
abbrev hhL_giver : zHH := [(0, 12, 15, 21)]
abbrev mL_giver : zY := (yL_giver, cL_giver, 6, (some .int))
set_option maxRecDepth 20000 in
set_option maxHeartbeats 4000000 in
theorem tL_giver_r {F : Nat} {x0 x1 x2 : Int32} {μ μ1 : zM} {r : Int32} (h : eX11_giver F x0 x1 x2 μ = some (.inl r, μ1)) : LMW mL_giver hhL_giver 8 (4, 24) [zq 0 0, zi x0, zi x1, zi x2, zq 2 0] μ (some (zi (nI 0))) (zg μ1 2 (zw (μ1 2) 0 0 r)) := by
  refine LMW.of (by decide +kernel) rfl (Nat.le_of_ble_eq_true rfl) ?_
  show zJ mL_giver 8 (4, 24) (0, 0) _ 0 [some (zq 0 0), some (zi x0), some (zi x1), some (zi x2), some (zq 2 0), none] [] _
  refine z_aload dL_giver_0 rfl (z_const dL_giver_2 (z_aload dL_giver_3 rfl (z_iload dL_giver_4 rfl (z_iload dL_giver_5 rfl (z_iload dL_giver_6 rfl (z_callVC dL_giver_7 (tX11_giver h) (Nat.le_of_ble_eq_true rfl) cdX11_giver naX11_giver lkL_87 imX11_giver seX11_giver in0_0 sh0_0 rfl rfl rfl (Nat.le_of_ble_eq_true rfl) ⟨(Nat.le_of_ble_eq_true rfl), (Nat.le_of_ble_eq_true rfl)⟩ (fun q hq => ?_) (fun E hE => by cases hE)))))))
  cases hq
  exact z_i2l dL_giver_10 (z_focus 2 (z_lastN dL_giver_11 in2_0 sh2_0 (Nat.le_of_ble_eq_true rfl) (Nat.le_of_ble_eq_true rfl) (z_goto dL_giver_12 (z_const dL_giver_19 (z_iretW dL_giver_20 rfl rfl)))))
theorem hnL_giver_0 : zHnd RL hhL_giver "java/lang/IndexOutOfBoundsException" 7 15 := ⟨[], (0, 12, 15, 21), [], "java/lang/IndexOutOfBoundsException", rfl, (fun z hz => by cases hz), by decide, by decide, zt5 (List.mem_of_getElem? (i := 149) (rfl : tables_1_5[149]? = some (Cond.classLink RL 21 "java/lang/IndexOutOfBoundsException"))), zt5 (List.mem_of_getElem? (i := 161) (rfl : tables_1_5[161]? = some (Cond.castable "java/lang/IndexOutOfBoundsException" "java/lang/IndexOutOfBoundsException"))), rfl⟩
set_option maxRecDepth 20000 in
set_option maxHeartbeats 4000000 in
theorem tL_giver_0 {F : Nat} {x0 x1 x2 : Int32} {μ μ1 : zM} (h : eX11_giver F x0 x1 x2 μ = some (.inr "java/lang/IndexOutOfBoundsException", μ1)) : LMW mL_giver hhL_giver 8 (4, 24) [zq 0 0, zi x0, zi x1, zi x2, zq 2 0] μ (some (zi (nI 1))) μ1 := by
  refine LMW.of (by decide +kernel) rfl (Nat.le_of_ble_eq_true rfl) ?_
  show zJ mL_giver 8 (4, 24) (0, 0) _ 0 [some (zq 0 0), some (zi x0), some (zi x1), some (zi x2), some (zq 2 0), none] [] _
  refine z_aload dL_giver_0 rfl (z_const dL_giver_2 (z_aload dL_giver_3 rfl (z_iload dL_giver_4 rfl (z_iload dL_giver_5 rfl (z_iload dL_giver_6 rfl (z_callVC dL_giver_7 (tX11_giver h) (Nat.le_of_ble_eq_true rfl) cdX11_giver naX11_giver lkL_87 imX11_giver seX11_giver in0_0 sh0_0 rfl rfl rfl (Nat.le_of_ble_eq_true rfl) ⟨(Nat.le_of_ble_eq_true rfl), (Nat.le_of_ble_eq_true rfl)⟩ (fun q hq => by cases hq) (fun E hE => ?_)))))))
  cases hE
  exact ⟨_, _, _, hnL_giver_0, dL_giver_15, (Nat.le_of_ble_eq_true rfl), z_const dL_giver_17 (z_iretW dL_giver_18 rfl rfl)⟩
-- L_when
abbrev hhL_when : zHH := [(0, 10, 13, 21)]
abbrev mL_when : zY := (yL_when, cL_when, 5, (some .int))
set_option maxRecDepth 20000 in
set_option maxHeartbeats 4000000 in
theorem tL_when_r {x0 x1 : Int32} {μ μ1 : zM} {r : Int32} (h : eX11_when x0 x1 μ = some (.inl r, μ1)) : LMW mL_when hhL_when 8 (4, 24) [zq 0 0, zi x0, zi x1, zq 2 0] μ (some (zi (nI 0))) (zg μ1 2 (zw (μ1 2) 0 0 r)) := by
  refine LMW.of (by decide +kernel) rfl (Nat.le_of_ble_eq_true rfl) ?_
  show zJ mL_when 8 (4, 24) (0, 0) _ 0 [some (zq 0 0), some (zi x0), some (zi x1), some (zq 2 0), none] [] _
  refine z_aload dL_when_0 rfl (z_const dL_when_1 (z_aload dL_when_2 rfl (z_iload dL_when_3 rfl (z_iload dL_when_4 rfl (z_callVC dL_when_5 (tX11_when h) (Nat.le_of_ble_eq_true rfl) cdX11_when naX11_when lkL_90 imX11_when seX11_when in0_0 sh0_0 rfl rfl rfl (Nat.le_of_ble_eq_true rfl) ⟨(Nat.le_of_ble_eq_true rfl), (Nat.le_of_ble_eq_true rfl)⟩ (fun q hq => ?_) (fun E hE => by cases hE))))))
  cases hq
  exact z_i2l dL_when_8 (z_focus 2 (z_lastN dL_when_9 in2_0 sh2_0 (Nat.le_of_ble_eq_true rfl) (Nat.le_of_ble_eq_true rfl) (z_goto dL_when_10 (z_const dL_when_17 (z_iretW dL_when_18 rfl rfl)))))
theorem hnL_when_0 : zHnd RL hhL_when "java/lang/IndexOutOfBoundsException" 5 13 := ⟨[], (0, 10, 13, 21), [], "java/lang/IndexOutOfBoundsException", rfl, (fun z hz => by cases hz), by decide, by decide, zt5 (List.mem_of_getElem? (i := 149) (rfl : tables_1_5[149]? = some (Cond.classLink RL 21 "java/lang/IndexOutOfBoundsException"))), zt5 (List.mem_of_getElem? (i := 161) (rfl : tables_1_5[161]? = some (Cond.castable "java/lang/IndexOutOfBoundsException" "java/lang/IndexOutOfBoundsException"))), rfl⟩
set_option maxRecDepth 20000 in
set_option maxHeartbeats 4000000 in
theorem tL_when_0 {x0 x1 : Int32} {μ μ1 : zM} (h : eX11_when x0 x1 μ = some (.inr "java/lang/IndexOutOfBoundsException", μ1)) : LMW mL_when hhL_when 8 (4, 24) [zq 0 0, zi x0, zi x1, zq 2 0] μ (some (zi (nI 1))) μ1 := by
  refine LMW.of (by decide +kernel) rfl (Nat.le_of_ble_eq_true rfl) ?_
  show zJ mL_when 8 (4, 24) (0, 0) _ 0 [some (zq 0 0), some (zi x0), some (zi x1), some (zq 2 0), none] [] _
  refine z_aload dL_when_0 rfl (z_const dL_when_1 (z_aload dL_when_2 rfl (z_iload dL_when_3 rfl (z_iload dL_when_4 rfl (z_callVC dL_when_5 (tX11_when h) (Nat.le_of_ble_eq_true rfl) cdX11_when naX11_when lkL_90 imX11_when seX11_when in0_0 sh0_0 rfl rfl rfl (Nat.le_of_ble_eq_true rfl) ⟨(Nat.le_of_ble_eq_true rfl), (Nat.le_of_ble_eq_true rfl)⟩ (fun q hq => by cases hq) (fun E hE => ?_))))))
  cases hE
  exact ⟨_, _, _, hnL_when_0, dL_when_13, (Nat.le_of_ble_eq_true rfl), z_const dL_when_15 (z_iretW dL_when_16 rfl rfl)⟩
-- L_route
abbrev hhL_route : zHH := [(0, 12, 15, 21)]
abbrev mL_route : zY := (yL_route, cL_route, 6, (some .int))
set_option maxRecDepth 20000 in
set_option maxHeartbeats 4000000 in
theorem tL_route_r {F : Nat} {x0 x1 x2 : Int32} {μ μ1 : zM} {r : Int32} (h : eX11_route F x0 x1 x2 μ = some (.inl r, μ1)) : LMW mL_route hhL_route 8 (4, 24) [zq 0 0, zi x0, zi x1, zi x2, zq 2 0] μ (some (zi (nI 0))) (zg μ1 2 (zw (μ1 2) 0 0 r)) := by
  refine LMW.of (by decide +kernel) rfl (Nat.le_of_ble_eq_true rfl) ?_
  show zJ mL_route 8 (4, 24) (0, 0) _ 0 [some (zq 0 0), some (zi x0), some (zi x1), some (zi x2), some (zq 2 0), none] [] _
  refine z_aload dL_route_0 rfl (z_const dL_route_2 (z_aload dL_route_3 rfl (z_iload dL_route_4 rfl (z_iload dL_route_5 rfl (z_iload dL_route_6 rfl (z_callVC dL_route_7 (tX11_route h) (Nat.le_of_ble_eq_true rfl) cdX11_route naX11_route lkL_93 imX11_route seX11_route in0_0 sh0_0 rfl rfl rfl (Nat.le_of_ble_eq_true rfl) ⟨(Nat.le_of_ble_eq_true rfl), (Nat.le_of_ble_eq_true rfl)⟩ (fun q hq => ?_) (fun E hE => by cases hE)))))))
  cases hq
  exact z_i2l dL_route_10 (z_focus 2 (z_lastN dL_route_11 in2_0 sh2_0 (Nat.le_of_ble_eq_true rfl) (Nat.le_of_ble_eq_true rfl) (z_goto dL_route_12 (z_const dL_route_19 (z_iretW dL_route_20 rfl rfl)))))
theorem hnL_route_0 : zHnd RL hhL_route "java/lang/IndexOutOfBoundsException" 7 15 := ⟨[], (0, 12, 15, 21), [], "java/lang/IndexOutOfBoundsException", rfl, (fun z hz => by cases hz), by decide, by decide, zt5 (List.mem_of_getElem? (i := 149) (rfl : tables_1_5[149]? = some (Cond.classLink RL 21 "java/lang/IndexOutOfBoundsException"))), zt5 (List.mem_of_getElem? (i := 161) (rfl : tables_1_5[161]? = some (Cond.castable "java/lang/IndexOutOfBoundsException" "java/lang/IndexOutOfBoundsException"))), rfl⟩
set_option maxRecDepth 20000 in
set_option maxHeartbeats 4000000 in
theorem tL_route_0 {F : Nat} {x0 x1 x2 : Int32} {μ μ1 : zM} (h : eX11_route F x0 x1 x2 μ = some (.inr "java/lang/IndexOutOfBoundsException", μ1)) : LMW mL_route hhL_route 8 (4, 24) [zq 0 0, zi x0, zi x1, zi x2, zq 2 0] μ (some (zi (nI 1))) μ1 := by
  refine LMW.of (by decide +kernel) rfl (Nat.le_of_ble_eq_true rfl) ?_
  show zJ mL_route 8 (4, 24) (0, 0) _ 0 [some (zq 0 0), some (zi x0), some (zi x1), some (zi x2), some (zq 2 0), none] [] _
  refine z_aload dL_route_0 rfl (z_const dL_route_2 (z_aload dL_route_3 rfl (z_iload dL_route_4 rfl (z_iload dL_route_5 rfl (z_iload dL_route_6 rfl (z_callVC dL_route_7 (tX11_route h) (Nat.le_of_ble_eq_true rfl) cdX11_route naX11_route lkL_93 imX11_route seX11_route in0_0 sh0_0 rfl rfl rfl (Nat.le_of_ble_eq_true rfl) ⟨(Nat.le_of_ble_eq_true rfl), (Nat.le_of_ble_eq_true rfl)⟩ (fun q hq => by cases hq) (fun E hE => ?_)))))))
  cases hE
  exact ⟨_, _, _, hnL_route_0, dL_route_15, (Nat.le_of_ble_eq_true rfl), z_const dL_route_17 (z_iretW dL_route_18 rfl rfl)⟩
-- L_crossed
abbrev hhL_crossed : zHH := [(0, 10, 13, 21), (0, 10, 17, 13)]
abbrev mL_crossed : zY := (yL_crossed, cL_crossed, 5, (some .int))
set_option maxRecDepth 20000 in
set_option maxHeartbeats 4000000 in
theorem tL_crossed_r {F : Nat} {x0 x1 : Int32} {μ μ1 : zM} {r : Int32} (h : eX11_crossed F x0 x1 μ = some (.inl r, μ1)) : LMW mL_crossed hhL_crossed 8 (4, 24) [zq 0 0, zi x0, zi x1, zq 2 0] μ (some (zi (nI 0))) (zg μ1 2 (zw (μ1 2) 0 0 r)) := by
  refine LMW.of (by decide +kernel) rfl (Nat.le_of_ble_eq_true rfl) ?_
  show zJ mL_crossed 8 (4, 24) (0, 0) _ 0 [some (zq 0 0), some (zi x0), some (zi x1), some (zq 2 0), none] [] _
  refine z_aload dL_crossed_0 rfl (z_const dL_crossed_1 (z_aload dL_crossed_2 rfl (z_iload dL_crossed_3 rfl (z_iload dL_crossed_4 rfl (z_callVC dL_crossed_5 (tX11_crossed h) (Nat.le_of_ble_eq_true rfl) cdX11_crossed naX11_crossed lkL_96 imX11_crossed seX11_crossed in0_0 sh0_0 rfl rfl rfl (Nat.le_of_ble_eq_true rfl) ⟨(Nat.le_of_ble_eq_true rfl), (Nat.le_of_ble_eq_true rfl)⟩ (fun q hq => ?_) (fun E hE => by cases hE))))))
  cases hq
  exact z_i2l dL_crossed_8 (z_focus 2 (z_lastN dL_crossed_9 in2_0 sh2_0 (Nat.le_of_ble_eq_true rfl) (Nat.le_of_ble_eq_true rfl) (z_goto dL_crossed_10 (z_const dL_crossed_21 (z_iretW dL_crossed_22 rfl rfl)))))
theorem hnL_crossed_0 : zHnd RL hhL_crossed "java/lang/IndexOutOfBoundsException" 5 13 := ⟨[], (0, 10, 13, 21), [(0, 10, 17, 13)], "java/lang/IndexOutOfBoundsException", rfl, (fun z hz => by cases hz), by decide, by decide, zt5 (List.mem_of_getElem? (i := 149) (rfl : tables_1_5[149]? = some (Cond.classLink RL 21 "java/lang/IndexOutOfBoundsException"))), zt5 (List.mem_of_getElem? (i := 161) (rfl : tables_1_5[161]? = some (Cond.castable "java/lang/IndexOutOfBoundsException" "java/lang/IndexOutOfBoundsException"))), rfl⟩
set_option maxRecDepth 20000 in
set_option maxHeartbeats 4000000 in
theorem tL_crossed_0 {F : Nat} {x0 x1 : Int32} {μ μ1 : zM} (h : eX11_crossed F x0 x1 μ = some (.inr "java/lang/IndexOutOfBoundsException", μ1)) : LMW mL_crossed hhL_crossed 8 (4, 24) [zq 0 0, zi x0, zi x1, zq 2 0] μ (some (zi (nI 1))) μ1 := by
  refine LMW.of (by decide +kernel) rfl (Nat.le_of_ble_eq_true rfl) ?_
  show zJ mL_crossed 8 (4, 24) (0, 0) _ 0 [some (zq 0 0), some (zi x0), some (zi x1), some (zq 2 0), none] [] _
  refine z_aload dL_crossed_0 rfl (z_const dL_crossed_1 (z_aload dL_crossed_2 rfl (z_iload dL_crossed_3 rfl (z_iload dL_crossed_4 rfl (z_callVC dL_crossed_5 (tX11_crossed h) (Nat.le_of_ble_eq_true rfl) cdX11_crossed naX11_crossed lkL_96 imX11_crossed seX11_crossed in0_0 sh0_0 rfl rfl rfl (Nat.le_of_ble_eq_true rfl) ⟨(Nat.le_of_ble_eq_true rfl), (Nat.le_of_ble_eq_true rfl)⟩ (fun q hq => by cases hq) (fun E hE => ?_))))))
  cases hE
  exact ⟨_, _, _, hnL_crossed_0, dL_crossed_13, (Nat.le_of_ble_eq_true rfl), z_const dL_crossed_15 (z_iretW dL_crossed_16 rfl rfl)⟩
theorem hnL_crossed_1 : zHnd RL hhL_crossed "java/lang/IllegalArgumentException" 5 17 := ⟨[(0, 10, 13, 21)], (0, 10, 17, 13), [], "java/lang/IllegalArgumentException", rfl, (fun z hz => by
      cases List.mem_singleton.mp hz
      exact ⟨by decide, "java/lang/IndexOutOfBoundsException", zt5 (List.mem_of_getElem? (i := 149) (rfl : tables_1_5[149]? = some (Cond.classLink RL 21 "java/lang/IndexOutOfBoundsException"))), by decide +kernel⟩), by decide, by decide, zt4 (List.mem_of_getElem? (i := 134) (rfl : tables_1_4[134]? = some (Cond.classLink RL 13 "java/lang/IllegalArgumentException"))), zt5 (List.mem_of_getElem? (i := 36) (rfl : tables_1_5[36]? = some (Cond.castable "java/lang/IllegalArgumentException" "java/lang/IllegalArgumentException"))), rfl⟩
set_option maxRecDepth 20000 in
set_option maxHeartbeats 4000000 in
theorem tL_crossed_1 {F : Nat} {x0 x1 : Int32} {μ μ1 : zM} (h : eX11_crossed F x0 x1 μ = some (.inr "java/lang/IllegalArgumentException", μ1)) : LMW mL_crossed hhL_crossed 8 (4, 24) [zq 0 0, zi x0, zi x1, zq 2 0] μ (some (zi (nI 2))) μ1 := by
  refine LMW.of (by decide +kernel) rfl (Nat.le_of_ble_eq_true rfl) ?_
  show zJ mL_crossed 8 (4, 24) (0, 0) _ 0 [some (zq 0 0), some (zi x0), some (zi x1), some (zq 2 0), none] [] _
  refine z_aload dL_crossed_0 rfl (z_const dL_crossed_1 (z_aload dL_crossed_2 rfl (z_iload dL_crossed_3 rfl (z_iload dL_crossed_4 rfl (z_callVC dL_crossed_5 (tX11_crossed h) (Nat.le_of_ble_eq_true rfl) cdX11_crossed naX11_crossed lkL_96 imX11_crossed seX11_crossed in0_0 sh0_0 rfl rfl rfl (Nat.le_of_ble_eq_true rfl) ⟨(Nat.le_of_ble_eq_true rfl), (Nat.le_of_ble_eq_true rfl)⟩ (fun q hq => by cases hq) (fun E hE => ?_))))))
  cases hE
  exact ⟨_, _, _, hnL_crossed_1, dL_crossed_17, (Nat.le_of_ble_eq_true rfl), z_const dL_crossed_19 (z_iretW dL_crossed_20 rfl rfl)⟩
-- L_first
abbrev hhL_first : zHH := [(0, 9, 12, 21)]
abbrev mL_first : zY := (yL_first, cL_first, 4, (some .int))
set_option maxRecDepth 20000 in
set_option maxHeartbeats 4000000 in
theorem tL_first_r {F : Nat} {x0 : Int32} {μ μ1 : zM} {r : Int32} (h : eX11_first F x0 μ = some (.inl r, μ1)) : LMW mL_first hhL_first 8 (4, 24) [zq 0 0, zi x0, zq 2 0] μ (some (zi (nI 0))) (zg μ1 2 (zw (μ1 2) 0 0 r)) := by
  refine LMW.of (by decide +kernel) rfl (Nat.le_of_ble_eq_true rfl) ?_
  show zJ mL_first 8 (4, 24) (0, 0) _ 0 [some (zq 0 0), some (zi x0), some (zq 2 0), none] [] _
  refine z_aload dL_first_0 rfl (z_const dL_first_1 (z_aload dL_first_2 rfl (z_iload dL_first_3 rfl (z_callVC dL_first_4 (tX11_first h) (Nat.le_of_ble_eq_true rfl) cdX11_first naX11_first lkL_99 imX11_first seX11_first in0_0 sh0_0 rfl rfl rfl (Nat.le_of_ble_eq_true rfl) ⟨(Nat.le_of_ble_eq_true rfl), (Nat.le_of_ble_eq_true rfl)⟩ (fun q hq => ?_) (fun E hE => by cases hE)))))
  cases hq
  exact z_i2l dL_first_7 (z_focus 2 (z_lastN dL_first_8 in2_0 sh2_0 (Nat.le_of_ble_eq_true rfl) (Nat.le_of_ble_eq_true rfl) (z_goto dL_first_9 (z_const dL_first_15 (z_iretW dL_first_16 rfl rfl)))))
theorem hnL_first_0 : zHnd RL hhL_first "java/lang/IndexOutOfBoundsException" 4 12 := ⟨[], (0, 9, 12, 21), [], "java/lang/IndexOutOfBoundsException", rfl, (fun z hz => by cases hz), by decide, by decide, zt5 (List.mem_of_getElem? (i := 149) (rfl : tables_1_5[149]? = some (Cond.classLink RL 21 "java/lang/IndexOutOfBoundsException"))), zt5 (List.mem_of_getElem? (i := 161) (rfl : tables_1_5[161]? = some (Cond.castable "java/lang/IndexOutOfBoundsException" "java/lang/IndexOutOfBoundsException"))), rfl⟩
set_option maxRecDepth 20000 in
set_option maxHeartbeats 4000000 in
theorem tL_first_0 {F : Nat} {x0 : Int32} {μ μ1 : zM} (h : eX11_first F x0 μ = some (.inr "java/lang/IndexOutOfBoundsException", μ1)) : LMW mL_first hhL_first 8 (4, 24) [zq 0 0, zi x0, zq 2 0] μ (some (zi (nI 1))) μ1 := by
  refine LMW.of (by decide +kernel) rfl (Nat.le_of_ble_eq_true rfl) ?_
  show zJ mL_first 8 (4, 24) (0, 0) _ 0 [some (zq 0 0), some (zi x0), some (zq 2 0), none] [] _
  refine z_aload dL_first_0 rfl (z_const dL_first_1 (z_aload dL_first_2 rfl (z_iload dL_first_3 rfl (z_callVC dL_first_4 (tX11_first h) (Nat.le_of_ble_eq_true rfl) cdX11_first naX11_first lkL_99 imX11_first seX11_first in0_0 sh0_0 rfl rfl rfl (Nat.le_of_ble_eq_true rfl) ⟨(Nat.le_of_ble_eq_true rfl), (Nat.le_of_ble_eq_true rfl)⟩ (fun q hq => by cases hq) (fun E hE => ?_)))))
  cases hE
  exact ⟨_, _, _, hnL_first_0, dL_first_12, (Nat.le_of_ble_eq_true rfl), z_const dL_first_13 (z_iretW dL_first_14 rfl rfl)⟩
-- L_blind
abbrev hhL_blind : zHH := [(0, 9, 12, 21)]
abbrev mL_blind : zY := (yL_blind, cL_blind, 4, (some .int))
set_option maxRecDepth 20000 in
set_option maxHeartbeats 4000000 in
theorem tL_blind_r {x0 : Int32} {μ μ1 : zM} {r : Int32} (h : eX11_blind x0 μ = some (.inl r, μ1)) : LMW mL_blind hhL_blind 8 (4, 24) [zq 0 0, zi x0, zq 2 0] μ (some (zi (nI 0))) (zg μ1 2 (zw (μ1 2) 0 0 r)) := by
  refine LMW.of (by decide +kernel) rfl (Nat.le_of_ble_eq_true rfl) ?_
  show zJ mL_blind 8 (4, 24) (0, 0) _ 0 [some (zq 0 0), some (zi x0), some (zq 2 0), none] [] _
  refine z_aload dL_blind_0 rfl (z_const dL_blind_1 (z_aload dL_blind_2 rfl (z_iload dL_blind_3 rfl (z_callVC dL_blind_4 (tX11_blind h) (Nat.le_of_ble_eq_true rfl) cdX11_blind naX11_blind lkL_102 imX11_blind seX11_blind in0_0 sh0_0 rfl rfl rfl (Nat.le_of_ble_eq_true rfl) ⟨(Nat.le_of_ble_eq_true rfl), (Nat.le_of_ble_eq_true rfl)⟩ (fun q hq => ?_) (fun E hE => by cases hE)))))
  cases hq
  exact z_i2l dL_blind_7 (z_focus 2 (z_lastN dL_blind_8 in2_0 sh2_0 (Nat.le_of_ble_eq_true rfl) (Nat.le_of_ble_eq_true rfl) (z_goto dL_blind_9 (z_const dL_blind_15 (z_iretW dL_blind_16 rfl rfl)))))
theorem hnL_blind_0 : zHnd RL hhL_blind "java/lang/IndexOutOfBoundsException" 4 12 := ⟨[], (0, 9, 12, 21), [], "java/lang/IndexOutOfBoundsException", rfl, (fun z hz => by cases hz), by decide, by decide, zt5 (List.mem_of_getElem? (i := 149) (rfl : tables_1_5[149]? = some (Cond.classLink RL 21 "java/lang/IndexOutOfBoundsException"))), zt5 (List.mem_of_getElem? (i := 161) (rfl : tables_1_5[161]? = some (Cond.castable "java/lang/IndexOutOfBoundsException" "java/lang/IndexOutOfBoundsException"))), rfl⟩
set_option maxRecDepth 20000 in
set_option maxHeartbeats 4000000 in
theorem tL_blind_0 {x0 : Int32} {μ μ1 : zM} (h : eX11_blind x0 μ = some (.inr "java/lang/IndexOutOfBoundsException", μ1)) : LMW mL_blind hhL_blind 8 (4, 24) [zq 0 0, zi x0, zq 2 0] μ (some (zi (nI 1))) μ1 := by
  refine LMW.of (by decide +kernel) rfl (Nat.le_of_ble_eq_true rfl) ?_
  show zJ mL_blind 8 (4, 24) (0, 0) _ 0 [some (zq 0 0), some (zi x0), some (zq 2 0), none] [] _
  refine z_aload dL_blind_0 rfl (z_const dL_blind_1 (z_aload dL_blind_2 rfl (z_iload dL_blind_3 rfl (z_callVC dL_blind_4 (tX11_blind h) (Nat.le_of_ble_eq_true rfl) cdX11_blind naX11_blind lkL_102 imX11_blind seX11_blind in0_0 sh0_0 rfl rfl rfl (Nat.le_of_ble_eq_true rfl) ⟨(Nat.le_of_ble_eq_true rfl), (Nat.le_of_ble_eq_true rfl)⟩ (fun q hq => by cases hq) (fun E hE => ?_)))))
  cases hE
  exact ⟨_, _, _, hnL_blind_0, dL_blind_12, (Nat.le_of_ble_eq_true rfl), z_const dL_blind_13 (z_iretW dL_blind_14 rfl rfl)⟩
-- L_guard
abbrev hhL_guard : zHH := [(0, 10, 13, 21)]
abbrev mL_guard : zY := (yL_guard, cL_guard, 5, (some .int))
set_option maxRecDepth 20000 in
set_option maxHeartbeats 4000000 in
theorem tL_guard_r {F : Nat} {x0 x1 : Int32} {μ μ1 : zM} {r : Int32} (h : eX11_guard F x0 x1 μ = some (.inl r, μ1)) : LMW mL_guard hhL_guard 8 (4, 24) [zq 0 0, zi x0, zi x1, zq 2 0] μ (some (zi (nI 0))) (zg μ1 2 (zw (μ1 2) 0 0 r)) := by
  refine LMW.of (by decide +kernel) rfl (Nat.le_of_ble_eq_true rfl) ?_
  show zJ mL_guard 8 (4, 24) (0, 0) _ 0 [some (zq 0 0), some (zi x0), some (zi x1), some (zq 2 0), none] [] _
  refine z_aload dL_guard_0 rfl (z_const dL_guard_1 (z_aload dL_guard_2 rfl (z_iload dL_guard_3 rfl (z_iload dL_guard_4 rfl (z_callVC dL_guard_5 (tX11_guard h) (Nat.le_of_ble_eq_true rfl) cdX11_guard naX11_guard lkL_105 imX11_guard seX11_guard in0_0 sh0_0 rfl rfl rfl (Nat.le_of_ble_eq_true rfl) ⟨(Nat.le_of_ble_eq_true rfl), (Nat.le_of_ble_eq_true rfl)⟩ (fun q hq => ?_) (fun E hE => by cases hE))))))
  cases hq
  exact z_i2l dL_guard_8 (z_focus 2 (z_lastN dL_guard_9 in2_0 sh2_0 (Nat.le_of_ble_eq_true rfl) (Nat.le_of_ble_eq_true rfl) (z_goto dL_guard_10 (z_const dL_guard_17 (z_iretW dL_guard_18 rfl rfl)))))
theorem hnL_guard_0 : zHnd RL hhL_guard "java/lang/IndexOutOfBoundsException" 5 13 := ⟨[], (0, 10, 13, 21), [], "java/lang/IndexOutOfBoundsException", rfl, (fun z hz => by cases hz), by decide, by decide, zt5 (List.mem_of_getElem? (i := 149) (rfl : tables_1_5[149]? = some (Cond.classLink RL 21 "java/lang/IndexOutOfBoundsException"))), zt5 (List.mem_of_getElem? (i := 161) (rfl : tables_1_5[161]? = some (Cond.castable "java/lang/IndexOutOfBoundsException" "java/lang/IndexOutOfBoundsException"))), rfl⟩
set_option maxRecDepth 20000 in
set_option maxHeartbeats 4000000 in
theorem tL_guard_0 {F : Nat} {x0 x1 : Int32} {μ μ1 : zM} (h : eX11_guard F x0 x1 μ = some (.inr "java/lang/IndexOutOfBoundsException", μ1)) : LMW mL_guard hhL_guard 8 (4, 24) [zq 0 0, zi x0, zi x1, zq 2 0] μ (some (zi (nI 1))) μ1 := by
  refine LMW.of (by decide +kernel) rfl (Nat.le_of_ble_eq_true rfl) ?_
  show zJ mL_guard 8 (4, 24) (0, 0) _ 0 [some (zq 0 0), some (zi x0), some (zi x1), some (zq 2 0), none] [] _
  refine z_aload dL_guard_0 rfl (z_const dL_guard_1 (z_aload dL_guard_2 rfl (z_iload dL_guard_3 rfl (z_iload dL_guard_4 rfl (z_callVC dL_guard_5 (tX11_guard h) (Nat.le_of_ble_eq_true rfl) cdX11_guard naX11_guard lkL_105 imX11_guard seX11_guard in0_0 sh0_0 rfl rfl rfl (Nat.le_of_ble_eq_true rfl) ⟨(Nat.le_of_ble_eq_true rfl), (Nat.le_of_ble_eq_true rfl)⟩ (fun q hq => by cases hq) (fun E hE => ?_))))))
  cases hE
  exact ⟨_, _, _, hnL_guard_0, dL_guard_13, (Nat.le_of_ble_eq_true rfl), z_const dL_guard_15 (z_iretW dL_guard_16 rfl rfl)⟩
-- L_best
abbrev hhL_best : zHH := [(0, 10, 13, 13)]
abbrev mL_best : zY := (yL_best, cL_best, 5, (some .int))
set_option maxRecDepth 20000 in
set_option maxHeartbeats 4000000 in
theorem tL_best_r {F : Nat} {x0 x1 : Int32} {μ μ1 : zM} {r : Int32} (h : eX11_best F x0 x1 μ = some (.inl r, μ1)) : LMW mL_best hhL_best 9 (4, 24) [zq 0 0, zi x0, zi x1, zq 2 0] μ (some (zi (nI 0))) (zg μ1 2 (zw (μ1 2) 0 0 r)) := by
  refine LMW.of (by decide +kernel) rfl (Nat.le_of_ble_eq_true rfl) ?_
  show zJ mL_best 9 (4, 24) (0, 0) _ 0 [some (zq 0 0), some (zi x0), some (zi x1), some (zq 2 0), none] [] _
  refine z_aload dL_best_0 rfl (z_const dL_best_1 (z_aload dL_best_2 rfl (z_iload dL_best_3 rfl (z_iload dL_best_4 rfl (z_callVC dL_best_5 (tX11_best h) (Nat.le_of_ble_eq_true rfl) cdX11_best naX11_best lkL_108 imX11_best seX11_best in0_0 sh0_0 rfl rfl rfl (Nat.le_of_ble_eq_true rfl) ⟨(Nat.le_of_ble_eq_true rfl), (Nat.le_of_ble_eq_true rfl)⟩ (fun q hq => ?_) (fun E hE => by cases hE))))))
  cases hq
  exact z_i2l dL_best_8 (z_focus 2 (z_lastN dL_best_9 in2_0 sh2_0 (Nat.le_of_ble_eq_true rfl) (Nat.le_of_ble_eq_true rfl) (z_goto dL_best_10 (z_const dL_best_17 (z_iretW dL_best_18 rfl rfl)))))
theorem hnL_best_0 : zHnd RL hhL_best "java/lang/IllegalArgumentException" 5 13 := ⟨[], (0, 10, 13, 13), [], "java/lang/IllegalArgumentException", rfl, (fun z hz => by cases hz), by decide, by decide, zt4 (List.mem_of_getElem? (i := 134) (rfl : tables_1_4[134]? = some (Cond.classLink RL 13 "java/lang/IllegalArgumentException"))), zt5 (List.mem_of_getElem? (i := 36) (rfl : tables_1_5[36]? = some (Cond.castable "java/lang/IllegalArgumentException" "java/lang/IllegalArgumentException"))), rfl⟩
set_option maxRecDepth 20000 in
set_option maxHeartbeats 4000000 in
theorem tL_best_0 {F : Nat} {x0 x1 : Int32} {μ μ1 : zM} (h : eX11_best F x0 x1 μ = some (.inr "java/lang/IllegalArgumentException", μ1)) : LMW mL_best hhL_best 9 (4, 24) [zq 0 0, zi x0, zi x1, zq 2 0] μ (some (zi (nI 1))) μ1 := by
  refine LMW.of (by decide +kernel) rfl (Nat.le_of_ble_eq_true rfl) ?_
  show zJ mL_best 9 (4, 24) (0, 0) _ 0 [some (zq 0 0), some (zi x0), some (zi x1), some (zq 2 0), none] [] _
  refine z_aload dL_best_0 rfl (z_const dL_best_1 (z_aload dL_best_2 rfl (z_iload dL_best_3 rfl (z_iload dL_best_4 rfl (z_callVC dL_best_5 (tX11_best h) (Nat.le_of_ble_eq_true rfl) cdX11_best naX11_best lkL_108 imX11_best seX11_best in0_0 sh0_0 rfl rfl rfl (Nat.le_of_ble_eq_true rfl) ⟨(Nat.le_of_ble_eq_true rfl), (Nat.le_of_ble_eq_true rfl)⟩ (fun q hq => by cases hq) (fun E hE => ?_))))))
  cases hE
  exact ⟨_, _, _, hnL_best_0, dL_best_13, (Nat.le_of_ble_eq_true rfl), z_const dL_best_15 (z_iretW dL_best_16 rfl rfl)⟩
-- L_spread
abbrev hhL_spread : zHH := [(0, 9, 12, 13)]
abbrev mL_spread : zY := (yL_spread, cL_spread, 4, (some .int))
set_option maxRecDepth 20000 in
set_option maxHeartbeats 4000000 in
theorem tL_spread_r {F : Nat} {x0 : Int32} {μ μ1 : zM} {r : Int32} (h : eX11_spread F x0 μ = some (.inl r, μ1)) : LMW mL_spread hhL_spread 8 (4, 24) [zq 0 0, zi x0, zq 2 0] μ (some (zi (nI 0))) (zg μ1 2 (zw (μ1 2) 0 0 r)) := by
  refine LMW.of (by decide +kernel) rfl (Nat.le_of_ble_eq_true rfl) ?_
  show zJ mL_spread 8 (4, 24) (0, 0) _ 0 [some (zq 0 0), some (zi x0), some (zq 2 0), none] [] _
  refine z_aload dL_spread_0 rfl (z_const dL_spread_1 (z_aload dL_spread_2 rfl (z_iload dL_spread_3 rfl (z_callVC dL_spread_4 (tX11_spread h) (Nat.le_of_ble_eq_true rfl) cdX11_spread naX11_spread lkL_112 imX11_spread seX11_spread in0_0 sh0_0 rfl rfl rfl (Nat.le_of_ble_eq_true rfl) ⟨(Nat.le_of_ble_eq_true rfl), (Nat.le_of_ble_eq_true rfl)⟩ (fun q hq => ?_) (fun E hE => by cases hE)))))
  cases hq
  exact z_i2l dL_spread_7 (z_focus 2 (z_lastN dL_spread_8 in2_0 sh2_0 (Nat.le_of_ble_eq_true rfl) (Nat.le_of_ble_eq_true rfl) (z_goto dL_spread_9 (z_const dL_spread_15 (z_iretW dL_spread_16 rfl rfl)))))
theorem hnL_spread_0 : zHnd RL hhL_spread "java/lang/IllegalArgumentException" 4 12 := ⟨[], (0, 9, 12, 13), [], "java/lang/IllegalArgumentException", rfl, (fun z hz => by cases hz), by decide, by decide, zt4 (List.mem_of_getElem? (i := 134) (rfl : tables_1_4[134]? = some (Cond.classLink RL 13 "java/lang/IllegalArgumentException"))), zt5 (List.mem_of_getElem? (i := 36) (rfl : tables_1_5[36]? = some (Cond.castable "java/lang/IllegalArgumentException" "java/lang/IllegalArgumentException"))), rfl⟩
set_option maxRecDepth 20000 in
set_option maxHeartbeats 4000000 in
theorem tL_spread_0 {F : Nat} {x0 : Int32} {μ μ1 : zM} (h : eX11_spread F x0 μ = some (.inr "java/lang/IllegalArgumentException", μ1)) : LMW mL_spread hhL_spread 8 (4, 24) [zq 0 0, zi x0, zq 2 0] μ (some (zi (nI 1))) μ1 := by
  refine LMW.of (by decide +kernel) rfl (Nat.le_of_ble_eq_true rfl) ?_
  show zJ mL_spread 8 (4, 24) (0, 0) _ 0 [some (zq 0 0), some (zi x0), some (zq 2 0), none] [] _
  refine z_aload dL_spread_0 rfl (z_const dL_spread_1 (z_aload dL_spread_2 rfl (z_iload dL_spread_3 rfl (z_callVC dL_spread_4 (tX11_spread h) (Nat.le_of_ble_eq_true rfl) cdX11_spread naX11_spread lkL_112 imX11_spread seX11_spread in0_0 sh0_0 rfl rfl rfl (Nat.le_of_ble_eq_true rfl) ⟨(Nat.le_of_ble_eq_true rfl), (Nat.le_of_ble_eq_true rfl)⟩ (fun q hq => by cases hq) (fun E hE => ?_)))))
  cases hE
  exact ⟨_, _, _, hnL_spread_0, dL_spread_12, (Nat.le_of_ble_eq_true rfl), z_const dL_spread_13 (z_iretW dL_spread_14 rfl rfl)⟩
-- L_holders
abbrev hhL_holders : zHH := [(0, 9, 12, 21)]
abbrev mL_holders : zY := (yL_holders, cL_holders, 4, (some .int))
set_option maxRecDepth 20000 in
set_option maxHeartbeats 4000000 in
theorem tL_holders_r {F : Nat} {x0 : Int32} {μ μ1 : zM} {r : Int32} (h : eX11_holders F x0 μ = some (.inl r, μ1)) : LMW mL_holders hhL_holders 8 (4, 24) [zq 0 0, zi x0, zq 2 0] μ (some (zi (nI 0))) (zg μ1 2 (zw (μ1 2) 0 0 r)) := by
  refine LMW.of (by decide +kernel) rfl (Nat.le_of_ble_eq_true rfl) ?_
  show zJ mL_holders 8 (4, 24) (0, 0) _ 0 [some (zq 0 0), some (zi x0), some (zq 2 0), none] [] _
  refine z_aload dL_holders_0 rfl (z_const dL_holders_1 (z_aload dL_holders_2 rfl (z_iload dL_holders_3 rfl (z_callVC dL_holders_4 (tX11_holders h) (Nat.le_of_ble_eq_true rfl) cdX11_holders naX11_holders lkL_115 imX11_holders seX11_holders in0_0 sh0_0 rfl rfl rfl (Nat.le_of_ble_eq_true rfl) ⟨(Nat.le_of_ble_eq_true rfl), (Nat.le_of_ble_eq_true rfl)⟩ (fun q hq => ?_) (fun E hE => by cases hE)))))
  cases hq
  exact z_i2l dL_holders_7 (z_focus 2 (z_lastN dL_holders_8 in2_0 sh2_0 (Nat.le_of_ble_eq_true rfl) (Nat.le_of_ble_eq_true rfl) (z_goto dL_holders_9 (z_const dL_holders_15 (z_iretW dL_holders_16 rfl rfl)))))
theorem hnL_holders_0 : zHnd RL hhL_holders "java/lang/IndexOutOfBoundsException" 4 12 := ⟨[], (0, 9, 12, 21), [], "java/lang/IndexOutOfBoundsException", rfl, (fun z hz => by cases hz), by decide, by decide, zt5 (List.mem_of_getElem? (i := 149) (rfl : tables_1_5[149]? = some (Cond.classLink RL 21 "java/lang/IndexOutOfBoundsException"))), zt5 (List.mem_of_getElem? (i := 161) (rfl : tables_1_5[161]? = some (Cond.castable "java/lang/IndexOutOfBoundsException" "java/lang/IndexOutOfBoundsException"))), rfl⟩
set_option maxRecDepth 20000 in
set_option maxHeartbeats 4000000 in
theorem tL_holders_0 {F : Nat} {x0 : Int32} {μ μ1 : zM} (h : eX11_holders F x0 μ = some (.inr "java/lang/IndexOutOfBoundsException", μ1)) : LMW mL_holders hhL_holders 8 (4, 24) [zq 0 0, zi x0, zq 2 0] μ (some (zi (nI 1))) μ1 := by
  refine LMW.of (by decide +kernel) rfl (Nat.le_of_ble_eq_true rfl) ?_
  show zJ mL_holders 8 (4, 24) (0, 0) _ 0 [some (zq 0 0), some (zi x0), some (zq 2 0), none] [] _
  refine z_aload dL_holders_0 rfl (z_const dL_holders_1 (z_aload dL_holders_2 rfl (z_iload dL_holders_3 rfl (z_callVC dL_holders_4 (tX11_holders h) (Nat.le_of_ble_eq_true rfl) cdX11_holders naX11_holders lkL_115 imX11_holders seX11_holders in0_0 sh0_0 rfl rfl rfl (Nat.le_of_ble_eq_true rfl) ⟨(Nat.le_of_ble_eq_true rfl), (Nat.le_of_ble_eq_true rfl)⟩ (fun q hq => by cases hq) (fun E hE => ?_)))))
  cases hE
  exact ⟨_, _, _, hnL_holders_0, dL_holders_12, (Nat.le_of_ble_eq_true rfl), z_const dL_holders_13 (z_iretW dL_holders_14 rfl rfl)⟩
-- L_log
abbrev hhL_log : zHH := [(0, 10, 13, 23)]
abbrev mL_log : zY := (yL_log, cL_log, 5, (some .int))
set_option maxRecDepth 20000 in
set_option maxHeartbeats 4000000 in
theorem tL_log_r {x0 x1 : Int32} {μ μ1 : zM} {r : Int32} (h : eX11_log x0 x1 μ = some (.inl r, μ1)) : LMW mL_log hhL_log 8 (4, 24) [zq 0 0, zi x0, zi x1, zq 2 0] μ (some (zi (nI 0))) (zg μ1 2 (zw (μ1 2) 0 0 r)) := by
  refine LMW.of (by decide +kernel) rfl (Nat.le_of_ble_eq_true rfl) ?_
  show zJ mL_log 8 (4, 24) (0, 0) _ 0 [some (zq 0 0), some (zi x0), some (zi x1), some (zq 2 0), none] [] _
  refine z_aload dL_log_0 rfl (z_const dL_log_1 (z_aload dL_log_2 rfl (z_iload dL_log_3 rfl (z_iload dL_log_4 rfl (z_callVC dL_log_5 (tX11_log h) (Nat.le_of_ble_eq_true rfl) cdX11_log naX11_log lkL_118 imX11_log seX11_log in0_0 sh0_0 rfl rfl rfl (Nat.le_of_ble_eq_true rfl) ⟨(Nat.le_of_ble_eq_true rfl), (Nat.le_of_ble_eq_true rfl)⟩ (fun q hq => ?_) (fun E hE => by cases hE))))))
  cases hq
  exact z_i2l dL_log_8 (z_focus 2 (z_lastN dL_log_9 in2_0 sh2_0 (Nat.le_of_ble_eq_true rfl) (Nat.le_of_ble_eq_true rfl) (z_goto dL_log_10 (z_const dL_log_17 (z_iretW dL_log_18 rfl rfl)))))
theorem hnL_log_0 : zHnd RL hhL_log "java/util/NoSuchElementException" 5 13 := ⟨[], (0, 10, 13, 23), [], "java/util/NoSuchElementException", rfl, (fun z hz => by cases hz), by decide, by decide, zt5 (List.mem_of_getElem? (i := 150) (rfl : tables_1_5[150]? = some (Cond.classLink RL 23 "java/util/NoSuchElementException"))), zt5 (List.mem_of_getElem? (i := 179) (rfl : tables_1_5[179]? = some (Cond.castable "java/util/NoSuchElementException" "java/util/NoSuchElementException"))), rfl⟩
set_option maxRecDepth 20000 in
set_option maxHeartbeats 4000000 in
theorem tL_log_0 {x0 x1 : Int32} {μ μ1 : zM} (h : eX11_log x0 x1 μ = some (.inr "java/util/NoSuchElementException", μ1)) : LMW mL_log hhL_log 8 (4, 24) [zq 0 0, zi x0, zi x1, zq 2 0] μ (some (zi (nI 1))) μ1 := by
  refine LMW.of (by decide +kernel) rfl (Nat.le_of_ble_eq_true rfl) ?_
  show zJ mL_log 8 (4, 24) (0, 0) _ 0 [some (zq 0 0), some (zi x0), some (zi x1), some (zq 2 0), none] [] _
  refine z_aload dL_log_0 rfl (z_const dL_log_1 (z_aload dL_log_2 rfl (z_iload dL_log_3 rfl (z_iload dL_log_4 rfl (z_callVC dL_log_5 (tX11_log h) (Nat.le_of_ble_eq_true rfl) cdX11_log naX11_log lkL_118 imX11_log seX11_log in0_0 sh0_0 rfl rfl rfl (Nat.le_of_ble_eq_true rfl) ⟨(Nat.le_of_ble_eq_true rfl), (Nat.le_of_ble_eq_true rfl)⟩ (fun q hq => by cases hq) (fun E hE => ?_))))))
  cases hE
  exact ⟨_, _, _, hnL_log_0, dL_log_13, (Nat.le_of_ble_eq_true rfl), z_const dL_log_15 (z_iretW dL_log_16 rfl rfl)⟩
