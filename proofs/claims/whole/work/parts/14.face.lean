-- X11_count
def eX11_count (x0 : Int32) (μ : zM) : Option (Int32) := if x0 = (nI 0) then some ((μ 4) 3 0) else if x0 = (nI 1) then some ((μ 4) 5 0) else if x0 = (nI 2) then some ((μ 4) 0 8) else if x0 = (nI 3) then some ((μ 4) 1 0) else if x0 = (nI 4) then some ((μ 4) 0 9) else if x0 = (nI 5) then some ((μ 4) 1 1) else if x0 = (nI 6) then some ((μ 4) 1 2) else if x0 = (nI 7) then some ((μ 4) 1 3) else if x0 = (nI 8) then some ((μ 4) 1 4) else if x0 = (nI 9) then some ((μ 4) 1 5) else if x0 = (nI 10) then some ((μ 4) 1 6) else if x0 = (nI 11) then some ((μ 4) 1 7) else if x0 = (nI 12) then some ((μ 4) 7 0) else if x0 = (nI 13) then some ((μ 4) 0 10) else if x0 = (nI 14) then some ((μ 4) 0 12) else if x0 = (nI 15) then some ((μ 4) 8 0) else if x0 = (nI 16) then some ((μ 4) 0 11) else some (-1)
set_option maxRecDepth 20000 in
set_option maxHeartbeats 4000000 in
theorem tX11_count {x0 : Int32} {μ : zM} {ρ : Int32} (h : eX11_count x0 μ = some ρ) : LM mX11_count 1 [zq 0 0, zi x0] μ (some (zi ρ)) μ := by
  unfold eX11_count at h
  refine LM.of (by decide +kernel) rfl (Nat.le_of_ble_eq_true rfl) ?_
  show zJ mX11_count 1 (0, 0) (0, 0) _ 0 [some (zq 0 0), some (zi x0), none] [] _
  refine z_aload dX11_count_0 rfl (z_getR dX11_count_1 fkX11_28 in0_0 sh0_0 rfl (z_getR dX11_count_4 fkX11_387 in4_0 sh_0 rfl (z_astore dX11_count_7 (Nat.le_of_ble_eq_true rfl) (z_iload dX11_count_8 rfl ?_))))
  by_cases c1 : x0 = (nI 0)
  · have h := ziT h c1
    refine z_tabIn (off := 83) (tgt := 92) dX11_count_9 (by rw [c1]; decide) (by rw [c1]; decide) (by rw [c1]; decide) (by decide) ?_
    exact z_aload dX11_count_92 rfl (z_getR dX11_count_93 fkX11_28 in0_0 sh0_0 rfl (z_getR dX11_count_96 fkX11_86 in4_0 sh_0 rfl (z_focus 4 (z_getI dX11_count_99 fkX11_349 in4_3 sh_3 rfl (z_iretQ dX11_count_102 rfl (by cases h; rfl))))))
  have h := ziF h c1
  by_cases c2 : x0 = (nI 1)
  · have h := ziT h c2
    refine z_tabIn (off := 94) (tgt := 103) dX11_count_9 (by rw [c2]; decide) (by rw [c2]; decide) (by rw [c2]; decide) (by decide) ?_
    exact z_aload dX11_count_103 rfl (z_getR dX11_count_104 fkX11_28 in0_0 sh0_0 rfl (z_getR dX11_count_107 fkX11_186 in4_0 sh_0 rfl (z_focus 4 (z_getI dX11_count_110 fkX11_390 in4_5 sh_5 rfl (z_iretQ dX11_count_113 rfl (by cases h; rfl))))))
  have h := ziF h c2
  by_cases c3 : x0 = (nI 2)
  · have h := ziT h c3
    refine z_tabIn (off := 105) (tgt := 114) dX11_count_9 (by rw [c3]; decide) (by rw [c3]; decide) (by rw [c3]; decide) (by decide) ?_
    exact z_aload dX11_count_114 rfl (z_getR dX11_count_115 fkX11_28 in0_0 sh0_0 rfl (z_focus 4 (z_getI dX11_count_118 fkX11_72 in4_0 sh_0 rfl (z_iretQ dX11_count_121 rfl (by cases h; rfl)))))
  have h := ziF h c3
  by_cases c4 : x0 = (nI 3)
  · have h := ziT h c4
    refine z_tabIn (off := 113) (tgt := 122) dX11_count_9 (by rw [c4]; decide) (by rw [c4]; decide) (by rw [c4]; decide) (by decide) ?_
    exact z_aload dX11_count_122 rfl (z_focus 4 (z_getI dX11_count_123 fkX11_391 in4_1 sh_1 rfl (z_iretQ dX11_count_126 rfl (by cases h; rfl))))
  have h := ziF h c4
  by_cases c5 : x0 = (nI 4)
  · have h := ziT h c5
    refine z_tabIn (off := 118) (tgt := 127) dX11_count_9 (by rw [c5]; decide) (by rw [c5]; decide) (by rw [c5]; decide) (by decide) ?_
    exact z_aload dX11_count_127 rfl (z_getR dX11_count_128 fkX11_28 in0_0 sh0_0 rfl (z_focus 4 (z_getI dX11_count_131 fkX11_263 in4_0 sh_0 rfl (z_iretQ dX11_count_134 rfl (by cases h; rfl)))))
  have h := ziF h c5
  by_cases c6 : x0 = (nI 5)
  · have h := ziT h c6
    refine z_tabIn (off := 126) (tgt := 135) dX11_count_9 (by rw [c6]; decide) (by rw [c6]; decide) (by rw [c6]; decide) (by decide) ?_
    exact z_aload dX11_count_135 rfl (z_focus 4 (z_getI dX11_count_136 fkX11_396 in4_1 sh_1 rfl (z_iretQ dX11_count_139 rfl (by cases h; rfl))))
  have h := ziF h c6
  by_cases c7 : x0 = (nI 6)
  · have h := ziT h c7
    refine z_tabIn (off := 131) (tgt := 140) dX11_count_9 (by rw [c7]; decide) (by rw [c7]; decide) (by rw [c7]; decide) (by decide) ?_
    exact z_aload dX11_count_140 rfl (z_focus 4 (z_getI dX11_count_141 fkX11_399 in4_1 sh_1 rfl (z_iretQ dX11_count_144 rfl (by cases h; rfl))))
  have h := ziF h c7
  by_cases c8 : x0 = (nI 7)
  · have h := ziT h c8
    refine z_tabIn (off := 136) (tgt := 145) dX11_count_9 (by rw [c8]; decide) (by rw [c8]; decide) (by rw [c8]; decide) (by decide) ?_
    exact z_aload dX11_count_145 rfl (z_focus 4 (z_getI dX11_count_146 fkX11_402 in4_1 sh_1 rfl (z_iretQ dX11_count_149 rfl (by cases h; rfl))))
  have h := ziF h c8
  by_cases c9 : x0 = (nI 8)
  · have h := ziT h c9
    refine z_tabIn (off := 141) (tgt := 150) dX11_count_9 (by rw [c9]; decide) (by rw [c9]; decide) (by rw [c9]; decide) (by decide) ?_
    exact z_aload dX11_count_150 rfl (z_focus 4 (z_getI dX11_count_151 fkX11_405 in4_1 sh_1 rfl (z_iretQ dX11_count_154 rfl (by cases h; rfl))))
  have h := ziF h c9
  by_cases c10 : x0 = (nI 9)
  · have h := ziT h c10
    refine z_tabIn (off := 146) (tgt := 155) dX11_count_9 (by rw [c10]; decide) (by rw [c10]; decide) (by rw [c10]; decide) (by decide) ?_
    exact z_aload dX11_count_155 rfl (z_focus 4 (z_getI dX11_count_156 fkX11_407 in4_1 sh_1 rfl (z_iretQ dX11_count_159 rfl (by cases h; rfl))))
  have h := ziF h c10
  by_cases c11 : x0 = (nI 10)
  · have h := ziT h c11
    refine z_tabIn (off := 151) (tgt := 160) dX11_count_9 (by rw [c11]; decide) (by rw [c11]; decide) (by rw [c11]; decide) (by decide) ?_
    exact z_aload dX11_count_160 rfl (z_focus 4 (z_getI dX11_count_161 fkX11_409 in4_1 sh_1 rfl (z_iretQ dX11_count_164 rfl (by cases h; rfl))))
  have h := ziF h c11
  by_cases c12 : x0 = (nI 11)
  · have h := ziT h c12
    refine z_tabIn (off := 156) (tgt := 165) dX11_count_9 (by rw [c12]; decide) (by rw [c12]; decide) (by rw [c12]; decide) (by decide) ?_
    exact z_aload dX11_count_165 rfl (z_focus 4 (z_getI dX11_count_166 fkX11_412 in4_1 sh_1 rfl (z_iretQ dX11_count_169 rfl (by cases h; rfl))))
  have h := ziF h c12
  by_cases c13 : x0 = (nI 12)
  · have h := ziT h c13
    refine z_tabIn (off := 161) (tgt := 170) dX11_count_9 (by rw [c13]; decide) (by rw [c13]; decide) (by rw [c13]; decide) (by decide) ?_
    exact z_aload dX11_count_170 rfl (z_getR dX11_count_171 fkX11_28 in0_0 sh0_0 rfl (z_getR dX11_count_174 fkX11_212 in4_0 sh_0 rfl (z_focus 4 (z_getI dX11_count_177 fkX11_216 in4_7 sh_7 rfl (z_iretQ dX11_count_180 rfl (by cases h; rfl))))))
  have h := ziF h c13
  by_cases c14 : x0 = (nI 13)
  · have h := ziT h c14
    refine z_tabIn (off := 172) (tgt := 181) dX11_count_9 (by rw [c14]; decide) (by rw [c14]; decide) (by rw [c14]; decide) (by decide) ?_
    exact z_aload dX11_count_181 rfl (z_getR dX11_count_182 fkX11_28 in0_0 sh0_0 rfl (z_focus 4 (z_getI dX11_count_185 fkX11_415 in4_0 sh_0 rfl (z_iretQ dX11_count_188 rfl (by cases h; rfl)))))
  have h := ziF h c14
  by_cases c15 : x0 = (nI 14)
  · have h := ziT h c15
    refine z_tabIn (off := 180) (tgt := 189) dX11_count_9 (by rw [c15]; decide) (by rw [c15]; decide) (by rw [c15]; decide) (by decide) ?_
    exact z_aload dX11_count_189 rfl (z_getR dX11_count_190 fkX11_28 in0_0 sh0_0 rfl (z_focus 4 (z_getI dX11_count_193 fkX11_418 in4_0 sh_0 rfl (z_iretQ dX11_count_196 rfl (by cases h; rfl)))))
  have h := ziF h c15
  by_cases c16 : x0 = (nI 15)
  · have h := ziT h c16
    refine z_tabIn (off := 188) (tgt := 197) dX11_count_9 (by rw [c16]; decide) (by rw [c16]; decide) (by rw [c16]; decide) (by decide) ?_
    exact z_aload dX11_count_197 rfl (z_getR dX11_count_198 fkX11_28 in0_0 sh0_0 rfl (z_getR dX11_count_201 fkX11_371 in4_0 sh_0 rfl (z_focus 4 (z_getI dX11_count_204 fkX11_421 in4_8 sh_8 rfl (z_iretQ dX11_count_207 rfl (by cases h; rfl))))))
  have h := ziF h c16
  by_cases c17 : x0 = (nI 16)
  · have h := ziT h c17
    refine z_tabIn (off := 199) (tgt := 208) dX11_count_9 (by rw [c17]; decide) (by rw [c17]; decide) (by rw [c17]; decide) (by decide) ?_
    exact z_aload dX11_count_208 rfl (z_getR dX11_count_209 fkX11_28 in0_0 sh0_0 rfl (z_focus 4 (z_getI dX11_count_212 fkX11_422 in4_0 sh_0 rfl (z_iretQ dX11_count_215 rfl (by cases h; rfl)))))
  have h := ziF h c17
  refine z_tabOut (tgt := 216) dX11_count_9 (by decide) (zsw_out (zsw_s (zsw_s (zsw_s (zsw_s (zsw_s (zsw_s (zsw_s (zsw_s (zsw_s (zsw_s (zsw_s (zsw_s (zsw_s (zsw_s (zsw_s (zsw_s (zsw_s zsw_0 c1) c2) c3) c4) c5) c6) c7) c8) c9) c10) c11) c12) c13) c14) c15) c16) c17) (by decide)) ?_
  exact z_const dX11_count_216 (z_iretQ dX11_count_217 rfl (by cases h; rfl))
-- X11_end
def eX11_end (x0 : Int32) (μ : zM) : Option (Int32 × zM) := if x0 < 0 then some ((nI 0), μ) else if x0 ≤ ((μ 0) 1 1) then some ((nI 1), zg μ 0 (zw (μ 0) 1 1 x0)) else some ((nI 0), zg μ 0 (μ 0))
set_option maxRecDepth 20000 in
set_option maxHeartbeats 4000000 in
theorem tX11_end {x0 : Int32} {μ : zM} {ρ : Int32 × zM} (h : eX11_end x0 μ = some ρ) : LM mX11_end 1 [zq 0 0, zi x0] μ (some (zi ρ.1)) ρ.2 := by
  unfold eX11_end at h
  refine LM.of (by decide +kernel) rfl (Nat.le_of_ble_eq_true rfl) ?_
  show zJ mX11_end 1 (0, 0) (0, 0) _ 0 [some (zq 0 0), some (zi x0)] [] _
  refine z_iload dX11_end_0 rfl (z_if_lt dX11_end_1 (fun c1 => ?_) (fun c1 => ?_))
  · have h := ziT h (c1)
    exact z_const dX11_end_15 (z_zretQ dX11_end_16 rfl rfl (by cases h; rfl))
  · have h := ziF h (c1)
    refine z_iload dX11_end_4 rfl (z_aload dX11_end_5 rfl (z_getR dX11_end_6 fkX11_10 in0_0 sh0_0 rfl (z_focus 0 (z_getI dX11_end_9 fkX11_54 in0_1 sh0_1 rfl (z_icmp_le dX11_end_12 (fun c2 => ?_) (fun c2 => ?_))))))
    · have h := ziT h (c2)
      exact z_aload dX11_end_17 rfl (z_getR dX11_end_18 fkX11_10 in0_0 sh0_0 rfl (z_iload dX11_end_21 rfl (z_putI dX11_end_22 fkX11_54 in0_1 sh0_1 rfl (fun _ _ _ h => by cases h; rfl) ⟨_, rfl, rfl, rfl⟩ (z_const dX11_end_25 (z_zretQ dX11_end_26 rfl rfl (by cases h; rfl))))))
    · have h := ziF h (c2)
      exact z_const dX11_end_15 (z_zretQ dX11_end_16 rfl rfl (by cases h; rfl))
-- X11_fault
def eX11_fault (μ : zM) : Option (Int32) := some ((μ 0) 0 6)
set_option maxRecDepth 20000 in
set_option maxHeartbeats 4000000 in
theorem tX11_fault {μ : zM} {ρ : Int32} (h : eX11_fault μ = some ρ) : LM mX11_fault 1 [zq 0 0] μ (some (zi ρ)) μ := by
  unfold eX11_fault at h
  refine LM.of (by decide +kernel) rfl (Nat.le_of_ble_eq_true rfl) ?_
  show zJ mX11_fault 1 (0, 0) (0, 0) _ 0 [some (zq 0 0)] [] _
  exact z_aload dX11_fault_0 rfl (z_focus 0 (z_getI dX11_fault_1 fkX11_42 in0_0 sh0_0 rfl (z_iretQ dX11_fault_4 rfl (by cases h; rfl))))
-- X11_seed
def eX11_seed (x0 : Int32) (μ : zM) : Option (Int32 × zM) := some (((μ 4) 2 0), zg μ 4 (zw (μ 4) 2 0 x0))
set_option maxRecDepth 20000 in
set_option maxHeartbeats 4000000 in
theorem tX11_seed {x0 : Int32} {μ : zM} {ρ : Int32 × zM} (h : eX11_seed x0 μ = some ρ) : LM mX11_seed 1 [zq 0 0, zi x0] μ (some (zi ρ.1)) ρ.2 := by
  unfold eX11_seed at h
  refine LM.of (by decide +kernel) rfl (Nat.le_of_ble_eq_true rfl) ?_
  show zJ mX11_seed 1 (0, 0) (0, 0) _ 0 [some (zq 0 0), some (zi x0), none] [] _
  refine z_aload dX11_seed_0 rfl (z_getR dX11_seed_1 fkX11_28 in0_0 sh0_0 rfl (z_getR dX11_seed_4 fkX11_378 in4_0 sh_0 rfl (z_focus 4 (z_getI dX11_seed_7 fkX11_382 in4_2 sh_2 rfl (z_istore dX11_seed_10 (Nat.le_of_ble_eq_true rfl) (z_aload dX11_seed_11 rfl (z_getR dX11_seed_12 fkX11_28 in0_0 sh0_0 rfl (z_getR dX11_seed_15 fkX11_378 in4_0 sh_0 rfl (z_iload dX11_seed_18 rfl (z_putI dX11_seed_19 fkX11_382 in4_2 sh_2 rfl (fun _ _ _ h => by cases h; rfl) ⟨_, rfl, rfl, rfl⟩ (z_iload dX11_seed_22 rfl ?_)))))))))))
  exact z_iretQ dX11_seed_23 rfl (by cases h; rfl)
-- X11_feed
def eX11_feed (F : Nat) (x0 x1 x2 x3 x4 : Int32) (μ : zM) : Option (Int32 × zM) := if ¬ ((nI 400) < (((μ 0) 1 1) + (nI 20))) then zbd (eX7_put F x0 (μ 0)) fun y3 => zbd (eX7_put F x1 y3) fun y5 => zbd (eX7_put F x2 y5) fun y7 => zbd (eX7_put F x3 y7) fun y9 => zbd (eX7_put F x4 y9) fun y11 => some ((y11 1 1), zg μ 0 y11) else some ((-1), zg μ 0 (μ 0))
set_option maxRecDepth 20000 in
set_option maxHeartbeats 4000000 in
theorem tX11_feed {F : Nat} {x0 x1 x2 x3 x4 : Int32} {μ : zM} {ρ : Int32 × zM} (h : eX11_feed F x0 x1 x2 x3 x4 μ = some ρ) : LM mX11_feed 2 [zq 0 0, zi x0, zi x1, zi x2, zi x3, zi x4] μ (some (zi ρ.1)) ρ.2 := by
  unfold eX11_feed at h
  refine LM.of (by decide +kernel) rfl (Nat.le_of_ble_eq_true rfl) ?_
  show zJ mX11_feed 2 (0, 0) (0, 0) _ 0 [some (zq 0 0), some (zi x0), some (zi x1), some (zi x2), some (zi x3), some (zi x4)] [] _
  refine z_aload dX11_feed_0 rfl (z_getR dX11_feed_1 fkX11_10 in0_0 sh0_0 rfl (z_focus 0 (z_callV dX11_feed_4 (tX7_hasRoom) (Nat.le_of_ble_eq_true rfl) cdX7_hasRoom naX7_hasRoom lkX11_46 imX7_hasRoom seX7_hasRoom in0_1 sh0_1 rfl rfl rfl (Nat.le_of_ble_eq_true rfl) (z_if_ne dX11_feed_7 (fun c1 => ?_) (fun c1 => ?_)))))
  · have h := ziT h (zB_n0.mp c1)
    obtain ⟨y3, l2, h⟩ := zbd_some h
    obtain ⟨y5, l4, h⟩ := zbd_some h
    obtain ⟨y7, l6, h⟩ := zbd_some h
    refine z_aload dX11_feed_12 rfl (z_getR dX11_feed_13 fkX11_10 in0_0 sh0_0 rfl (z_iload dX11_feed_16 rfl (z_callV dX11_feed_17 (tX7_put l2) (Nat.le_of_ble_eq_true rfl) cdX7_put naX7_put lkX11_50 imX7_put seX7_put in0_1 sh0_1 rfl rfl rfl (Nat.le_of_ble_eq_true rfl) (z_aload dX11_feed_20 rfl (z_getR dX11_feed_21 fkX11_10 in0_0 sh0_0 rfl (z_iload dX11_feed_24 rfl (z_callV dX11_feed_25 (tX7_put l4) (Nat.le_of_ble_eq_true rfl) cdX7_put naX7_put lkX11_50 imX7_put seX7_put in0_1 sh0_1 rfl rfl rfl (Nat.le_of_ble_eq_true rfl) (z_aload dX11_feed_28 rfl (z_getR dX11_feed_29 fkX11_10 in0_0 sh0_0 rfl (z_iload dX11_feed_32 rfl (z_callV dX11_feed_33 (tX7_put l6) (Nat.le_of_ble_eq_true rfl) cdX7_put naX7_put lkX11_50 imX7_put seX7_put in0_1 sh0_1 rfl rfl rfl (Nat.le_of_ble_eq_true rfl) ?_)))))))))))
    obtain ⟨y9, l8, h⟩ := zbd_some h
    obtain ⟨y11, l10, h⟩ := zbd_some h
    exact z_aload dX11_feed_36 rfl (z_getR dX11_feed_37 fkX11_10 in0_0 sh0_0 rfl (z_iload dX11_feed_40 rfl (z_callV dX11_feed_42 (tX7_put l8) (Nat.le_of_ble_eq_true rfl) cdX7_put naX7_put lkX11_50 imX7_put seX7_put in0_1 sh0_1 rfl rfl rfl (Nat.le_of_ble_eq_true rfl) (z_aload dX11_feed_45 rfl (z_getR dX11_feed_46 fkX11_10 in0_0 sh0_0 rfl (z_iload dX11_feed_49 rfl (z_callV dX11_feed_51 (tX7_put l10) (Nat.le_of_ble_eq_true rfl) cdX7_put naX7_put lkX11_50 imX7_put seX7_put in0_1 sh0_1 rfl rfl rfl (Nat.le_of_ble_eq_true rfl) (z_aload dX11_feed_54 rfl (z_getR dX11_feed_55 fkX11_10 in0_0 sh0_0 rfl (z_getI dX11_feed_58 fkX11_54 in0_1 sh0_1 rfl (z_iretQ dX11_feed_61 rfl (by cases h; rfl))))))))))))
  · have h := ziF h (zB_0.mp c1)
    exact z_const dX11_feed_10 (z_iretQ dX11_feed_11 rfl (by cases h; rfl))
-- X11_back
def eX11_back (μ : zM) : Option (Int32 × zM) := if ((μ 0) 0 5) = 0 then some ((nI 0), zg μ 0 (μ 0)) else some ((nI 1), zg (zg μ 0 (μ 0)) 4 (μ 5))
set_option maxRecDepth 20000 in
set_option maxHeartbeats 4000000 in
theorem tX11_back {μ : zM} {ρ : Int32 × zM} (h : eX11_back μ = some ρ) : LM mX11_back 4 [zq 0 0] μ (some (zi ρ.1)) ρ.2 := by
  unfold eX11_back at h
  refine LM.of (by decide +kernel) rfl (Nat.le_of_ble_eq_true rfl) ?_
  show zJ mX11_back 4 (0, 0) (0, 0) _ 0 [some (zq 0 0)] [] _
  refine z_aload dX11_back_0 rfl (z_focus 0 (z_getI dX11_back_1 fkX11_38 in0_0 sh0_0 rfl (z_if_ne dX11_back_4 (fun c1 => ?_) (fun c1 => ?_))))
  · have h := ziF h (c1)
    exact z_aload dX11_back_9 rfl (z_getR dX11_back_10 fkX11_28 in0_0 sh0_0 rfl (z_aload dX11_back_13 rfl (z_getR dX11_back_14 fkX11_32 in0_0 sh0_0 rfl (z_focus 4 (z_callV dX11_back_17 (tX10_cp (w := 0) (v := 1) (by decide) (by decide) (by decide)) (Nat.le_of_ble_eq_true rfl) cdX10_copy naX10_copy lkX11_57 imX10_copy seX10_copy in4_0 sh_0 rfl rfl rfl (Nat.le_of_ble_eq_true rfl) (z_const dX11_back_20 (z_zretQ dX11_back_21 rfl rfl (by cases h; rfl))))))))
  · have h := ziT h (c1)
    exact z_const dX11_back_7 (z_zretQ dX11_back_8 rfl rfl (by cases h; rfl))
-- X11_center
def eX11_center (F : Nat) (μ : zM) : Option (Int32) := zbd (eX9_middle F (μ 4)) fun r2 => some r2
set_option maxRecDepth 20000 in
set_option maxHeartbeats 4000000 in
theorem tX11_center {F : Nat} {μ : zM} {ρ : Int32} (h : eX11_center F μ = some ρ) : LM mX11_center 4 [zq 0 0] μ (some (zi ρ)) μ := by
  unfold eX11_center at h
  refine LM.of (by decide +kernel) rfl (Nat.le_of_ble_eq_true rfl) ?_
  show zJ mX11_center 4 (0, 0) (0, 0) _ 0 [some (zq 0 0)] [] _
  obtain ⟨r2, l1, h⟩ := zbd_some h
  exact z_aload dX11_center_0 rfl (z_getR dX11_center_1 fkX11_28 in0_0 sh0_0 rfl (z_getR dX11_center_4 fkX11_287 in4_0 sh_0 rfl (z_focus 4 (z_callV dX11_center_7 (tX9_middle (by decide) l1) (Nat.le_of_ble_eq_true rfl) cdX9_middle naX9_middle lkX11_346 imX9_middle seX9_middle in4_6 sh_6 rfl rfl rfl (Nat.le_of_ble_eq_true rfl) (z_iretQ dX11_center_10 rfl (by cases h; rfl))))))
-- X11_image
def eX11_image (μ : zM) : Option (zM) := some (zg (zg μ 5 (μ 4)) 0 (zw (μ 0) 0 5 (nI 1)))
set_option maxRecDepth 20000 in
set_option maxHeartbeats 4000000 in
theorem tX11_image {μ : zM} {ρ : zM} (h : eX11_image μ = some ρ) : LM mX11_image 4 [zq 0 0] μ none ρ := by
  unfold eX11_image at h
  refine LM.of (by decide +kernel) rfl (Nat.le_of_ble_eq_true rfl) ?_
  show zJ mX11_image 4 (0, 0) (0, 0) _ 0 [some (zq 0 0)] [] _
  exact z_aload dX11_image_0 rfl (z_getR dX11_image_1 fkX11_32 in0_0 sh0_0 rfl (z_aload dX11_image_4 rfl (z_getR dX11_image_5 fkX11_28 in0_0 sh0_0 rfl (z_focus 5 (z_callV dX11_image_8 (tX10_cp (w := 1) (v := 0) (by decide) (by decide) (by decide)) (Nat.le_of_ble_eq_true rfl) cdX10_copy naX10_copy lkX11_57 imX10_copy seX10_copy in5_0 sh_0 rfl rfl rfl (Nat.le_of_ble_eq_true rfl) (z_aload dX11_image_11 rfl (z_const dX11_image_12 (z_focus 0 (z_putI dX11_image_13 fkX11_38 in0_0 sh0_0 rfl (fun _ _ _ h => by cases h; rfl) ⟨_, rfl, by decide, by decide⟩ (z_vretQ dX11_image_16 rfl (by cases h; rfl)))))))))))
-- X11_lookAhead
def jX11_lookAhead_27 (b0 : Int32) (μ : zM) : Option (zM) := some (zg μ 6 (zw (μ 6) 2 1 b0))
set_option maxRecDepth 20000 in
set_option maxHeartbeats 4000000 in
theorem sX11_lookAhead_27 {b0 : Int32} {μ : zM} {ρ : zM} (h : jX11_lookAhead_27 b0 μ = some ρ) : zJ mX11_lookAhead 4 (0, 0) (0, 0) (zQ none ρ) 27 [none, none] [zi b0, zq 6 2] μ := by
  unfold jX11_lookAhead_27 at h
  exact z_focus 6 (z_putI dX11_lookAhead_27 fkX11_433 in6_2 sh_2 rfl (fun _ _ _ h => by cases h; rfl) ⟨_, rfl, rfl, rfl⟩ (z_vretQ dX11_lookAhead_30 rfl (by cases h; rfl)))
def eX11_lookAhead (x0 : Int32) (μ : zM) : Option (zM) := if x0 = 0 then jX11_lookAhead_27 (nI 1) (zg μ 6 (μ 4)) else jX11_lookAhead_27 (nI 2) (zg μ 6 (μ 4))
set_option maxRecDepth 20000 in
set_option maxHeartbeats 4000000 in
theorem tX11_lookAhead {x0 : Int32} {μ : zM} {ρ : zM} (h : eX11_lookAhead x0 μ = some ρ) : LM mX11_lookAhead 4 [zq 0 0, zi x0] μ none ρ := by
  unfold eX11_lookAhead at h
  refine LM.of (by decide +kernel) rfl (Nat.le_of_ble_eq_true rfl) ?_
  show zJ mX11_lookAhead 4 (0, 0) (0, 0) _ 0 [some (zq 0 0), some (zi x0)] [] _
  refine z_aload dX11_lookAhead_0 rfl (z_getR dX11_lookAhead_1 fkX11_35 in0_0 sh0_0 rfl (z_aload dX11_lookAhead_4 rfl (z_getR dX11_lookAhead_5 fkX11_28 in0_0 sh0_0 rfl (z_focus 6 (z_callV dX11_lookAhead_8 (tX10_cp (w := 2) (v := 0) (by decide) (by decide) (by decide)) (Nat.le_of_ble_eq_true rfl) cdX10_copy naX10_copy lkX11_57 imX10_copy seX10_copy in6_0 sh_0 rfl rfl rfl (Nat.le_of_ble_eq_true rfl) (z_aload dX11_lookAhead_11 rfl (z_getR dX11_lookAhead_12 fkX11_35 in0_0 sh0_0 rfl (z_getR dX11_lookAhead_15 fkX11_378 in6_0 sh_0 rfl (z_iload dX11_lookAhead_18 rfl (z_if_eq dX11_lookAhead_19 (fun c1 => ?_) (fun c1 => ?_)))))))))))
  · have h := ziT h (c1)
    exact z_const dX11_lookAhead_26 (z_mask [false, false] (sX11_lookAhead_27 h))
  · have h := ziF h (c1)
    exact z_const dX11_lookAhead_22 (z_goto dX11_lookAhead_23 (z_mask [false, false] (sX11_lookAhead_27 h)))
-- X11_parts
def eX11_parts (F : Nat) (μ : zM) : Option (Int32) := zbd (eX2_bridges F (μ 4)) fun r2 => some r2
set_option maxRecDepth 20000 in
set_option maxHeartbeats 4000000 in
theorem tX11_parts {F : Nat} {μ : zM} {ρ : Int32} (h : eX11_parts F μ = some ρ) : LM mX11_parts 4 [zq 0 0] μ (some (zi ρ)) μ := by
  unfold eX11_parts at h
  refine LM.of (by decide +kernel) rfl (Nat.le_of_ble_eq_true rfl) ?_
  show zJ mX11_parts 4 (0, 0) (0, 0) _ 0 [some (zq 0 0)] [] _
  obtain ⟨r2, l1, h⟩ := zbd_some h
  exact z_aload dX11_parts_0 rfl (z_getR dX11_parts_1 fkX11_28 in0_0 sh0_0 rfl (z_getR dX11_parts_4 fkX11_186 in4_0 sh_0 rfl (z_focus 4 (z_callV dX11_parts_7 (tX2_bridges (by decide) l1) (Nat.le_of_ble_eq_true rfl) cdX2_bridges naX2_bridges lkX11_333 imX2_bridges seX2_bridges in4_5 sh_5 rfl rfl rfl (Nat.le_of_ble_eq_true rfl) (z_iretQ dX11_parts_10 rfl (by cases h; rfl))))))
-- X11_above
def eX11_above (x0 x1 : Int32) (μ : zM) : Option ((Int32 ⊕ String) × zM) := if x0 < 0 ∨ (μ 4) 3 0 ≤ x0 then some (.inr "java/lang/IndexOutOfBoundsException", μ) else if x1 < 0 ∨ (μ 4) 3 0 ≤ x1 then some (.inr "java/lang/IndexOutOfBoundsException", μ) else zchk (zin ((x0 * (nI 6)) + x1) 36) (some (.inl ((μ 4) 40 (zn ((x0 * (nI 6)) + x1))), zg μ 4 (μ 4)))
set_option maxRecDepth 20000 in
set_option maxHeartbeats 4000000 in
theorem tX11_above {x0 x1 : Int32} {μ : zM} {ρ : (Int32 ⊕ String) × zM} (h : eX11_above x0 x1 μ = some ρ) : LX mX11_above 7 (4, 24) [zq 0 0, zi x0, zi x1] μ (zoI ρ.1) ρ.2 := by
  unfold eX11_above at h
  refine LX.of (by decide +kernel) rfl (Nat.le_of_ble_eq_true rfl) ?_
  show zJ mX11_above 7 (4, 24) (0, 0) _ 0 [some (zq 0 0), some (zi x0), some (zi x1)] [] _
  refine z_aload dX11_above_0 rfl (z_iload dX11_above_1 rfl (z_callVX dX11_above_2 tX11_checkNode (Nat.le_of_ble_eq_true rfl) cdX11_checkNode naX11_checkNode lkX11_83 imX11_checkNode seX11_checkNode in0_0 sh0_0 rfl rfl rfl (Nat.le_of_ble_eq_true rfl) ⟨(Nat.le_of_ble_eq_true rfl), (Nat.le_of_ble_eq_true rfl)⟩ (fun r hr => ?_) (fun E hE => ?_)))
  · obtain ⟨c1, rfl⟩ := zif_l hr
    have h := ziF h c1
    refine z_aload dX11_above_5 rfl (z_iload dX11_above_6 rfl (z_callVX dX11_above_7 tX11_checkNode (Nat.le_of_ble_eq_true rfl) cdX11_checkNode naX11_checkNode lkX11_83 imX11_checkNode seX11_checkNode in0_0 sh0_0 rfl rfl rfl (Nat.le_of_ble_eq_true rfl) ⟨(Nat.le_of_ble_eq_true rfl), (Nat.le_of_ble_eq_true rfl)⟩ (fun r hr => ?_) (fun E hE => ?_)))
    · obtain ⟨c2, rfl⟩ := zif_l hr
      have h := ziF h c2
      obtain ⟨s3, h⟩ := zchk_some h
      exact z_aload dX11_above_10 rfl (z_getR dX11_above_11 fkX11_28 in0_0 sh0_0 rfl (z_getR dX11_above_14 fkX11_287 in4_0 sh_0 rfl (z_getR dX11_above_17 fkX11_298 in4_6 sh_6 rfl (z_iload dX11_above_20 rfl (z_iload dX11_above_21 rfl (z_callS dX11_above_22 (tX11_pair) (Nat.le_of_ble_eq_true rfl) cdX11_pair naX11_pair lkX11_138 stX11_pair rfl rfl (Nat.le_of_ble_eq_true rfl) (z_focus 4 (z_iald dX11_above_25 in4_40 sh_40 (zin_vp s3) (z_iretX dX11_above_26 rfl (by cases h; rfl))))))))))
    · obtain ⟨c2, rfl⟩ := zif_r hE
      have h := ziT h c2
      cases h; rfl
  · obtain ⟨c1, rfl⟩ := zif_r hE
    have h := ziT h c1
    cases h; rfl
-- X11_blind
def eX11_blind (x0 : Int32) (μ : zM) : Option ((Int32 ⊕ String) × zM) := if x0 < 0 ∨ (μ 4) 3 0 ≤ x0 then some (.inr "java/lang/IndexOutOfBoundsException", μ) else zchk (zin x0 6) (zchk (zin x0 6) (zlet ((((nI 1) <<< ((((μ 4) 10 (zn x0)) + (nI 1)) &&& 31)) - (nI 1)) ||| ((μ 4) 9 (zn x0))) fun v4 => some (.inl ((((nI 1) <<< (((μ 4) 0 9) &&& 31)) - (nI 1)) &&& (v4 ^^^ (-1))), zg μ 4 (μ 4))))
set_option maxRecDepth 20000 in
set_option maxHeartbeats 4000000 in
theorem tX11_blind {x0 : Int32} {μ : zM} {ρ : (Int32 ⊕ String) × zM} (h : eX11_blind x0 μ = some ρ) : LX mX11_blind 7 (4, 24) [zq 0 0, zi x0] μ (zoI ρ.1) ρ.2 := by
  unfold eX11_blind at h
  refine LX.of (by decide +kernel) rfl (Nat.le_of_ble_eq_true rfl) ?_
  show zJ mX11_blind 7 (4, 24) (0, 0) _ 0 [some (zq 0 0), some (zi x0), none] [] _
  refine z_aload dX11_blind_0 rfl (z_iload dX11_blind_1 rfl (z_callVX dX11_blind_2 tX11_checkNode (Nat.le_of_ble_eq_true rfl) cdX11_checkNode naX11_checkNode lkX11_83 imX11_checkNode seX11_checkNode in0_0 sh0_0 rfl rfl rfl (Nat.le_of_ble_eq_true rfl) ⟨(Nat.le_of_ble_eq_true rfl), (Nat.le_of_ble_eq_true rfl)⟩ (fun r hr => ?_) (fun E hE => ?_)))
  · obtain ⟨c1, rfl⟩ := zif_l hr
    have h := ziF h c1
    obtain ⟨s2, h⟩ := zchk_some h
    refine z_aload dX11_blind_5 rfl (z_getR dX11_blind_6 fkX11_28 in0_0 sh0_0 rfl (z_getR dX11_blind_9 fkX11_86 in4_0 sh_0 rfl (z_getR dX11_blind_12 fkX11_100 in4_3 sh_3 rfl (z_iload dX11_blind_15 rfl (z_focus 4 (z_iald dX11_blind_16 in4_10 sh_10 (zin_vp s2) (z_const dX11_blind_17 (z_iadd dX11_blind_18 (z_callS dX11_blind_19 (tX11_bitsBelow) (Nat.le_of_ble_eq_true rfl) cdX11_bitsBelow naX11_bitsBelow lkX11_350 stX11_bitsBelow rfl rfl (Nat.le_of_ble_eq_true rfl) (z_aload dX11_blind_22 rfl (z_getR dX11_blind_23 fkX11_28 in0_0 sh0_0 rfl ?_)))))))))))
    obtain ⟨s3, h⟩ := zchk_some h
    have h := zlet_h h
    refine z_getR dX11_blind_26 fkX11_86 in4_0 sh_0 rfl (z_getR dX11_blind_29 fkX11_96 in4_3 sh_3 rfl (z_iload dX11_blind_32 rfl (z_iald dX11_blind_33 in4_9 sh_9 (zin_vp s3) (z_ior dX11_blind_34 (z_istore dX11_blind_35 (Nat.le_of_ble_eq_true rfl) (z_aload dX11_blind_36 rfl (z_getR dX11_blind_37 fkX11_28 in0_0 sh0_0 rfl (z_getI dX11_blind_40 fkX11_263 in4_0 sh_0 rfl (z_callS dX11_blind_43 (tX11_bitsBelow) (Nat.le_of_ble_eq_true rfl) cdX11_bitsBelow naX11_bitsBelow lkX11_350 stX11_bitsBelow rfl rfl (Nat.le_of_ble_eq_true rfl) (z_iload dX11_blind_46 rfl (z_const dX11_blind_47 ?_)))))))))))
    exact z_ixor dX11_blind_48 (z_iand dX11_blind_49 (z_iretX dX11_blind_50 rfl (by cases h; rfl)))
  · obtain ⟨c1, rfl⟩ := zif_r hE
    have h := ziT h c1
    cases h; rfl
-- X11_crossed
def eX11_crossed (F : Nat) (x0 x1 : Int32) (μ : zM) : Option ((Int32 ⊕ String) × zM) := if x0 < 0 ∨ (μ 4) 3 0 ≤ x0 then some (.inr "java/lang/IndexOutOfBoundsException", μ) else if x1 < 0 ∨ (nI 5) < x1 then some (.inr "java/lang/IllegalArgumentException", μ) else zbd (eX9_linksWithin F x0 x1 (μ 4)) fun r4 => some (.inl r4, zg μ 4 (μ 4))
set_option maxRecDepth 20000 in
set_option maxHeartbeats 4000000 in
theorem tX11_crossed {F : Nat} {x0 x1 : Int32} {μ : zM} {ρ : (Int32 ⊕ String) × zM} (h : eX11_crossed F x0 x1 μ = some ρ) : LX mX11_crossed 7 (4, 24) [zq 0 0, zi x0, zi x1] μ (zoI ρ.1) ρ.2 := by
  unfold eX11_crossed at h
  refine LX.of (by decide +kernel) rfl (Nat.le_of_ble_eq_true rfl) ?_
  show zJ mX11_crossed 7 (4, 24) (0, 0) _ 0 [some (zq 0 0), some (zi x0), some (zi x1)] [] _
  refine z_aload dX11_crossed_0 rfl (z_iload dX11_crossed_1 rfl (z_callVX dX11_crossed_2 tX11_checkNode (Nat.le_of_ble_eq_true rfl) cdX11_checkNode naX11_checkNode lkX11_83 imX11_checkNode seX11_checkNode in0_0 sh0_0 rfl rfl rfl (Nat.le_of_ble_eq_true rfl) ⟨(Nat.le_of_ble_eq_true rfl), (Nat.le_of_ble_eq_true rfl)⟩ (fun r hr => ?_) (fun E hE => ?_)))
  · obtain ⟨c1, rfl⟩ := zif_l hr
    have h := ziF h c1
    refine z_iload dX11_crossed_5 rfl (z_callSX dX11_crossed_6 tX11_checkScope (Nat.le_of_ble_eq_true rfl) cdX11_checkScope naX11_checkScope lkX11_311 stX11_checkScope rfl rfl (Nat.le_of_ble_eq_true rfl) ⟨(Nat.le_of_ble_eq_true rfl), (Nat.le_of_ble_eq_true rfl)⟩ (fun r hr => ?_) (fun E hE => ?_))
    · obtain ⟨c2, rfl⟩ := zif_l hr
      have h := ziF h c2
      obtain ⟨r4, l3, h⟩ := zbd_some h
      exact z_aload dX11_crossed_9 rfl (z_getR dX11_crossed_10 fkX11_28 in0_0 sh0_0 rfl (z_getR dX11_crossed_13 fkX11_287 in4_0 sh_0 rfl (z_iload dX11_crossed_16 rfl (z_iload dX11_crossed_17 rfl (z_focus 4 (z_callV dX11_crossed_18 (tX9_linksWithin (by decide) l3) (Nat.le_of_ble_eq_true rfl) cdX9_linksWithin naX9_linksWithin lkX11_343 imX9_linksWithin seX9_linksWithin in4_6 sh_6 rfl rfl rfl (Nat.le_of_ble_eq_true rfl) (z_iretX dX11_crossed_21 rfl (by cases h; rfl))))))))
    · obtain ⟨c2, rfl⟩ := zif_r hE
      have h := ziT h c2
      cases h; rfl
  · obtain ⟨c1, rfl⟩ := zif_r hE
    have h := ziT h c1
    cases h; rfl
-- X11_cut
def eX11_cut (F : Nat) (x0 x1 : Int32) (μ : zM) : Option ((Int32 ⊕ String) × zM) := if x0 < 0 ∨ (μ 4) 5 0 ≤ x0 then some (.inr "java/lang/IndexOutOfBoundsException", μ) else if (zB (((((μ 4) 5 1) >>> (x0 &&& 31)) &&& (nI 1)) = (nI 1))) = x1 then some (.inl (nI 0), zg μ 4 (μ 4)) else zlet (zg μ 4 (zw (μ 4) 5 1 (((μ 4) 5 1) ^^^ ((nI 1) <<< (x0 &&& 31))))) fun m3 => zbd (eX10_findWays F (m3 4)) fun y5 => some (.inl (nI 1), zg m3 4 y5)
set_option maxRecDepth 20000 in
set_option maxHeartbeats 4000000 in
theorem tX11_cut {F : Nat} {x0 x1 : Int32} {μ : zM} {ρ : (Int32 ⊕ String) × zM} (h : eX11_cut F x0 x1 μ = some ρ) : LX mX11_cut 7 (4, 24) [zq 0 0, zi x0, zi x1] μ (zoI ρ.1) ρ.2 := by
  unfold eX11_cut at h
  refine LX.of (by decide +kernel) rfl (Nat.le_of_ble_eq_true rfl) ?_
  show zJ mX11_cut 7 (4, 24) (0, 0) _ 0 [some (zq 0 0), some (zi x0), some (zi x1)] [] _
  refine z_aload dX11_cut_0 rfl (z_iload dX11_cut_1 rfl (z_callVX dX11_cut_2 tX11_checkLink (Nat.le_of_ble_eq_true rfl) cdX11_checkLink naX11_checkLink lkX11_183 imX11_checkLink seX11_checkLink in0_0 sh0_0 rfl rfl rfl (Nat.le_of_ble_eq_true rfl) ⟨(Nat.le_of_ble_eq_true rfl), (Nat.le_of_ble_eq_true rfl)⟩ (fun r hr => ?_) (fun E hE => ?_)))
  · obtain ⟨c1, rfl⟩ := zif_l hr
    have h := ziF h c1
    refine z_aload dX11_cut_5 rfl (z_getR dX11_cut_6 fkX11_28 in0_0 sh0_0 rfl (z_getR dX11_cut_9 fkX11_186 in4_0 sh_0 rfl (z_iload dX11_cut_12 rfl (z_focus 4 (z_callV dX11_cut_13 (tX2_isCut (by decide)) (Nat.le_of_ble_eq_true rfl) cdX2_isCut naX2_isCut lkX11_204 imX2_isCut seX2_isCut in4_5 sh_5 rfl rfl rfl (Nat.le_of_ble_eq_true rfl) (z_iload dX11_cut_16 rfl (z_icmp_ne dX11_cut_17 (fun c2 => ?_) (fun c2 => ?_))))))))
    · have h := ziF h (c2)
      have h := zlet_h h
      refine z_aload dX11_cut_22 rfl (z_getR dX11_cut_23 fkX11_28 in0_0 sh0_0 rfl (z_getR dX11_cut_26 fkX11_186 in4_0 sh_0 rfl (z_dup dX11_cut_29 rfl (z_getI dX11_cut_30 fkX11_269 in4_5 sh_5 rfl (z_const dX11_cut_33 (z_iload dX11_cut_34 rfl (z_ishl dX11_cut_35 (z_ixor dX11_cut_36 (z_putI dX11_cut_37 fkX11_269 in4_5 sh_5 rfl (fun _ _ _ h => by cases h; rfl) ⟨_, rfl, rfl, rfl⟩ (z_aload dX11_cut_40 rfl (z_getR dX11_cut_41 fkX11_28 in0_0 sh0_0 rfl ?_)))))))))))
      obtain ⟨y5, l4, h⟩ := zbd_some h
      exact z_focus 4 (z_callV dX11_cut_44 (tX10_findWays (by decide) l4) (Nat.le_of_ble_eq_true rfl) cdX10_findWays naX10_findWays lkX11_80 imX10_findWays seX10_findWays in4_0 sh_0 rfl rfl rfl (Nat.le_of_ble_eq_true rfl) (z_const dX11_cut_47 (z_zretX dX11_cut_48 rfl rfl (by cases h; rfl))))
    · have h := ziT h (c2)
      exact z_const dX11_cut_20 (z_zretX dX11_cut_21 rfl rfl (by cases h; rfl))
  · obtain ⟨c1, rfl⟩ := zif_r hE
    have h := ziT h c1
    cases h; rfl
-- X11_est
def eX11_est (x0 x1 : Int32) (μ : zM) : Option ((Int32 ⊕ String) × zM) := if x0 < 0 ∨ (μ 4) 3 0 ≤ x0 then some (.inr "java/lang/IndexOutOfBoundsException", μ) else if x1 < 0 ∨ (μ 4) 3 0 ≤ x1 then some (.inr "java/lang/IndexOutOfBoundsException", μ) else if x0 = x1 then some (.inr "java/lang/IllegalArgumentException", μ) else zchk (zin ((x0 * (nI 6)) + x1) 36) (some (.inl ((μ 4) 18 (zn ((x0 * (nI 6)) + x1))), zg μ 4 (μ 4)))
set_option maxRecDepth 20000 in
set_option maxHeartbeats 4000000 in
theorem tX11_est {x0 x1 : Int32} {μ : zM} {ρ : (Int32 ⊕ String) × zM} (h : eX11_est x0 x1 μ = some ρ) : LX mX11_est 7 (4, 24) [zq 0 0, zi x0, zi x1] μ (zoI ρ.1) ρ.2 := by
  unfold eX11_est at h
  refine LX.of (by decide +kernel) rfl (Nat.le_of_ble_eq_true rfl) ?_
  show zJ mX11_est 7 (4, 24) (0, 0) _ 0 [some (zq 0 0), some (zi x0), some (zi x1)] [] _
  refine z_aload dX11_est_0 rfl (z_iload dX11_est_1 rfl (z_callVX dX11_est_2 tX11_checkNode (Nat.le_of_ble_eq_true rfl) cdX11_checkNode naX11_checkNode lkX11_83 imX11_checkNode seX11_checkNode in0_0 sh0_0 rfl rfl rfl (Nat.le_of_ble_eq_true rfl) ⟨(Nat.le_of_ble_eq_true rfl), (Nat.le_of_ble_eq_true rfl)⟩ (fun r hr => ?_) (fun E hE => ?_)))
  · obtain ⟨c1, rfl⟩ := zif_l hr
    have h := ziF h c1
    refine z_aload dX11_est_5 rfl (z_iload dX11_est_6 rfl (z_callVX dX11_est_7 tX11_checkNode (Nat.le_of_ble_eq_true rfl) cdX11_checkNode naX11_checkNode lkX11_83 imX11_checkNode seX11_checkNode in0_0 sh0_0 rfl rfl rfl (Nat.le_of_ble_eq_true rfl) ⟨(Nat.le_of_ble_eq_true rfl), (Nat.le_of_ble_eq_true rfl)⟩ (fun r hr => ?_) (fun E hE => ?_)))
    · obtain ⟨c2, rfl⟩ := zif_l hr
      have h := ziF h c2
      refine z_iload dX11_est_10 rfl (z_iload dX11_est_11 rfl (z_icmp_ne dX11_est_12 (fun c3 => ?_) (fun c3 => ?_)))
      · have h := ziF h (c3)
        obtain ⟨s4, h⟩ := zchk_some h
        exact z_aload dX11_est_25 rfl (z_getR dX11_est_26 fkX11_28 in0_0 sh0_0 rfl (z_getR dX11_est_29 fkX11_86 in4_0 sh_0 rfl (z_getR dX11_est_32 fkX11_135 in4_3 sh_3 rfl (z_iload dX11_est_35 rfl (z_iload dX11_est_36 rfl (z_callS dX11_est_37 (tX11_pair) (Nat.le_of_ble_eq_true rfl) cdX11_pair naX11_pair lkX11_138 stX11_pair rfl rfl (Nat.le_of_ble_eq_true rfl) (z_focus 4 (z_iald dX11_est_40 in4_18 sh_18 (zin_vp s4) (z_iretX dX11_est_41 rfl (by cases h; rfl))))))))))
      · have h := ziT h (c3)
        exact z_throwS zx_IAE (i := 15) rfl rfl rfl dX11_est_15.1 dX11_est_18.1 dX11_est_19.1 dX11_est_21.1 dX11_est_24.1 (Nat.le_of_ble_eq_true rfl) (Nat.le_of_ble_eq_true rfl) (Nat.le_of_ble_eq_true rfl) (Nat.le_of_ble_eq_true rfl) (by cases h; rfl)
    · obtain ⟨c2, rfl⟩ := zif_r hE
      have h := ziT h c2
      cases h; rfl
  · obtain ⟨c1, rfl⟩ := zif_r hE
    have h := ziT h c1
    cases h; rfl
-- X11_far
def hX11_far_24 (F : Nat) : Nat → Int32 → Int32 → Int32 → zM → Option ((Int32 ⊕ String) × zM)
  | 0, _, _, _, _ => none
  | n + 1, a1, a3, a4, μ => if (nI 5) < a4 then some (.inl (-1), μ) else zbd (eX9_within F a1 a4 (μ 4)) fun r3 => if (r3 &&& a3) = 0 then (hX11_far_24 F n) a1 a3 (a4 + (nI 1)) (zg μ 4 (μ 4)) else some (.inl a4, zg μ 4 (μ 4))
set_option maxRecDepth 20000 in
set_option maxHeartbeats 4000000 in
theorem sX11_far_24 {F : Nat} : ∀ {n : Nat} {a1 a3 a4 : Int32} {μ : zM} {ρ : (Int32 ⊕ String) × zM}, hX11_far_24 F n a1 a3 a4 μ = some ρ → zJ mX11_far 7 (4, 24) (2, 12) (zQX (4, 24) (zoI ρ.1) ρ.2) 24 [some (zq 0 0), some (zi a1), none, some (zi a3), some (zi a4)] [] μ := by
  intro n
  induction n with
  | zero => intro a1 a3 a4 μ ρ h; exact nomatch (show (none : Option _) = some ρ from h)
  | succ n ih =>
    intro a1 a3 a4 μ ρ h
    have hK24 := @ih
    rw [hX11_far_24] at h
    refine z_iload dX11_far_24 rfl (z_const dX11_far_26 (z_icmp_gt dX11_far_27 (fun c1 => ?_) (fun c1 => ?_)))
    · have h := ziT h (c1)
      exact z_const dX11_far_57 (z_iretX dX11_far_58 rfl (by cases h; rfl))
    · have h := ziF h (c1)
      obtain ⟨r3, l2, h⟩ := zbd_some h
      refine z_aload dX11_far_30 rfl (z_getR dX11_far_31 fkX11_28 in0_0 sh0_0 rfl (z_getR dX11_far_34 fkX11_287 in4_0 sh_0 rfl (z_iload dX11_far_37 rfl (z_iload dX11_far_38 rfl (z_focus 4 (z_callV dX11_far_40 (tX9_within (by decide) l2) (Nat.le_of_ble_eq_true rfl) cdX9_within naX9_within lkX11_314 imX9_within seX9_within in4_6 sh_6 rfl rfl rfl (Nat.le_of_ble_eq_true rfl) (z_iload dX11_far_43 rfl (z_iand dX11_far_44 (z_if_eq dX11_far_45 (fun c4 => ?_) (fun c4 => ?_))))))))))
      · have h := ziT h (c4)
        exact z_iinc dX11_far_51 (Nat.le_of_ble_eq_true rfl) rfl (z_goto dX11_far_54 (z_mask [true, true, false, true, true] (hK24 h)))
      · have h := ziF h (c4)
        exact z_iload dX11_far_48 rfl (z_iretX dX11_far_50 rfl (by cases h; rfl))
def eX11_far (F : Nat) (x0 x1 : Int32) (μ : zM) : Option ((Int32 ⊕ String) × zM) := if x0 < 0 ∨ (μ 4) 3 0 ≤ x0 then some (.inr "java/lang/IndexOutOfBoundsException", μ) else if x1 < 0 ∨ (nI 12) ≤ x1 then some (.inr "java/lang/IndexOutOfBoundsException", μ) else zbd (eX4_holdersOf F x1 (μ 4)) fun r4 => hX11_far_24 F F x0 r4 (nI 0) (zg μ 4 (μ 4))
set_option maxRecDepth 20000 in
set_option maxHeartbeats 4000000 in
theorem tX11_far {F : Nat} {x0 x1 : Int32} {μ : zM} {ρ : (Int32 ⊕ String) × zM} (h : eX11_far F x0 x1 μ = some ρ) : LX mX11_far 7 (4, 24) [zq 0 0, zi x0, zi x1] μ (zoI ρ.1) ρ.2 := by
  unfold eX11_far at h
  refine LX.of (by decide +kernel) rfl (Nat.le_of_ble_eq_true rfl) ?_
  show zJ mX11_far 7 (4, 24) (0, 0) _ 0 [some (zq 0 0), some (zi x0), some (zi x1), none, none] [] _
  refine z_aload dX11_far_0 rfl (z_iload dX11_far_1 rfl (z_callVX dX11_far_2 tX11_checkNode (Nat.le_of_ble_eq_true rfl) cdX11_checkNode naX11_checkNode lkX11_83 imX11_checkNode seX11_checkNode in0_0 sh0_0 rfl rfl rfl (Nat.le_of_ble_eq_true rfl) ⟨(Nat.le_of_ble_eq_true rfl), (Nat.le_of_ble_eq_true rfl)⟩ (fun r hr => ?_) (fun E hE => ?_)))
  · obtain ⟨c1, rfl⟩ := zif_l hr
    have h := ziF h c1
    refine z_iload dX11_far_5 rfl (z_callSX dX11_far_6 tX11_checkPacket (Nat.le_of_ble_eq_true rfl) cdX11_checkPacket naX11_checkPacket lkX11_142 stX11_checkPacket rfl rfl (Nat.le_of_ble_eq_true rfl) ⟨(Nat.le_of_ble_eq_true rfl), (Nat.le_of_ble_eq_true rfl)⟩ (fun r hr => ?_) (fun E hE => ?_))
    · obtain ⟨c2, rfl⟩ := zif_l hr
      have h := ziF h c2
      obtain ⟨r4, l3, h⟩ := zbd_some h
      exact z_aload dX11_far_9 rfl (z_getR dX11_far_10 fkX11_28 in0_0 sh0_0 rfl (z_getR dX11_far_13 fkX11_86 in4_0 sh_0 rfl (z_iload dX11_far_16 rfl (z_focus 4 (z_callV dX11_far_17 (tX4_holdersOf (by decide) l3) (Nat.le_of_ble_eq_true rfl) cdX4_holdersOf naX4_holdersOf lkX11_305 imX4_holdersOf seX4_holdersOf in4_3 sh_3 rfl rfl rfl (Nat.le_of_ble_eq_true rfl) (z_istore dX11_far_20 (Nat.le_of_ble_eq_true rfl) (z_const dX11_far_21 (z_istore dX11_far_22 (Nat.le_of_ble_eq_true rfl) (z_mask [true, true, false, true, true] (sX11_far_24 h))))))))))
    · obtain ⟨c2, rfl⟩ := zif_r hE
      have h := ziT h c2
      cases h; rfl
  · obtain ⟨c1, rfl⟩ := zif_r hE
    have h := ziT h c1
    cases h; rfl
-- X11_first
def jX11_first_77 (F : Nat) (K11 : Int32 → Int32 → Int32 → Int32 → zM → Option ((Int32 ⊕ String) × zM)) (a1 a4 a5 : Int32) (μ : zM) : Option ((Int32 ⊕ String) × zM) := K11 a1 a4 a5 (a4 + (nI 1)) μ
set_option maxRecDepth 20000 in
set_option maxHeartbeats 4000000 in
theorem sX11_first_77 {F : Nat} {K11 : Int32 → Int32 → Int32 → Int32 → zM → Option ((Int32 ⊕ String) × zM)} (hK11 : ∀ {xa1 xa2 xa3 xa4 : Int32} {xm : zM} {ρ : (Int32 ⊕ String) × zM}, K11 xa1 xa2 xa3 xa4 xm = some ρ → zJ mX11_first 7 (4, 24) (1, 6) (zQX (4, 24) (zoI ρ.1) ρ.2) 11 [some (zq 0 0), some (zi xa1), some (zi xa2), some (zi xa3), some (zi xa4), none] [] xm) {a1 a4 a5 : Int32} {μ : zM} {ρ : (Int32 ⊕ String) × zM} (h : jX11_first_77 F K11 a1 a4 a5 μ = some ρ) : zJ mX11_first 7 (4, 24) (1, 6) (zQX (4, 24) (zoI ρ.1) ρ.2) 77 [some (zq 0 0), some (zi a1), none, none, some (zi a4), some (zi a5)] [] μ := by
  unfold jX11_first_77 at h
  exact z_iload dX11_first_77 rfl (z_istore dX11_first_79 (Nat.le_of_ble_eq_true rfl) (z_iload dX11_first_80 rfl (z_istore dX11_first_82 (Nat.le_of_ble_eq_true rfl) (z_iinc dX11_first_83 (Nat.le_of_ble_eq_true rfl) rfl (z_goto dX11_first_86 (z_mask [true, true, true, true, true, false] (hK11 h)))))))
def hX11_first_11 (F : Nat) : Nat → Int32 → Int32 → Int32 → Int32 → zM → Option ((Int32 ⊕ String) × zM)
  | 0, _, _, _, _, _ => none
  | n + 1, a1, a2, a3, a4, μ => if ((μ 4) 3 0) ≤ a4 then some (.inl a2, zg μ 4 (μ 4)) else zchk (zin ((a4 * (nI 12)) + a1) 72) (if ((μ 4) 21 (zn ((a4 * (nI 12)) + a1))) = (-1) then (hX11_first_11 F n) a1 a2 a3 (a4 + (nI 1)) (zg μ 4 (μ 4)) else if ((((μ 4) 3 1) >>> (a4 &&& 31)) &&& (nI 1)) = (nI 1) then if a2 = (-1) then jX11_first_77 F (hX11_first_11 F n) a1 a4 ((μ 4) 21 (zn ((a4 * (nI 12)) + a1))) (zg μ 4 (μ 4)) else if a3 ≤ ((μ 4) 21 (zn ((a4 * (nI 12)) + a1))) then (hX11_first_11 F n) a1 a2 a3 (a4 + (nI 1)) (zg μ 4 (μ 4)) else jX11_first_77 F (hX11_first_11 F n) a1 a4 ((μ 4) 21 (zn ((a4 * (nI 12)) + a1))) (zg μ 4 (μ 4)) else (hX11_first_11 F n) a1 a2 a3 (a4 + (nI 1)) (zg μ 4 (μ 4)))
set_option maxRecDepth 20000 in
set_option maxHeartbeats 4000000 in
theorem sX11_first_11 {F : Nat} : ∀ {n : Nat} {a1 a2 a3 a4 : Int32} {μ : zM} {ρ : (Int32 ⊕ String) × zM}, hX11_first_11 F n a1 a2 a3 a4 μ = some ρ → zJ mX11_first 7 (4, 24) (1, 6) (zQX (4, 24) (zoI ρ.1) ρ.2) 11 [some (zq 0 0), some (zi a1), some (zi a2), some (zi a3), some (zi a4), none] [] μ := by
  intro n
  induction n with
  | zero => intro a1 a2 a3 a4 μ ρ h; exact nomatch (show (none : Option _) = some ρ from h)
  | succ n ih =>
    intro a1 a2 a3 a4 μ ρ h
    have hK11 := @ih
    rw [hX11_first_11] at h
    refine z_iload dX11_first_11 rfl (z_aload dX11_first_13 rfl (z_getR dX11_first_14 fkX11_28 in0_0 sh0_0 rfl (z_getR dX11_first_17 fkX11_86 in4_0 sh_0 rfl (z_focus 4 (z_getI dX11_first_20 fkX11_349 in4_3 sh_3 rfl (z_icmp_ge dX11_first_23 (fun c1 => ?_) (fun c1 => ?_)))))))
    · have h := ziT h (c1)
      exact z_iload dX11_first_89 rfl (z_iretX dX11_first_90 rfl (by cases h; rfl))
    · have h := ziF h (c1)
      obtain ⟨s2, h⟩ := zchk_some h
      refine z_aload dX11_first_26 rfl (z_getR dX11_first_27 fkX11_28 in0_0 sh0_0 rfl (z_getR dX11_first_30 fkX11_145 in4_0 sh_0 rfl (z_getR dX11_first_33 fkX11_152 in4_4 sh_4 rfl (z_iload dX11_first_36 rfl (z_iload dX11_first_38 rfl (z_callS dX11_first_39 (tX11_cell) (Nat.le_of_ble_eq_true rfl) cdX11_cell naX11_cell lkX11_149 stX11_cell rfl rfl (Nat.le_of_ble_eq_true rfl) (z_iald dX11_first_42 in4_21 sh_21 (zin_vp s2) (z_istore dX11_first_43 (Nat.le_of_ble_eq_true rfl) (z_iload dX11_first_45 rfl (z_const dX11_first_47 (z_icmp_eq dX11_first_48 (fun c3 => ?_) (fun c3 => ?_))))))))))))
      · have h := ziT h (c3)
        exact z_iinc dX11_first_83 (Nat.le_of_ble_eq_true rfl) rfl (z_goto dX11_first_86 (z_mask [true, true, true, true, true, false] (hK11 h)))
      · have h := ziF h (c3)
        refine z_aload dX11_first_51 rfl (z_getR dX11_first_52 fkX11_28 in0_0 sh0_0 rfl (z_getR dX11_first_55 fkX11_86 in4_0 sh_0 rfl (z_iload dX11_first_58 rfl (z_callV dX11_first_60 (tX4_isUp (by decide)) (Nat.le_of_ble_eq_true rfl) cdX4_isUp naX4_isUp lkX11_90 imX4_isUp seX4_isUp in4_3 sh_3 rfl rfl rfl (Nat.le_of_ble_eq_true rfl) (z_if_eq dX11_first_63 (fun c4 => ?_) (fun c4 => ?_))))))
        · have h := ziF h (zB_0.mp c4)
          exact z_iinc dX11_first_83 (Nat.le_of_ble_eq_true rfl) rfl (z_goto dX11_first_86 (z_mask [true, true, true, true, true, false] (hK11 h)))
        · have h := ziT h (zB_n0.mp c4)
          refine z_iload dX11_first_66 rfl (z_const dX11_first_67 (z_icmp_eq dX11_first_68 (fun c5 => ?_) (fun c5 => ?_)))
          · have h := ziT h (c5)
            exact z_mask [true, true, false, false, true, true] (sX11_first_77 hK11 h)
          · have h := ziF h (c5)
            refine z_iload dX11_first_71 rfl (z_iload dX11_first_73 rfl (z_icmp_ge dX11_first_74 (fun c6 => ?_) (fun c6 => ?_)))
            · have h := ziT h (c6)
              exact z_iinc dX11_first_83 (Nat.le_of_ble_eq_true rfl) rfl (z_goto dX11_first_86 (z_mask [true, true, true, true, true, false] (hK11 h)))
            · have h := ziF h (c6)
              exact z_mask [true, true, false, false, true, true] (sX11_first_77 hK11 h)
def eX11_first (F : Nat) (x0 : Int32) (μ : zM) : Option ((Int32 ⊕ String) × zM) := if x0 < 0 ∨ (nI 12) ≤ x0 then some (.inr "java/lang/IndexOutOfBoundsException", μ) else hX11_first_11 F F x0 (-1) (-1) (nI 0) μ
set_option maxRecDepth 20000 in
set_option maxHeartbeats 4000000 in
theorem tX11_first {F : Nat} {x0 : Int32} {μ : zM} {ρ : (Int32 ⊕ String) × zM} (h : eX11_first F x0 μ = some ρ) : LX mX11_first 7 (4, 24) [zq 0 0, zi x0] μ (zoI ρ.1) ρ.2 := by
  unfold eX11_first at h
  refine LX.of (by decide +kernel) rfl (Nat.le_of_ble_eq_true rfl) ?_
  show zJ mX11_first 7 (4, 24) (0, 0) _ 0 [some (zq 0 0), some (zi x0), none, none, none, none] [] _
  refine z_iload dX11_first_0 rfl (z_callSX dX11_first_1 tX11_checkPacket (Nat.le_of_ble_eq_true rfl) cdX11_checkPacket naX11_checkPacket lkX11_142 stX11_checkPacket rfl rfl (Nat.le_of_ble_eq_true rfl) ⟨(Nat.le_of_ble_eq_true rfl), (Nat.le_of_ble_eq_true rfl)⟩ (fun r hr => ?_) (fun E hE => ?_))
  · obtain ⟨c1, rfl⟩ := zif_l hr
    have h := ziF h c1
    exact z_const dX11_first_4 (z_istore dX11_first_5 (Nat.le_of_ble_eq_true rfl) (z_const dX11_first_6 (z_istore dX11_first_7 (Nat.le_of_ble_eq_true rfl) (z_const dX11_first_8 (z_istore dX11_first_9 (Nat.le_of_ble_eq_true rfl) (z_mask [true, true, true, true, true, false] (sX11_first_11 h)))))))
  · obtain ⟨c1, rfl⟩ := zif_r hE
    have h := ziT h c1
    cases h; rfl
-- X11_flight
def eX11_flight (x0 x1 : Int32) (μ : zM) : Option ((Int32 ⊕ String) × zM) := if x0 < 0 then some (.inr "java/lang/IndexOutOfBoundsException", μ) else if x0 < ((μ 4) 7 0) then if x1 = (nI 0) then zchk (zin x0 64) (some (.inl ((μ 4) 45 (zn x0)), zg μ 4 (μ 4))) else if x1 = (nI 1) then zchk (zin x0 64) (some (.inl ((μ 4) 46 (zn x0)), zg μ 4 (μ 4))) else if x1 = (nI 2) then zchk (zin x0 64) (some (.inl ((μ 4) 47 (zn x0)), zg μ 4 (μ 4))) else if x1 = (nI 3) then zchk (zin x0 64) (some (.inl ((μ 4) 48 (zn x0)), zg μ 4 (μ 4))) else if x1 = (nI 4) then zchk (zin x0 64) (some (.inl ((μ 4) 49 (zn x0)), zg μ 4 (μ 4))) else if x1 = (nI 5) then zchk (zin x0 64) (some (.inl ((μ 4) 50 (zn x0)), zg μ 4 (μ 4))) else some (.inr "java/util/NoSuchElementException", zg μ 4 (μ 4)) else some (.inr "java/lang/IndexOutOfBoundsException", zg μ 4 (μ 4))
set_option maxRecDepth 20000 in
set_option maxHeartbeats 4000000 in
theorem tX11_flight {x0 x1 : Int32} {μ : zM} {ρ : (Int32 ⊕ String) × zM} (h : eX11_flight x0 x1 μ = some ρ) : LX mX11_flight 7 (4, 24) [zq 0 0, zi x0, zi x1] μ (zoI ρ.1) ρ.2 := by
  unfold eX11_flight at h
  refine LX.of (by decide +kernel) rfl (Nat.le_of_ble_eq_true rfl) ?_
  show zJ mX11_flight 7 (4, 24) (0, 0) _ 0 [some (zq 0 0), some (zi x0), some (zi x1), none] [] _
  refine z_aload dX11_flight_0 rfl (z_getR dX11_flight_1 fkX11_28 in0_0 sh0_0 rfl (z_getR dX11_flight_4 fkX11_212 in4_0 sh_0 rfl (z_astore dX11_flight_7 (Nat.le_of_ble_eq_true rfl) (z_iload dX11_flight_8 rfl (z_if_lt dX11_flight_9 (fun c1 => ?_) (fun c1 => ?_))))))
  · have h := ziT h (c1)
    exact z_throwS zx_IOB (i := 20) rfl rfl rfl dX11_flight_20.1 dX11_flight_23.1 dX11_flight_24.1 dX11_flight_26.1 dX11_flight_29.1 (Nat.le_of_ble_eq_true rfl) (Nat.le_of_ble_eq_true rfl) (Nat.le_of_ble_eq_true rfl) (Nat.le_of_ble_eq_true rfl) (by cases h; rfl)
  · have h := ziF h (c1)
    refine z_iload dX11_flight_12 rfl (z_aload dX11_flight_13 rfl (z_focus 4 (z_getI dX11_flight_14 fkX11_216 in4_7 sh_7 rfl (z_icmp_lt dX11_flight_17 (fun c2 => ?_) (fun c2 => ?_)))))
    · have h := ziT h (c2)
      refine z_iload dX11_flight_30 rfl ?_
      by_cases c3 : x1 = (nI 0)
      · have h := ziT h c3
        refine z_tabIn (off := 37) (tgt := 68) dX11_flight_31 (by rw [c3]; decide) (by rw [c3]; decide) (by rw [c3]; decide) (by decide) ?_
        obtain ⟨s4, h⟩ := zchk_some h
        exact z_aload dX11_flight_68 rfl (z_getR dX11_flight_69 fkX11_226 in4_7 sh_7 rfl (z_iload dX11_flight_72 rfl (z_iald dX11_flight_73 in4_45 sh_45 (zin_vp s4) (z_iretX dX11_flight_74 rfl (by cases h; rfl)))))
      have h := ziF h c3
      by_cases c5 : x1 = (nI 1)
      · have h := ziT h c5
        refine z_tabIn (off := 44) (tgt := 75) dX11_flight_31 (by rw [c5]; decide) (by rw [c5]; decide) (by rw [c5]; decide) (by decide) ?_
        obtain ⟨s6, h⟩ := zchk_some h
        exact z_aload dX11_flight_75 rfl (z_getR dX11_flight_76 fkX11_229 in4_7 sh_7 rfl (z_iload dX11_flight_79 rfl (z_iald dX11_flight_80 in4_46 sh_46 (zin_vp s6) (z_iretX dX11_flight_81 rfl (by cases h; rfl)))))
      have h := ziF h c5
      by_cases c7 : x1 = (nI 2)
      · have h := ziT h c7
        refine z_tabIn (off := 51) (tgt := 82) dX11_flight_31 (by rw [c7]; decide) (by rw [c7]; decide) (by rw [c7]; decide) (by decide) ?_
        obtain ⟨s8, h⟩ := zchk_some h
        exact z_aload dX11_flight_82 rfl (z_getR dX11_flight_83 fkX11_232 in4_7 sh_7 rfl (z_iload dX11_flight_86 rfl (z_iald dX11_flight_87 in4_47 sh_47 (zin_vp s8) (z_iretX dX11_flight_88 rfl (by cases h; rfl)))))
      have h := ziF h c7
      by_cases c9 : x1 = (nI 3)
      · have h := ziT h c9
        refine z_tabIn (off := 58) (tgt := 89) dX11_flight_31 (by rw [c9]; decide) (by rw [c9]; decide) (by rw [c9]; decide) (by decide) ?_
        obtain ⟨s10, h⟩ := zchk_some h
        exact z_aload dX11_flight_89 rfl (z_getR dX11_flight_90 fkX11_235 in4_7 sh_7 rfl (z_iload dX11_flight_93 rfl (z_iald dX11_flight_94 in4_48 sh_48 (zin_vp s10) (z_iretX dX11_flight_95 rfl (by cases h; rfl)))))
      have h := ziF h c9
      by_cases c11 : x1 = (nI 4)
      · have h := ziT h c11
        refine z_tabIn (off := 65) (tgt := 96) dX11_flight_31 (by rw [c11]; decide) (by rw [c11]; decide) (by rw [c11]; decide) (by decide) ?_
        obtain ⟨s12, h⟩ := zchk_some h
        exact z_aload dX11_flight_96 rfl (z_getR dX11_flight_97 fkX11_238 in4_7 sh_7 rfl (z_iload dX11_flight_100 rfl (z_iald dX11_flight_101 in4_49 sh_49 (zin_vp s12) (z_iretX dX11_flight_102 rfl (by cases h; rfl)))))
      have h := ziF h c11
      by_cases c13 : x1 = (nI 5)
      · have h := ziT h c13
        refine z_tabIn (off := 72) (tgt := 103) dX11_flight_31 (by rw [c13]; decide) (by rw [c13]; decide) (by rw [c13]; decide) (by decide) ?_
        obtain ⟨s14, h⟩ := zchk_some h
        exact z_aload dX11_flight_103 rfl (z_getR dX11_flight_104 fkX11_241 in4_7 sh_7 rfl (z_iload dX11_flight_107 rfl (z_iald dX11_flight_108 in4_50 sh_50 (zin_vp s14) (z_iretX dX11_flight_109 rfl (by cases h; rfl)))))
      have h := ziF h c13
      refine z_tabOut (tgt := 110) dX11_flight_31 (by decide) (zsw_out (zsw_s (zsw_s (zsw_s (zsw_s (zsw_s (zsw_s zsw_0 c3) c5) c7) c9) c11) c13) (by decide)) ?_
      exact z_throwN rfl (i := 21) rfl rfl rfl dX11_flight_110.1 dX11_flight_113.1 dX11_flight_114.1 dX11_flight_116.1 dX11_flight_119.1 (Nat.le_of_ble_eq_true rfl) (Nat.le_of_ble_eq_true rfl) (Nat.le_of_ble_eq_true rfl) (Nat.le_of_ble_eq_true rfl) (by cases h; rfl)
    · have h := ziF h (c2)
      exact z_throwS zx_IOB (i := 20) rfl rfl rfl dX11_flight_20.1 dX11_flight_23.1 dX11_flight_24.1 dX11_flight_26.1 dX11_flight_29.1 (Nat.le_of_ble_eq_true rfl) (Nat.le_of_ble_eq_true rfl) (Nat.le_of_ble_eq_true rfl) (Nat.le_of_ble_eq_true rfl) (by cases h; rfl)
-- X11_gap
def eX11_gap (x0 x1 x2 : Int32) (μ : zM) : Option ((Int32 ⊕ String) × zM) := if x0 < 0 ∨ (μ 4) 3 0 ≤ x0 then some (.inr "java/lang/IndexOutOfBoundsException", μ) else if x1 < 0 ∨ (nI 12) ≤ x1 then some (.inr "java/lang/IndexOutOfBoundsException", μ) else zbd (eX5_gapBehind ((x0 * (nI 12)) + x1) x2 (μ 4)) fun r4 => some (.inl r4, zg μ 4 (μ 4))
set_option maxRecDepth 20000 in
set_option maxHeartbeats 4000000 in
theorem tX11_gap {x0 x1 x2 : Int32} {μ : zM} {ρ : (Int32 ⊕ String) × zM} (h : eX11_gap x0 x1 x2 μ = some ρ) : LX mX11_gap 7 (4, 24) [zq 0 0, zi x0, zi x1, zi x2] μ (zoI ρ.1) ρ.2 := by
  unfold eX11_gap at h
  refine LX.of (by decide +kernel) rfl (Nat.le_of_ble_eq_true rfl) ?_
  show zJ mX11_gap 7 (4, 24) (0, 0) _ 0 [some (zq 0 0), some (zi x0), some (zi x1), some (zi x2)] [] _
  refine z_aload dX11_gap_0 rfl (z_iload dX11_gap_1 rfl (z_callVX dX11_gap_2 tX11_checkNode (Nat.le_of_ble_eq_true rfl) cdX11_checkNode naX11_checkNode lkX11_83 imX11_checkNode seX11_checkNode in0_0 sh0_0 rfl rfl rfl (Nat.le_of_ble_eq_true rfl) ⟨(Nat.le_of_ble_eq_true rfl), (Nat.le_of_ble_eq_true rfl)⟩ (fun r hr => ?_) (fun E hE => ?_)))
  · obtain ⟨c1, rfl⟩ := zif_l hr
    have h := ziF h c1
    refine z_iload dX11_gap_5 rfl (z_callSX dX11_gap_6 tX11_checkPacket (Nat.le_of_ble_eq_true rfl) cdX11_checkPacket naX11_checkPacket lkX11_142 stX11_checkPacket rfl rfl (Nat.le_of_ble_eq_true rfl) ⟨(Nat.le_of_ble_eq_true rfl), (Nat.le_of_ble_eq_true rfl)⟩ (fun r hr => ?_) (fun E hE => ?_))
    · obtain ⟨c2, rfl⟩ := zif_l hr
      have h := ziF h c2
      obtain ⟨r4, l3, h⟩ := zbd_some h
      exact z_aload dX11_gap_9 rfl (z_getR dX11_gap_10 fkX11_28 in0_0 sh0_0 rfl (z_getR dX11_gap_13 fkX11_145 in4_0 sh_0 rfl (z_iload dX11_gap_16 rfl (z_iload dX11_gap_17 rfl (z_callS dX11_gap_18 (tX11_cell) (Nat.le_of_ble_eq_true rfl) cdX11_cell naX11_cell lkX11_149 stX11_cell rfl rfl (Nat.le_of_ble_eq_true rfl) (z_iload dX11_gap_21 rfl (z_focus 4 (z_callV dX11_gap_22 (tX5_gapBehind (by decide) l3) (Nat.le_of_ble_eq_true rfl) cdX5_gapBehind naX5_gapBehind lkX11_180 imX5_gapBehind seX5_gapBehind in4_4 sh_4 rfl rfl rfl (Nat.le_of_ble_eq_true rfl) (z_iretX dX11_gap_25 rfl (by cases h; rfl))))))))))
    · obtain ⟨c2, rfl⟩ := zif_r hE
      have h := ziT h c2
      cases h; rfl
  · obtain ⟨c1, rfl⟩ := zif_r hE
    have h := ziT h c1
    cases h; rfl
-- X11_give
def eX11_give (x0 x1 x2 : Int32) (μ : zM) : Option ((Int32 ⊕ String) × zM) := if x0 < 0 ∨ (μ 4) 3 0 ≤ x0 then some (.inr "java/lang/IndexOutOfBoundsException", μ) else if x1 < 0 ∨ (nI 12) ≤ x1 then some (.inr "java/lang/IndexOutOfBoundsException", μ) else if x1 < ((μ 4) 0 9) then zbd (eX4_hasPacket x0 x1 (μ 4)) fun r5 => if r5 = x2 then some (.inl (nI 0), zg μ 4 (μ 4)) else if x2 = 0 then zbd (eX10_takeAway x0 x1 (μ 4)) fun y9 => some (.inl (nI 1), zg μ 4 y9) else zbd (eX10_handOver x0 x1 (μ 4)) fun y11 => some (.inl (nI 1), zg μ 4 y11) else some (.inr "java/lang/IllegalStateException", zg μ 4 (μ 4))
set_option maxRecDepth 20000 in
set_option maxHeartbeats 4000000 in
theorem tX11_give {x0 x1 x2 : Int32} {μ : zM} {ρ : (Int32 ⊕ String) × zM} (h : eX11_give x0 x1 x2 μ = some ρ) : LX mX11_give 7 (4, 24) [zq 0 0, zi x0, zi x1, zi x2] μ (zoI ρ.1) ρ.2 := by
  unfold eX11_give at h
  refine LX.of (by decide +kernel) rfl (Nat.le_of_ble_eq_true rfl) ?_
  show zJ mX11_give 7 (4, 24) (0, 0) _ 0 [some (zq 0 0), some (zi x0), some (zi x1), some (zi x2)] [] _
  refine z_aload dX11_give_0 rfl (z_iload dX11_give_1 rfl (z_callVX dX11_give_2 tX11_checkNode (Nat.le_of_ble_eq_true rfl) cdX11_checkNode naX11_checkNode lkX11_83 imX11_checkNode seX11_checkNode in0_0 sh0_0 rfl rfl rfl (Nat.le_of_ble_eq_true rfl) ⟨(Nat.le_of_ble_eq_true rfl), (Nat.le_of_ble_eq_true rfl)⟩ (fun r hr => ?_) (fun E hE => ?_)))
  · obtain ⟨c1, rfl⟩ := zif_l hr
    have h := ziF h c1
    refine z_iload dX11_give_5 rfl (z_callSX dX11_give_6 tX11_checkPacket (Nat.le_of_ble_eq_true rfl) cdX11_checkPacket naX11_checkPacket lkX11_142 stX11_checkPacket rfl rfl (Nat.le_of_ble_eq_true rfl) ⟨(Nat.le_of_ble_eq_true rfl), (Nat.le_of_ble_eq_true rfl)⟩ (fun r hr => ?_) (fun E hE => ?_))
    · obtain ⟨c2, rfl⟩ := zif_l hr
      have h := ziF h c2
      refine z_iload dX11_give_9 rfl (z_aload dX11_give_10 rfl (z_getR dX11_give_11 fkX11_28 in0_0 sh0_0 rfl (z_focus 4 (z_getI dX11_give_14 fkX11_263 in4_0 sh_0 rfl (z_icmp_lt dX11_give_17 (fun c3 => ?_) (fun c3 => ?_))))))
      · have h := ziT h (c3)
        obtain ⟨r5, l4, h⟩ := zbd_some h
        refine z_aload dX11_give_31 rfl (z_getR dX11_give_32 fkX11_28 in0_0 sh0_0 rfl (z_getR dX11_give_35 fkX11_86 in4_0 sh_0 rfl (z_iload dX11_give_38 rfl (z_iload dX11_give_39 rfl (z_callV dX11_give_40 (tX4_hasPacket (by decide) l4) (Nat.le_of_ble_eq_true rfl) cdX4_hasPacket naX4_hasPacket lkX11_276 imX4_hasPacket seX4_hasPacket in4_3 sh_3 rfl rfl rfl (Nat.le_of_ble_eq_true rfl) (z_iload dX11_give_43 rfl (z_icmp_ne dX11_give_44 (fun c6 => ?_) (fun c6 => ?_))))))))
        · have h := ziF h (c6)
          refine z_iload dX11_give_49 rfl (z_if_eq dX11_give_50 (fun c7 => ?_) (fun c7 => ?_))
          · have h := ziT h (c7)
            obtain ⟨y9, l8, h⟩ := zbd_some h
            exact z_aload dX11_give_65 rfl (z_getR dX11_give_66 fkX11_28 in0_0 sh0_0 rfl (z_iload dX11_give_69 rfl (z_iload dX11_give_70 rfl (z_callV dX11_give_71 (tX10_takeAway (by decide) l8) (Nat.le_of_ble_eq_true rfl) cdX10_takeAway naX10_takeAway lkX11_284 imX10_takeAway seX10_takeAway in4_0 sh_0 rfl rfl rfl (Nat.le_of_ble_eq_true rfl) (z_const dX11_give_74 (z_zretX dX11_give_75 rfl rfl (by cases h; rfl)))))))
          · have h := ziF h (c7)
            obtain ⟨y11, l10, h⟩ := zbd_some h
            exact z_aload dX11_give_53 rfl (z_getR dX11_give_54 fkX11_28 in0_0 sh0_0 rfl (z_iload dX11_give_57 rfl (z_iload dX11_give_58 rfl (z_callV dX11_give_59 (tX10_handOver (by decide) l10) (Nat.le_of_ble_eq_true rfl) cdX10_handOver naX10_handOver lkX11_280 imX10_handOver seX10_handOver in4_0 sh_0 rfl rfl rfl (Nat.le_of_ble_eq_true rfl) (z_goto dX11_give_62 (z_const dX11_give_74 (z_zretX dX11_give_75 rfl rfl (by cases h; rfl))))))))
        · have h := ziT h (c6)
          exact z_const dX11_give_47 (z_zretX dX11_give_48 rfl rfl (by cases h; rfl))
      · have h := ziF h (c3)
        exact z_throwSW zx_ISE (i := 25) rfl rfl rfl dX11_give_20.1 dX11_give_23.1 dX11_give_24.1 dX11_give_27.1 dX11_give_30.1 (Nat.le_of_ble_eq_true rfl) (Nat.le_of_ble_eq_true rfl) (Nat.le_of_ble_eq_true rfl) (Nat.le_of_ble_eq_true rfl) (by cases h; rfl)
    · obtain ⟨c2, rfl⟩ := zif_r hE
      have h := ziT h c2
      cases h; rfl
  · obtain ⟨c1, rfl⟩ := zif_r hE
    have h := ziT h c1
    cases h; rfl
-- X11_giver
def hX11_giver_62 (F : Nat) : Nat → Int32 → Int32 → Int32 → Int32 → Int32 → zM → Option ((Int32 ⊕ String) × zM)
  | 0, _, _, _, _, _, _ => none
  | n + 1, a2, a3, a5, a6, a7, μ => if a3 ≤ a7 then some (.inl a5, μ) else zchk (zin ((a5 * (nI 12)) + a2) 72) (if ((μ 4) 32 (zn ((a5 * (nI 12)) + a2))) = (-1) then some (.inl (-1), zg μ 4 (μ 4)) else if ((a6 >>> (((μ 4) 32 (zn ((a5 * (nI 12)) + a2))) &&& 31)) &&& (nI 1)) = (nI 1) then some (.inl (-1), zg μ 4 (μ 4)) else zlet (a6 ||| ((nI 1) <<< (((μ 4) 32 (zn ((a5 * (nI 12)) + a2))) &&& 31))) fun v5 => (hX11_giver_62 F n) a2 a3 ((μ 4) 32 (zn ((a5 * (nI 12)) + a2))) v5 (a7 + (nI 1)) (zg μ 4 (μ 4)))
set_option maxRecDepth 20000 in
set_option maxHeartbeats 4000000 in
theorem sX11_giver_62 {F : Nat} : ∀ {n : Nat} {a2 a3 a5 a6 a7 : Int32} {μ : zM} {ρ : (Int32 ⊕ String) × zM}, hX11_giver_62 F n a2 a3 a5 a6 a7 μ = some ρ → zJ mX11_giver 7 (4, 24) (2, 12) (zQX (4, 24) (zoI ρ.1) ρ.2) 62 [none, none, some (zi a2), some (zi a3), some (zq 4 32), some (zi a5), some (zi a6), some (zi a7)] [] μ := by
  intro n
  induction n with
  | zero => intro a2 a3 a5 a6 a7 μ ρ h; exact nomatch (show (none : Option _) = some ρ from h)
  | succ n ih =>
    intro a2 a3 a5 a6 a7 μ ρ h
    have hK62 := @ih
    rw [hX11_giver_62] at h
    refine z_iload dX11_giver_62 rfl (z_iload dX11_giver_64 rfl (z_icmp_ge dX11_giver_65 (fun c1 => ?_) (fun c1 => ?_)))
    · have h := ziT h (c1)
      exact z_iload dX11_giver_112 rfl (z_iretX dX11_giver_114 rfl (by cases h; rfl))
    · have h := ziF h (c1)
      obtain ⟨s2, h⟩ := zchk_some h
      refine z_aload dX11_giver_68 rfl (z_iload dX11_giver_70 rfl (z_iload dX11_giver_72 rfl (z_callS dX11_giver_73 (tX11_cell) (Nat.le_of_ble_eq_true rfl) cdX11_cell naX11_cell lkX11_149 stX11_cell rfl rfl (Nat.le_of_ble_eq_true rfl) (z_focus 4 (z_iald dX11_giver_76 in4_32 sh_32 (zin_vp s2) (z_istore dX11_giver_77 (Nat.le_of_ble_eq_true rfl) (z_iload dX11_giver_79 rfl (z_const dX11_giver_81 (z_icmp_eq dX11_giver_82 (fun c3 => ?_) (fun c3 => ?_))))))))))
      · have h := ziT h (c3)
        exact z_const dX11_giver_95 (z_iretX dX11_giver_96 rfl (by cases h; rfl))
      · have h := ziF h (c3)
        refine z_iload dX11_giver_85 rfl (z_iload dX11_giver_87 rfl (z_callS dX11_giver_89 (tX11_isIn) (Nat.le_of_ble_eq_true rfl) cdX11_isIn naX11_isIn lkX11_337 stX11_isIn rfl rfl (Nat.le_of_ble_eq_true rfl) (z_if_eq dX11_giver_92 (fun c4 => ?_) (fun c4 => ?_))))
        · have h := ziF h (zB_0.mp c4)
          have h := zlet_h h
          exact z_iload dX11_giver_97 rfl (z_const dX11_giver_99 (z_iload dX11_giver_100 rfl (z_ishl dX11_giver_102 (z_ior dX11_giver_103 (z_istore dX11_giver_104 (Nat.le_of_ble_eq_true rfl) (z_iinc dX11_giver_106 (Nat.le_of_ble_eq_true rfl) rfl (z_goto dX11_giver_109 (z_mask [false, false, true, true, true, true, true, true] (hK62 h)))))))))
        · have h := ziT h (zB_n0.mp c4)
          exact z_const dX11_giver_95 (z_iretX dX11_giver_96 rfl (by cases h; rfl))
def eX11_giver (F : Nat) (x0 x1 x2 : Int32) (μ : zM) : Option ((Int32 ⊕ String) × zM) := if x0 < 0 ∨ (μ 4) 3 0 ≤ x0 then some (.inr "java/lang/IndexOutOfBoundsException", μ) else if x1 < 0 ∨ (nI 12) ≤ x1 then some (.inr "java/lang/IndexOutOfBoundsException", μ) else zchk (zin ((x0 * (nI 12)) + x1) 72) (if x2 < 0 then some (.inl (-1), zg μ 4 (μ 4)) else if (nI 6) ≤ x2 then some (.inl (-1), zg μ 4 (μ 4)) else if ((μ 4) 32 (zn ((x0 * (nI 12)) + x1))) = (-1) then some (.inl (-1), zg μ 4 (μ 4)) else zlet (((nI 1) <<< (x0 &&& 31)) ||| ((nI 1) <<< (((μ 4) 32 (zn ((x0 * (nI 12)) + x1))) &&& 31))) fun v7 => hX11_giver_62 F F x1 x2 ((μ 4) 32 (zn ((x0 * (nI 12)) + x1))) v7 (nI 0) (zg μ 4 (μ 4)))
set_option maxRecDepth 20000 in
set_option maxHeartbeats 4000000 in
theorem tX11_giver {F : Nat} {x0 x1 x2 : Int32} {μ : zM} {ρ : (Int32 ⊕ String) × zM} (h : eX11_giver F x0 x1 x2 μ = some ρ) : LX mX11_giver 7 (4, 24) [zq 0 0, zi x0, zi x1, zi x2] μ (zoI ρ.1) ρ.2 := by
  unfold eX11_giver at h
  refine LX.of (by decide +kernel) rfl (Nat.le_of_ble_eq_true rfl) ?_
  show zJ mX11_giver 7 (4, 24) (0, 0) _ 0 [some (zq 0 0), some (zi x0), some (zi x1), some (zi x2), none, none, none, none] [] _
  refine z_aload dX11_giver_0 rfl (z_iload dX11_giver_1 rfl (z_callVX dX11_giver_2 tX11_checkNode (Nat.le_of_ble_eq_true rfl) cdX11_checkNode naX11_checkNode lkX11_83 imX11_checkNode seX11_checkNode in0_0 sh0_0 rfl rfl rfl (Nat.le_of_ble_eq_true rfl) ⟨(Nat.le_of_ble_eq_true rfl), (Nat.le_of_ble_eq_true rfl)⟩ (fun r hr => ?_) (fun E hE => ?_)))
  · obtain ⟨c1, rfl⟩ := zif_l hr
    have h := ziF h c1
    refine z_iload dX11_giver_5 rfl (z_callSX dX11_giver_6 tX11_checkPacket (Nat.le_of_ble_eq_true rfl) cdX11_checkPacket naX11_checkPacket lkX11_142 stX11_checkPacket rfl rfl (Nat.le_of_ble_eq_true rfl) ⟨(Nat.le_of_ble_eq_true rfl), (Nat.le_of_ble_eq_true rfl)⟩ (fun r hr => ?_) (fun E hE => ?_))
    · obtain ⟨c2, rfl⟩ := zif_l hr
      have h := ziF h c2
      obtain ⟨s3, h⟩ := zchk_some h
      refine z_aload dX11_giver_9 rfl (z_getR dX11_giver_10 fkX11_28 in0_0 sh0_0 rfl (z_getR dX11_giver_13 fkX11_145 in4_0 sh_0 rfl (z_getR dX11_giver_16 fkX11_336 in4_4 sh_4 rfl (z_astore dX11_giver_19 (Nat.le_of_ble_eq_true rfl) (z_aload dX11_giver_21 rfl (z_iload dX11_giver_23 rfl (z_iload dX11_giver_24 rfl (z_callS dX11_giver_25 (tX11_cell) (Nat.le_of_ble_eq_true rfl) cdX11_cell naX11_cell lkX11_149 stX11_cell rfl rfl (Nat.le_of_ble_eq_true rfl) (z_focus 4 (z_iald dX11_giver_28 in4_32 sh_32 (zin_vp s3) (z_istore dX11_giver_29 (Nat.le_of_ble_eq_true rfl) ?_)))))))))))
      refine z_iload dX11_giver_31 rfl (z_if_lt dX11_giver_32 (fun c4 => ?_) (fun c4 => ?_))
      · have h := ziT h (c4)
        exact z_const dX11_giver_47 (z_iretX dX11_giver_48 rfl (by cases h; rfl))
      · have h := ziF h (c4)
        refine z_iload dX11_giver_35 rfl (z_const dX11_giver_36 (z_icmp_ge dX11_giver_38 (fun c5 => ?_) (fun c5 => ?_)))
        · have h := ziT h (c5)
          exact z_const dX11_giver_47 (z_iretX dX11_giver_48 rfl (by cases h; rfl))
        · have h := ziF h (c5)
          refine z_iload dX11_giver_41 rfl (z_const dX11_giver_43 (z_icmp_ne dX11_giver_44 (fun c6 => ?_) (fun c6 => ?_)))
          · have h := ziF h (c6)
            have h := zlet_h h
            exact z_const dX11_giver_49 (z_iload dX11_giver_50 rfl (z_ishl dX11_giver_51 (z_const dX11_giver_52 (z_iload dX11_giver_53 rfl (z_ishl dX11_giver_55 (z_ior dX11_giver_56 (z_istore dX11_giver_57 (Nat.le_of_ble_eq_true rfl) (z_const dX11_giver_59 (z_istore dX11_giver_60 (Nat.le_of_ble_eq_true rfl) (z_mask [false, false, true, true, true, true, true, true] (sX11_giver_62 h)))))))))))
          · have h := ziT h (c6)
            exact z_const dX11_giver_47 (z_iretX dX11_giver_48 rfl (by cases h; rfl))
    · obtain ⟨c2, rfl⟩ := zif_r hE
      have h := ziT h c2
      cases h; rfl
  · obtain ⟨c1, rfl⟩ := zif_r hE
    have h := ziT h c1
    cases h; rfl
-- X11_guard
def eX11_guard (F : Nat) (x0 x1 : Int32) (μ : zM) : Option ((Int32 ⊕ String) × zM) := if x0 < 0 ∨ (μ 4) 3 0 ≤ x0 then some (.inr "java/lang/IndexOutOfBoundsException", μ) else if x1 < 0 ∨ (nI 12) ≤ x1 then some (.inr "java/lang/IndexOutOfBoundsException", μ) else zbd (eX4_holdersOf F x1 (μ 4)) fun r4 => zbd (eX2_fewestAround F x0 r4 (μ 4)) fun r6 => some (.inl r6, zg μ 4 (μ 4))
set_option maxRecDepth 20000 in
set_option maxHeartbeats 4000000 in
theorem tX11_guard {F : Nat} {x0 x1 : Int32} {μ : zM} {ρ : (Int32 ⊕ String) × zM} (h : eX11_guard F x0 x1 μ = some ρ) : LX mX11_guard 7 (4, 24) [zq 0 0, zi x0, zi x1] μ (zoI ρ.1) ρ.2 := by
  unfold eX11_guard at h
  refine LX.of (by decide +kernel) rfl (Nat.le_of_ble_eq_true rfl) ?_
  show zJ mX11_guard 7 (4, 24) (0, 0) _ 0 [some (zq 0 0), some (zi x0), some (zi x1)] [] _
  refine z_aload dX11_guard_0 rfl (z_iload dX11_guard_1 rfl (z_callVX dX11_guard_2 tX11_checkNode (Nat.le_of_ble_eq_true rfl) cdX11_checkNode naX11_checkNode lkX11_83 imX11_checkNode seX11_checkNode in0_0 sh0_0 rfl rfl rfl (Nat.le_of_ble_eq_true rfl) ⟨(Nat.le_of_ble_eq_true rfl), (Nat.le_of_ble_eq_true rfl)⟩ (fun r hr => ?_) (fun E hE => ?_)))
  · obtain ⟨c1, rfl⟩ := zif_l hr
    have h := ziF h c1
    refine z_iload dX11_guard_5 rfl (z_callSX dX11_guard_6 tX11_checkPacket (Nat.le_of_ble_eq_true rfl) cdX11_checkPacket naX11_checkPacket lkX11_142 stX11_checkPacket rfl rfl (Nat.le_of_ble_eq_true rfl) ⟨(Nat.le_of_ble_eq_true rfl), (Nat.le_of_ble_eq_true rfl)⟩ (fun r hr => ?_) (fun E hE => ?_))
    · obtain ⟨c2, rfl⟩ := zif_l hr
      have h := ziF h c2
      obtain ⟨r4, l3, h⟩ := zbd_some h
      obtain ⟨r6, l5, h⟩ := zbd_some h
      exact z_aload dX11_guard_9 rfl (z_getR dX11_guard_10 fkX11_28 in0_0 sh0_0 rfl (z_getR dX11_guard_13 fkX11_186 in4_0 sh_0 rfl (z_iload dX11_guard_16 rfl (z_aload dX11_guard_17 rfl (z_getR dX11_guard_18 fkX11_28 in0_0 sh0_0 rfl (z_getR dX11_guard_21 fkX11_86 in4_0 sh_0 rfl (z_iload dX11_guard_24 rfl (z_focus 4 (z_callV dX11_guard_25 (tX4_holdersOf (by decide) l3) (Nat.le_of_ble_eq_true rfl) cdX4_holdersOf naX4_holdersOf lkX11_305 imX4_holdersOf seX4_holdersOf in4_3 sh_3 rfl rfl rfl (Nat.le_of_ble_eq_true rfl) (z_callV dX11_guard_28 (tX2_fewestAround (by decide) l5) (Nat.le_of_ble_eq_true rfl) cdX2_fewestAround naX2_fewestAround lkX11_353 imX2_fewestAround seX2_fewestAround in4_5 sh_5 rfl rfl rfl (Nat.le_of_ble_eq_true rfl) (z_iretX dX11_guard_31 rfl (by cases h; rfl))))))))))))
    · obtain ⟨c2, rfl⟩ := zif_r hE
      have h := ziT h c2
      cases h; rfl
  · obtain ⟨c1, rfl⟩ := zif_r hE
    have h := ziT h c1
    cases h; rfl
-- X11_holders
def eX11_holders (F : Nat) (x0 : Int32) (μ : zM) : Option ((Int32 ⊕ String) × zM) := if x0 < 0 ∨ (nI 12) ≤ x0 then some (.inr "java/lang/IndexOutOfBoundsException", μ) else zbd (eX4_holdersOf F x0 (μ 4)) fun r3 => some (.inl r3, zg μ 4 (μ 4))
set_option maxRecDepth 20000 in
set_option maxHeartbeats 4000000 in
theorem tX11_holders {F : Nat} {x0 : Int32} {μ : zM} {ρ : (Int32 ⊕ String) × zM} (h : eX11_holders F x0 μ = some ρ) : LX mX11_holders 7 (4, 24) [zq 0 0, zi x0] μ (zoI ρ.1) ρ.2 := by
  unfold eX11_holders at h
  refine LX.of (by decide +kernel) rfl (Nat.le_of_ble_eq_true rfl) ?_
  show zJ mX11_holders 7 (4, 24) (0, 0) _ 0 [some (zq 0 0), some (zi x0)] [] _
  refine z_iload dX11_holders_0 rfl (z_callSX dX11_holders_1 tX11_checkPacket (Nat.le_of_ble_eq_true rfl) cdX11_checkPacket naX11_checkPacket lkX11_142 stX11_checkPacket rfl rfl (Nat.le_of_ble_eq_true rfl) ⟨(Nat.le_of_ble_eq_true rfl), (Nat.le_of_ble_eq_true rfl)⟩ (fun r hr => ?_) (fun E hE => ?_))
  · obtain ⟨c1, rfl⟩ := zif_l hr
    have h := ziF h c1
    obtain ⟨r3, l2, h⟩ := zbd_some h
    exact z_aload dX11_holders_4 rfl (z_getR dX11_holders_5 fkX11_28 in0_0 sh0_0 rfl (z_getR dX11_holders_8 fkX11_86 in4_0 sh_0 rfl (z_iload dX11_holders_11 rfl (z_focus 4 (z_callV dX11_holders_12 (tX4_holdersOf (by decide) l2) (Nat.le_of_ble_eq_true rfl) cdX4_holdersOf naX4_holdersOf lkX11_305 imX4_holdersOf seX4_holdersOf in4_3 sh_3 rfl rfl rfl (Nat.le_of_ble_eq_true rfl) (z_iretX dX11_holders_15 rfl (by cases h; rfl)))))))
  · obtain ⟨c1, rfl⟩ := zif_r hE
    have h := ziT h c1
    cases h; rfl
-- X11_link
def eX11_link (x0 x1 : Int32) (μ : zM) : Option ((Int32 ⊕ String) × zM) := if x0 < 0 ∨ (μ 4) 5 0 ≤ x0 then some (.inr "java/lang/IndexOutOfBoundsException", μ) else if x1 = (nI 0) then zchk (zin x0 10) (some (.inl ((μ 4) 34 (zn x0)), zg μ 4 (μ 4))) else if x1 = (nI 1) then zchk (zin x0 10) (some (.inl ((μ 4) 35 (zn x0)), zg μ 4 (μ 4))) else if x1 = (nI 2) then zchk (zin x0 10) (some (.inl ((μ 4) 36 (zn x0)), zg μ 4 (μ 4))) else if x1 = (nI 3) then zchk (zin x0 10) (some (.inl ((μ 4) 37 (zn x0)), zg μ 4 (μ 4))) else if x1 = (nI 4) then if ((((μ 4) 5 1) >>> (x0 &&& 31)) &&& (nI 1)) = (nI 1) then some (.inl (nI 1), zg μ 4 (μ 4)) else some (.inl (nI 0), zg μ 4 (μ 4)) else if x1 = (nI 5) then zchk (zin x0 10) (some (.inl ((μ 4) 38 (zn x0)), zg μ 4 (μ 4))) else some (.inr "java/util/NoSuchElementException", μ)
set_option maxRecDepth 20000 in
set_option maxHeartbeats 4000000 in
theorem tX11_link {x0 x1 : Int32} {μ : zM} {ρ : (Int32 ⊕ String) × zM} (h : eX11_link x0 x1 μ = some ρ) : LX mX11_link 7 (4, 24) [zq 0 0, zi x0, zi x1] μ (zoI ρ.1) ρ.2 := by
  unfold eX11_link at h
  refine LX.of (by decide +kernel) rfl (Nat.le_of_ble_eq_true rfl) ?_
  show zJ mX11_link 7 (4, 24) (0, 0) _ 0 [some (zq 0 0), some (zi x0), some (zi x1), none] [] _
  refine z_aload dX11_link_0 rfl (z_iload dX11_link_1 rfl (z_callVX dX11_link_2 tX11_checkLink (Nat.le_of_ble_eq_true rfl) cdX11_checkLink naX11_checkLink lkX11_183 imX11_checkLink seX11_checkLink in0_0 sh0_0 rfl rfl rfl (Nat.le_of_ble_eq_true rfl) ⟨(Nat.le_of_ble_eq_true rfl), (Nat.le_of_ble_eq_true rfl)⟩ (fun r hr => ?_) (fun E hE => ?_)))
  · obtain ⟨c1, rfl⟩ := zif_l hr
    have h := ziF h c1
    refine z_aload dX11_link_5 rfl (z_getR dX11_link_6 fkX11_28 in0_0 sh0_0 rfl (z_getR dX11_link_9 fkX11_186 in4_0 sh_0 rfl (z_astore dX11_link_12 (Nat.le_of_ble_eq_true rfl) (z_iload dX11_link_13 rfl ?_))))
    by_cases c2 : x1 = (nI 0)
    · have h := ziT h c2
      refine z_tabIn (off := 38) (tgt := 52) dX11_link_14 (by rw [c2]; decide) (by rw [c2]; decide) (by rw [c2]; decide) (by decide) ?_
      obtain ⟨s3, h⟩ := zchk_some h
      exact z_aload dX11_link_52 rfl (z_getR dX11_link_53 fkX11_190 in4_5 sh_5 rfl (z_iload dX11_link_56 rfl (z_focus 4 (z_iald dX11_link_57 in4_34 sh_34 (zin_vp s3) (z_iretX dX11_link_58 rfl (by cases h; rfl))))))
    have h := ziF h c2
    by_cases c4 : x1 = (nI 1)
    · have h := ziT h c4
      refine z_tabIn (off := 45) (tgt := 59) dX11_link_14 (by rw [c4]; decide) (by rw [c4]; decide) (by rw [c4]; decide) (by decide) ?_
      obtain ⟨s5, h⟩ := zchk_some h
      exact z_aload dX11_link_59 rfl (z_getR dX11_link_60 fkX11_195 in4_5 sh_5 rfl (z_iload dX11_link_63 rfl (z_focus 4 (z_iald dX11_link_64 in4_35 sh_35 (zin_vp s5) (z_iretX dX11_link_65 rfl (by cases h; rfl))))))
    have h := ziF h c4
    by_cases c6 : x1 = (nI 2)
    · have h := ziT h c6
      refine z_tabIn (off := 52) (tgt := 66) dX11_link_14 (by rw [c6]; decide) (by rw [c6]; decide) (by rw [c6]; decide) (by decide) ?_
      obtain ⟨s7, h⟩ := zchk_some h
      exact z_aload dX11_link_66 rfl (z_getR dX11_link_67 fkX11_198 in4_5 sh_5 rfl (z_iload dX11_link_70 rfl (z_focus 4 (z_iald dX11_link_71 in4_36 sh_36 (zin_vp s7) (z_iretX dX11_link_72 rfl (by cases h; rfl))))))
    have h := ziF h c6
    by_cases c8 : x1 = (nI 3)
    · have h := ziT h c8
      refine z_tabIn (off := 59) (tgt := 73) dX11_link_14 (by rw [c8]; decide) (by rw [c8]; decide) (by rw [c8]; decide) (by decide) ?_
      obtain ⟨s9, h⟩ := zchk_some h
      exact z_aload dX11_link_73 rfl (z_getR dX11_link_74 fkX11_201 in4_5 sh_5 rfl (z_iload dX11_link_77 rfl (z_focus 4 (z_iald dX11_link_78 in4_37 sh_37 (zin_vp s9) (z_iretX dX11_link_79 rfl (by cases h; rfl))))))
    have h := ziF h c8
    by_cases c10 : x1 = (nI 4)
    · have h := ziT h c10
      refine z_tabIn (off := 66) (tgt := 80) dX11_link_14 (by rw [c10]; decide) (by rw [c10]; decide) (by rw [c10]; decide) (by decide) ?_
      refine z_aload dX11_link_80 rfl (z_iload dX11_link_81 rfl (z_focus 4 (z_callV dX11_link_82 (tX2_isCut (by decide)) (Nat.le_of_ble_eq_true rfl) cdX2_isCut naX2_isCut lkX11_204 imX2_isCut seX2_isCut in4_5 sh_5 rfl rfl rfl (Nat.le_of_ble_eq_true rfl) (z_if_eq dX11_link_85 (fun c11 => ?_) (fun c11 => ?_)))))
      · have h := ziF h (zB_0.mp c11)
        exact z_const dX11_link_92 (z_iretX dX11_link_93 rfl (by cases h; rfl))
      · have h := ziT h (zB_n0.mp c11)
        exact z_const dX11_link_88 (z_goto dX11_link_89 (z_iretX dX11_link_93 rfl (by cases h; rfl)))
    have h := ziF h c10
    by_cases c12 : x1 = (nI 5)
    · have h := ziT h c12
      refine z_tabIn (off := 80) (tgt := 94) dX11_link_14 (by rw [c12]; decide) (by rw [c12]; decide) (by rw [c12]; decide) (by decide) ?_
      obtain ⟨s13, h⟩ := zchk_some h
      exact z_aload dX11_link_94 rfl (z_getR dX11_link_95 fkX11_207 in4_5 sh_5 rfl (z_iload dX11_link_98 rfl (z_focus 4 (z_iald dX11_link_99 in4_38 sh_38 (zin_vp s13) (z_iretX dX11_link_100 rfl (by cases h; rfl))))))
    have h := ziF h c12
    refine z_tabOut (tgt := 101) dX11_link_14 (by decide) (zsw_out (zsw_s (zsw_s (zsw_s (zsw_s (zsw_s (zsw_s zsw_0 c2) c4) c6) c8) c10) c12) (by decide)) ?_
    exact z_throwN rfl (i := 19) rfl rfl rfl dX11_link_101.1 dX11_link_104.1 dX11_link_105.1 dX11_link_107.1 dX11_link_110.1 (Nat.le_of_ble_eq_true rfl) (Nat.le_of_ble_eq_true rfl) (Nat.le_of_ble_eq_true rfl) (Nat.le_of_ble_eq_true rfl) (by cases h; rfl)
  · obtain ⟨c1, rfl⟩ := zif_r hE
    have h := ziT h c1
    cases h; rfl
-- X11_log
def eX11_log (x0 x1 : Int32) (μ : zM) : Option ((Int32 ⊕ String) × zM) := if x1 < 0 then some (.inr "java/util/NoSuchElementException", μ) else if x1 < (nI 4) then zbd (eX3_told x0 x1 (μ 4)) fun r4 => some (.inl r4, zg μ 4 (μ 4)) else some (.inr "java/util/NoSuchElementException", μ)
set_option maxRecDepth 20000 in
set_option maxHeartbeats 4000000 in
theorem tX11_log {x0 x1 : Int32} {μ : zM} {ρ : (Int32 ⊕ String) × zM} (h : eX11_log x0 x1 μ = some ρ) : LX mX11_log 7 (4, 24) [zq 0 0, zi x0, zi x1] μ (zoI ρ.1) ρ.2 := by
  unfold eX11_log at h
  refine LX.of (by decide +kernel) rfl (Nat.le_of_ble_eq_true rfl) ?_
  show zJ mX11_log 7 (4, 24) (0, 0) _ 0 [some (zq 0 0), some (zi x0), some (zi x1)] [] _
  refine z_iload dX11_log_0 rfl (z_if_lt dX11_log_1 (fun c1 => ?_) (fun c1 => ?_))
  · have h := ziT h (c1)
    exact z_throwNW rfl (i := 29) rfl rfl rfl dX11_log_9.1 dX11_log_12.1 dX11_log_13.1 dX11_log_16.1 dX11_log_19.1 (Nat.le_of_ble_eq_true rfl) (Nat.le_of_ble_eq_true rfl) (Nat.le_of_ble_eq_true rfl) (Nat.le_of_ble_eq_true rfl) (by cases h; rfl)
  · have h := ziF h (c1)
    refine z_iload dX11_log_4 rfl (z_const dX11_log_5 (z_icmp_lt dX11_log_6 (fun c2 => ?_) (fun c2 => ?_)))
    · have h := ziT h (c2)
      obtain ⟨r4, l3, h⟩ := zbd_some h
      exact z_aload dX11_log_20 rfl (z_getR dX11_log_21 fkX11_28 in0_0 sh0_0 rfl (z_getR dX11_log_24 fkX11_371 in4_0 sh_0 rfl (z_iload dX11_log_27 rfl (z_iload dX11_log_28 rfl (z_focus 4 (z_callV dX11_log_29 (tX3_told (by decide) l3) (Nat.le_of_ble_eq_true rfl) cdX3_told naX3_told lkX11_375 imX3_told seX3_told in4_8 sh_8 rfl rfl rfl (Nat.le_of_ble_eq_true rfl) (z_iretX dX11_log_32 rfl (by cases h; rfl))))))))
    · have h := ziF h (c2)
      exact z_throwNW rfl (i := 29) rfl rfl rfl dX11_log_9.1 dX11_log_12.1 dX11_log_13.1 dX11_log_16.1 dX11_log_19.1 (Nat.le_of_ble_eq_true rfl) (Nat.le_of_ble_eq_true rfl) (Nat.le_of_ble_eq_true rfl) (Nat.le_of_ble_eq_true rfl) (by cases h; rfl)
-- X11_loss
def eX11_loss (x0 x1 : Int32) (μ : zM) : Option ((Int32 ⊕ String) × zM) := if x0 < 0 ∨ (μ 4) 5 0 ≤ x0 then some (.inr "java/lang/IndexOutOfBoundsException", μ) else if x1 < 0 then some (.inr "java/lang/IllegalArgumentException", μ) else if x1 ≤ (nI 100) then zchk (zin x0 10) (zchk (zin x0 10) (some (.inl ((μ 4) 37 (zn x0)), zg μ 4 (zw (μ 4) 37 (zn x0) x1)))) else some (.inr "java/lang/IllegalArgumentException", μ)
set_option maxRecDepth 20000 in
set_option maxHeartbeats 4000000 in
theorem tX11_loss {x0 x1 : Int32} {μ : zM} {ρ : (Int32 ⊕ String) × zM} (h : eX11_loss x0 x1 μ = some ρ) : LX mX11_loss 7 (4, 24) [zq 0 0, zi x0, zi x1] μ (zoI ρ.1) ρ.2 := by
  unfold eX11_loss at h
  refine LX.of (by decide +kernel) rfl (Nat.le_of_ble_eq_true rfl) ?_
  show zJ mX11_loss 7 (4, 24) (0, 0) _ 0 [some (zq 0 0), some (zi x0), some (zi x1), none] [] _
  refine z_aload dX11_loss_0 rfl (z_iload dX11_loss_1 rfl (z_callVX dX11_loss_2 tX11_checkLink (Nat.le_of_ble_eq_true rfl) cdX11_checkLink naX11_checkLink lkX11_183 imX11_checkLink seX11_checkLink in0_0 sh0_0 rfl rfl rfl (Nat.le_of_ble_eq_true rfl) ⟨(Nat.le_of_ble_eq_true rfl), (Nat.le_of_ble_eq_true rfl)⟩ (fun r hr => ?_) (fun E hE => ?_)))
  · obtain ⟨c1, rfl⟩ := zif_l hr
    have h := ziF h c1
    refine z_iload dX11_loss_5 rfl (z_if_lt dX11_loss_6 (fun c2 => ?_) (fun c2 => ?_))
    · have h := ziT h (c2)
      exact z_throwSW zx_IAE (i := 24) rfl rfl rfl dX11_loss_15.1 dX11_loss_18.1 dX11_loss_19.1 dX11_loss_22.1 dX11_loss_25.1 (Nat.le_of_ble_eq_true rfl) (Nat.le_of_ble_eq_true rfl) (Nat.le_of_ble_eq_true rfl) (Nat.le_of_ble_eq_true rfl) (by cases h; rfl)
    · have h := ziF h (c2)
      refine z_iload dX11_loss_9 rfl (z_const dX11_loss_10 (z_icmp_le dX11_loss_12 (fun c3 => ?_) (fun c3 => ?_)))
      · have h := ziT h (c3)
        obtain ⟨s4, h⟩ := zchk_some h
        refine z_aload dX11_loss_26 rfl (z_getR dX11_loss_27 fkX11_28 in0_0 sh0_0 rfl (z_getR dX11_loss_30 fkX11_186 in4_0 sh_0 rfl (z_getR dX11_loss_33 fkX11_201 in4_5 sh_5 rfl (z_iload dX11_loss_36 rfl (z_focus 4 (z_iald dX11_loss_37 in4_37 sh_37 (zin_vp s4) (z_istore dX11_loss_38 (Nat.le_of_ble_eq_true rfl) (z_aload dX11_loss_39 rfl (z_getR dX11_loss_40 fkX11_28 in0_0 sh0_0 rfl (z_getR dX11_loss_43 fkX11_186 in4_0 sh_0 rfl (z_getR dX11_loss_46 fkX11_201 in4_5 sh_5 rfl ?_)))))))))))
        obtain ⟨s5, h⟩ := zchk_some h
        exact z_iload dX11_loss_49 rfl (z_iload dX11_loss_50 rfl (z_iast dX11_loss_51 in4_37 sh_37 (zin_vp s5) (z_iload dX11_loss_52 rfl (z_iretX dX11_loss_53 rfl (by cases h; rfl)))))
      · have h := ziF h (c3)
        exact z_throwSW zx_IAE (i := 24) rfl rfl rfl dX11_loss_15.1 dX11_loss_18.1 dX11_loss_19.1 dX11_loss_22.1 dX11_loss_25.1 (Nat.le_of_ble_eq_true rfl) (Nat.le_of_ble_eq_true rfl) (Nat.le_of_ble_eq_true rfl) (Nat.le_of_ble_eq_true rfl) (by cases h; rfl)
  · obtain ⟨c1, rfl⟩ := zif_r hE
    have h := ziT h c1
    cases h; rfl
-- X11_near
def eX11_near (F : Nat) (x0 x1 : Int32) (μ : zM) : Option ((Int32 ⊕ String) × zM) := if x0 < 0 ∨ (μ 4) 3 0 ≤ x0 then some (.inr "java/lang/IndexOutOfBoundsException", μ) else if x1 < 0 ∨ (nI 12) ≤ x1 then some (.inr "java/lang/IndexOutOfBoundsException", μ) else zbd (eX4_holdersOf F x1 (μ 4)) fun r4 => zbd (eX9_nearest F x0 r4 (μ 4)) fun r6 => some (.inl r6, zg μ 4 (μ 4))
set_option maxRecDepth 20000 in
set_option maxHeartbeats 4000000 in
theorem tX11_near {F : Nat} {x0 x1 : Int32} {μ : zM} {ρ : (Int32 ⊕ String) × zM} (h : eX11_near F x0 x1 μ = some ρ) : LX mX11_near 7 (4, 24) [zq 0 0, zi x0, zi x1] μ (zoI ρ.1) ρ.2 := by
  unfold eX11_near at h
  refine LX.of (by decide +kernel) rfl (Nat.le_of_ble_eq_true rfl) ?_
  show zJ mX11_near 7 (4, 24) (0, 0) _ 0 [some (zq 0 0), some (zi x0), some (zi x1)] [] _
  refine z_aload dX11_near_0 rfl (z_iload dX11_near_1 rfl (z_callVX dX11_near_2 tX11_checkNode (Nat.le_of_ble_eq_true rfl) cdX11_checkNode naX11_checkNode lkX11_83 imX11_checkNode seX11_checkNode in0_0 sh0_0 rfl rfl rfl (Nat.le_of_ble_eq_true rfl) ⟨(Nat.le_of_ble_eq_true rfl), (Nat.le_of_ble_eq_true rfl)⟩ (fun r hr => ?_) (fun E hE => ?_)))
  · obtain ⟨c1, rfl⟩ := zif_l hr
    have h := ziF h c1
    refine z_iload dX11_near_5 rfl (z_callSX dX11_near_6 tX11_checkPacket (Nat.le_of_ble_eq_true rfl) cdX11_checkPacket naX11_checkPacket lkX11_142 stX11_checkPacket rfl rfl (Nat.le_of_ble_eq_true rfl) ⟨(Nat.le_of_ble_eq_true rfl), (Nat.le_of_ble_eq_true rfl)⟩ (fun r hr => ?_) (fun E hE => ?_))
    · obtain ⟨c2, rfl⟩ := zif_l hr
      have h := ziF h c2
      obtain ⟨r4, l3, h⟩ := zbd_some h
      obtain ⟨r6, l5, h⟩ := zbd_some h
      exact z_aload dX11_near_9 rfl (z_getR dX11_near_10 fkX11_28 in0_0 sh0_0 rfl (z_getR dX11_near_13 fkX11_287 in4_0 sh_0 rfl (z_iload dX11_near_16 rfl (z_aload dX11_near_17 rfl (z_getR dX11_near_18 fkX11_28 in0_0 sh0_0 rfl (z_getR dX11_near_21 fkX11_86 in4_0 sh_0 rfl (z_iload dX11_near_24 rfl (z_focus 4 (z_callV dX11_near_25 (tX4_holdersOf (by decide) l3) (Nat.le_of_ble_eq_true rfl) cdX4_holdersOf naX4_holdersOf lkX11_305 imX4_holdersOf seX4_holdersOf in4_3 sh_3 rfl rfl rfl (Nat.le_of_ble_eq_true rfl) (z_callV dX11_near_28 (tX9_nearest (by decide) l5) (Nat.le_of_ble_eq_true rfl) cdX9_nearest naX9_nearest lkX11_308 imX9_nearest seX9_nearest in4_6 sh_6 rfl rfl rfl (Nat.le_of_ble_eq_true rfl) (z_iretX dX11_near_31 rfl (by cases h; rfl))))))))))))
    · obtain ⟨c2, rfl⟩ := zif_r hE
      have h := ziT h c2
      cases h; rfl
  · obtain ⟨c1, rfl⟩ := zif_r hE
    have h := ziT h c1
    cases h; rfl
-- X11_node
def eX11_node (x0 x1 : Int32) (μ : zM) : Option ((Int32 ⊕ String) × zM) := if x0 < 0 ∨ (μ 4) 3 0 ≤ x0 then some (.inr "java/lang/IndexOutOfBoundsException", μ) else if x1 = (nI 0) then if ((((μ 4) 3 1) >>> (x0 &&& 31)) &&& (nI 1)) = (nI 1) then some (.inl (nI 1), zg μ 4 (μ 4)) else some (.inl (nI 0), zg μ 4 (μ 4)) else if x1 = (nI 1) then zchk (zin x0 6) (some (.inl ((μ 4) 9 (zn x0)), zg μ 4 (μ 4))) else if x1 = (nI 2) then zchk (zin x0 6) (some (.inl ((μ 4) 10 (zn x0)), zg μ 4 (μ 4))) else if x1 = (nI 3) then zbd (eX4_missing x0 (μ 4)) fun r10 => some (.inl r10, zg μ 4 (μ 4)) else if x1 = (nI 4) then zchk (zin x0 6) (some (.inl ((μ 4) 11 (zn x0)), zg μ 4 (μ 4))) else if x1 = (nI 5) then zchk (zin x0 6) (some (.inl ((μ 4) 12 (zn x0)), zg μ 4 (μ 4))) else if x1 = (nI 6) then zchk (zin x0 6) (some (.inl ((μ 4) 13 (zn x0)), zg μ 4 (μ 4))) else if x1 = (nI 7) then zchk (zin x0 6) (some (.inl ((μ 4) 14 (zn x0)), zg μ 4 (μ 4))) else if x1 = (nI 8) then zchk (zin x0 6) (some (.inl ((μ 4) 15 (zn x0)), zg μ 4 (μ 4))) else if x1 = (nI 9) then zchk (zin x0 6) (some (.inl ((μ 4) 16 (zn x0)), zg μ 4 (μ 4))) else if x1 = (nI 10) then zchk (zin x0 6) (some (.inl ((μ 4) 17 (zn x0)), zg μ 4 (μ 4))) else some (.inr "java/util/NoSuchElementException", μ)
set_option maxRecDepth 20000 in
set_option maxHeartbeats 4000000 in
theorem tX11_node {x0 x1 : Int32} {μ : zM} {ρ : (Int32 ⊕ String) × zM} (h : eX11_node x0 x1 μ = some ρ) : LX mX11_node 7 (4, 24) [zq 0 0, zi x0, zi x1] μ (zoI ρ.1) ρ.2 := by
  unfold eX11_node at h
  refine LX.of (by decide +kernel) rfl (Nat.le_of_ble_eq_true rfl) ?_
  show zJ mX11_node 7 (4, 24) (0, 0) _ 0 [some (zq 0 0), some (zi x0), some (zi x1), none] [] _
  refine z_aload dX11_node_0 rfl (z_iload dX11_node_1 rfl (z_callVX dX11_node_2 tX11_checkNode (Nat.le_of_ble_eq_true rfl) cdX11_checkNode naX11_checkNode lkX11_83 imX11_checkNode seX11_checkNode in0_0 sh0_0 rfl rfl rfl (Nat.le_of_ble_eq_true rfl) ⟨(Nat.le_of_ble_eq_true rfl), (Nat.le_of_ble_eq_true rfl)⟩ (fun r hr => ?_) (fun E hE => ?_)))
  · obtain ⟨c1, rfl⟩ := zif_l hr
    have h := ziF h c1
    refine z_aload dX11_node_5 rfl (z_getR dX11_node_6 fkX11_28 in0_0 sh0_0 rfl (z_getR dX11_node_9 fkX11_86 in4_0 sh_0 rfl (z_astore dX11_node_12 (Nat.le_of_ble_eq_true rfl) (z_iload dX11_node_13 rfl ?_))))
    by_cases c2 : x1 = (nI 0)
    · have h := ziT h c2
      refine z_tabIn (off := 58) (tgt := 72) dX11_node_14 (by rw [c2]; decide) (by rw [c2]; decide) (by rw [c2]; decide) (by decide) ?_
      refine z_aload dX11_node_72 rfl (z_iload dX11_node_73 rfl (z_focus 4 (z_callV dX11_node_74 (tX4_isUp (by decide)) (Nat.le_of_ble_eq_true rfl) cdX4_isUp naX4_isUp lkX11_90 imX4_isUp seX4_isUp in4_3 sh_3 rfl rfl rfl (Nat.le_of_ble_eq_true rfl) (z_if_eq dX11_node_77 (fun c3 => ?_) (fun c3 => ?_)))))
      · have h := ziF h (zB_0.mp c3)
        exact z_const dX11_node_84 (z_iretX dX11_node_85 rfl (by cases h; rfl))
      · have h := ziT h (zB_n0.mp c3)
        exact z_const dX11_node_80 (z_goto dX11_node_81 (z_iretX dX11_node_85 rfl (by cases h; rfl)))
    have h := ziF h c2
    by_cases c4 : x1 = (nI 1)
    · have h := ziT h c4
      refine z_tabIn (off := 72) (tgt := 86) dX11_node_14 (by rw [c4]; decide) (by rw [c4]; decide) (by rw [c4]; decide) (by decide) ?_
      obtain ⟨s5, h⟩ := zchk_some h
      exact z_aload dX11_node_86 rfl (z_getR dX11_node_87 fkX11_96 in4_3 sh_3 rfl (z_iload dX11_node_90 rfl (z_focus 4 (z_iald dX11_node_91 in4_9 sh_9 (zin_vp s5) (z_iretX dX11_node_92 rfl (by cases h; rfl))))))
    have h := ziF h c4
    by_cases c6 : x1 = (nI 2)
    · have h := ziT h c6
      refine z_tabIn (off := 79) (tgt := 93) dX11_node_14 (by rw [c6]; decide) (by rw [c6]; decide) (by rw [c6]; decide) (by decide) ?_
      obtain ⟨s7, h⟩ := zchk_some h
      exact z_aload dX11_node_93 rfl (z_getR dX11_node_94 fkX11_100 in4_3 sh_3 rfl (z_iload dX11_node_97 rfl (z_focus 4 (z_iald dX11_node_98 in4_10 sh_10 (zin_vp s7) (z_iretX dX11_node_99 rfl (by cases h; rfl))))))
    have h := ziF h c6
    by_cases c8 : x1 = (nI 3)
    · have h := ziT h c8
      refine z_tabIn (off := 86) (tgt := 100) dX11_node_14 (by rw [c8]; decide) (by rw [c8]; decide) (by rw [c8]; decide) (by decide) ?_
      obtain ⟨r10, l9, h⟩ := zbd_some h
      exact z_aload dX11_node_100 rfl (z_iload dX11_node_101 rfl (z_focus 4 (z_callV dX11_node_102 (tX4_missing (by decide) l9) (Nat.le_of_ble_eq_true rfl) cdX4_missing naX4_missing lkX11_103 imX4_missing seX4_missing in4_3 sh_3 rfl rfl rfl (Nat.le_of_ble_eq_true rfl) (z_iretX dX11_node_105 rfl (by cases h; rfl)))))
    have h := ziF h c8
    by_cases c11 : x1 = (nI 4)
    · have h := ziT h c11
      refine z_tabIn (off := 92) (tgt := 106) dX11_node_14 (by rw [c11]; decide) (by rw [c11]; decide) (by rw [c11]; decide) (by decide) ?_
      obtain ⟨s12, h⟩ := zchk_some h
      exact z_aload dX11_node_106 rfl (z_getR dX11_node_107 fkX11_107 in4_3 sh_3 rfl (z_iload dX11_node_110 rfl (z_focus 4 (z_iald dX11_node_111 in4_11 sh_11 (zin_vp s12) (z_iretX dX11_node_112 rfl (by cases h; rfl))))))
    have h := ziF h c11
    by_cases c13 : x1 = (nI 5)
    · have h := ziT h c13
      refine z_tabIn (off := 99) (tgt := 113) dX11_node_14 (by rw [c13]; decide) (by rw [c13]; decide) (by rw [c13]; decide) (by decide) ?_
      obtain ⟨s14, h⟩ := zchk_some h
      exact z_aload dX11_node_113 rfl (z_getR dX11_node_114 fkX11_110 in4_3 sh_3 rfl (z_iload dX11_node_117 rfl (z_focus 4 (z_iald dX11_node_118 in4_12 sh_12 (zin_vp s14) (z_iretX dX11_node_119 rfl (by cases h; rfl))))))
    have h := ziF h c13
    by_cases c15 : x1 = (nI 6)
    · have h := ziT h c15
      refine z_tabIn (off := 106) (tgt := 120) dX11_node_14 (by rw [c15]; decide) (by rw [c15]; decide) (by rw [c15]; decide) (by decide) ?_
      obtain ⟨s16, h⟩ := zchk_some h
      exact z_aload dX11_node_120 rfl (z_getR dX11_node_121 fkX11_113 in4_3 sh_3 rfl (z_iload dX11_node_124 rfl (z_focus 4 (z_iald dX11_node_125 in4_13 sh_13 (zin_vp s16) (z_iretX dX11_node_126 rfl (by cases h; rfl))))))
    have h := ziF h c15
    by_cases c17 : x1 = (nI 7)
    · have h := ziT h c17
      refine z_tabIn (off := 113) (tgt := 127) dX11_node_14 (by rw [c17]; decide) (by rw [c17]; decide) (by rw [c17]; decide) (by decide) ?_
      obtain ⟨s18, h⟩ := zchk_some h
      exact z_aload dX11_node_127 rfl (z_getR dX11_node_128 fkX11_116 in4_3 sh_3 rfl (z_iload dX11_node_131 rfl (z_focus 4 (z_iald dX11_node_132 in4_14 sh_14 (zin_vp s18) (z_iretX dX11_node_133 rfl (by cases h; rfl))))))
    have h := ziF h c17
    by_cases c19 : x1 = (nI 8)
    · have h := ziT h c19
      refine z_tabIn (off := 120) (tgt := 134) dX11_node_14 (by rw [c19]; decide) (by rw [c19]; decide) (by rw [c19]; decide) (by decide) ?_
      obtain ⟨s20, h⟩ := zchk_some h
      exact z_aload dX11_node_134 rfl (z_getR dX11_node_135 fkX11_119 in4_3 sh_3 rfl (z_iload dX11_node_138 rfl (z_focus 4 (z_iald dX11_node_139 in4_15 sh_15 (zin_vp s20) (z_iretX dX11_node_140 rfl (by cases h; rfl))))))
    have h := ziF h c19
    by_cases c21 : x1 = (nI 9)
    · have h := ziT h c21
      refine z_tabIn (off := 127) (tgt := 141) dX11_node_14 (by rw [c21]; decide) (by rw [c21]; decide) (by rw [c21]; decide) (by decide) ?_
      obtain ⟨s22, h⟩ := zchk_some h
      exact z_aload dX11_node_141 rfl (z_getR dX11_node_142 fkX11_122 in4_3 sh_3 rfl (z_iload dX11_node_145 rfl (z_focus 4 (z_iald dX11_node_146 in4_16 sh_16 (zin_vp s22) (z_iretX dX11_node_147 rfl (by cases h; rfl))))))
    have h := ziF h c21
    by_cases c23 : x1 = (nI 10)
    · have h := ziT h c23
      refine z_tabIn (off := 134) (tgt := 148) dX11_node_14 (by rw [c23]; decide) (by rw [c23]; decide) (by rw [c23]; decide) (by decide) ?_
      obtain ⟨s24, h⟩ := zchk_some h
      exact z_aload dX11_node_148 rfl (z_getR dX11_node_149 fkX11_125 in4_3 sh_3 rfl (z_iload dX11_node_152 rfl (z_focus 4 (z_iald dX11_node_153 in4_17 sh_17 (zin_vp s24) (z_iretX dX11_node_154 rfl (by cases h; rfl))))))
    have h := ziF h c23
    refine z_tabOut (tgt := 155) dX11_node_14 (by decide) (zsw_out (zsw_s (zsw_s (zsw_s (zsw_s (zsw_s (zsw_s (zsw_s (zsw_s (zsw_s (zsw_s (zsw_s zsw_0 c2) c4) c6) c8) c11) c13) c15) c17) c19) c21) c23) (by decide)) ?_
    exact z_throwN rfl (i := 14) rfl rfl rfl dX11_node_155.1 dX11_node_158.1 dX11_node_159.1 dX11_node_161.1 dX11_node_164.1 (Nat.le_of_ble_eq_true rfl) (Nat.le_of_ble_eq_true rfl) (Nat.le_of_ble_eq_true rfl) (Nat.le_of_ble_eq_true rfl) (by cases h; rfl)
  · obtain ⟨c1, rfl⟩ := zif_r hE
    have h := ziT h c1
    cases h; rfl
-- X11_reach
def eX11_reach (F : Nat) (x0 x1 : Int32) (μ : zM) : Option ((Int32 ⊕ String) × zM) := if x0 < 0 ∨ (μ 4) 3 0 ≤ x0 then some (.inr "java/lang/IndexOutOfBoundsException", μ) else if x1 < 0 ∨ (nI 5) < x1 then some (.inr "java/lang/IllegalArgumentException", μ) else zbd (eX9_within F x0 x1 (μ 4)) fun r4 => some (.inl r4, zg μ 4 (μ 4))
set_option maxRecDepth 20000 in
set_option maxHeartbeats 4000000 in
theorem tX11_reach {F : Nat} {x0 x1 : Int32} {μ : zM} {ρ : (Int32 ⊕ String) × zM} (h : eX11_reach F x0 x1 μ = some ρ) : LX mX11_reach 7 (4, 24) [zq 0 0, zi x0, zi x1] μ (zoI ρ.1) ρ.2 := by
  unfold eX11_reach at h
  refine LX.of (by decide +kernel) rfl (Nat.le_of_ble_eq_true rfl) ?_
  show zJ mX11_reach 7 (4, 24) (0, 0) _ 0 [some (zq 0 0), some (zi x0), some (zi x1)] [] _
  refine z_aload dX11_reach_0 rfl (z_iload dX11_reach_1 rfl (z_callVX dX11_reach_2 tX11_checkNode (Nat.le_of_ble_eq_true rfl) cdX11_checkNode naX11_checkNode lkX11_83 imX11_checkNode seX11_checkNode in0_0 sh0_0 rfl rfl rfl (Nat.le_of_ble_eq_true rfl) ⟨(Nat.le_of_ble_eq_true rfl), (Nat.le_of_ble_eq_true rfl)⟩ (fun r hr => ?_) (fun E hE => ?_)))
  · obtain ⟨c1, rfl⟩ := zif_l hr
    have h := ziF h c1
    refine z_iload dX11_reach_5 rfl (z_callSX dX11_reach_6 tX11_checkScope (Nat.le_of_ble_eq_true rfl) cdX11_checkScope naX11_checkScope lkX11_311 stX11_checkScope rfl rfl (Nat.le_of_ble_eq_true rfl) ⟨(Nat.le_of_ble_eq_true rfl), (Nat.le_of_ble_eq_true rfl)⟩ (fun r hr => ?_) (fun E hE => ?_))
    · obtain ⟨c2, rfl⟩ := zif_l hr
      have h := ziF h c2
      obtain ⟨r4, l3, h⟩ := zbd_some h
      exact z_aload dX11_reach_9 rfl (z_getR dX11_reach_10 fkX11_28 in0_0 sh0_0 rfl (z_getR dX11_reach_13 fkX11_287 in4_0 sh_0 rfl (z_iload dX11_reach_16 rfl (z_iload dX11_reach_17 rfl (z_focus 4 (z_callV dX11_reach_18 (tX9_within (by decide) l3) (Nat.le_of_ble_eq_true rfl) cdX9_within naX9_within lkX11_314 imX9_within seX9_within in4_6 sh_6 rfl rfl rfl (Nat.le_of_ble_eq_true rfl) (z_iretX dX11_reach_21 rfl (by cases h; rfl))))))))
    · obtain ⟨c2, rfl⟩ := zif_r hE
      have h := ziT h c2
      cases h; rfl
  · obtain ⟨c1, rfl⟩ := zif_r hE
    have h := ziT h c1
    cases h; rfl
-- X11_route
def hX11_route_47 (F : Nat) : Nat → Int32 → Int32 → Int32 → Int32 → zM → Option ((Int32 ⊕ String) × zM)
  | 0, _, _, _, _, _ => none
  | n + 1, a1, a3, a5, a6, μ => if a6 ≤ a3 then some (.inl a5, μ) else zchk (zin ((a1 * (nI 6)) + a5) 36) ((hX11_route_47 F n) a1 a3 ((μ 4) 40 (zn ((a1 * (nI 6)) + a5))) (a6 + (-1)) (zg μ 4 (μ 4)))
set_option maxRecDepth 20000 in
set_option maxHeartbeats 4000000 in
theorem sX11_route_47 {F : Nat} : ∀ {n : Nat} {a1 a3 a5 a6 : Int32} {μ : zM} {ρ : (Int32 ⊕ String) × zM}, hX11_route_47 F n a1 a3 a5 a6 μ = some ρ → zJ mX11_route 7 (4, 24) (2, 12) (zQX (4, 24) (zoI ρ.1) ρ.2) 47 [some (zq 0 0), some (zi a1), none, some (zi a3), none, some (zi a5), some (zi a6)] [] μ := by
  intro n
  induction n with
  | zero => intro a1 a3 a5 a6 μ ρ h; exact nomatch (show (none : Option _) = some ρ from h)
  | succ n ih =>
    intro a1 a3 a5 a6 μ ρ h
    have hK47 := @ih
    rw [hX11_route_47] at h
    refine z_iload dX11_route_47 rfl (z_iload dX11_route_49 rfl (z_icmp_le dX11_route_50 (fun c1 => ?_) (fun c1 => ?_)))
    · have h := ziT h (c1)
      exact z_iload dX11_route_78 rfl (z_iretX dX11_route_80 rfl (by cases h; rfl))
    · have h := ziF h (c1)
      obtain ⟨s2, h⟩ := zchk_some h
      refine z_aload dX11_route_53 rfl (z_getR dX11_route_54 fkX11_28 in0_0 sh0_0 rfl (z_getR dX11_route_57 fkX11_287 in4_0 sh_0 rfl (z_getR dX11_route_60 fkX11_298 in4_6 sh_6 rfl (z_iload dX11_route_63 rfl (z_iload dX11_route_64 rfl (z_callS dX11_route_66 (tX11_pair) (Nat.le_of_ble_eq_true rfl) cdX11_pair naX11_pair lkX11_138 stX11_pair rfl rfl (Nat.le_of_ble_eq_true rfl) (z_focus 4 (z_iald dX11_route_69 in4_40 sh_40 (zin_vp s2) (z_istore dX11_route_70 (Nat.le_of_ble_eq_true rfl) (z_iinc dX11_route_72 (Nat.le_of_ble_eq_true rfl) rfl (z_goto dX11_route_75 ?_)))))))))))
      exact z_mask [true, true, false, true, false, true, true] (hK47 h)
def eX11_route (F : Nat) (x0 x1 x2 : Int32) (μ : zM) : Option ((Int32 ⊕ String) × zM) := if x0 < 0 ∨ (μ 4) 3 0 ≤ x0 then some (.inr "java/lang/IndexOutOfBoundsException", μ) else if x1 < 0 ∨ (μ 4) 3 0 ≤ x1 then some (.inr "java/lang/IndexOutOfBoundsException", μ) else zchk (zin ((x0 * (nI 6)) + x1) 36) (if x2 < 0 then some (.inl (-1), zg μ 4 (μ 4)) else if x2 ≤ ((μ 4) 42 (zn ((x0 * (nI 6)) + x1))) then hX11_route_47 F F x0 x2 x1 ((μ 4) 42 (zn ((x0 * (nI 6)) + x1))) (zg μ 4 (μ 4)) else some (.inl (-1), zg μ 4 (μ 4)))
set_option maxRecDepth 20000 in
set_option maxHeartbeats 4000000 in
theorem tX11_route {F : Nat} {x0 x1 x2 : Int32} {μ : zM} {ρ : (Int32 ⊕ String) × zM} (h : eX11_route F x0 x1 x2 μ = some ρ) : LX mX11_route 7 (4, 24) [zq 0 0, zi x0, zi x1, zi x2] μ (zoI ρ.1) ρ.2 := by
  unfold eX11_route at h
  refine LX.of (by decide +kernel) rfl (Nat.le_of_ble_eq_true rfl) ?_
  show zJ mX11_route 7 (4, 24) (0, 0) _ 0 [some (zq 0 0), some (zi x0), some (zi x1), some (zi x2), none, none, none] [] _
  refine z_aload dX11_route_0 rfl (z_iload dX11_route_1 rfl (z_callVX dX11_route_2 tX11_checkNode (Nat.le_of_ble_eq_true rfl) cdX11_checkNode naX11_checkNode lkX11_83 imX11_checkNode seX11_checkNode in0_0 sh0_0 rfl rfl rfl (Nat.le_of_ble_eq_true rfl) ⟨(Nat.le_of_ble_eq_true rfl), (Nat.le_of_ble_eq_true rfl)⟩ (fun r hr => ?_) (fun E hE => ?_)))
  · obtain ⟨c1, rfl⟩ := zif_l hr
    have h := ziF h c1
    refine z_aload dX11_route_5 rfl (z_iload dX11_route_6 rfl (z_callVX dX11_route_7 tX11_checkNode (Nat.le_of_ble_eq_true rfl) cdX11_checkNode naX11_checkNode lkX11_83 imX11_checkNode seX11_checkNode in0_0 sh0_0 rfl rfl rfl (Nat.le_of_ble_eq_true rfl) ⟨(Nat.le_of_ble_eq_true rfl), (Nat.le_of_ble_eq_true rfl)⟩ (fun r hr => ?_) (fun E hE => ?_)))
    · obtain ⟨c2, rfl⟩ := zif_l hr
      have h := ziF h c2
      obtain ⟨s3, h⟩ := zchk_some h
      refine z_aload dX11_route_10 rfl (z_getR dX11_route_11 fkX11_28 in0_0 sh0_0 rfl (z_getR dX11_route_14 fkX11_287 in4_0 sh_0 rfl (z_getR dX11_route_17 fkX11_291 in4_6 sh_6 rfl (z_iload dX11_route_20 rfl (z_iload dX11_route_21 rfl (z_callS dX11_route_22 (tX11_pair) (Nat.le_of_ble_eq_true rfl) cdX11_pair naX11_pair lkX11_138 stX11_pair rfl rfl (Nat.le_of_ble_eq_true rfl) (z_focus 4 (z_iald dX11_route_25 in4_42 sh_42 (zin_vp s3) (z_istore dX11_route_26 (Nat.le_of_ble_eq_true rfl) (z_iload dX11_route_28 rfl (z_if_lt dX11_route_29 (fun c4 => ?_) (fun c4 => ?_))))))))))))
      · have h := ziT h (c4)
        exact z_const dX11_route_38 (z_iretX dX11_route_39 rfl (by cases h; rfl))
      · have h := ziF h (c4)
        refine z_iload dX11_route_32 rfl (z_iload dX11_route_33 rfl (z_icmp_le dX11_route_35 (fun c5 => ?_) (fun c5 => ?_)))
        · have h := ziT h (c5)
          exact z_iload dX11_route_40 rfl (z_istore dX11_route_41 (Nat.le_of_ble_eq_true rfl) (z_iload dX11_route_43 rfl (z_istore dX11_route_45 (Nat.le_of_ble_eq_true rfl) (z_mask [true, true, false, true, false, true, true] (sX11_route_47 h)))))
        · have h := ziF h (c5)
          exact z_const dX11_route_38 (z_iretX dX11_route_39 rfl (by cases h; rfl))
    · obtain ⟨c2, rfl⟩ := zif_r hE
      have h := ziT h c2
      cases h; rfl
  · obtain ⟨c1, rfl⟩ := zif_r hE
    have h := ziT h c1
    cases h; rfl
-- X11_send
def eX11_send (F : Nat) (μ : zM) : Option ((Int32 ⊕ String) × zM) := zbd (eX10_canSend (μ 4)) fun r2 => if r2 = 0 then some (.inr "java/lang/IllegalStateException", zg μ 4 (μ 4)) else zbd (eX10_sendNext F (μ 4)) fun y5 => some (.inl ((y5 0 9) - (nI 1)), zg μ 4 y5)
set_option maxRecDepth 20000 in
set_option maxHeartbeats 4000000 in
theorem tX11_send {F : Nat} {μ : zM} {ρ : (Int32 ⊕ String) × zM} (h : eX11_send F μ = some ρ) : LX mX11_send 7 (4, 24) [zq 0 0] μ (zoI ρ.1) ρ.2 := by
  unfold eX11_send at h
  refine LX.of (by decide +kernel) rfl (Nat.le_of_ble_eq_true rfl) ?_
  show zJ mX11_send 7 (4, 24) (0, 0) _ 0 [some (zq 0 0)] [] _
  obtain ⟨r2, l1, h⟩ := zbd_some h
  refine z_aload dX11_send_0 rfl (z_getR dX11_send_1 fkX11_28 in0_0 sh0_0 rfl (z_focus 4 (z_callV dX11_send_4 (tX10_canSend (by decide) l1) (Nat.le_of_ble_eq_true rfl) cdX10_canSend naX10_canSend lkX11_252 imX10_canSend seX10_canSend in4_0 sh_0 rfl rfl rfl (Nat.le_of_ble_eq_true rfl) (z_if_ne dX11_send_7 (fun c3 => ?_) (fun c3 => ?_)))))
  · have h := ziF h (c3)
    obtain ⟨y5, l4, h⟩ := zbd_some h
    exact z_aload dX11_send_21 rfl (z_getR dX11_send_22 fkX11_28 in0_0 sh0_0 rfl (z_callV dX11_send_25 (tX10_sendNext (by decide) l4) (Nat.le_of_ble_eq_true rfl) cdX10_sendNext naX10_sendNext lkX11_260 imX10_sendNext seX10_sendNext in4_0 sh_0 rfl rfl rfl (Nat.le_of_ble_eq_true rfl) (z_aload dX11_send_28 rfl (z_getR dX11_send_29 fkX11_28 in0_0 sh0_0 rfl (z_getI dX11_send_32 fkX11_263 in4_0 sh_0 rfl (z_const dX11_send_35 (z_isub dX11_send_36 (z_iretX dX11_send_37 rfl (by cases h; rfl)))))))))
  · have h := ziT h (c3)
    exact z_throwSW zx_ISE (i := 23) rfl rfl rfl dX11_send_10.1 dX11_send_13.1 dX11_send_14.1 dX11_send_17.1 dX11_send_20.1 (Nat.le_of_ble_eq_true rfl) (Nat.le_of_ble_eq_true rfl) (Nat.le_of_ble_eq_true rfl) (Nat.le_of_ble_eq_true rfl) (by cases h; rfl)
-- X11_spread
def eX11_spread (F : Nat) (x0 : Int32) (μ : zM) : Option ((Int32 ⊕ String) × zM) := if x0 < 0 ∨ (nI 5) < x0 then some (.inr "java/lang/IllegalArgumentException", μ) else zbd (eX9_fewestCovering F x0 (μ 4)) fun r3 => some (.inl r3, zg μ 4 (μ 4))
set_option maxRecDepth 20000 in
set_option maxHeartbeats 4000000 in
theorem tX11_spread {F : Nat} {x0 : Int32} {μ : zM} {ρ : (Int32 ⊕ String) × zM} (h : eX11_spread F x0 μ = some ρ) : LX mX11_spread 7 (4, 24) [zq 0 0, zi x0] μ (zoI ρ.1) ρ.2 := by
  unfold eX11_spread at h
  refine LX.of (by decide +kernel) rfl (Nat.le_of_ble_eq_true rfl) ?_
  show zJ mX11_spread 7 (4, 24) (0, 0) _ 0 [some (zq 0 0), some (zi x0)] [] _
  refine z_iload dX11_spread_0 rfl (z_callSX dX11_spread_1 tX11_checkScope (Nat.le_of_ble_eq_true rfl) cdX11_checkScope naX11_checkScope lkX11_311 stX11_checkScope rfl rfl (Nat.le_of_ble_eq_true rfl) ⟨(Nat.le_of_ble_eq_true rfl), (Nat.le_of_ble_eq_true rfl)⟩ (fun r hr => ?_) (fun E hE => ?_))
  · obtain ⟨c1, rfl⟩ := zif_l hr
    have h := ziF h c1
    obtain ⟨r3, l2, h⟩ := zbd_some h
    exact z_aload dX11_spread_4 rfl (z_getR dX11_spread_5 fkX11_28 in0_0 sh0_0 rfl (z_getR dX11_spread_8 fkX11_287 in4_0 sh_0 rfl (z_iload dX11_spread_11 rfl (z_focus 4 (z_callV dX11_spread_12 (tX9_fewestCovering (by decide) l2) (Nat.le_of_ble_eq_true rfl) cdX9_fewestCovering naX9_fewestCovering lkX11_364 imX9_fewestCovering seX9_fewestCovering in4_6 sh_6 rfl rfl rfl (Nat.le_of_ble_eq_true rfl) (z_iretX dX11_spread_15 rfl (by cases h; rfl)))))))
  · obtain ⟨c1, rfl⟩ := zif_r hE
    have h := ziT h c1
    cases h; rfl
-- X11_timer
def jX11_timer_42 (a3 a5 b0 : Int32) (μ : zM) : Option ((Int32 ⊕ String) × zM) := if a3 = (nI 0) then zchk (zin a5 72) (some (.inl ((μ 4) 21 (zn a5)), zg μ 4 (μ 4))) else if a3 = (nI 1) then if b0 = 0 then some (.inl (-1), μ) else zchk (zin a5 72) (some (.inl ((μ 4) 22 (zn a5)), zg μ 4 (μ 4))) else if a3 = (nI 2) then if b0 = 0 then some (.inl (-1), μ) else zchk (zin a5 72) (some (.inl ((μ 4) 25 (zn a5)), zg μ 4 (μ 4))) else if a3 = (nI 3) then if b0 = 0 then some (.inl (-1), μ) else zchk (zin a5 72) (some (.inl ((μ 4) 23 (zn a5)), zg μ 4 (μ 4))) else if a3 = (nI 4) then if b0 = 0 then some (.inl (-1), μ) else zchk (zin a5 72) (some (.inl ((μ 4) 24 (zn a5)), zg μ 4 (μ 4))) else if a3 = (nI 5) then zchk (zin a5 72) (some (.inl ((μ 4) 26 (zn a5)), zg μ 4 (μ 4))) else if a3 = (nI 6) then zchk (zin a5 72) (some (.inl ((μ 4) 27 (zn a5)), zg μ 4 (μ 4))) else if a3 = (nI 7) then zchk (zin a5 72) (some (.inl ((μ 4) 29 (zn a5)), zg μ 4 (μ 4))) else some (.inr "java/util/NoSuchElementException", μ)
set_option maxRecDepth 20000 in
set_option maxHeartbeats 4000000 in
theorem sX11_timer_42 {a3 a5 b0 : Int32} {μ : zM} {ρ : (Int32 ⊕ String) × zM} (h : jX11_timer_42 a3 a5 b0 μ = some ρ) : zJ mX11_timer 7 (4, 24) (2, 12) (zQX (4, 24) (zoI ρ.1) ρ.2) 42 [none, none, none, some (zi a3), some (zq 4 4), some (zi a5), none] [zi b0] μ := by
  unfold jX11_timer_42 at h
  refine z_istore dX11_timer_42 (Nat.le_of_ble_eq_true rfl) (z_iload dX11_timer_44 rfl ?_)
  by_cases c1 : a3 = (nI 0)
  · have h := ziT h c1
    refine z_tabIn (off := 47) (tgt := 92) dX11_timer_45 (by rw [c1]; decide) (by rw [c1]; decide) (by rw [c1]; decide) (by decide) ?_
    obtain ⟨s2, h⟩ := zchk_some h
    exact z_aload dX11_timer_92 rfl (z_getR dX11_timer_94 fkX11_152 in4_4 sh_4 rfl (z_iload dX11_timer_97 rfl (z_focus 4 (z_iald dX11_timer_99 in4_21 sh_21 (zin_vp s2) (z_iretX dX11_timer_100 rfl (by cases h; rfl))))))
  have h := ziF h c1
  by_cases c3 : a3 = (nI 1)
  · have h := ziT h c3
    refine z_tabIn (off := 56) (tgt := 101) dX11_timer_45 (by rw [c3]; decide) (by rw [c3]; decide) (by rw [c3]; decide) (by decide) ?_
    refine z_iload dX11_timer_101 rfl (z_if_eq dX11_timer_103 (fun c4 => ?_) (fun c4 => ?_))
    · have h := ziT h (c4)
      exact z_const dX11_timer_117 (z_iretX dX11_timer_118 rfl (by cases h; rfl))
    · have h := ziF h (c4)
      obtain ⟨s5, h⟩ := zchk_some h
      exact z_aload dX11_timer_106 rfl (z_getR dX11_timer_108 fkX11_157 in4_4 sh_4 rfl (z_iload dX11_timer_111 rfl (z_focus 4 (z_iald dX11_timer_113 in4_22 sh_22 (zin_vp s5) (z_goto dX11_timer_114 (z_iretX dX11_timer_118 rfl (by cases h; rfl)))))))
  have h := ziF h c3
  by_cases c6 : a3 = (nI 2)
  · have h := ziT h c6
    refine z_tabIn (off := 74) (tgt := 119) dX11_timer_45 (by rw [c6]; decide) (by rw [c6]; decide) (by rw [c6]; decide) (by decide) ?_
    refine z_iload dX11_timer_119 rfl (z_if_eq dX11_timer_121 (fun c7 => ?_) (fun c7 => ?_))
    · have h := ziT h (c7)
      exact z_const dX11_timer_135 (z_iretX dX11_timer_136 rfl (by cases h; rfl))
    · have h := ziF h (c7)
      obtain ⟨s8, h⟩ := zchk_some h
      exact z_aload dX11_timer_124 rfl (z_getR dX11_timer_126 fkX11_160 in4_4 sh_4 rfl (z_iload dX11_timer_129 rfl (z_focus 4 (z_iald dX11_timer_131 in4_25 sh_25 (zin_vp s8) (z_goto dX11_timer_132 (z_iretX dX11_timer_136 rfl (by cases h; rfl)))))))
  have h := ziF h c6
  by_cases c9 : a3 = (nI 3)
  · have h := ziT h c9
    refine z_tabIn (off := 92) (tgt := 137) dX11_timer_45 (by rw [c9]; decide) (by rw [c9]; decide) (by rw [c9]; decide) (by decide) ?_
    refine z_iload dX11_timer_137 rfl (z_if_eq dX11_timer_139 (fun c10 => ?_) (fun c10 => ?_))
    · have h := ziT h (c10)
      exact z_const dX11_timer_153 (z_iretX dX11_timer_154 rfl (by cases h; rfl))
    · have h := ziF h (c10)
      obtain ⟨s11, h⟩ := zchk_some h
      exact z_aload dX11_timer_142 rfl (z_getR dX11_timer_144 fkX11_163 in4_4 sh_4 rfl (z_iload dX11_timer_147 rfl (z_focus 4 (z_iald dX11_timer_149 in4_23 sh_23 (zin_vp s11) (z_goto dX11_timer_150 (z_iretX dX11_timer_154 rfl (by cases h; rfl)))))))
  have h := ziF h c9
  by_cases c12 : a3 = (nI 4)
  · have h := ziT h c12
    refine z_tabIn (off := 110) (tgt := 155) dX11_timer_45 (by rw [c12]; decide) (by rw [c12]; decide) (by rw [c12]; decide) (by decide) ?_
    refine z_iload dX11_timer_155 rfl (z_if_eq dX11_timer_157 (fun c13 => ?_) (fun c13 => ?_))
    · have h := ziT h (c13)
      exact z_const dX11_timer_171 (z_iretX dX11_timer_172 rfl (by cases h; rfl))
    · have h := ziF h (c13)
      obtain ⟨s14, h⟩ := zchk_some h
      exact z_aload dX11_timer_160 rfl (z_getR dX11_timer_162 fkX11_166 in4_4 sh_4 rfl (z_iload dX11_timer_165 rfl (z_focus 4 (z_iald dX11_timer_167 in4_24 sh_24 (zin_vp s14) (z_goto dX11_timer_168 (z_iretX dX11_timer_172 rfl (by cases h; rfl)))))))
  have h := ziF h c12
  by_cases c15 : a3 = (nI 5)
  · have h := ziT h c15
    refine z_tabIn (off := 128) (tgt := 173) dX11_timer_45 (by rw [c15]; decide) (by rw [c15]; decide) (by rw [c15]; decide) (by decide) ?_
    obtain ⟨s16, h⟩ := zchk_some h
    exact z_aload dX11_timer_173 rfl (z_getR dX11_timer_175 fkX11_169 in4_4 sh_4 rfl (z_iload dX11_timer_178 rfl (z_focus 4 (z_iald dX11_timer_180 in4_26 sh_26 (zin_vp s16) (z_iretX dX11_timer_181 rfl (by cases h; rfl))))))
  have h := ziF h c15
  by_cases c17 : a3 = (nI 6)
  · have h := ziT h c17
    refine z_tabIn (off := 137) (tgt := 182) dX11_timer_45 (by rw [c17]; decide) (by rw [c17]; decide) (by rw [c17]; decide) (by decide) ?_
    obtain ⟨s18, h⟩ := zchk_some h
    exact z_aload dX11_timer_182 rfl (z_getR dX11_timer_184 fkX11_172 in4_4 sh_4 rfl (z_iload dX11_timer_187 rfl (z_focus 4 (z_iald dX11_timer_189 in4_27 sh_27 (zin_vp s18) (z_iretX dX11_timer_190 rfl (by cases h; rfl))))))
  have h := ziF h c17
  by_cases c19 : a3 = (nI 7)
  · have h := ziT h c19
    refine z_tabIn (off := 146) (tgt := 191) dX11_timer_45 (by rw [c19]; decide) (by rw [c19]; decide) (by rw [c19]; decide) (by decide) ?_
    obtain ⟨s20, h⟩ := zchk_some h
    exact z_aload dX11_timer_191 rfl (z_getR dX11_timer_193 fkX11_175 in4_4 sh_4 rfl (z_iload dX11_timer_196 rfl (z_focus 4 (z_iald dX11_timer_198 in4_29 sh_29 (zin_vp s20) (z_iretX dX11_timer_199 rfl (by cases h; rfl))))))
  have h := ziF h c19
  refine z_tabOut (tgt := 200) dX11_timer_45 (by decide) (zsw_out (zsw_s (zsw_s (zsw_s (zsw_s (zsw_s (zsw_s (zsw_s (zsw_s zsw_0 c1) c3) c6) c9) c12) c15) c17) c19) (by decide)) ?_
  exact z_throwN rfl (i := 17) rfl rfl rfl dX11_timer_200.1 dX11_timer_203.1 dX11_timer_204.1 dX11_timer_206.1 dX11_timer_209.1 (Nat.le_of_ble_eq_true rfl) (Nat.le_of_ble_eq_true rfl) (Nat.le_of_ble_eq_true rfl) (Nat.le_of_ble_eq_true rfl) (by cases h; rfl)
def eX11_timer (x0 x1 x2 : Int32) (μ : zM) : Option ((Int32 ⊕ String) × zM) := if x0 < 0 ∨ (μ 4) 3 0 ≤ x0 then some (.inr "java/lang/IndexOutOfBoundsException", μ) else if x1 < 0 ∨ (nI 12) ≤ x1 then some (.inr "java/lang/IndexOutOfBoundsException", μ) else zchk (zin ((x0 * (nI 12)) + x1) 72) (if ((μ 4) 21 (zn ((x0 * (nI 12)) + x1))) = (-1) then jX11_timer_42 x2 ((x0 * (nI 12)) + x1) (nI 0) (zg μ 4 (μ 4)) else jX11_timer_42 x2 ((x0 * (nI 12)) + x1) (nI 1) (zg μ 4 (μ 4)))
set_option maxRecDepth 20000 in
set_option maxHeartbeats 4000000 in
theorem tX11_timer {x0 x1 x2 : Int32} {μ : zM} {ρ : (Int32 ⊕ String) × zM} (h : eX11_timer x0 x1 x2 μ = some ρ) : LX mX11_timer 7 (4, 24) [zq 0 0, zi x0, zi x1, zi x2] μ (zoI ρ.1) ρ.2 := by
  unfold eX11_timer at h
  refine LX.of (by decide +kernel) rfl (Nat.le_of_ble_eq_true rfl) ?_
  show zJ mX11_timer 7 (4, 24) (0, 0) _ 0 [some (zq 0 0), some (zi x0), some (zi x1), some (zi x2), none, none, none] [] _
  refine z_aload dX11_timer_0 rfl (z_iload dX11_timer_1 rfl (z_callVX dX11_timer_2 tX11_checkNode (Nat.le_of_ble_eq_true rfl) cdX11_checkNode naX11_checkNode lkX11_83 imX11_checkNode seX11_checkNode in0_0 sh0_0 rfl rfl rfl (Nat.le_of_ble_eq_true rfl) ⟨(Nat.le_of_ble_eq_true rfl), (Nat.le_of_ble_eq_true rfl)⟩ (fun r hr => ?_) (fun E hE => ?_)))
  · obtain ⟨c1, rfl⟩ := zif_l hr
    have h := ziF h c1
    refine z_iload dX11_timer_5 rfl (z_callSX dX11_timer_6 tX11_checkPacket (Nat.le_of_ble_eq_true rfl) cdX11_checkPacket naX11_checkPacket lkX11_142 stX11_checkPacket rfl rfl (Nat.le_of_ble_eq_true rfl) ⟨(Nat.le_of_ble_eq_true rfl), (Nat.le_of_ble_eq_true rfl)⟩ (fun r hr => ?_) (fun E hE => ?_))
    · obtain ⟨c2, rfl⟩ := zif_l hr
      have h := ziF h c2
      obtain ⟨s3, h⟩ := zchk_some h
      refine z_aload dX11_timer_9 rfl (z_getR dX11_timer_10 fkX11_28 in0_0 sh0_0 rfl (z_getR dX11_timer_13 fkX11_145 in4_0 sh_0 rfl (z_astore dX11_timer_16 (Nat.le_of_ble_eq_true rfl) (z_iload dX11_timer_18 rfl (z_iload dX11_timer_19 rfl (z_callS dX11_timer_20 (tX11_cell) (Nat.le_of_ble_eq_true rfl) cdX11_cell naX11_cell lkX11_149 stX11_cell rfl rfl (Nat.le_of_ble_eq_true rfl) (z_istore dX11_timer_23 (Nat.le_of_ble_eq_true rfl) (z_aload dX11_timer_25 rfl (z_getR dX11_timer_27 fkX11_152 in4_4 sh_4 rfl (z_iload dX11_timer_30 rfl (z_focus 4 (z_iald dX11_timer_32 in4_21 sh_21 (zin_vp s3) ?_))))))))))))
      refine z_const dX11_timer_33 (z_icmp_eq dX11_timer_34 (fun c4 => ?_) (fun c4 => ?_))
      · have h := ziT h (c4)
        exact z_const dX11_timer_41 (z_mask [false, false, false, true, true, true, false] (sX11_timer_42 h))
      · have h := ziF h (c4)
        exact z_const dX11_timer_37 (z_goto dX11_timer_38 (z_mask [false, false, false, true, true, true, false] (sX11_timer_42 h)))
    · obtain ⟨c2, rfl⟩ := zif_r hE
      have h := ziT h c2
      cases h; rfl
  · obtain ⟨c1, rfl⟩ := zif_r hE
    have h := ziT h c1
    cases h; rfl
-- X11_wake
def eX11_wake (x0 x1 : Int32) (μ : zM) : Option ((Int32 ⊕ String) × zM) := if x0 < 0 ∨ (μ 4) 3 0 ≤ x0 then some (.inr "java/lang/IndexOutOfBoundsException", μ) else if (zB (((((μ 4) 3 1) >>> (x0 &&& 31)) &&& (nI 1)) = (nI 1))) = x1 then some (.inl (nI 0), zg μ 4 (μ 4)) else zlet (zg μ 4 (zw (μ 4) 3 1 (((μ 4) 3 1) ^^^ ((nI 1) <<< (x0 &&& 31))))) fun m3 => some (.inl (nI 1), m3)
set_option maxRecDepth 20000 in
set_option maxHeartbeats 4000000 in
theorem tX11_wake {x0 x1 : Int32} {μ : zM} {ρ : (Int32 ⊕ String) × zM} (h : eX11_wake x0 x1 μ = some ρ) : LX mX11_wake 7 (4, 24) [zq 0 0, zi x0, zi x1] μ (zoI ρ.1) ρ.2 := by
  unfold eX11_wake at h
  refine LX.of (by decide +kernel) rfl (Nat.le_of_ble_eq_true rfl) ?_
  show zJ mX11_wake 7 (4, 24) (0, 0) _ 0 [some (zq 0 0), some (zi x0), some (zi x1)] [] _
  refine z_aload dX11_wake_0 rfl (z_iload dX11_wake_1 rfl (z_callVX dX11_wake_2 tX11_checkNode (Nat.le_of_ble_eq_true rfl) cdX11_checkNode naX11_checkNode lkX11_83 imX11_checkNode seX11_checkNode in0_0 sh0_0 rfl rfl rfl (Nat.le_of_ble_eq_true rfl) ⟨(Nat.le_of_ble_eq_true rfl), (Nat.le_of_ble_eq_true rfl)⟩ (fun r hr => ?_) (fun E hE => ?_)))
  · obtain ⟨c1, rfl⟩ := zif_l hr
    have h := ziF h c1
    refine z_aload dX11_wake_5 rfl (z_getR dX11_wake_6 fkX11_28 in0_0 sh0_0 rfl (z_getR dX11_wake_9 fkX11_86 in4_0 sh_0 rfl (z_iload dX11_wake_12 rfl (z_focus 4 (z_callV dX11_wake_13 (tX4_isUp (by decide)) (Nat.le_of_ble_eq_true rfl) cdX4_isUp naX4_isUp lkX11_90 imX4_isUp seX4_isUp in4_3 sh_3 rfl rfl rfl (Nat.le_of_ble_eq_true rfl) (z_iload dX11_wake_16 rfl (z_icmp_ne dX11_wake_17 (fun c2 => ?_) (fun c2 => ?_))))))))
    · have h := ziF h (c2)
      have h := zlet_h h
      exact z_aload dX11_wake_22 rfl (z_getR dX11_wake_23 fkX11_28 in0_0 sh0_0 rfl (z_getR dX11_wake_26 fkX11_86 in4_0 sh_0 rfl (z_dup dX11_wake_29 rfl (z_getI dX11_wake_30 fkX11_266 in4_3 sh_3 rfl (z_const dX11_wake_33 (z_iload dX11_wake_34 rfl (z_ishl dX11_wake_35 (z_ixor dX11_wake_36 (z_putI dX11_wake_37 fkX11_266 in4_3 sh_3 rfl (fun _ _ _ h => by cases h; rfl) ⟨_, rfl, rfl, rfl⟩ (z_const dX11_wake_40 (z_zretX dX11_wake_41 rfl rfl (by cases h; rfl))))))))))))
    · have h := ziT h (c2)
      exact z_const dX11_wake_20 (z_zretX dX11_wake_21 rfl rfl (by cases h; rfl))
  · obtain ⟨c1, rfl⟩ := zif_r hE
    have h := ziT h c1
    cases h; rfl
-- X11_way
def eX11_way (x0 x1 x2 : Int32) (μ : zM) : Option ((Int32 ⊕ String) × zM) := if x0 < 0 ∨ (μ 4) 3 0 ≤ x0 then some (.inr "java/lang/IndexOutOfBoundsException", μ) else if x1 < 0 ∨ (μ 4) 3 0 ≤ x1 then some (.inr "java/lang/IndexOutOfBoundsException", μ) else if x2 = 0 then zchk (zin ((x0 * (nI 6)) + x1) 36) (some (.inl ((μ 4) 39 (zn ((x0 * (nI 6)) + x1))), zg μ 4 (μ 4))) else zchk (zin ((x0 * (nI 6)) + x1) 36) (some (.inl ((μ 4) 42 (zn ((x0 * (nI 6)) + x1))), zg μ 4 (μ 4)))
set_option maxRecDepth 20000 in
set_option maxHeartbeats 4000000 in
theorem tX11_way {x0 x1 x2 : Int32} {μ : zM} {ρ : (Int32 ⊕ String) × zM} (h : eX11_way x0 x1 x2 μ = some ρ) : LX mX11_way 7 (4, 24) [zq 0 0, zi x0, zi x1, zi x2] μ (zoI ρ.1) ρ.2 := by
  unfold eX11_way at h
  refine LX.of (by decide +kernel) rfl (Nat.le_of_ble_eq_true rfl) ?_
  show zJ mX11_way 7 (4, 24) (0, 0) _ 0 [some (zq 0 0), some (zi x0), some (zi x1), some (zi x2), none] [] _
  refine z_aload dX11_way_0 rfl (z_iload dX11_way_1 rfl (z_callVX dX11_way_2 tX11_checkNode (Nat.le_of_ble_eq_true rfl) cdX11_checkNode naX11_checkNode lkX11_83 imX11_checkNode seX11_checkNode in0_0 sh0_0 rfl rfl rfl (Nat.le_of_ble_eq_true rfl) ⟨(Nat.le_of_ble_eq_true rfl), (Nat.le_of_ble_eq_true rfl)⟩ (fun r hr => ?_) (fun E hE => ?_)))
  · obtain ⟨c1, rfl⟩ := zif_l hr
    have h := ziF h c1
    refine z_aload dX11_way_5 rfl (z_iload dX11_way_6 rfl (z_callVX dX11_way_7 tX11_checkNode (Nat.le_of_ble_eq_true rfl) cdX11_checkNode naX11_checkNode lkX11_83 imX11_checkNode seX11_checkNode in0_0 sh0_0 rfl rfl rfl (Nat.le_of_ble_eq_true rfl) ⟨(Nat.le_of_ble_eq_true rfl), (Nat.le_of_ble_eq_true rfl)⟩ (fun r hr => ?_) (fun E hE => ?_)))
    · obtain ⟨c2, rfl⟩ := zif_l hr
      have h := ziF h c2
      refine z_iload dX11_way_10 rfl (z_iload dX11_way_11 rfl (z_callS dX11_way_12 (tX11_pair) (Nat.le_of_ble_eq_true rfl) cdX11_pair naX11_pair lkX11_138 stX11_pair rfl rfl (Nat.le_of_ble_eq_true rfl) (z_istore dX11_way_15 (Nat.le_of_ble_eq_true rfl) (z_iload dX11_way_17 rfl (z_if_eq dX11_way_18 (fun c3 => ?_) (fun c3 => ?_))))))
      · have h := ziT h (c3)
        obtain ⟨s4, h⟩ := zchk_some h
        exact z_aload dX11_way_37 rfl (z_getR dX11_way_38 fkX11_28 in0_0 sh0_0 rfl (z_getR dX11_way_41 fkX11_287 in4_0 sh_0 rfl (z_getR dX11_way_44 fkX11_296 in4_6 sh_6 rfl (z_iload dX11_way_47 rfl (z_focus 4 (z_iald dX11_way_49 in4_39 sh_39 (zin_vp s4) (z_iretX dX11_way_50 rfl (by cases h; rfl))))))))
      · have h := ziF h (c3)
        obtain ⟨s5, h⟩ := zchk_some h
        exact z_aload dX11_way_21 rfl (z_getR dX11_way_22 fkX11_28 in0_0 sh0_0 rfl (z_getR dX11_way_25 fkX11_287 in4_0 sh_0 rfl (z_getR dX11_way_28 fkX11_291 in4_6 sh_6 rfl (z_iload dX11_way_31 rfl (z_focus 4 (z_iald dX11_way_33 in4_42 sh_42 (zin_vp s5) (z_goto dX11_way_34 (z_iretX dX11_way_50 rfl (by cases h; rfl)))))))))
    · obtain ⟨c2, rfl⟩ := zif_r hE
      have h := ziT h c2
      cases h; rfl
  · obtain ⟨c1, rfl⟩ := zif_r hE
    have h := ziT h c1
    cases h; rfl
-- X11_when
def eX11_when (x0 x1 : Int32) (μ : zM) : Option ((Int32 ⊕ String) × zM) := if x0 < 0 ∨ (μ 4) 3 0 ≤ x0 then some (.inr "java/lang/IndexOutOfBoundsException", μ) else if x1 < 0 ∨ (nI 12) ≤ x1 then some (.inr "java/lang/IndexOutOfBoundsException", μ) else zchk (zin ((x0 * (nI 12)) + x1) 72) (some (.inl ((μ 4) 33 (zn ((x0 * (nI 12)) + x1))), zg μ 4 (μ 4)))
set_option maxRecDepth 20000 in
set_option maxHeartbeats 4000000 in
theorem tX11_when {x0 x1 : Int32} {μ : zM} {ρ : (Int32 ⊕ String) × zM} (h : eX11_when x0 x1 μ = some ρ) : LX mX11_when 7 (4, 24) [zq 0 0, zi x0, zi x1] μ (zoI ρ.1) ρ.2 := by
  unfold eX11_when at h
  refine LX.of (by decide +kernel) rfl (Nat.le_of_ble_eq_true rfl) ?_
  show zJ mX11_when 7 (4, 24) (0, 0) _ 0 [some (zq 0 0), some (zi x0), some (zi x1)] [] _
  refine z_aload dX11_when_0 rfl (z_iload dX11_when_1 rfl (z_callVX dX11_when_2 tX11_checkNode (Nat.le_of_ble_eq_true rfl) cdX11_checkNode naX11_checkNode lkX11_83 imX11_checkNode seX11_checkNode in0_0 sh0_0 rfl rfl rfl (Nat.le_of_ble_eq_true rfl) ⟨(Nat.le_of_ble_eq_true rfl), (Nat.le_of_ble_eq_true rfl)⟩ (fun r hr => ?_) (fun E hE => ?_)))
  · obtain ⟨c1, rfl⟩ := zif_l hr
    have h := ziF h c1
    refine z_iload dX11_when_5 rfl (z_callSX dX11_when_6 tX11_checkPacket (Nat.le_of_ble_eq_true rfl) cdX11_checkPacket naX11_checkPacket lkX11_142 stX11_checkPacket rfl rfl (Nat.le_of_ble_eq_true rfl) ⟨(Nat.le_of_ble_eq_true rfl), (Nat.le_of_ble_eq_true rfl)⟩ (fun r hr => ?_) (fun E hE => ?_))
    · obtain ⟨c2, rfl⟩ := zif_l hr
      have h := ziF h c2
      obtain ⟨s3, h⟩ := zchk_some h
      exact z_aload dX11_when_9 rfl (z_getR dX11_when_10 fkX11_28 in0_0 sh0_0 rfl (z_getR dX11_when_13 fkX11_145 in4_0 sh_0 rfl (z_getR dX11_when_16 fkX11_340 in4_4 sh_4 rfl (z_iload dX11_when_19 rfl (z_iload dX11_when_20 rfl (z_callS dX11_when_21 (tX11_cell) (Nat.le_of_ble_eq_true rfl) cdX11_cell naX11_cell lkX11_149 stX11_cell rfl rfl (Nat.le_of_ble_eq_true rfl) (z_focus 4 (z_iald dX11_when_24 in4_33 sh_33 (zin_vp s3) (z_iretX dX11_when_25 rfl (by cases h; rfl))))))))))
    · obtain ⟨c2, rfl⟩ := zif_r hE
      have h := ziT h c2
      cases h; rfl
  · obtain ⟨c1, rfl⟩ := zif_r hE
    have h := ziT h c1
    cases h; rfl
-- X11_window
def eX11_window (x0 x1 x2 : Int32) (μ : zM) : Option ((Int32 ⊕ String) × zM) := if x0 < 0 ∨ (μ 4) 3 0 ≤ x0 then some (.inr "java/lang/IndexOutOfBoundsException", μ) else if x1 < 0 ∨ (nI 12) ≤ x1 then some (.inr "java/lang/IndexOutOfBoundsException", μ) else zbd (eX10_askWindow x0 x1 x2 (μ 4)) fun r4 => some (.inl r4, zg μ 4 (μ 4))
set_option maxRecDepth 20000 in
set_option maxHeartbeats 4000000 in
theorem tX11_window {x0 x1 x2 : Int32} {μ : zM} {ρ : (Int32 ⊕ String) × zM} (h : eX11_window x0 x1 x2 μ = some ρ) : LX mX11_window 7 (4, 24) [zq 0 0, zi x0, zi x1, zi x2] μ (zoI ρ.1) ρ.2 := by
  unfold eX11_window at h
  refine LX.of (by decide +kernel) rfl (Nat.le_of_ble_eq_true rfl) ?_
  show zJ mX11_window 7 (4, 24) (0, 0) _ 0 [some (zq 0 0), some (zi x0), some (zi x1), some (zi x2)] [] _
  refine z_aload dX11_window_0 rfl (z_iload dX11_window_1 rfl (z_callVX dX11_window_2 tX11_checkNode (Nat.le_of_ble_eq_true rfl) cdX11_checkNode naX11_checkNode lkX11_83 imX11_checkNode seX11_checkNode in0_0 sh0_0 rfl rfl rfl (Nat.le_of_ble_eq_true rfl) ⟨(Nat.le_of_ble_eq_true rfl), (Nat.le_of_ble_eq_true rfl)⟩ (fun r hr => ?_) (fun E hE => ?_)))
  · obtain ⟨c1, rfl⟩ := zif_l hr
    have h := ziF h c1
    refine z_iload dX11_window_5 rfl (z_callSX dX11_window_6 tX11_checkPacket (Nat.le_of_ble_eq_true rfl) cdX11_checkPacket naX11_checkPacket lkX11_142 stX11_checkPacket rfl rfl (Nat.le_of_ble_eq_true rfl) ⟨(Nat.le_of_ble_eq_true rfl), (Nat.le_of_ble_eq_true rfl)⟩ (fun r hr => ?_) (fun E hE => ?_))
    · obtain ⟨c2, rfl⟩ := zif_l hr
      have h := ziF h c2
      obtain ⟨r4, l3, h⟩ := zbd_some h
      exact z_aload dX11_window_9 rfl (z_getR dX11_window_10 fkX11_28 in0_0 sh0_0 rfl (z_iload dX11_window_13 rfl (z_iload dX11_window_14 rfl (z_iload dX11_window_15 rfl (z_focus 4 (z_callV dX11_window_16 (tX10_askWindow (by decide) l3) (Nat.le_of_ble_eq_true rfl) cdX10_askWindow naX10_askWindow lkX11_301 imX10_askWindow seX10_askWindow in4_0 sh_0 rfl rfl rfl (Nat.le_of_ble_eq_true rfl) (z_iretX dX11_window_19 rfl (by cases h; rfl))))))))
    · obtain ⟨c2, rfl⟩ := zif_r hE
      have h := ziT h c2
      cases h; rfl
  · obtain ⟨c1, rfl⟩ := zif_r hE
    have h := ziT h c1
    cases h; rfl
-- X11_best
def jX11_best_123 (F : Nat) (K29 : Int32 → Int32 → Int32 → Int32 → Int32 → zM → Option ((Int32 ⊕ String) × zM)) (a1 a2 a5 a7 : Int32) (μ : zM) : Option ((Int32 ⊕ String) × zM) := K29 a1 a2 a5 a7 (a5 + (nI 1)) μ
set_option maxRecDepth 20000 in
set_option maxHeartbeats 4000000 in
theorem sX11_best_123 {F : Nat} {K29 : Int32 → Int32 → Int32 → Int32 → Int32 → zM → Option ((Int32 ⊕ String) × zM)} (hK29 : ∀ {xa1 xa2 xa3 xa4 xa5 : Int32} {xm : zM} {ρ : (Int32 ⊕ String) × zM}, K29 xa1 xa2 xa3 xa4 xa5 xm = some ρ → zJ mX11_best 8 (4, 24) (0, 0) (zQX (4, 24) (zoI ρ.1) ρ.2) 29 [some (zq 0 0), some (zi xa1), some (zi xa2), some (zi xa3), some (zi xa4), some (zi xa5), none, none] [] xm) {a1 a2 a5 a7 : Int32} {μ : zM} {ρ : (Int32 ⊕ String) × zM} (h : jX11_best_123 F K29 a1 a2 a5 a7 μ = some ρ) : zJ mX11_best 8 (4, 24) (0, 0) (zQX (4, 24) (zoI ρ.1) ρ.2) 123 [some (zq 0 0), some (zi a1), some (zi a2), none, none, some (zi a5), none, some (zi a7)] [] μ := by
  unfold jX11_best_123 at h
  exact z_iload dX11_best_123 rfl (z_istore dX11_best_125 (Nat.le_of_ble_eq_true rfl) (z_iload dX11_best_126 rfl (z_istore dX11_best_128 (Nat.le_of_ble_eq_true rfl) (z_iinc dX11_best_130 (Nat.le_of_ble_eq_true rfl) rfl (z_goto dX11_best_133 (z_mask [true, true, true, true, true, true, false, false] (hK29 h)))))))
def hX11_best_76 (F : Nat) (K29 : Int32 → Int32 → Int32 → Int32 → Int32 → zM → Option ((Int32 ⊕ String) × zM)) : Nat → Int32 → Int32 → Int32 → Int32 → Int32 → Int32 → Int32 → zM → Option ((Int32 ⊕ String) × zM)
  | 0, _, _, _, _, _, _, _, _ => none
  | n + 1, a1, a2, a3, a4, a5, a6, a7, μ => if a1 ≤ a7 then zbd (eX4_allRequests F (μ 6)) fun r3 => if a4 = (-1) then jX11_best_123 F K29 a1 a2 a5 (r3 - a6) (zg μ 6 (μ 6)) else if a4 ≤ (r3 - a6) then K29 a1 a2 a3 a4 (a5 + (nI 1)) (zg μ 6 (μ 6)) else jX11_best_123 F K29 a1 a2 a5 (r3 - a6) (zg μ 6 (μ 6)) else zbd (eX10_step F (μ 6)) fun y7 => (hX11_best_76 F K29 n) a1 a2 a3 a4 a5 a6 (a7 + (nI 1)) (zg μ 6 y7)
set_option maxRecDepth 20000 in
set_option maxHeartbeats 4000000 in
theorem sX11_best_76 {F : Nat} {K29 : Int32 → Int32 → Int32 → Int32 → Int32 → zM → Option ((Int32 ⊕ String) × zM)} (hK29 : ∀ {xa1 xa2 xa3 xa4 xa5 : Int32} {xm : zM} {ρ : (Int32 ⊕ String) × zM}, K29 xa1 xa2 xa3 xa4 xa5 xm = some ρ → zJ mX11_best 8 (4, 24) (0, 0) (zQX (4, 24) (zoI ρ.1) ρ.2) 29 [some (zq 0 0), some (zi xa1), some (zi xa2), some (zi xa3), some (zi xa4), some (zi xa5), none, none] [] xm) : ∀ {n : Nat} {a1 a2 a3 a4 a5 a6 a7 : Int32} {μ : zM} {ρ : (Int32 ⊕ String) × zM}, hX11_best_76 F K29 n a1 a2 a3 a4 a5 a6 a7 μ = some ρ → zJ mX11_best 8 (4, 24) (0, 0) (zQX (4, 24) (zoI ρ.1) ρ.2) 76 [some (zq 0 0), some (zi a1), some (zi a2), some (zi a3), some (zi a4), some (zi a5), some (zi a6), some (zi a7)] [] μ := by
  intro n
  induction n with
  | zero => intro a1 a2 a3 a4 a5 a6 a7 μ ρ h; exact nomatch (show (none : Option _) = some ρ from h)
  | succ n ih =>
    intro a1 a2 a3 a4 a5 a6 a7 μ ρ h
    have hK76 := @ih
    rw [hX11_best_76] at h
    refine z_iload dX11_best_76 rfl (z_iload dX11_best_78 rfl (z_icmp_ge dX11_best_79 (fun c1 => ?_) (fun c1 => ?_)))
    · have h := ziT h (c1)
      obtain ⟨r3, l2, h⟩ := zbd_some h
      refine z_aload dX11_best_95 rfl (z_getR dX11_best_96 fkX11_35 in0_0 sh0_0 rfl (z_getR dX11_best_99 fkX11_86 in6_0 sh_0 rfl (z_focus 6 (z_callV dX11_best_102 (tX4_allRequests (by decide) l2) (Nat.le_of_ble_eq_true rfl) cdX4_allRequests naX4_allRequests lkX11_330 imX4_allRequests seX4_allRequests in6_3 sh_3 rfl rfl rfl (Nat.le_of_ble_eq_true rfl) (z_iload dX11_best_105 rfl (z_isub dX11_best_107 (z_istore dX11_best_108 (Nat.le_of_ble_eq_true rfl) (z_iload dX11_best_110 rfl (z_const dX11_best_112 (z_icmp_eq dX11_best_113 (fun c4 => ?_) (fun c4 => ?_)))))))))))
      · have h := ziT h (c4)
        exact z_mask [true, true, true, false, false, true, false, true] (sX11_best_123 hK29 h)
      · have h := ziF h (c4)
        refine z_iload dX11_best_116 rfl (z_iload dX11_best_118 rfl (z_icmp_ge dX11_best_120 (fun c5 => ?_) (fun c5 => ?_)))
        · have h := ziT h (c5)
          exact z_iinc dX11_best_130 (Nat.le_of_ble_eq_true rfl) rfl (z_goto dX11_best_133 (z_mask [true, true, true, true, true, true, false, false] (hK29 h)))
        · have h := ziF h (c5)
          exact z_mask [true, true, true, false, false, true, false, true] (sX11_best_123 hK29 h)
    · have h := ziF h (c1)
      obtain ⟨y7, l6, h⟩ := zbd_some h
      exact z_aload dX11_best_82 rfl (z_getR dX11_best_83 fkX11_35 in0_0 sh0_0 rfl (z_focus 6 (z_callV dX11_best_86 (tX10_step (by decide) l6) (Nat.le_of_ble_eq_true rfl) cdX10_step naX10_step lkX11_249 imX10_step seX10_step in6_0 sh_0 rfl rfl rfl (Nat.le_of_ble_eq_true rfl) (z_iinc dX11_best_89 (Nat.le_of_ble_eq_true rfl) rfl (z_goto dX11_best_92 (z_mask [true, true, true, true, true, true, true, true] (hK76 h)))))))
def hX11_best_29 (F : Nat) : Nat → Int32 → Int32 → Int32 → Int32 → Int32 → zM → Option ((Int32 ⊕ String) × zM)
  | 0, _, _, _, _, _, _ => none
  | n + 1, a1, a2, a3, a4, a5, μ => if (nI 32) < a5 then some (.inl a3, μ) else if a4 = 0 then some (.inl a3, μ) else zbd (eX11_lookAhead a2 μ) fun y4 => zbd (eJ7_fill_53178q11 F a5 (y4 6)) fun y6 => zbd (eX4_allRequests F y6) fun r8 => hX11_best_76 F (hX11_best_29 F n) F a1 a2 a3 a4 a5 r8 (nI 0) (zg y4 6 y6)
set_option maxRecDepth 20000 in
set_option maxHeartbeats 4000000 in
theorem sX11_best_29 {F : Nat} : ∀ {n : Nat} {a1 a2 a3 a4 a5 : Int32} {μ : zM} {ρ : (Int32 ⊕ String) × zM}, hX11_best_29 F n a1 a2 a3 a4 a5 μ = some ρ → zJ mX11_best 8 (4, 24) (0, 0) (zQX (4, 24) (zoI ρ.1) ρ.2) 29 [some (zq 0 0), some (zi a1), some (zi a2), some (zi a3), some (zi a4), some (zi a5), none, none] [] μ := by
  intro n
  induction n with
  | zero => intro a1 a2 a3 a4 a5 μ ρ h; exact nomatch (show (none : Option _) = some ρ from h)
  | succ n ih =>
    intro a1 a2 a3 a4 a5 μ ρ h
    have hK29 := @ih
    rw [hX11_best_29] at h
    refine z_iload dX11_best_29 rfl (z_const dX11_best_31 (z_icmp_gt dX11_best_33 (fun c1 => ?_) (fun c1 => ?_)))
    · have h := ziT h (c1)
      exact z_iload dX11_best_136 rfl (z_iretX dX11_best_137 rfl (by cases h; rfl))
    · have h := ziF h (c1)
      refine z_iload dX11_best_36 rfl (z_if_eq dX11_best_38 (fun c2 => ?_) (fun c2 => ?_))
      · have h := ziT h (c2)
        exact z_iload dX11_best_136 rfl (z_iretX dX11_best_137 rfl (by cases h; rfl))
      · have h := ziF h (c2)
        obtain ⟨y4, l3, h⟩ := zbd_some h
        obtain ⟨y6, l5, h⟩ := zbd_some h
        refine z_aload dX11_best_41 rfl (z_iload dX11_best_42 rfl (z_callV dX11_best_43 (tX11_lookAhead l3) (Nat.le_of_ble_eq_true rfl) cdX11_lookAhead naX11_lookAhead lkX11_317 imX11_lookAhead seX11_lookAhead in0_0 sh0_0 rfl rfl rfl (Nat.le_of_ble_eq_true rfl) (z_aload dX11_best_46 rfl (z_getR dX11_best_47 fkX11_35 in0_0 sh0_0 rfl (z_getR dX11_best_50 fkX11_86 in6_0 sh_0 rfl (z_getR dX11_best_53 fkX11_107 in6_3 sh_3 rfl (z_iload dX11_best_56 rfl (z_focus 6 (z_callS dX11_best_58 (tJ7_fill_53178q11 (by decide) l5) (Nat.le_of_ble_eq_true rfl) cdJ7_fill_53178 naJ7_fill_53178 lkX11_358 stJ7_fill_53178 rfl rfl (Nat.le_of_ble_eq_true rfl) (z_aload dX11_best_61 rfl (z_getR dX11_best_62 fkX11_35 in0_0 sh0_0 rfl ?_)))))))))))
        obtain ⟨r8, l7, h⟩ := zbd_some h
        exact z_getR dX11_best_65 fkX11_86 in6_0 sh_0 rfl (z_callV dX11_best_68 (tX4_allRequests (by decide) l7) (Nat.le_of_ble_eq_true rfl) cdX4_allRequests naX4_allRequests lkX11_330 imX4_allRequests seX4_allRequests in6_3 sh_3 rfl rfl rfl (Nat.le_of_ble_eq_true rfl) (z_istore dX11_best_71 (Nat.le_of_ble_eq_true rfl) (z_const dX11_best_73 (z_istore dX11_best_74 (Nat.le_of_ble_eq_true rfl) (z_mask [true, true, true, true, true, true, true, true] (sX11_best_76 hK29 h))))))
def eX11_best (F : Nat) (x0 x1 : Int32) (μ : zM) : Option ((Int32 ⊕ String) × zM) := if x0 < 0 then some (.inr "java/lang/IllegalArgumentException", μ) else if x0 ≤ (nI 20) then hX11_best_29 F F x0 x1 (nI 0) (-1) (nI 0) μ else some (.inr "java/lang/IllegalArgumentException", μ)
set_option maxRecDepth 20000 in
set_option maxHeartbeats 4000000 in
theorem tX11_best {F : Nat} {x0 x1 : Int32} {μ : zM} {ρ : (Int32 ⊕ String) × zM} (h : eX11_best F x0 x1 μ = some ρ) : LX mX11_best 8 (4, 24) [zq 0 0, zi x0, zi x1] μ (zoI ρ.1) ρ.2 := by
  unfold eX11_best at h
  refine LX.of (by decide +kernel) rfl (Nat.le_of_ble_eq_true rfl) ?_
  show zJ mX11_best 8 (4, 24) (0, 0) _ 0 [some (zq 0 0), some (zi x0), some (zi x1), none, none, none, none, none] [] _
  refine z_iload dX11_best_0 rfl (z_if_lt dX11_best_1 (fun c1 => ?_) (fun c1 => ?_))
  · have h := ziT h (c1)
    exact z_throwSW zx_IAE (i := 28) rfl rfl rfl dX11_best_10.1 dX11_best_13.1 dX11_best_14.1 dX11_best_17.1 dX11_best_20.1 (Nat.le_of_ble_eq_true rfl) (Nat.le_of_ble_eq_true rfl) (Nat.le_of_ble_eq_true rfl) (Nat.le_of_ble_eq_true rfl) (by cases h; rfl)
  · have h := ziF h (c1)
    refine z_iload dX11_best_4 rfl (z_const dX11_best_5 (z_icmp_le dX11_best_7 (fun c2 => ?_) (fun c2 => ?_)))
    · have h := ziT h (c2)
      exact z_const dX11_best_21 (z_istore dX11_best_22 (Nat.le_of_ble_eq_true rfl) (z_const dX11_best_23 (z_istore dX11_best_24 (Nat.le_of_ble_eq_true rfl) (z_const dX11_best_26 (z_istore dX11_best_27 (Nat.le_of_ble_eq_true rfl) (z_mask [true, true, true, true, true, true, false, false] (sX11_best_29 h)))))))
    · have h := ziF h (c2)
      exact z_throwSW zx_IAE (i := 28) rfl rfl rfl dX11_best_10.1 dX11_best_13.1 dX11_best_14.1 dX11_best_17.1 dX11_best_20.1 (Nat.le_of_ble_eq_true rfl) (Nat.le_of_ble_eq_true rfl) (Nat.le_of_ble_eq_true rfl) (Nat.le_of_ble_eq_true rfl) (by cases h; rfl)
-- X11_talk
def hX11_talk_58 (F : Nat) : Nat → Int32 → Int32 → Int32 → Int32 → zM → Option ((Int32 ⊕ String) × zM)
  | 0, _, _, _, _, _ => none
  | n + 1, a1, a3, a4, a5, μ => if a1 ≤ a5 then if a3 = 0 then zbd (eX4_allRequests F (μ 6)) fun r4 => some (.inl (r4 - a4), zg μ 6 (μ 6)) else zbd (eX4_allRepairs F (μ 6)) fun r6 => some (.inl (r6 - a4), zg μ 6 (μ 6)) else zbd (eX10_step F (μ 6)) fun y8 => (hX11_talk_58 F n) a1 a3 a4 (a5 + (nI 1)) (zg μ 6 y8)
set_option maxRecDepth 20000 in
set_option maxHeartbeats 4000000 in
theorem sX11_talk_58 {F : Nat} : ∀ {n : Nat} {a1 a3 a4 a5 : Int32} {μ : zM} {ρ : (Int32 ⊕ String) × zM}, hX11_talk_58 F n a1 a3 a4 a5 μ = some ρ → zJ mX11_talk 8 (4, 24) (0, 0) (zQX (4, 24) (zoI ρ.1) ρ.2) 58 [some (zq 0 0), some (zi a1), none, some (zi a3), some (zi a4), some (zi a5)] [] μ := by
  intro n
  induction n with
  | zero => intro a1 a3 a4 a5 μ ρ h; exact nomatch (show (none : Option _) = some ρ from h)
  | succ n ih =>
    intro a1 a3 a4 a5 μ ρ h
    have hK58 := @ih
    rw [hX11_talk_58] at h
    refine z_iload dX11_talk_58 rfl (z_iload dX11_talk_60 rfl (z_icmp_ge dX11_talk_61 (fun c1 => ?_) (fun c1 => ?_)))
    · have h := ziT h (c1)
      refine z_iload dX11_talk_77 rfl (z_if_eq dX11_talk_78 (fun c2 => ?_) (fun c2 => ?_))
      · have h := ziT h (c2)
        obtain ⟨r4, l3, h⟩ := zbd_some h
        exact z_aload dX11_talk_94 rfl (z_getR dX11_talk_95 fkX11_35 in0_0 sh0_0 rfl (z_getR dX11_talk_98 fkX11_86 in6_0 sh_0 rfl (z_focus 6 (z_callV dX11_talk_101 (tX4_allRequests (by decide) l3) (Nat.le_of_ble_eq_true rfl) cdX4_allRequests naX4_allRequests lkX11_330 imX4_allRequests seX4_allRequests in6_3 sh_3 rfl rfl rfl (Nat.le_of_ble_eq_true rfl) (z_iload dX11_talk_104 rfl (z_isub dX11_talk_106 (z_iretX dX11_talk_107 rfl (by cases h; rfl))))))))
      · have h := ziF h (c2)
        obtain ⟨r6, l5, h⟩ := zbd_some h
        exact z_aload dX11_talk_81 rfl (z_getR dX11_talk_82 fkX11_35 in0_0 sh0_0 rfl (z_getR dX11_talk_85 fkX11_86 in6_0 sh_0 rfl (z_focus 6 (z_callV dX11_talk_88 (tX4_allRepairs (by decide) l5) (Nat.le_of_ble_eq_true rfl) cdX4_allRepairs naX4_allRepairs lkX11_326 imX4_allRepairs seX4_allRepairs in6_3 sh_3 rfl rfl rfl (Nat.le_of_ble_eq_true rfl) (z_goto dX11_talk_91 (z_iload dX11_talk_104 rfl (z_isub dX11_talk_106 (z_iretX dX11_talk_107 rfl (by cases h; rfl)))))))))
    · have h := ziF h (c1)
      obtain ⟨y8, l7, h⟩ := zbd_some h
      exact z_aload dX11_talk_64 rfl (z_getR dX11_talk_65 fkX11_35 in0_0 sh0_0 rfl (z_focus 6 (z_callV dX11_talk_68 (tX10_step (by decide) l7) (Nat.le_of_ble_eq_true rfl) cdX10_step naX10_step lkX11_249 imX10_step seX10_step in6_0 sh_0 rfl rfl rfl (Nat.le_of_ble_eq_true rfl) (z_iinc dX11_talk_71 (Nat.le_of_ble_eq_true rfl) rfl (z_goto dX11_talk_74 (z_mask [true, true, false, true, true, true] (hK58 h)))))))
def eX11_talk (F : Nat) (x0 x1 x2 : Int32) (μ : zM) : Option ((Int32 ⊕ String) × zM) := if x0 < 0 then some (.inr "java/lang/IllegalArgumentException", μ) else if x0 ≤ (nI 120) then zbd (eX11_lookAhead x1 μ) fun y4 => if x2 = 0 then zbd (eX4_allRequests F (y4 6)) fun r7 => hX11_talk_58 F F x0 x2 r7 (nI 0) (zg y4 6 (y4 6)) else zbd (eX4_allRepairs F (y4 6)) fun r9 => hX11_talk_58 F F x0 x2 r9 (nI 0) (zg y4 6 (y4 6)) else some (.inr "java/lang/IllegalArgumentException", μ)
set_option maxRecDepth 20000 in
set_option maxHeartbeats 4000000 in
theorem tX11_talk {F : Nat} {x0 x1 x2 : Int32} {μ : zM} {ρ : (Int32 ⊕ String) × zM} (h : eX11_talk F x0 x1 x2 μ = some ρ) : LX mX11_talk 8 (4, 24) [zq 0 0, zi x0, zi x1, zi x2] μ (zoI ρ.1) ρ.2 := by
  unfold eX11_talk at h
  refine LX.of (by decide +kernel) rfl (Nat.le_of_ble_eq_true rfl) ?_
  show zJ mX11_talk 8 (4, 24) (0, 0) _ 0 [some (zq 0 0), some (zi x0), some (zi x1), some (zi x2), none, none] [] _
  refine z_iload dX11_talk_0 rfl (z_if_lt dX11_talk_1 (fun c1 => ?_) (fun c1 => ?_))
  · have h := ziT h (c1)
    exact z_throwSW zx_IAE (i := 27) rfl rfl rfl dX11_talk_10.1 dX11_talk_13.1 dX11_talk_14.1 dX11_talk_17.1 dX11_talk_20.1 (Nat.le_of_ble_eq_true rfl) (Nat.le_of_ble_eq_true rfl) (Nat.le_of_ble_eq_true rfl) (Nat.le_of_ble_eq_true rfl) (by cases h; rfl)
  · have h := ziF h (c1)
    refine z_iload dX11_talk_4 rfl (z_const dX11_talk_5 (z_icmp_le dX11_talk_7 (fun c2 => ?_) (fun c2 => ?_)))
    · have h := ziT h (c2)
      obtain ⟨y4, l3, h⟩ := zbd_some h
      refine z_aload dX11_talk_21 rfl (z_iload dX11_talk_22 rfl (z_callV dX11_talk_23 (tX11_lookAhead l3) (Nat.le_of_ble_eq_true rfl) cdX11_lookAhead naX11_lookAhead lkX11_317 imX11_lookAhead seX11_lookAhead in0_0 sh0_0 rfl rfl rfl (Nat.le_of_ble_eq_true rfl) (z_iload dX11_talk_26 rfl (z_if_eq dX11_talk_27 (fun c5 => ?_) (fun c5 => ?_)))))
      · have h := ziT h (c5)
        obtain ⟨r7, l6, h⟩ := zbd_some h
        exact z_aload dX11_talk_43 rfl (z_getR dX11_talk_44 fkX11_35 in0_0 sh0_0 rfl (z_getR dX11_talk_47 fkX11_86 in6_0 sh_0 rfl (z_focus 6 (z_callV dX11_talk_50 (tX4_allRequests (by decide) l6) (Nat.le_of_ble_eq_true rfl) cdX4_allRequests naX4_allRequests lkX11_330 imX4_allRequests seX4_allRequests in6_3 sh_3 rfl rfl rfl (Nat.le_of_ble_eq_true rfl) (z_istore dX11_talk_53 (Nat.le_of_ble_eq_true rfl) (z_const dX11_talk_55 (z_istore dX11_talk_56 (Nat.le_of_ble_eq_true rfl) (z_mask [true, true, false, true, true, true] (sX11_talk_58 h)))))))))
      · have h := ziF h (c5)
        obtain ⟨r9, l8, h⟩ := zbd_some h
        exact z_aload dX11_talk_30 rfl (z_getR dX11_talk_31 fkX11_35 in0_0 sh0_0 rfl (z_getR dX11_talk_34 fkX11_86 in6_0 sh_0 rfl (z_focus 6 (z_callV dX11_talk_37 (tX4_allRepairs (by decide) l8) (Nat.le_of_ble_eq_true rfl) cdX4_allRepairs naX4_allRepairs lkX11_326 imX4_allRepairs seX4_allRepairs in6_3 sh_3 rfl rfl rfl (Nat.le_of_ble_eq_true rfl) (z_goto dX11_talk_40 (z_istore dX11_talk_53 (Nat.le_of_ble_eq_true rfl) (z_const dX11_talk_55 (z_istore dX11_talk_56 (Nat.le_of_ble_eq_true rfl) (z_mask [true, true, false, true, true, true] (sX11_talk_58 h))))))))))
    · have h := ziF h (c2)
      exact z_throwSW zx_IAE (i := 27) rfl rfl rfl dX11_talk_10.1 dX11_talk_13.1 dX11_talk_14.1 dX11_talk_17.1 dX11_talk_20.1 (Nat.le_of_ble_eq_true rfl) (Nat.le_of_ble_eq_true rfl) (Nat.le_of_ble_eq_true rfl) (Nat.le_of_ble_eq_true rfl) (by cases h; rfl)
-- X11_ticks
def hX11_ticks_31 (F : Nat) : Nat → Int32 → Int32 → Int32 → zM → Option ((Int32 ⊕ String) × zM)
  | 0, _, _, _, _ => none
  | n + 1, a1, a2, a3, μ => if a1 ≤ a3 then some (.inl (((μ 4) 0 13) - a2), zg μ 4 (μ 4)) else zbd (eX10_step F (μ 4)) fun y3 => (hX11_ticks_31 F n) a1 a2 (a3 + (nI 1)) (zg μ 4 y3)
set_option maxRecDepth 20000 in
set_option maxHeartbeats 4000000 in
theorem sX11_ticks_31 {F : Nat} : ∀ {n : Nat} {a1 a2 a3 : Int32} {μ : zM} {ρ : (Int32 ⊕ String) × zM}, hX11_ticks_31 F n a1 a2 a3 μ = some ρ → zJ mX11_ticks 8 (4, 24) (0, 0) (zQX (4, 24) (zoI ρ.1) ρ.2) 31 [some (zq 0 0), some (zi a1), some (zi a2), some (zi a3)] [] μ := by
  intro n
  induction n with
  | zero => intro a1 a2 a3 μ ρ h; exact nomatch (show (none : Option _) = some ρ from h)
  | succ n ih =>
    intro a1 a2 a3 μ ρ h
    have hK31 := @ih
    rw [hX11_ticks_31] at h
    refine z_iload dX11_ticks_31 rfl (z_iload dX11_ticks_32 rfl (z_icmp_ge dX11_ticks_33 (fun c1 => ?_) (fun c1 => ?_)))
    · have h := ziT h (c1)
      exact z_aload dX11_ticks_49 rfl (z_getR dX11_ticks_50 fkX11_28 in0_0 sh0_0 rfl (z_focus 4 (z_getI dX11_ticks_53 fkX11_246 in4_0 sh_0 rfl (z_iload dX11_ticks_56 rfl (z_isub dX11_ticks_57 (z_iretX dX11_ticks_58 rfl (by cases h; rfl)))))))
    · have h := ziF h (c1)
      obtain ⟨y3, l2, h⟩ := zbd_some h
      exact z_aload dX11_ticks_36 rfl (z_getR dX11_ticks_37 fkX11_28 in0_0 sh0_0 rfl (z_focus 4 (z_callV dX11_ticks_40 (tX10_step (by decide) l2) (Nat.le_of_ble_eq_true rfl) cdX10_step naX10_step lkX11_249 imX10_step seX10_step in4_0 sh_0 rfl rfl rfl (Nat.le_of_ble_eq_true rfl) (z_iinc dX11_ticks_43 (Nat.le_of_ble_eq_true rfl) rfl (z_goto dX11_ticks_46 (z_mask [true, true, true, true] (hK31 h)))))))
def eX11_ticks (F : Nat) (x0 : Int32) (μ : zM) : Option ((Int32 ⊕ String) × zM) := if x0 < (nI 1) then some (.inr "java/lang/IllegalArgumentException", μ) else if x0 ≤ (nI 60) then hX11_ticks_31 F F x0 ((μ 4) 0 13) (nI 0) (zg μ 4 (μ 4)) else some (.inr "java/lang/IllegalArgumentException", μ)
set_option maxRecDepth 20000 in
set_option maxHeartbeats 4000000 in
theorem tX11_ticks {F : Nat} {x0 : Int32} {μ : zM} {ρ : (Int32 ⊕ String) × zM} (h : eX11_ticks F x0 μ = some ρ) : LX mX11_ticks 8 (4, 24) [zq 0 0, zi x0] μ (zoI ρ.1) ρ.2 := by
  unfold eX11_ticks at h
  refine LX.of (by decide +kernel) rfl (Nat.le_of_ble_eq_true rfl) ?_
  show zJ mX11_ticks 8 (4, 24) (0, 0) _ 0 [some (zq 0 0), some (zi x0), none, none] [] _
  refine z_iload dX11_ticks_0 rfl (z_const dX11_ticks_1 (z_icmp_lt dX11_ticks_2 (fun c1 => ?_) (fun c1 => ?_)))
  · have h := ziT h (c1)
    exact z_throwS zx_IAE (i := 22) rfl rfl rfl dX11_ticks_11.1 dX11_ticks_14.1 dX11_ticks_15.1 dX11_ticks_17.1 dX11_ticks_20.1 (Nat.le_of_ble_eq_true rfl) (Nat.le_of_ble_eq_true rfl) (Nat.le_of_ble_eq_true rfl) (Nat.le_of_ble_eq_true rfl) (by cases h; rfl)
  · have h := ziF h (c1)
    refine z_iload dX11_ticks_5 rfl (z_const dX11_ticks_6 (z_icmp_le dX11_ticks_8 (fun c2 => ?_) (fun c2 => ?_)))
    · have h := ziT h (c2)
      exact z_aload dX11_ticks_21 rfl (z_getR dX11_ticks_22 fkX11_28 in0_0 sh0_0 rfl (z_focus 4 (z_getI dX11_ticks_25 fkX11_246 in4_0 sh_0 rfl (z_istore dX11_ticks_28 (Nat.le_of_ble_eq_true rfl) (z_const dX11_ticks_29 (z_istore dX11_ticks_30 (Nat.le_of_ble_eq_true rfl) (z_mask [true, true, true, true] (sX11_ticks_31 h))))))))
    · have h := ziF h (c2)
      exact z_throwS zx_IAE (i := 22) rfl rfl rfl dX11_ticks_11.1 dX11_ticks_14.1 dX11_ticks_15.1 dX11_ticks_17.1 dX11_ticks_20.1 (Nat.le_of_ble_eq_true rfl) (Nat.le_of_ble_eq_true rfl) (Nat.le_of_ble_eq_true rfl) (Nat.le_of_ble_eq_true rfl) (by cases h; rfl)
-- X11_whole
def hX11_whole_7 (F : Nat) : Nat → Int32 → zM → Option (Int32 × zM)
  | 0, _, _ => none
  | n + 1, a2, μ => if (nI 120) ≤ a2 then zbd (eX10_isWhole F (μ 6)) fun r3 => if r3 = 0 then some ((-1), zg μ 6 (μ 6)) else some ((nI 120), zg μ 6 (μ 6)) else zbd (eX10_isWhole F (μ 6)) fun r6 => if r6 = 0 then zbd (eX10_step F (μ 6)) fun y9 => (hX11_whole_7 F n) (a2 + (nI 1)) (zg μ 6 y9) else some (a2, zg μ 6 (μ 6))
set_option maxRecDepth 20000 in
set_option maxHeartbeats 4000000 in
theorem sX11_whole_7 {F : Nat} : ∀ {n : Nat} {a2 : Int32} {μ : zM} {ρ : Int32 × zM}, hX11_whole_7 F n a2 μ = some ρ → zJ mX11_whole 8 (0, 0) (0, 0) (zQ (some (zi ρ.1)) ρ.2) 7 [some (zq 0 0), none, some (zi a2)] [] μ := by
  intro n
  induction n with
  | zero => intro a2 μ ρ h; exact nomatch (show (none : Option _) = some ρ from h)
  | succ n ih =>
    intro a2 μ ρ h
    have hK7 := @ih
    rw [hX11_whole_7] at h
    refine z_iload dX11_whole_7 rfl (z_const dX11_whole_8 (z_icmp_ge dX11_whole_10 (fun c1 => ?_) (fun c1 => ?_)))
    · have h := ziT h (c1)
      obtain ⟨r3, l2, h⟩ := zbd_some h
      refine z_aload dX11_whole_38 rfl (z_getR dX11_whole_39 fkX11_35 in0_0 sh0_0 rfl (z_focus 6 (z_callV dX11_whole_42 (tX10_isWhole (by decide) l2) (Nat.le_of_ble_eq_true rfl) cdX10_isWhole naX10_isWhole lkX11_321 imX10_isWhole seX10_isWhole in6_0 sh_0 rfl rfl rfl (Nat.le_of_ble_eq_true rfl) (z_if_eq dX11_whole_45 (fun c4 => ?_) (fun c4 => ?_)))))
      · have h := ziT h (c4)
        exact z_const dX11_whole_53 (z_iretQ dX11_whole_54 rfl (by cases h; rfl))
      · have h := ziF h (c4)
        exact z_const dX11_whole_48 (z_goto dX11_whole_50 (z_iretQ dX11_whole_54 rfl (by cases h; rfl)))
    · have h := ziF h (c1)
      obtain ⟨r6, l5, h⟩ := zbd_some h
      refine z_aload dX11_whole_13 rfl (z_getR dX11_whole_14 fkX11_35 in0_0 sh0_0 rfl (z_focus 6 (z_callV dX11_whole_17 (tX10_isWhole (by decide) l5) (Nat.le_of_ble_eq_true rfl) cdX10_isWhole naX10_isWhole lkX11_321 imX10_isWhole seX10_isWhole in6_0 sh_0 rfl rfl rfl (Nat.le_of_ble_eq_true rfl) (z_if_eq dX11_whole_20 (fun c7 => ?_) (fun c7 => ?_)))))
      · have h := ziT h (c7)
        obtain ⟨y9, l8, h⟩ := zbd_some h
        exact z_aload dX11_whole_25 rfl (z_getR dX11_whole_26 fkX11_35 in0_0 sh0_0 rfl (z_callV dX11_whole_29 (tX10_step (by decide) l8) (Nat.le_of_ble_eq_true rfl) cdX10_step naX10_step lkX11_249 imX10_step seX10_step in6_0 sh_0 rfl rfl rfl (Nat.le_of_ble_eq_true rfl) (z_iinc dX11_whole_32 (Nat.le_of_ble_eq_true rfl) rfl (z_goto dX11_whole_35 (z_mask [true, false, true] (hK7 h))))))
      · have h := ziF h (c7)
        exact z_iload dX11_whole_23 rfl (z_iretQ dX11_whole_24 rfl (by cases h; rfl))
def eX11_whole (F : Nat) (x0 : Int32) (μ : zM) : Option (Int32 × zM) := zbd (eX11_lookAhead x0 μ) fun y2 => hX11_whole_7 F F (nI 0) y2
set_option maxRecDepth 20000 in
set_option maxHeartbeats 4000000 in
theorem tX11_whole {F : Nat} {x0 : Int32} {μ : zM} {ρ : Int32 × zM} (h : eX11_whole F x0 μ = some ρ) : LM mX11_whole 8 [zq 0 0, zi x0] μ (some (zi ρ.1)) ρ.2 := by
  unfold eX11_whole at h
  refine LM.of (by decide +kernel) rfl (Nat.le_of_ble_eq_true rfl) ?_
  show zJ mX11_whole 8 (0, 0) (0, 0) _ 0 [some (zq 0 0), some (zi x0), none] [] _
  obtain ⟨y2, l1, h⟩ := zbd_some h
  exact z_aload dX11_whole_0 rfl (z_iload dX11_whole_1 rfl (z_callV dX11_whole_2 (tX11_lookAhead l1) (Nat.le_of_ble_eq_true rfl) cdX11_lookAhead naX11_lookAhead lkX11_317 imX11_lookAhead seX11_lookAhead in0_0 sh0_0 rfl rfl rfl (Nat.le_of_ble_eq_true rfl) (z_const dX11_whole_5 (z_istore dX11_whole_6 (Nat.le_of_ble_eq_true rfl) (z_mask [true, false, true] (sX11_whole_7 h))))))
-- X11_group
def eX11_group (F : Nat) (μ : zM) : Option ((Int32 ⊕ String) × zM) := zbd (eX6_read F (zg μ 6 (μ 4))) fun y2 => if ((zw (y2.2 0) 0 6 y2.1) 0 6) = (-1) then zlet (zg (zg y2.2 0 (zw (zw (y2.2 0) 0 6 y2.1) 1 1 (nI 0))) 4 (y2.2 4)) fun m4 => if ((y2.2 4) 0 8) < (nI 12) then zlet (zg m4 4 (zw (y2.2 6) 0 8 (((y2.2 6) 0 8) + (nI 1)))) fun m6 => zbd (eX10_findWays F (m6 4)) fun y8 => some (.inl (y8 0 8), zg m6 4 y8) else some (.inr "java/lang/UnsupportedOperationException", m4) else some (.inr "java/lang/IllegalArgumentException", zg y2.2 0 (zw (zw (y2.2 0) 0 6 y2.1) 1 1 (nI 0)))
set_option maxRecDepth 20000 in
set_option maxHeartbeats 4000000 in
theorem tX11_group {F : Nat} {μ : zM} {ρ : (Int32 ⊕ String) × zM} (h : eX11_group F μ = some ρ) : LX mX11_group 11 (4, 24) [zq 0 0] μ (zoI ρ.1) ρ.2 := by
  unfold eX11_group at h
  refine LX.of (by decide +kernel) rfl (Nat.le_of_ble_eq_true rfl) ?_
  show zJ mX11_group 11 (4, 24) (0, 0) _ 0 [some (zq 0 0)] [] _
  obtain ⟨y2, l1, h⟩ := zbd_some h
  refine z_aload dX11_group_0 rfl (z_getR dX11_group_1 fkX11_35 in0_0 sh0_0 rfl (z_aload dX11_group_4 rfl (z_getR dX11_group_5 fkX11_28 in0_0 sh0_0 rfl (z_focus 6 (z_callV dX11_group_8 (tX10_cp (w := 2) (v := 0) (by decide) (by decide) (by decide)) (Nat.le_of_ble_eq_true rfl) cdX10_copy naX10_copy lkX11_57 imX10_copy seX10_copy in6_0 sh_0 rfl rfl rfl (Nat.le_of_ble_eq_true rfl) (z_aload dX11_group_11 rfl (z_aload dX11_group_12 rfl (z_getR dX11_group_13 fkX11_21 in0_0 sh0_0 rfl (z_aload dX11_group_16 rfl (z_getR dX11_group_17 fkX11_35 in0_0 sh0_0 rfl (z_callV dX11_group_20 (tX6_read l1) (Nat.le_of_ble_eq_true rfl) cdX6_read naX6_read lkX11_61 imX6_read seX6_read in0_3 sh0_3 rfl rfl rfl (Nat.le_of_ble_eq_true rfl) ?_)))))))))))
  refine z_focus 0 (z_putI dX11_group_23 fkX11_42 in0_0 sh0_0 rfl (fun _ _ _ h => by cases h; rfl) ⟨_, rfl, rfl, rfl⟩ (z_aload dX11_group_26 rfl (z_getR dX11_group_27 fkX11_10 in0_0 sh0_0 rfl (z_const dX11_group_30 (z_putI dX11_group_31 fkX11_54 in0_1 sh0_1 rfl (fun _ _ _ h => by cases h; rfl) ⟨_, rfl, rfl, rfl⟩ (z_aload dX11_group_34 rfl (z_getI dX11_group_35 fkX11_42 in0_0 sh0_0 rfl (z_const dX11_group_38 (z_icmp_eq dX11_group_39 (fun c3 => ?_) (fun c3 => ?_))))))))))
  · have h := ziT h (c3)
    have h := zlet_h h
    refine z_aload dX11_group_52 rfl (z_getR dX11_group_53 fkX11_28 in0_0 sh0_0 rfl (z_focus 4 (z_getI dX11_group_56 fkX11_72 in4_0 sh_0 rfl (z_const dX11_group_59 (z_icmp_lt dX11_group_61 (fun c5 => ?_) (fun c5 => ?_))))))
    · have h := ziT h (c5)
      refine z_aload dX11_group_74 rfl (z_getR dX11_group_75 fkX11_28 in0_0 sh0_0 rfl (z_aload dX11_group_78 rfl (z_getR dX11_group_79 fkX11_35 in0_0 sh0_0 rfl (z_focus 4 (z_callV dX11_group_82 (tX10_cp (w := 0) (v := 2) (by decide) (by decide) (by decide)) (Nat.le_of_ble_eq_true rfl) cdX10_copy naX10_copy lkX11_57 imX10_copy seX10_copy in4_0 sh_0 rfl rfl rfl (Nat.le_of_ble_eq_true rfl) (z_aload dX11_group_85 rfl (z_getR dX11_group_86 fkX11_28 in0_0 sh0_0 rfl (z_dup dX11_group_89 rfl (z_getI dX11_group_90 fkX11_72 in4_0 sh_0 rfl (z_const dX11_group_93 (z_iadd dX11_group_94 ?_)))))))))))
      have h := zlet_h h
      obtain ⟨y8, l7, h⟩ := zbd_some h
      exact z_putI dX11_group_95 fkX11_72 in4_0 sh_0 rfl (fun _ _ _ h => by cases h; rfl) ⟨_, rfl, rfl, rfl⟩ (z_aload dX11_group_98 rfl (z_getR dX11_group_99 fkX11_28 in0_0 sh0_0 rfl (z_focus 4 (z_callV dX11_group_102 (tX10_findWays (by decide) l7) (Nat.le_of_ble_eq_true rfl) cdX10_findWays naX10_findWays lkX11_80 imX10_findWays seX10_findWays in4_0 sh_0 rfl rfl rfl (Nat.le_of_ble_eq_true rfl) (z_aload dX11_group_105 rfl (z_getR dX11_group_106 fkX11_28 in0_0 sh0_0 rfl (z_getI dX11_group_109 fkX11_72 in4_0 sh_0 rfl (z_iretX dX11_group_112 rfl (by cases h; rfl)))))))))
    · have h := ziF h (c5)
      exact z_throwS zx_UOE (i := 12) rfl rfl rfl dX11_group_64.1 dX11_group_67.1 dX11_group_68.1 dX11_group_70.1 dX11_group_73.1 (Nat.le_of_ble_eq_true rfl) (Nat.le_of_ble_eq_true rfl) (Nat.le_of_ble_eq_true rfl) (Nat.le_of_ble_eq_true rfl) (by cases h; rfl)
  · have h := ziF h (c3)
    exact z_throwS zx_IAE (i := 11) rfl rfl rfl dX11_group_42.1 dX11_group_45.1 dX11_group_46.1 dX11_group_48.1 dX11_group_51.1 (Nat.le_of_ble_eq_true rfl) (Nat.le_of_ble_eq_true rfl) (Nat.le_of_ble_eq_true rfl) (Nat.le_of_ble_eq_true rfl) (by cases h; rfl)
