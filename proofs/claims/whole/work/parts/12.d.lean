-- X10_timeOf
def eX10_timeOf (x0 x1 : Int32) (X : zX) : Option (Int32) := some ((X 0 12) + (zmx (nI 1) (x0 <<< (x1 &&& 31))))
set_option maxRecDepth 20000 in
set_option maxHeartbeats 4000000 in
theorem tX10_timeOf {μ : zM} {w : Nat} (hw : w < 3) {x0 x1 : Int32} {X : zX} {ρ : Int32} (h : eX10_timeOf x0 x1 X = some ρ) : LM mX10_timeOf 1 [zq (w + 4) 0, zi x0, zi x1] (zg μ (w + 4) X) (some (zi ρ)) (zg μ (w + 4) X) := by
  unfold eX10_timeOf at h
  refine LM.of (by decide +kernel) rfl (Nat.le_of_ble_eq_true rfl) ?_
  show zJ mX10_timeOf 1 (0, 0) (0, 0) _ 0 [some (zq (w + 4) 0), some (zi x0), some (zi x1)] [] _
  exact z_aload dX10_timeOf_0 rfl (z_getI dX10_timeOf_1 fkX10_80 (in_0 hw) sh_0 rfl (z_const dX10_timeOf_4 (z_iload dX10_timeOf_5 rfl (z_iload dX10_timeOf_6 rfl (z_ishl dX10_timeOf_7 (z_max dX10_timeOf_8 lkX10_171 (Nat.le_of_ble_eq_true rfl) (Nat.le_of_ble_eq_true rfl) (z_iadd dX10_timeOf_11 (z_iretQ dX10_timeOf_12 rfl (by cases h; rfl)))))))))
-- X10_crosses
def eX10_crosses (x0 : Int32) (X : zX) : Option (Int32 × zX) := zbd (eX2_addLoad x0 X) fun y2 => if (y2 2 1) = 0 then zbd (eX1_upTo (nI 99) y2) fun y5 => zchk (zin x0 10) (if y5.1 < (y5.2 37 (zn x0)) then some ((nI 0), y5.2) else some ((nI 1), y5.2)) else some ((nI 1), y2)
set_option maxRecDepth 20000 in
set_option maxHeartbeats 4000000 in
theorem tX10_crosses {μ : zM} {w : Nat} (hw : w < 3) {x0 : Int32} {X : zX} {ρ : Int32 × zX} (h : eX10_crosses x0 X = some ρ) : LM mX10_crosses 2 [zq (w + 4) 0, zi x0] (zg μ (w + 4) X) (some (zi ρ.1)) (zg μ (w + 4) ρ.2) := by
  unfold eX10_crosses at h
  refine LM.of (by decide +kernel) rfl (Nat.le_of_ble_eq_true rfl) ?_
  show zJ mX10_crosses 2 (0, 0) (0, 0) _ 0 [some (zq (w + 4) 0), some (zi x0)] [] _
  obtain ⟨y2, l1, h⟩ := zbd_some h
  refine z_aload dX10_crosses_0 rfl (z_getR dX10_crosses_1 fkX10_42 (in_0 hw) sh_0 rfl (z_iload dX10_crosses_4 rfl (z_callV dX10_crosses_5 (tX2_addLoad hw l1) (Nat.le_of_ble_eq_true rfl) cdX2_addLoad naX2_addLoad lkX10_378 imX2_addLoad seX2_addLoad (in_5 hw) sh_5 rfl rfl rfl (Nat.le_of_ble_eq_true rfl) (z_aload dX10_crosses_8 rfl (z_getR dX10_crosses_9 fkX10_21 (in_0 hw) sh_0 rfl (z_getI dX10_crosses_12 fkX10_381 (in_2 hw) sh_2 rfl (z_if_ne dX10_crosses_15 (fun c3 => ?_) (fun c3 => ?_))))))))
  · have h := ziF h (c3)
    exact z_const dX10_crosses_39 (z_goto dX10_crosses_40 (z_zretQ dX10_crosses_44 rfl rfl (by cases h; rfl)))
  · have h := ziT h (c3)
    obtain ⟨y5, l4, h⟩ := zbd_some h
    obtain ⟨s6, h⟩ := zchk_some h
    refine z_aload dX10_crosses_18 rfl (z_getR dX10_crosses_19 fkX10_21 (in_0 hw) sh_0 rfl (z_const dX10_crosses_22 (z_callV dX10_crosses_24 (tX1_upTo hw l4) (Nat.le_of_ble_eq_true rfl) cdX1_upTo naX1_upTo lkX10_211 imX1_upTo seX1_upTo (in_2 hw) sh_2 rfl rfl rfl (Nat.le_of_ble_eq_true rfl) (z_aload dX10_crosses_27 rfl (z_getR dX10_crosses_28 fkX10_42 (in_0 hw) sh_0 rfl (z_getR dX10_crosses_31 fkX10_384 (in_5 hw) sh_5 rfl (z_iload dX10_crosses_34 rfl (z_iald dX10_crosses_35 (in_37 hw) sh_37 (zin_vp s6) (z_icmp_lt dX10_crosses_36 (fun c7 => ?_) (fun c7 => ?_))))))))))
    · have h := ziT h (c7)
      exact z_const dX10_crosses_43 (z_zretQ dX10_crosses_44 rfl rfl (by cases h; rfl))
    · have h := ziF h (c7)
      exact z_const dX10_crosses_39 (z_goto dX10_crosses_40 (z_zretQ dX10_crosses_44 rfl rfl (by cases h; rfl)))
-- X10_handOver
def eX10_handOver (x0 x1 : Int32) (X : zX) : Option (zX) := zchk (zin x0 6) (zchk (zin x0 6) (zlet (zw X 9 (zn x0) ((X 9 (zn x0)) ||| ((nI 1) <<< (x1 &&& 31)))) fun X3 => zchk (zin x0 6) (zchk (zin x0 6) (zbd (eX5_setGiver ((x0 * (nI 12)) + x1) x0 (X 0 12) (zw X3 10 (zn x0) (zmx (X 10 (zn x0)) x1))) fun y7 => zchk (zin ((x0 * (nI 12)) + x1) 72) (zbd (eX5_setGap ((x0 * (nI 12)) + x1) (-1) (zw y7 21 (zn ((x0 * (nI 12)) + x1)) (-1))) fun y10 => some y10)))))
set_option maxRecDepth 20000 in
set_option maxHeartbeats 4000000 in
theorem tX10_handOver {μ : zM} {w : Nat} (hw : w < 3) {x0 x1 : Int32} {X : zX} {ρ : zX} (h : eX10_handOver x0 x1 X = some ρ) : LM mX10_handOver 2 [zq (w + 4) 0, zi x0, zi x1] (zg μ (w + 4) X) none (zg μ (w + 4) ρ) := by
  unfold eX10_handOver at h
  refine LM.of (by decide +kernel) rfl (Nat.le_of_ble_eq_true rfl) ?_
  show zJ mX10_handOver 2 (0, 0) (0, 0) _ 0 [some (zq (w + 4) 0), some (zi x0), some (zi x1), none] [] _
  obtain ⟨s1, h⟩ := zchk_some h
  refine z_iload dX10_handOver_0 rfl (z_iload dX10_handOver_1 rfl (z_callSN dX10_handOver_2 (tX11_cell) (Nat.le_of_ble_eq_true rfl) cdX11_cell naX11_cell lkX10_156 stX11_cell rfl rfl (Nat.le_of_ble_eq_true rfl) (z_istore dX10_handOver_5 (Nat.le_of_ble_eq_true rfl) (z_aload dX10_handOver_6 rfl (z_getR dX10_handOver_7 fkX10_28 (in_0 hw) sh_0 rfl (z_getR dX10_handOver_10 fkX10_150 (in_3 hw) sh_3 rfl (z_iload dX10_handOver_13 rfl (z_dup2 dX10_handOver_14 rfl rfl (z_iald dX10_handOver_15 (in_9 hw) sh_9 (zin_vp s1) (z_const dX10_handOver_16 (z_iload dX10_handOver_17 rfl ?_)))))))))))
  obtain ⟨s2, h⟩ := zchk_some h
  have h := zlet_h h
  obtain ⟨s4, h⟩ := zchk_some h
  refine z_ishl dX10_handOver_18 (z_ior dX10_handOver_19 (z_iast dX10_handOver_20 (in_9 hw) sh_9 (zin_vp s2) (z_aload dX10_handOver_21 rfl (z_getR dX10_handOver_22 fkX10_28 (in_0 hw) sh_0 rfl (z_getR dX10_handOver_25 fkX10_153 (in_3 hw) sh_3 rfl (z_iload dX10_handOver_28 rfl (z_aload dX10_handOver_29 rfl (z_getR dX10_handOver_30 fkX10_28 (in_0 hw) sh_0 rfl (z_getR dX10_handOver_33 fkX10_153 (in_3 hw) sh_3 rfl (z_iload dX10_handOver_36 rfl (z_iald dX10_handOver_37 (in_10 hw) sh_10 (zin_vp s4) ?_)))))))))))
  obtain ⟨s5, h⟩ := zchk_some h
  obtain ⟨y7, l6, h⟩ := zbd_some h
  refine z_iload dX10_handOver_38 rfl (z_max dX10_handOver_39 lkX10_171 (Nat.le_of_ble_eq_true rfl) (Nat.le_of_ble_eq_true rfl) (z_iast dX10_handOver_42 (in_10 hw) sh_10 (zin_vp s5) (z_aload dX10_handOver_43 rfl (z_getR dX10_handOver_44 fkX10_35 (in_0 hw) sh_0 rfl (z_iload dX10_handOver_47 rfl (z_iload dX10_handOver_48 rfl (z_aload dX10_handOver_49 rfl (z_getI dX10_handOver_50 fkX10_80 (in_0 hw) sh_0 rfl (z_callV dX10_handOver_53 (tX5_setGiver hw l6) (Nat.le_of_ble_eq_true rfl) cdX5_setGiver naX5_setGiver lkX10_160 imX5_setGiver seX5_setGiver (in_4 hw) sh_4 rfl rfl rfl (Nat.le_of_ble_eq_true rfl) (z_aload dX10_handOver_56 rfl (z_getR dX10_handOver_57 fkX10_35 (in_0 hw) sh_0 rfl ?_)))))))))))
  obtain ⟨s8, h⟩ := zchk_some h
  obtain ⟨y10, l9, h⟩ := zbd_some h
  exact z_getR dX10_handOver_60 fkX10_176 (in_4 hw) sh_4 rfl (z_iload dX10_handOver_63 rfl (z_const dX10_handOver_64 (z_iast dX10_handOver_65 (in_21 hw) sh_21 (zin_vp s8) (z_aload dX10_handOver_66 rfl (z_getR dX10_handOver_67 fkX10_35 (in_0 hw) sh_0 rfl (z_iload dX10_handOver_70 rfl (z_const dX10_handOver_71 (z_callV dX10_handOver_72 (tX5_setGap hw l9) (Nat.le_of_ble_eq_true rfl) cdX5_setGap naX5_setGap lkX10_179 imX5_setGap seX5_setGap (in_4 hw) sh_4 rfl rfl rfl (Nat.le_of_ble_eq_true rfl) (z_vretQ dX10_handOver_75 rfl (by cases h; rfl))))))))))
-- X10_hearReport
def eX10_hearReport (x0 x1 : Int32) (X : zX) : Option (zX) := zchk (zin x1 64) (zchk (zin x1 64) (zchk (zin ((x0 * (nI 6)) + (X 47 (zn x1))) 36) (zlet (zw X 19 (zn ((x0 * (nI 6)) + (X 47 (zn x1)))) (X 52 (zn x1))) fun X4 => zchk (zin ((x0 * (nI 6)) + (X 47 (zn x1))) 36) (zlet (zw X4 20 (zn ((x0 * (nI 6)) + (X 47 (zn x1)))) (X 0 12)) fun X6 => zchk (zin x1 64) (if (X 53 (zn x1)) = (-1) then some X6 else zchk (zin x1 64) (zchk (zin x1 64) (zchk (zin ((x0 * (nI 6)) + (X 47 (zn x1))) 36) (zlet (zw X6 18 (zn ((x0 * (nI 6)) + (X 47 (zn x1)))) (zmx (nI 1) ((((X 0 12) - (X 53 (zn x1))) - (X 54 (zn x1))) / (nI 2)))) fun X12 => some X12))))))))
set_option maxRecDepth 20000 in
set_option maxHeartbeats 4000000 in
theorem tX10_hearReport {μ : zM} {w : Nat} (hw : w < 3) {x0 x1 : Int32} {X : zX} {ρ : zX} (h : eX10_hearReport x0 x1 X = some ρ) : LM mX10_hearReport 2 [zq (w + 4) 0, zi x0, zi x1] (zg μ (w + 4) X) none (zg μ (w + 4) ρ) := by
  unfold eX10_hearReport at h
  refine LM.of (by decide +kernel) rfl (Nat.le_of_ble_eq_true rfl) ?_
  show zJ mX10_hearReport 2 (0, 0) (0, 0) _ 0 [some (zq (w + 4) 0), some (zi x0), some (zi x1), none] [] _
  obtain ⟨s1, h⟩ := zchk_some h
  refine z_iload dX10_hearReport_0 rfl (z_aload dX10_hearReport_1 rfl (z_getR dX10_hearReport_2 fkX10_56 (in_0 hw) sh_0 rfl (z_getR dX10_hearReport_5 fkX10_261 (in_7 hw) sh_7 rfl (z_iload dX10_hearReport_8 rfl (z_iald dX10_hearReport_9 (in_47 hw) sh_47 (zin_vp s1) (z_callSN dX10_hearReport_10 (tX11_pair) (Nat.le_of_ble_eq_true rfl) cdX11_pair naX11_pair lkX10_208 stX11_pair rfl rfl (Nat.le_of_ble_eq_true rfl) (z_istore dX10_hearReport_13 (Nat.le_of_ble_eq_true rfl) (z_aload dX10_hearReport_14 rfl (z_getR dX10_hearReport_15 fkX10_28 (in_0 hw) sh_0 rfl (z_getR dX10_hearReport_18 fkX10_264 (in_3 hw) sh_3 rfl (z_iload dX10_hearReport_21 rfl ?_)))))))))))
  obtain ⟨s2, h⟩ := zchk_some h
  obtain ⟨s3, h⟩ := zchk_some h
  have h := zlet_h h
  refine z_aload dX10_hearReport_22 rfl (z_getR dX10_hearReport_23 fkX10_56 (in_0 hw) sh_0 rfl (z_getR dX10_hearReport_26 fkX10_267 (in_7 hw) sh_7 rfl (z_iload dX10_hearReport_29 rfl (z_iald dX10_hearReport_30 (in_52 hw) sh_52 (zin_vp s2) (z_iast dX10_hearReport_31 (in_19 hw) sh_19 (zin_vp s3) (z_aload dX10_hearReport_32 rfl (z_getR dX10_hearReport_33 fkX10_28 (in_0 hw) sh_0 rfl (z_getR dX10_hearReport_36 fkX10_270 (in_3 hw) sh_3 rfl (z_iload dX10_hearReport_39 rfl (z_aload dX10_hearReport_40 rfl (z_getI dX10_hearReport_41 fkX10_80 (in_0 hw) sh_0 rfl ?_)))))))))))
  obtain ⟨s5, h⟩ := zchk_some h
  have h := zlet_h h
  obtain ⟨s7, h⟩ := zchk_some h
  refine z_iast dX10_hearReport_44 (in_20 hw) sh_20 (zin_vp s5) (z_aload dX10_hearReport_45 rfl (z_getR dX10_hearReport_46 fkX10_56 (in_0 hw) sh_0 rfl (z_getR dX10_hearReport_49 fkX10_273 (in_7 hw) sh_7 rfl (z_iload dX10_hearReport_52 rfl (z_iald dX10_hearReport_53 (in_53 hw) sh_53 (zin_vp s7) (z_const dX10_hearReport_54 (z_icmp_eq dX10_hearReport_55 (fun c8 => ?_) (fun c8 => ?_))))))))
  · have h := ziT h (c8)
    exact z_vretQ dX10_hearReport_97 rfl (by cases h; rfl)
  · have h := ziF h (c8)
    obtain ⟨s9, h⟩ := zchk_some h
    refine z_aload dX10_hearReport_58 rfl (z_getR dX10_hearReport_59 fkX10_28 (in_0 hw) sh_0 rfl (z_getR dX10_hearReport_62 fkX10_205 (in_3 hw) sh_3 rfl (z_iload dX10_hearReport_65 rfl (z_const dX10_hearReport_66 (z_aload dX10_hearReport_67 rfl (z_getI dX10_hearReport_68 fkX10_80 (in_0 hw) sh_0 rfl (z_aload dX10_hearReport_71 rfl (z_getR dX10_hearReport_72 fkX10_56 (in_0 hw) sh_0 rfl (z_getR dX10_hearReport_75 fkX10_273 (in_7 hw) sh_7 rfl (z_iload dX10_hearReport_78 rfl (z_iald dX10_hearReport_79 (in_53 hw) sh_53 (zin_vp s9) ?_)))))))))))
    obtain ⟨s10, h⟩ := zchk_some h
    obtain ⟨s11, h⟩ := zchk_some h
    have h := zlet_h h
    exact z_isub dX10_hearReport_80 (z_aload dX10_hearReport_81 rfl (z_getR dX10_hearReport_82 fkX10_56 (in_0 hw) sh_0 rfl (z_getR dX10_hearReport_85 fkX10_276 (in_7 hw) sh_7 rfl (z_iload dX10_hearReport_88 rfl (z_iald dX10_hearReport_89 (in_54 hw) sh_54 (zin_vp s10) (z_isub dX10_hearReport_90 (z_const dX10_hearReport_91 (z_idiv dX10_hearReport_92 (by decide) (z_max dX10_hearReport_93 lkX10_171 (Nat.le_of_ble_eq_true rfl) (Nat.le_of_ble_eq_true rfl) (z_iast dX10_hearReport_96 (in_18 hw) sh_18 (zin_vp s11) (z_vretQ dX10_hearReport_97 rfl (by cases h; rfl))))))))))))
-- X10_launch
def jX10_launch_240 (b0 b1 : Int32) (X : zX) : Option (zX) := zchk (zin b1 64) (some (zw (zw X 54 (zn b1) b0) 7 0 ((X 7 0) + (nI 1))))
set_option maxRecDepth 20000 in
set_option maxHeartbeats 4000000 in
theorem sX10_launch_240 {μ : zM} {w : Nat} (hw : w < 3) {b0 b1 : Int32} {X : zX} {ρ : zX} (h : jX10_launch_240 b0 b1 X = some ρ) : zJ mX10_launch 2 (0, 0) (0, 0) (zQ none (zg μ (w + 4) ρ)) 240 [some (zq (w + 4) 0), none, none, none, none, none, none, none, none] [zi b0, zi b1, zq (w + 4) 54] (zg μ (w + 4) X) := by
  unfold jX10_launch_240 at h
  obtain ⟨s1, h⟩ := zchk_some h
  exact z_iast dX10_launch_240 (in_54 hw) sh_54 (zin_vp s1) (z_aload dX10_launch_241 rfl (z_getR dX10_launch_242 fkX10_56 (in_0 hw) sh_0 rfl (z_dup dX10_launch_245 rfl (z_getI dX10_launch_246 fkX10_118 (in_7 hw) sh_7 rfl (z_const dX10_launch_249 (z_iadd dX10_launch_250 (z_putI dX10_launch_251 fkX10_118 (in_7 hw) sh_7 rfl (fun _ _ _ h => by cases h; rfl) ⟨_, rfl, rfl, rfl⟩ (z_vretQ dX10_launch_254 rfl (by cases h; rfl)))))))))
def jX10_launch_206 (a6 a7 a8 b0 b1 : Int32) (X : zX) : Option (zX) := zchk (zin b1 64) (if a8 = 0 then jX10_launch_240 (nI 0) a6 (zw X 53 (zn b1) b0) else zchk (zin a7 36) (jX10_launch_240 ((X 0 12) - (X 20 (zn a7))) a6 (zw X 53 (zn b1) b0)))
set_option maxRecDepth 20000 in
set_option maxHeartbeats 4000000 in
theorem sX10_launch_206 {μ : zM} {w : Nat} (hw : w < 3) {a6 a7 a8 b0 b1 : Int32} {X : zX} {ρ : zX} (h : jX10_launch_206 a6 a7 a8 b0 b1 X = some ρ) : zJ mX10_launch 2 (0, 0) (0, 0) (zQ none (zg μ (w + 4) ρ)) 206 [some (zq (w + 4) 0), none, none, none, none, none, some (zi a6), some (zi a7), some (zi a8)] [zi b0, zi b1, zq (w + 4) 53] (zg μ (w + 4) X) := by
  unfold jX10_launch_206 at h
  obtain ⟨s1, h⟩ := zchk_some h
  refine z_iast dX10_launch_206 (in_53 hw) sh_53 (zin_vp s1) (z_aload dX10_launch_207 rfl (z_getR dX10_launch_208 fkX10_56 (in_0 hw) sh_0 rfl (z_getR dX10_launch_211 fkX10_276 (in_7 hw) sh_7 rfl (z_iload dX10_launch_214 rfl (z_iload dX10_launch_216 rfl (z_if_eq dX10_launch_218 (fun c2 => ?_) (fun c2 => ?_)))))))
  · have h := ziT h (c2)
    exact z_const dX10_launch_239 (z_mask [true, false, false, false, false, false, false, false, false] (sX10_launch_240 hw h))
  · have h := ziF h (c2)
    obtain ⟨s3, h⟩ := zchk_some h
    exact z_aload dX10_launch_221 rfl (z_getI dX10_launch_222 fkX10_80 (in_0 hw) sh_0 rfl (z_aload dX10_launch_225 rfl (z_getR dX10_launch_226 fkX10_28 (in_0 hw) sh_0 rfl (z_getR dX10_launch_229 fkX10_270 (in_3 hw) sh_3 rfl (z_iload dX10_launch_232 rfl (z_iald dX10_launch_234 (in_20 hw) sh_20 (zin_vp s3) (z_isub dX10_launch_235 (z_goto dX10_launch_236 (z_mask [true, false, false, false, false, false, false, false, false] (sX10_launch_240 hw h))))))))))
def jX10_launch_61 (a1 a2 a3 a4 a5 a6 a7 b0 : Int32) (X : zX) : Option (zX) := zchk (zin a7 36) (zchk (zin a6 64) (zchk (zin a6 64) (zlet (zw (zw X 45 (zn a6) ((X 0 12) + (X 39 (zn a7)))) 46 (zn a6) a2) fun X4 => zchk (zin a6 64) (zchk (zin a6 64) (zchk (zin a6 64) (zlet (zw (zw (zw X4 47 (zn a6) a1) 48 (zn a6) a3) 49 (zn a6) a4) fun X8 => zchk (zin a1 6) (zchk (zin a6 64) (zchk (zin a6 64) (zchk (zin a6 64) (zlet (zw (zw (zw X8 50 (zn a6) (X 10 (zn a1))) 51 (zn a6) a5) 52 (zn a6) (X 0 12)) fun X13 => if b0 = 0 then jX10_launch_206 a6 a7 b0 (-1) a6 X13 else zchk (zin a7 36) (jX10_launch_206 a6 a7 b0 (X 19 (zn a7)) a6 X13)))))))))))
set_option maxRecDepth 20000 in
set_option maxHeartbeats 4000000 in
theorem sX10_launch_61 {μ : zM} {w : Nat} (hw : w < 3) {a1 a2 a3 a4 a5 a6 a7 b0 : Int32} {X : zX} {ρ : zX} (h : jX10_launch_61 a1 a2 a3 a4 a5 a6 a7 b0 X = some ρ) : zJ mX10_launch 2 (0, 0) (0, 0) (zQ none (zg μ (w + 4) ρ)) 61 [some (zq (w + 4) 0), some (zi a1), some (zi a2), some (zi a3), some (zi a4), some (zi a5), some (zi a6), some (zi a7), none] [zi b0] (zg μ (w + 4) X) := by
  unfold jX10_launch_61 at h
  obtain ⟨s1, h⟩ := zchk_some h
  refine z_istore dX10_launch_61 (Nat.le_of_ble_eq_true rfl) (z_aload dX10_launch_63 rfl (z_getR dX10_launch_64 fkX10_56 (in_0 hw) sh_0 rfl (z_getR dX10_launch_67 fkX10_119 (in_7 hw) sh_7 rfl (z_iload dX10_launch_70 rfl (z_aload dX10_launch_72 rfl (z_getI dX10_launch_73 fkX10_80 (in_0 hw) sh_0 rfl (z_aload dX10_launch_76 rfl (z_getR dX10_launch_77 fkX10_49 (in_0 hw) sh_0 rfl (z_getR dX10_launch_80 fkX10_387 (in_6 hw) sh_6 rfl (z_iload dX10_launch_83 rfl (z_iald dX10_launch_85 (in_39 hw) sh_39 (zin_vp s1) ?_)))))))))))
  obtain ⟨s2, h⟩ := zchk_some h
  obtain ⟨s3, h⟩ := zchk_some h
  have h := zlet_h h
  refine z_iadd dX10_launch_86 (z_iast dX10_launch_87 (in_45 hw) sh_45 (zin_vp s2) (z_aload dX10_launch_88 rfl (z_getR dX10_launch_89 fkX10_56 (in_0 hw) sh_0 rfl (z_getR dX10_launch_92 fkX10_235 (in_7 hw) sh_7 rfl (z_iload dX10_launch_95 rfl (z_iload dX10_launch_97 rfl (z_iast dX10_launch_98 (in_46 hw) sh_46 (zin_vp s3) (z_aload dX10_launch_99 rfl (z_getR dX10_launch_100 fkX10_56 (in_0 hw) sh_0 rfl (z_getR dX10_launch_103 fkX10_261 (in_7 hw) sh_7 rfl (z_iload dX10_launch_106 rfl ?_)))))))))))
  obtain ⟨s5, h⟩ := zchk_some h
  obtain ⟨s6, h⟩ := zchk_some h
  refine z_iload dX10_launch_108 rfl (z_iast dX10_launch_109 (in_47 hw) sh_47 (zin_vp s5) (z_aload dX10_launch_110 rfl (z_getR dX10_launch_111 fkX10_56 (in_0 hw) sh_0 rfl (z_getR dX10_launch_114 fkX10_238 (in_7 hw) sh_7 rfl (z_iload dX10_launch_117 rfl (z_iload dX10_launch_119 rfl (z_iast dX10_launch_120 (in_48 hw) sh_48 (zin_vp s6) (z_aload dX10_launch_121 rfl (z_getR dX10_launch_122 fkX10_56 (in_0 hw) sh_0 rfl (z_getR dX10_launch_125 fkX10_241 (in_7 hw) sh_7 rfl (z_iload dX10_launch_128 rfl ?_)))))))))))
  obtain ⟨s7, h⟩ := zchk_some h
  have h := zlet_h h
  obtain ⟨s9, h⟩ := zchk_some h
  obtain ⟨s10, h⟩ := zchk_some h
  refine z_iload dX10_launch_130 rfl (z_iast dX10_launch_132 (in_49 hw) sh_49 (zin_vp s7) (z_aload dX10_launch_133 rfl (z_getR dX10_launch_134 fkX10_56 (in_0 hw) sh_0 rfl (z_getR dX10_launch_137 fkX10_254 (in_7 hw) sh_7 rfl (z_iload dX10_launch_140 rfl (z_aload dX10_launch_142 rfl (z_getR dX10_launch_143 fkX10_28 (in_0 hw) sh_0 rfl (z_getR dX10_launch_146 fkX10_153 (in_3 hw) sh_3 rfl (z_iload dX10_launch_149 rfl (z_iald dX10_launch_150 (in_10 hw) sh_10 (zin_vp s9) (z_iast dX10_launch_151 (in_50 hw) sh_50 (zin_vp s10) ?_)))))))))))
  obtain ⟨s11, h⟩ := zchk_some h
  refine z_aload dX10_launch_152 rfl (z_getR dX10_launch_153 fkX10_56 (in_0 hw) sh_0 rfl (z_getR dX10_launch_156 fkX10_309 (in_7 hw) sh_7 rfl (z_iload dX10_launch_159 rfl (z_iload dX10_launch_161 rfl (z_iast dX10_launch_163 (in_51 hw) sh_51 (zin_vp s11) (z_aload dX10_launch_164 rfl (z_getR dX10_launch_165 fkX10_56 (in_0 hw) sh_0 rfl (z_getR dX10_launch_168 fkX10_267 (in_7 hw) sh_7 rfl (z_iload dX10_launch_171 rfl (z_aload dX10_launch_173 rfl (z_getI dX10_launch_174 fkX10_80 (in_0 hw) sh_0 rfl ?_)))))))))))
  obtain ⟨s12, h⟩ := zchk_some h
  have h := zlet_h h
  refine z_iast dX10_launch_177 (in_52 hw) sh_52 (zin_vp s12) (z_aload dX10_launch_178 rfl (z_getR dX10_launch_179 fkX10_56 (in_0 hw) sh_0 rfl (z_getR dX10_launch_182 fkX10_273 (in_7 hw) sh_7 rfl (z_iload dX10_launch_185 rfl (z_iload dX10_launch_187 rfl (z_if_eq dX10_launch_189 (fun c14 => ?_) (fun c14 => ?_)))))))
  · have h := ziT h (c14)
    exact z_const dX10_launch_205 (z_mask [true, false, false, false, false, false, true, true, true] (sX10_launch_206 hw h))
  · have h := ziF h (c14)
    obtain ⟨s15, h⟩ := zchk_some h
    exact z_aload dX10_launch_192 rfl (z_getR dX10_launch_193 fkX10_28 (in_0 hw) sh_0 rfl (z_getR dX10_launch_196 fkX10_264 (in_3 hw) sh_3 rfl (z_iload dX10_launch_199 rfl (z_iald dX10_launch_201 (in_19 hw) sh_19 (zin_vp s15) (z_goto dX10_launch_202 (z_mask [true, false, false, false, false, false, true, true, true] (sX10_launch_206 hw h)))))))
def jX10_launch_60 (a1 a2 a3 a4 a5 a6 a7 : Int32) (X : zX) : Option (zX) := jX10_launch_61 a1 a2 a3 a4 a5 a6 a7 (nI 0) X
set_option maxRecDepth 20000 in
set_option maxHeartbeats 4000000 in
theorem sX10_launch_60 {μ : zM} {w : Nat} (hw : w < 3) {a1 a2 a3 a4 a5 a6 a7 : Int32} {X : zX} {ρ : zX} (h : jX10_launch_60 a1 a2 a3 a4 a5 a6 a7 X = some ρ) : zJ mX10_launch 2 (0, 0) (0, 0) (zQ none (zg μ (w + 4) ρ)) 60 [some (zq (w + 4) 0), some (zi a1), some (zi a2), some (zi a3), some (zi a4), some (zi a5), some (zi a6), some (zi a7), none] [] (zg μ (w + 4) X) := by
  unfold jX10_launch_60 at h
  exact z_const dX10_launch_60 (z_mask [true, true, true, true, true, true, true, true, false] (sX10_launch_61 hw h))
def eX10_launch (x0 x1 x2 x3 x4 : Int32) (X : zX) : Option (zX) := if ¬ ((X 7 0) < (nI 64)) then some (zw X 0 10 ((X 0 10) + (nI 1))) else if x2 = (nI 3) then zchk (zin ((x0 * (nI 6)) + x1) 36) (if (X 19 (zn ((x0 * (nI 6)) + x1))) = (-1) then jX10_launch_60 x0 x1 x2 x3 x4 (X 7 0) ((x0 * (nI 6)) + x1) X else jX10_launch_61 x0 x1 x2 x3 x4 (X 7 0) ((x0 * (nI 6)) + x1) (nI 1) X) else jX10_launch_60 x0 x1 x2 x3 x4 (X 7 0) ((x0 * (nI 6)) + x1) X
set_option maxRecDepth 20000 in
set_option maxHeartbeats 4000000 in
theorem tX10_launch {μ : zM} {w : Nat} (hw : w < 3) {x0 x1 x2 x3 x4 : Int32} {X : zX} {ρ : zX} (h : eX10_launch x0 x1 x2 x3 x4 X = some ρ) : LM mX10_launch 2 [zq (w + 4) 0, zi x0, zi x1, zi x2, zi x3, zi x4] (zg μ (w + 4) X) none (zg μ (w + 4) ρ) := by
  unfold eX10_launch at h
  refine LM.of (by decide +kernel) rfl (Nat.le_of_ble_eq_true rfl) ?_
  show zJ mX10_launch 2 (0, 0) (0, 0) _ 0 [some (zq (w + 4) 0), some (zi x0), some (zi x1), some (zi x2), some (zi x3), some (zi x4), none, none, none] [] _
  refine z_aload dX10_launch_0 rfl (z_getR dX10_launch_1 fkX10_56 (in_0 hw) sh_0 rfl (z_callV dX10_launch_4 (tX0_isFull hw) (Nat.le_of_ble_eq_true rfl) cdX0_isFull naX0_isFull lkX10_365 imX0_isFull seX0_isFull (in_7 hw) sh_7 rfl rfl rfl (Nat.le_of_ble_eq_true rfl) (z_if_eq dX10_launch_7 (fun c1 => ?_) (fun c1 => ?_))))
  · have h := ziF h (zB_0.mp c1)
    refine z_aload dX10_launch_21 rfl (z_getR dX10_launch_22 fkX10_56 (in_0 hw) sh_0 rfl (z_getI dX10_launch_25 fkX10_118 (in_7 hw) sh_7 rfl (z_istore dX10_launch_28 (Nat.le_of_ble_eq_true rfl) (z_iload dX10_launch_30 rfl (z_iload dX10_launch_31 rfl (z_callSN dX10_launch_32 (tX11_pair) (Nat.le_of_ble_eq_true rfl) cdX11_pair naX11_pair lkX10_208 stX11_pair rfl rfl (Nat.le_of_ble_eq_true rfl) (z_istore dX10_launch_35 (Nat.le_of_ble_eq_true rfl) (z_iload dX10_launch_37 rfl (z_const dX10_launch_38 (z_icmp_ne dX10_launch_39 (fun c2 => ?_) (fun c2 => ?_)))))))))))
    · have h := ziF h (c2)
      exact z_mask [true, true, true, true, true, true, true, true, false] (sX10_launch_60 hw h)
    · have h := ziT h (c2)
      obtain ⟨s3, h⟩ := zchk_some h
      refine z_aload dX10_launch_42 rfl (z_getR dX10_launch_43 fkX10_28 (in_0 hw) sh_0 rfl (z_getR dX10_launch_46 fkX10_264 (in_3 hw) sh_3 rfl (z_iload dX10_launch_49 rfl (z_iald dX10_launch_51 (in_19 hw) sh_19 (zin_vp s3) (z_const dX10_launch_52 (z_icmp_eq dX10_launch_53 (fun c4 => ?_) (fun c4 => ?_)))))))
      · have h := ziT h (c4)
        exact z_mask [true, true, true, true, true, true, true, true, false] (sX10_launch_60 hw h)
      · have h := ziF h (c4)
        exact z_const dX10_launch_56 (z_goto dX10_launch_57 (z_mask [true, true, true, true, true, true, true, true, false] (sX10_launch_61 hw h)))
  · have h := ziT h (zB_n0.mp c1)
    exact z_aload dX10_launch_10 rfl (z_dup dX10_launch_11 rfl (z_getI dX10_launch_12 fkX10_74 (in_0 hw) sh_0 rfl (z_const dX10_launch_15 (z_iadd dX10_launch_16 (z_putI dX10_launch_17 fkX10_74 (in_0 hw) sh_0 rfl (fun _ _ _ h => by cases h; rfl) ⟨_, rfl, rfl, rfl⟩ (z_vretQ dX10_launch_20 rfl (by cases h; rfl)))))))
-- X10_rest
def eX10_rest (x0 x1 x2 : Int32) (X : zX) : Option (zX) := zchk (zin ((x0 * (nI 6)) + x2) 36) (zchk (zin x1 72) (zlet (zw X 29 (zn x1) ((X 0 12) + ((nI 3) * (X 18 (zn ((x0 * (nI 6)) + x2)))))) fun X3 => some X3))
set_option maxRecDepth 20000 in
set_option maxHeartbeats 4000000 in
theorem tX10_rest {μ : zM} {w : Nat} (hw : w < 3) {x0 x1 x2 : Int32} {X : zX} {ρ : zX} (h : eX10_rest x0 x1 x2 X = some ρ) : LM mX10_rest 2 [zq (w + 4) 0, zi x0, zi x1, zi x2] (zg μ (w + 4) X) none (zg μ (w + 4) ρ) := by
  unfold eX10_rest at h
  refine LM.of (by decide +kernel) rfl (Nat.le_of_ble_eq_true rfl) ?_
  show zJ mX10_rest 2 (0, 0) (0, 0) _ 0 [some (zq (w + 4) 0), some (zi x0), some (zi x1), some (zi x2)] [] _
  refine z_aload dX10_rest_0 rfl (z_getR dX10_rest_1 fkX10_35 (in_0 hw) sh_0 rfl (z_getR dX10_rest_4 fkX10_232 (in_4 hw) sh_4 rfl (z_iload dX10_rest_7 rfl (z_aload dX10_rest_8 rfl (z_getI dX10_rest_9 fkX10_80 (in_0 hw) sh_0 rfl (z_const dX10_rest_12 (z_aload dX10_rest_13 rfl (z_getR dX10_rest_14 fkX10_28 (in_0 hw) sh_0 rfl (z_getR dX10_rest_17 fkX10_205 (in_3 hw) sh_3 rfl (z_iload dX10_rest_20 rfl (z_iload dX10_rest_21 rfl ?_)))))))))))
  obtain ⟨s1, h⟩ := zchk_some h
  obtain ⟨s2, h⟩ := zchk_some h
  have h := zlet_h h
  exact z_callSN dX10_rest_22 (tX11_pair) (Nat.le_of_ble_eq_true rfl) cdX11_pair naX11_pair lkX10_208 stX11_pair rfl rfl (Nat.le_of_ble_eq_true rfl) (z_iald dX10_rest_25 (in_18 hw) sh_18 (zin_vp s1) (z_imul dX10_rest_26 (z_iadd dX10_rest_27 (z_iast dX10_rest_28 (in_29 hw) sh_29 (zin_vp s2) (z_vretQ dX10_rest_29 rfl (by cases h; rfl))))))
-- X10_setAnswer
def eX10_setAnswer (x0 x1 x2 x3 : Int32) (X : zX) : Option (zX) := zchk (zin ((x0 * (nI 6)) + x2) 36) (zbd (eX1_upTo (((X 1 7) * (X 18 (zn ((x0 * (nI 6)) + x2)))) / (nI 4)) X) fun y3 => zbd (eX10_timeOf ((((y3.2 1 6) * (X 18 (zn ((x0 * (nI 6)) + x2)))) / (nI 4)) + y3.1) (nI 0) y3.2) fun r5 => zbd (eX5_beginAnswer x1 r5 x2 x3 y3.2) fun y7 => some y7)
set_option maxRecDepth 20000 in
set_option maxHeartbeats 4000000 in
theorem tX10_setAnswer {μ : zM} {w : Nat} (hw : w < 3) {x0 x1 x2 x3 : Int32} {X : zX} {ρ : zX} (h : eX10_setAnswer x0 x1 x2 x3 X = some ρ) : LM mX10_setAnswer 2 [zq (w + 4) 0, zi x0, zi x1, zi x2, zi x3] (zg μ (w + 4) X) none (zg μ (w + 4) ρ) := by
  unfold eX10_setAnswer at h
  refine LM.of (by decide +kernel) rfl (Nat.le_of_ble_eq_true rfl) ?_
  show zJ mX10_setAnswer 2 (0, 0) (0, 0) _ 0 [some (zq (w + 4) 0), some (zi x0), some (zi x1), some (zi x2), some (zi x3), none, none] [] _
  obtain ⟨s1, h⟩ := zchk_some h
  refine z_aload dX10_setAnswer_0 rfl (z_getR dX10_setAnswer_1 fkX10_28 (in_0 hw) sh_0 rfl (z_getR dX10_setAnswer_4 fkX10_205 (in_3 hw) sh_3 rfl (z_iload dX10_setAnswer_7 rfl (z_iload dX10_setAnswer_8 rfl (z_callSN dX10_setAnswer_9 (tX11_pair) (Nat.le_of_ble_eq_true rfl) cdX11_pair naX11_pair lkX10_208 stX11_pair rfl rfl (Nat.le_of_ble_eq_true rfl) (z_iald dX10_setAnswer_12 (in_18 hw) sh_18 (zin_vp s1) (z_istore dX10_setAnswer_13 (Nat.le_of_ble_eq_true rfl) (z_aload dX10_setAnswer_15 rfl (z_getR dX10_setAnswer_16 fkX10_21 (in_0 hw) sh_0 rfl (z_aload dX10_setAnswer_19 rfl (z_getR dX10_setAnswer_20 fkX10_12 (in_0 hw) sh_0 rfl ?_)))))))))))
  obtain ⟨y3, l2, h⟩ := zbd_some h
  refine z_getI dX10_setAnswer_23 fkX10_223 (in_1 hw) sh_1 rfl (z_iload dX10_setAnswer_26 rfl (z_imul dX10_setAnswer_28 (z_const dX10_setAnswer_29 (z_idiv dX10_setAnswer_30 (by decide) (z_callV dX10_setAnswer_31 (tX1_upTo hw l2) (Nat.le_of_ble_eq_true rfl) cdX1_upTo naX1_upTo lkX10_211 imX1_upTo seX1_upTo (in_2 hw) sh_2 rfl rfl rfl (Nat.le_of_ble_eq_true rfl) (z_istore dX10_setAnswer_34 (Nat.le_of_ble_eq_true rfl) (z_aload dX10_setAnswer_36 rfl (z_getR dX10_setAnswer_37 fkX10_35 (in_0 hw) sh_0 rfl (z_iload dX10_setAnswer_40 rfl (z_aload dX10_setAnswer_41 rfl (z_aload dX10_setAnswer_42 rfl ?_)))))))))))
  obtain ⟨r5, l4, h⟩ := zbd_some h
  refine z_getR dX10_setAnswer_43 fkX10_12 (in_0 hw) sh_0 rfl (z_getI dX10_setAnswer_46 fkX10_226 (in_1 hw) sh_1 rfl (z_iload dX10_setAnswer_49 rfl (z_imul dX10_setAnswer_51 (z_const dX10_setAnswer_52 (z_idiv dX10_setAnswer_53 (by decide) (z_iload dX10_setAnswer_54 rfl (z_iadd dX10_setAnswer_56 (z_const dX10_setAnswer_57 (z_callV dX10_setAnswer_58 (tX10_timeOf hw l4) (Nat.le_of_ble_eq_true rfl) cdX10_timeOf naX10_timeOf lkX10_202 imX10_timeOf seX10_timeOf (in_0 hw) sh_0 rfl rfl rfl (Nat.le_of_ble_eq_true rfl) (z_iload dX10_setAnswer_61 rfl (z_iload dX10_setAnswer_62 rfl ?_)))))))))))
  obtain ⟨y7, l6, h⟩ := zbd_some h
  exact z_callV dX10_setAnswer_64 (tX5_beginAnswer hw l6) (Nat.le_of_ble_eq_true rfl) cdX5_beginAnswer naX5_beginAnswer lkX10_229 imX5_beginAnswer seX5_beginAnswer (in_4 hw) sh_4 rfl rfl rfl (Nat.le_of_ble_eq_true rfl) (z_vretQ dX10_setAnswer_67 rfl (by cases h; rfl))
-- X10_sourceDistance
def eX10_sourceDistance (x0 : Int32) (X : zX) : Option (Int32) := if x0 = (X 1 0) then some (nI 1) else zchk (zin ((x0 * (nI 6)) + (X 1 0)) 36) (some (X 18 (zn ((x0 * (nI 6)) + (X 1 0)))))
set_option maxRecDepth 20000 in
set_option maxHeartbeats 4000000 in
theorem tX10_sourceDistance {μ : zM} {w : Nat} (hw : w < 3) {x0 : Int32} {X : zX} {ρ : Int32} (h : eX10_sourceDistance x0 X = some ρ) : LM mX10_sourceDistance 2 [zq (w + 4) 0, zi x0] (zg μ (w + 4) X) (some (zi ρ)) (zg μ (w + 4) X) := by
  unfold eX10_sourceDistance at h
  refine LM.of (by decide +kernel) rfl (Nat.le_of_ble_eq_true rfl) ?_
  show zJ mX10_sourceDistance 2 (0, 0) (0, 0) _ 0 [some (zq (w + 4) 0), some (zi x0)] [] _
  refine z_iload dX10_sourceDistance_0 rfl (z_aload dX10_sourceDistance_1 rfl (z_getR dX10_sourceDistance_2 fkX10_12 (in_0 hw) sh_0 rfl (z_getI dX10_sourceDistance_5 fkX10_147 (in_1 hw) sh_1 rfl (z_icmp_ne dX10_sourceDistance_8 (fun c1 => ?_) (fun c1 => ?_)))))
  · have h := ziF h (c1)
    obtain ⟨s2, h⟩ := zchk_some h
    exact z_aload dX10_sourceDistance_15 rfl (z_getR dX10_sourceDistance_16 fkX10_28 (in_0 hw) sh_0 rfl (z_getR dX10_sourceDistance_19 fkX10_205 (in_3 hw) sh_3 rfl (z_iload dX10_sourceDistance_22 rfl (z_aload dX10_sourceDistance_23 rfl (z_getR dX10_sourceDistance_24 fkX10_12 (in_0 hw) sh_0 rfl (z_getI dX10_sourceDistance_27 fkX10_147 (in_1 hw) sh_1 rfl (z_callSN dX10_sourceDistance_30 (tX11_pair) (Nat.le_of_ble_eq_true rfl) cdX11_pair naX11_pair lkX10_208 stX11_pair rfl rfl (Nat.le_of_ble_eq_true rfl) (z_iald dX10_sourceDistance_33 (in_18 hw) sh_18 (zin_vp s2) (z_iretQ dX10_sourceDistance_34 rfl (by cases h; rfl))))))))))
  · have h := ziT h (c1)
    exact z_const dX10_sourceDistance_11 (z_goto dX10_sourceDistance_12 (z_iretQ dX10_sourceDistance_34 rfl (by cases h; rfl)))
-- X10_tellGap
def eX10_tellGap (x0 x1 x2 x3 : Int32) (X : zX) : Option (zX) := if x2 = (nI 1) then zbd (eX5_setGapBehind ((x0 * (nI 12)) + x1) ((x3 * (nI 12)) + x1) X) fun y5 => some y5 else zbd (eX5_setGap ((x0 * (nI 12)) + x1) x2 X) fun y3 => some y3
set_option maxRecDepth 20000 in
set_option maxHeartbeats 4000000 in
theorem tX10_tellGap {μ : zM} {w : Nat} (hw : w < 3) {x0 x1 x2 x3 : Int32} {X : zX} {ρ : zX} (h : eX10_tellGap x0 x1 x2 x3 X = some ρ) : LM mX10_tellGap 2 [zq (w + 4) 0, zi x0, zi x1, zi x2, zi x3] (zg μ (w + 4) X) none (zg μ (w + 4) ρ) := by
  unfold eX10_tellGap at h
  refine LM.of (by decide +kernel) rfl (Nat.le_of_ble_eq_true rfl) ?_
  show zJ mX10_tellGap 2 (0, 0) (0, 0) _ 0 [some (zq (w + 4) 0), some (zi x0), some (zi x1), some (zi x2), some (zi x3)] [] _
  refine z_iload dX10_tellGap_0 rfl (z_const dX10_tellGap_1 (z_icmp_ne dX10_tellGap_2 (fun c1 => ?_) (fun c1 => ?_)))
  · have h := ziF h (c1)
    obtain ⟨y3, l2, h⟩ := zbd_some h
    exact z_aload dX10_tellGap_26 rfl (z_getR dX10_tellGap_27 fkX10_35 (in_0 hw) sh_0 rfl (z_iload dX10_tellGap_30 rfl (z_iload dX10_tellGap_31 rfl (z_callSN dX10_tellGap_32 (tX11_cell) (Nat.le_of_ble_eq_true rfl) cdX11_cell naX11_cell lkX10_156 stX11_cell rfl rfl (Nat.le_of_ble_eq_true rfl) (z_iload dX10_tellGap_35 rfl (z_callV dX10_tellGap_36 (tX5_setGap hw l2) (Nat.le_of_ble_eq_true rfl) cdX5_setGap naX5_setGap lkX10_179 imX5_setGap seX5_setGap (in_4 hw) sh_4 rfl rfl rfl (Nat.le_of_ble_eq_true rfl) (z_vretQ dX10_tellGap_39 rfl (by cases h; rfl))))))))
  · have h := ziT h (c1)
    obtain ⟨y5, l4, h⟩ := zbd_some h
    exact z_aload dX10_tellGap_5 rfl (z_getR dX10_tellGap_6 fkX10_35 (in_0 hw) sh_0 rfl (z_iload dX10_tellGap_9 rfl (z_iload dX10_tellGap_10 rfl (z_callSN dX10_tellGap_11 (tX11_cell) (Nat.le_of_ble_eq_true rfl) cdX11_cell naX11_cell lkX10_156 stX11_cell rfl rfl (Nat.le_of_ble_eq_true rfl) (z_iload dX10_tellGap_14 rfl (z_iload dX10_tellGap_16 rfl (z_callSN dX10_tellGap_17 (tX11_cell) (Nat.le_of_ble_eq_true rfl) cdX11_cell naX11_cell lkX10_156 stX11_cell rfl rfl (Nat.le_of_ble_eq_true rfl) (z_callV dX10_tellGap_20 (tX5_setGapBehind hw l4) (Nat.le_of_ble_eq_true rfl) cdX5_setGapBehind naX5_setGapBehind lkX10_390 imX5_setGapBehind seX5_setGapBehind (in_4 hw) sh_4 rfl rfl rfl (Nat.le_of_ble_eq_true rfl) (z_goto dX10_tellGap_23 (z_vretQ dX10_tellGap_39 rfl (by cases h; rfl)))))))))))
-- X10_tellNoWay
def hX10_tellNoWay_2 (F : Nat) : Nat → Int32 → Int32 → Int32 → zX → Option (zX)
  | 0, _, _, _, _ => none
  | n + 1, a1, a2, a3, X => if (X 3 0) ≤ a3 then some X else zchk (zin ((a1 * (nI 6)) + a3) 36) (if (X 39 (zn ((a1 * (nI 6)) + a3))) = (-1) then zbd (eX5_setGap ((a3 * (nI 12)) + a2) (nI 2) X) fun y5 => (hX10_tellNoWay_2 F n) a1 a2 (a3 + (nI 1)) y5 else (hX10_tellNoWay_2 F n) a1 a2 (a3 + (nI 1)) X)
set_option maxRecDepth 20000 in
set_option maxHeartbeats 4000000 in
theorem sX10_tellNoWay_2 {μ : zM} {w : Nat} (hw : w < 3) {F : Nat} : ∀ {n : Nat} {a1 a2 a3 : Int32} {X : zX} {ρ : zX}, hX10_tellNoWay_2 F n a1 a2 a3 X = some ρ → zJ mX10_tellNoWay 2 (0, 0) (0, 0) (zQ none (zg μ (w + 4) ρ)) 2 [some (zq (w + 4) 0), some (zi a1), some (zi a2), some (zi a3)] [] (zg μ (w + 4) X) := by
  intro n
  induction n with
  | zero => intro a1 a2 a3 X ρ h; exact nomatch (show (none : Option _) = some ρ from h)
  | succ n ih =>
    intro a1 a2 a3 X ρ h
    have hK2 := @ih
    rw [hX10_tellNoWay_2] at h
    refine z_iload dX10_tellNoWay_2 rfl (z_aload dX10_tellNoWay_3 rfl (z_getR dX10_tellNoWay_4 fkX10_28 (in_0 hw) sh_0 rfl (z_getI dX10_tellNoWay_7 fkX10_111 (in_3 hw) sh_3 rfl (z_icmp_ge dX10_tellNoWay_10 (fun c1 => ?_) (fun c1 => ?_)))))
    · have h := ziT h (c1)
      exact z_vretQ dX10_tellNoWay_49 rfl (by cases h; rfl)
    · have h := ziF h (c1)
      obtain ⟨s2, h⟩ := zchk_some h
      refine z_aload dX10_tellNoWay_13 rfl (z_getR dX10_tellNoWay_14 fkX10_49 (in_0 hw) sh_0 rfl (z_getR dX10_tellNoWay_17 fkX10_387 (in_6 hw) sh_6 rfl (z_iload dX10_tellNoWay_20 rfl (z_iload dX10_tellNoWay_21 rfl (z_callSN dX10_tellNoWay_22 (tX11_pair) (Nat.le_of_ble_eq_true rfl) cdX11_pair naX11_pair lkX10_208 stX11_pair rfl rfl (Nat.le_of_ble_eq_true rfl) (z_iald dX10_tellNoWay_25 (in_39 hw) sh_39 (zin_vp s2) (z_const dX10_tellNoWay_26 (z_icmp_ne dX10_tellNoWay_27 (fun c3 => ?_) (fun c3 => ?_)))))))))
      · have h := ziF h (c3)
        exact z_iinc dX10_tellNoWay_43 (Nat.le_of_ble_eq_true rfl) rfl (z_goto dX10_tellNoWay_46 (z_mask [true, true, true, true] (hK2 h)))
      · have h := ziT h (c3)
        obtain ⟨y5, l4, h⟩ := zbd_some h
        exact z_aload dX10_tellNoWay_30 rfl (z_getR dX10_tellNoWay_31 fkX10_35 (in_0 hw) sh_0 rfl (z_iload dX10_tellNoWay_34 rfl (z_iload dX10_tellNoWay_35 rfl (z_callSN dX10_tellNoWay_36 (tX11_cell) (Nat.le_of_ble_eq_true rfl) cdX11_cell naX11_cell lkX10_156 stX11_cell rfl rfl (Nat.le_of_ble_eq_true rfl) (z_const dX10_tellNoWay_39 (z_callV dX10_tellNoWay_40 (tX5_setGap hw l4) (Nat.le_of_ble_eq_true rfl) cdX5_setGap naX5_setGap lkX10_179 imX5_setGap seX5_setGap (in_4 hw) sh_4 rfl rfl rfl (Nat.le_of_ble_eq_true rfl) (z_iinc dX10_tellNoWay_43 (Nat.le_of_ble_eq_true rfl) rfl (z_goto dX10_tellNoWay_46 (z_mask [true, true, true, true] (hK2 h))))))))))
def eX10_tellNoWay (F : Nat) (x0 x1 : Int32) (X : zX) : Option (zX) := hX10_tellNoWay_2 F F x0 x1 (nI 0) X
set_option maxRecDepth 20000 in
set_option maxHeartbeats 4000000 in
theorem tX10_tellNoWay {μ : zM} {w : Nat} (hw : w < 3) {F : Nat} {x0 x1 : Int32} {X : zX} {ρ : zX} (h : eX10_tellNoWay F x0 x1 X = some ρ) : LM mX10_tellNoWay 2 [zq (w + 4) 0, zi x0, zi x1] (zg μ (w + 4) X) none (zg μ (w + 4) ρ) := by
  unfold eX10_tellNoWay at h
  refine LM.of (by decide +kernel) rfl (Nat.le_of_ble_eq_true rfl) ?_
  show zJ mX10_tellNoWay 2 (0, 0) (0, 0) _ 0 [some (zq (w + 4) 0), some (zi x0), some (zi x1), none] [] _
  exact z_const dX10_tellNoWay_0 (z_istore dX10_tellNoWay_1 (Nat.le_of_ble_eq_true rfl) (z_mask [true, true, true, true] (sX10_tellNoWay_2 hw h)))
-- X10_askWindow
def jX10_askWindow_52 (a1 a4 a5 b0 : Int32) (X : zX) : Option (Int32) := zchk (zin a1 6) (zchk (zin a4 72) (zbd (eX10_timeOf ((((X 11 (zn a1)) * a5) / (nI 4)) + b0) (X 22 (zn a4)) X) fun r4 => some r4))
set_option maxRecDepth 20000 in
set_option maxHeartbeats 4000000 in
theorem sX10_askWindow_52 {μ : zM} {w : Nat} (hw : w < 3) {a1 a4 a5 b0 : Int32} {X : zX} {ρ : Int32} (h : jX10_askWindow_52 a1 a4 a5 b0 X = some ρ) : zJ mX10_askWindow 3 (0, 0) (0, 0) (zQ (some (zi ρ)) (zg μ (w + 4) X)) 52 [some (zq (w + 4) 0), some (zi a1), none, none, some (zi a4), some (zi a5), none] [zi b0] (zg μ (w + 4) X) := by
  unfold jX10_askWindow_52 at h
  obtain ⟨s1, h⟩ := zchk_some h
  refine z_istore dX10_askWindow_52 (Nat.le_of_ble_eq_true rfl) (z_aload dX10_askWindow_54 rfl (z_aload dX10_askWindow_55 rfl (z_getR dX10_askWindow_56 fkX10_28 (in_0 hw) sh_0 rfl (z_getR dX10_askWindow_59 fkX10_196 (in_3 hw) sh_3 rfl (z_iload dX10_askWindow_62 rfl (z_iald dX10_askWindow_63 (in_11 hw) sh_11 (zin_vp s1) (z_iload dX10_askWindow_64 rfl (z_imul dX10_askWindow_66 (z_const dX10_askWindow_67 (z_idiv dX10_askWindow_68 (by decide) (z_iload dX10_askWindow_69 rfl ?_)))))))))))
  obtain ⟨s2, h⟩ := zchk_some h
  obtain ⟨r4, l3, h⟩ := zbd_some h
  exact z_iadd dX10_askWindow_71 (z_aload dX10_askWindow_72 rfl (z_getR dX10_askWindow_73 fkX10_35 (in_0 hw) sh_0 rfl (z_getR dX10_askWindow_76 fkX10_199 (in_4 hw) sh_4 rfl (z_iload dX10_askWindow_79 rfl (z_iald dX10_askWindow_81 (in_22 hw) sh_22 (zin_vp s2) (z_callV dX10_askWindow_82 (tX10_timeOf hw l3) (Nat.le_of_ble_eq_true rfl) cdX10_timeOf naX10_timeOf lkX10_202 imX10_timeOf seX10_timeOf (in_0 hw) sh_0 rfl rfl rfl (Nat.le_of_ble_eq_true rfl) (z_iretQ dX10_askWindow_85 rfl (by cases h; rfl))))))))
def eX10_askWindow (x0 x1 x2 : Int32) (X : zX) : Option (Int32) := zchk (zin ((x0 * (nI 12)) + x1) 72) (if (X 21 (zn ((x0 * (nI 12)) + x1))) = (-1) then some (-1) else zbd (eX10_sourceDistance x0 X) fun r4 => if x2 = 0 then jX10_askWindow_52 x0 ((x0 * (nI 12)) + x1) r4 (nI 0) X else zchk (zin x0 6) (jX10_askWindow_52 x0 ((x0 * (nI 12)) + x1) r4 (((X 12 (zn x0)) * r4) / (nI 4)) X))
set_option maxRecDepth 20000 in
set_option maxHeartbeats 4000000 in
theorem tX10_askWindow {μ : zM} {w : Nat} (hw : w < 3) {x0 x1 x2 : Int32} {X : zX} {ρ : Int32} (h : eX10_askWindow x0 x1 x2 X = some ρ) : LM mX10_askWindow 3 [zq (w + 4) 0, zi x0, zi x1, zi x2] (zg μ (w + 4) X) (some (zi ρ)) (zg μ (w + 4) X) := by
  unfold eX10_askWindow at h
  refine LM.of (by decide +kernel) rfl (Nat.le_of_ble_eq_true rfl) ?_
  show zJ mX10_askWindow 3 (0, 0) (0, 0) _ 0 [some (zq (w + 4) 0), some (zi x0), some (zi x1), some (zi x2), none, none, none] [] _
  obtain ⟨s1, h⟩ := zchk_some h
  refine z_iload dX10_askWindow_0 rfl (z_iload dX10_askWindow_1 rfl (z_callSN dX10_askWindow_2 (tX11_cell) (Nat.le_of_ble_eq_true rfl) cdX11_cell naX11_cell lkX10_156 stX11_cell rfl rfl (Nat.le_of_ble_eq_true rfl) (z_istore dX10_askWindow_5 (Nat.le_of_ble_eq_true rfl) (z_aload dX10_askWindow_7 rfl (z_getR dX10_askWindow_8 fkX10_35 (in_0 hw) sh_0 rfl (z_getR dX10_askWindow_11 fkX10_176 (in_4 hw) sh_4 rfl (z_iload dX10_askWindow_14 rfl (z_iald dX10_askWindow_16 (in_21 hw) sh_21 (zin_vp s1) (z_const dX10_askWindow_17 (z_icmp_ne dX10_askWindow_18 (fun c2 => ?_) (fun c2 => ?_)))))))))))
  · have h := ziF h (c2)
    obtain ⟨r4, l3, h⟩ := zbd_some h
    refine z_aload dX10_askWindow_23 rfl (z_iload dX10_askWindow_24 rfl (z_callV dX10_askWindow_25 (tX10_sourceDistance hw l3) (Nat.le_of_ble_eq_true rfl) cdX10_sourceDistance naX10_sourceDistance lkX10_190 imX10_sourceDistance seX10_sourceDistance (in_0 hw) sh_0 rfl rfl rfl (Nat.le_of_ble_eq_true rfl) (z_istore dX10_askWindow_28 (Nat.le_of_ble_eq_true rfl) (z_iload dX10_askWindow_30 rfl (z_if_eq dX10_askWindow_31 (fun c5 => ?_) (fun c5 => ?_))))))
    · have h := ziT h (c5)
      exact z_const dX10_askWindow_51 (z_mask [true, true, false, false, true, true, false] (sX10_askWindow_52 hw h))
    · have h := ziF h (c5)
      obtain ⟨s6, h⟩ := zchk_some h
      exact z_aload dX10_askWindow_34 rfl (z_getR dX10_askWindow_35 fkX10_28 (in_0 hw) sh_0 rfl (z_getR dX10_askWindow_38 fkX10_193 (in_3 hw) sh_3 rfl (z_iload dX10_askWindow_41 rfl (z_iald dX10_askWindow_42 (in_12 hw) sh_12 (zin_vp s6) (z_iload dX10_askWindow_43 rfl (z_imul dX10_askWindow_45 (z_const dX10_askWindow_46 (z_idiv dX10_askWindow_47 (by decide) (z_goto dX10_askWindow_48 (z_mask [true, true, false, false, true, true, false] (sX10_askWindow_52 hw h)))))))))))
  · have h := ziT h (c2)
    exact z_const dX10_askWindow_21 (z_iretQ dX10_askWindow_22 rfl (by cases h; rfl))
-- X10_canSend
def eX10_canSend (X : zX) : Option (Int32) := if (X 3 0) ≤ (X 1 0) then some (nI 0) else if (((X 3 1) >>> ((X 1 0) &&& 31)) &&& (nI 1)) = (nI 1) then if (nI 12) ≤ (X 0 9) then some (nI 0) else some (nI 1) else some (nI 0)
set_option maxRecDepth 20000 in
set_option maxHeartbeats 4000000 in
theorem tX10_canSend {μ : zM} {w : Nat} (hw : w < 3) {X : zX} {ρ : Int32} (h : eX10_canSend X = some ρ) : LM mX10_canSend 3 [zq (w + 4) 0] (zg μ (w + 4) X) (some (zi ρ)) (zg μ (w + 4) X) := by
  unfold eX10_canSend at h
  refine LM.of (by decide +kernel) rfl (Nat.le_of_ble_eq_true rfl) ?_
  show zJ mX10_canSend 3 (0, 0) (0, 0) _ 0 [some (zq (w + 4) 0)] [] _
  refine z_aload dX10_canSend_0 rfl (z_getR dX10_canSend_1 fkX10_12 (in_0 hw) sh_0 rfl (z_getI dX10_canSend_4 fkX10_147 (in_1 hw) sh_1 rfl (z_aload dX10_canSend_7 rfl (z_getR dX10_canSend_8 fkX10_28 (in_0 hw) sh_0 rfl (z_getI dX10_canSend_11 fkX10_111 (in_3 hw) sh_3 rfl (z_icmp_ge dX10_canSend_14 (fun c1 => ?_) (fun c1 => ?_)))))))
  · have h := ziT h (c1)
    exact z_const dX10_canSend_47 (z_zretQ dX10_canSend_48 rfl rfl (by cases h; rfl))
  · have h := ziF h (c1)
    refine z_aload dX10_canSend_17 rfl (z_getR dX10_canSend_18 fkX10_28 (in_0 hw) sh_0 rfl (z_aload dX10_canSend_21 rfl (z_getR dX10_canSend_22 fkX10_12 (in_0 hw) sh_0 rfl (z_getI dX10_canSend_25 fkX10_147 (in_1 hw) sh_1 rfl (z_callV dX10_canSend_28 (tX4_isUp hw) (Nat.le_of_ble_eq_true rfl) cdX4_isUp naX4_isUp lkX10_130 imX4_isUp seX4_isUp (in_3 hw) sh_3 rfl rfl rfl (Nat.le_of_ble_eq_true rfl) (z_if_eq dX10_canSend_31 (fun c2 => ?_) (fun c2 => ?_)))))))
    · have h := ziF h (zB_0.mp c2)
      exact z_const dX10_canSend_47 (z_zretQ dX10_canSend_48 rfl rfl (by cases h; rfl))
    · have h := ziT h (zB_n0.mp c2)
      refine z_aload dX10_canSend_34 rfl (z_getI dX10_canSend_35 fkX10_71 (in_0 hw) sh_0 rfl (z_const dX10_canSend_38 (z_icmp_ge dX10_canSend_40 (fun c3 => ?_) (fun c3 => ?_))))
      · have h := ziT h (c3)
        exact z_const dX10_canSend_47 (z_zretQ dX10_canSend_48 rfl rfl (by cases h; rfl))
      · have h := ziF h (c3)
        exact z_const dX10_canSend_43 (z_goto dX10_canSend_44 (z_zretQ dX10_canSend_48 rfl rfl (by cases h; rfl)))
-- X10_flood
def jX10_flood_175 (F : Nat) (K38 : Int32 → Int32 → Int32 → Int32 → Int32 → Int32 → Int32 → zX → Option (zX)) (a1 a2 a3 a4 a5 a6 a7 a8 a9 a11 : Int32) (X : zX) : Option (zX) := if a2 = 0 then zchk (zin a9 36) (zbd (eX10_tellGap a8 a3 a11 (X 40 (zn a9)) X) fun y4 => K38 a1 a2 a3 a4 a5 a6 (a7 + (nI 1)) y4) else K38 a1 a2 a3 a4 a5 a6 (a7 + (nI 1)) X
set_option maxRecDepth 20000 in
set_option maxHeartbeats 4000000 in
theorem sX10_flood_175 {μ : zM} {w : Nat} (hw : w < 3) {F : Nat} {K38 : Int32 → Int32 → Int32 → Int32 → Int32 → Int32 → Int32 → zX → Option (zX)} (hK38 : ∀ {xa1 xa2 xa3 xa4 xa5 xa6 xa7 : Int32} {xX : zX} {ρ : zX}, K38 xa1 xa2 xa3 xa4 xa5 xa6 xa7 xX = some ρ → zJ mX10_flood 3 (0, 0) (0, 0) (zQ none (zg μ (w + 4) ρ)) 38 [some (zq (w + 4) 0), some (zi xa1), some (zi xa2), some (zi xa3), some (zi xa4), some (zi xa5), some (zi xa6), some (zi xa7), none, none, none, none] [] (zg μ (w + 4) xX)) {a1 a2 a3 a4 a5 a6 a7 a8 a9 a11 : Int32} {X : zX} {ρ : zX} (h : jX10_flood_175 F K38 a1 a2 a3 a4 a5 a6 a7 a8 a9 a11 X = some ρ) : zJ mX10_flood 3 (0, 0) (0, 0) (zQ none (zg μ (w + 4) ρ)) 175 [some (zq (w + 4) 0), some (zi a1), some (zi a2), some (zi a3), some (zi a4), some (zi a5), some (zi a6), some (zi a7), some (zi a8), some (zi a9), none, some (zi a11)] [] (zg μ (w + 4) X) := by
  unfold jX10_flood_175 at h
  refine z_iload dX10_flood_175 rfl (z_if_ne dX10_flood_176 (fun c1 => ?_) (fun c1 => ?_))
  · have h := ziF h (c1)
    exact z_iinc dX10_flood_198 (Nat.le_of_ble_eq_true rfl) rfl (z_goto dX10_flood_201 (z_mask [true, true, true, true, true, true, true, true, false, false, false, false] (hK38 h)))
  · have h := ziT h (c1)
    obtain ⟨s2, h⟩ := zchk_some h
    obtain ⟨y4, l3, h⟩ := zbd_some h
    refine z_aload dX10_flood_179 rfl (z_iload dX10_flood_180 rfl (z_iload dX10_flood_182 rfl (z_iload dX10_flood_183 rfl (z_aload dX10_flood_185 rfl (z_getR dX10_flood_186 fkX10_49 (in_0 hw) sh_0 rfl (z_getR dX10_flood_189 fkX10_356 (in_6 hw) sh_6 rfl (z_iload dX10_flood_192 rfl (z_iald dX10_flood_194 (in_40 hw) sh_40 (zin_vp s2) (z_callV dX10_flood_195 (tX10_tellGap hw l3) (Nat.le_of_ble_eq_true rfl) cdX10_tellGap naX10_tellGap lkX10_372 imX10_tellGap seX10_tellGap (in_0 hw) sh_0 rfl rfl rfl (Nat.le_of_ble_eq_true rfl) (z_iinc dX10_flood_198 (Nat.le_of_ble_eq_true rfl) rfl (z_goto dX10_flood_201 ?_)))))))))))
    exact z_mask [true, true, true, true, true, true, true, true, false, false, false, false] (hK38 h)
def jX10_flood_117 (F : Nat) (K38 : Int32 → Int32 → Int32 → Int32 → Int32 → Int32 → Int32 → zX → Option (zX)) (a1 a2 a3 a4 a5 a6 a7 a8 a9 : Int32) (X : zX) : Option (zX) := jX10_flood_175 F K38 a1 a2 a3 a4 a5 a6 a7 a8 a9 (nI 1) X
set_option maxRecDepth 20000 in
set_option maxHeartbeats 4000000 in
theorem sX10_flood_117 {μ : zM} {w : Nat} (hw : w < 3) {F : Nat} {K38 : Int32 → Int32 → Int32 → Int32 → Int32 → Int32 → Int32 → zX → Option (zX)} (hK38 : ∀ {xa1 xa2 xa3 xa4 xa5 xa6 xa7 : Int32} {xX : zX} {ρ : zX}, K38 xa1 xa2 xa3 xa4 xa5 xa6 xa7 xX = some ρ → zJ mX10_flood 3 (0, 0) (0, 0) (zQ none (zg μ (w + 4) ρ)) 38 [some (zq (w + 4) 0), some (zi xa1), some (zi xa2), some (zi xa3), some (zi xa4), some (zi xa5), some (zi xa6), some (zi xa7), none, none, none, none] [] (zg μ (w + 4) xX)) {a1 a2 a3 a4 a5 a6 a7 a8 a9 : Int32} {X : zX} {ρ : zX} (h : jX10_flood_117 F K38 a1 a2 a3 a4 a5 a6 a7 a8 a9 X = some ρ) : zJ mX10_flood 3 (0, 0) (0, 0) (zQ none (zg μ (w + 4) ρ)) 117 [some (zq (w + 4) 0), some (zi a1), some (zi a2), some (zi a3), some (zi a4), some (zi a5), some (zi a6), some (zi a7), some (zi a8), some (zi a9), none, none] [] (zg μ (w + 4) X) := by
  unfold jX10_flood_117 at h
  exact z_const dX10_flood_117 (z_istore dX10_flood_118 (Nat.le_of_ble_eq_true rfl) (z_goto dX10_flood_120 (z_mask [true, true, true, true, true, true, true, true, true, true, false, true] (sX10_flood_175 hw hK38 h))))
def jX10_flood_162 (F : Nat) (K38 : Int32 → Int32 → Int32 → Int32 → Int32 → Int32 → Int32 → zX → Option (zX)) (a1 a2 a3 a4 a5 a6 a7 a8 a9 b0 : Int32) (X : zX) : Option (zX) := zbd (eX10_launch a1 a8 a2 a3 a4 X) fun y2 => jX10_flood_175 F K38 a1 a2 a3 a4 a5 a6 a7 a8 a9 b0 y2
set_option maxRecDepth 20000 in
set_option maxHeartbeats 4000000 in
theorem sX10_flood_162 {μ : zM} {w : Nat} (hw : w < 3) {F : Nat} {K38 : Int32 → Int32 → Int32 → Int32 → Int32 → Int32 → Int32 → zX → Option (zX)} (hK38 : ∀ {xa1 xa2 xa3 xa4 xa5 xa6 xa7 : Int32} {xX : zX} {ρ : zX}, K38 xa1 xa2 xa3 xa4 xa5 xa6 xa7 xX = some ρ → zJ mX10_flood 3 (0, 0) (0, 0) (zQ none (zg μ (w + 4) ρ)) 38 [some (zq (w + 4) 0), some (zi xa1), some (zi xa2), some (zi xa3), some (zi xa4), some (zi xa5), some (zi xa6), some (zi xa7), none, none, none, none] [] (zg μ (w + 4) xX)) {a1 a2 a3 a4 a5 a6 a7 a8 a9 b0 : Int32} {X : zX} {ρ : zX} (h : jX10_flood_162 F K38 a1 a2 a3 a4 a5 a6 a7 a8 a9 b0 X = some ρ) : zJ mX10_flood 3 (0, 0) (0, 0) (zQ none (zg μ (w + 4) ρ)) 162 [some (zq (w + 4) 0), some (zi a1), some (zi a2), some (zi a3), some (zi a4), some (zi a5), some (zi a6), some (zi a7), some (zi a8), some (zi a9), none, none] [zi b0] (zg μ (w + 4) X) := by
  unfold jX10_flood_162 at h
  obtain ⟨y2, l1, h⟩ := zbd_some h
  exact z_istore dX10_flood_162 (Nat.le_of_ble_eq_true rfl) (z_aload dX10_flood_164 rfl (z_iload dX10_flood_165 rfl (z_iload dX10_flood_166 rfl (z_iload dX10_flood_168 rfl (z_iload dX10_flood_169 rfl (z_iload dX10_flood_170 rfl (z_callV dX10_flood_172 (tX10_launch hw l1) (Nat.le_of_ble_eq_true rfl) cdX10_launch naX10_launch lkX10_368 imX10_launch seX10_launch (in_0 hw) sh_0 rfl rfl rfl (Nat.le_of_ble_eq_true rfl) (z_mask [true, true, true, true, true, true, true, true, true, true, false, true] (sX10_flood_175 hw hK38 h)))))))))
def hX10_flood_38 (F : Nat) : Nat → Int32 → Int32 → Int32 → Int32 → Int32 → Int32 → Int32 → zX → Option (zX)
  | 0, _, _, _, _, _, _, _, _ => none
  | n + 1, a1, a2, a3, a4, a5, a6, a7, X => if a6 ≤ a7 then if a2 = 0 then zbd (eX10_tellNoWay F a1 a3 X) fun y4 => some y4 else some X else zchk (zin ((a1 * (nI 6)) + a7) 36) (zlet ((a1 * (nI 6)) + (X 43 (zn ((a1 * (nI 6)) + a7)))) fun v6 => zchk (zin v6 36) (zchk (zin v6 36) (if ((a5 >>> ((X 40 (zn v6)) &&& 31)) &&& (nI 1)) = (nI 1) then zchk (zin v6 36) (if (X 42 (zn v6)) ≤ a4 then zbd (eX10_crosses (X 41 (zn v6)) X) fun y13 => if y13.1 = 0 then jX10_flood_175 F (hX10_flood_38 F n) a1 a2 a3 a4 a5 a6 a7 (X 43 (zn ((a1 * (nI 6)) + a7))) v6 (nI 0) y13.2 else zlet (a5 ||| ((nI 1) <<< ((X 43 (zn ((a1 * (nI 6)) + a7))) &&& 31))) fun v15 => if ¬ ((y13.2 7 0) < (nI 64)) then jX10_flood_162 F (hX10_flood_38 F n) a1 a2 a3 a4 v15 a6 a7 (X 43 (zn ((a1 * (nI 6)) + a7))) v6 (nI 3) y13.2 else jX10_flood_162 F (hX10_flood_38 F n) a1 a2 a3 a4 v15 a6 a7 (X 43 (zn ((a1 * (nI 6)) + a7))) v6 (-1) y13.2 else jX10_flood_117 F (hX10_flood_38 F n) a1 a2 a3 a4 a5 a6 a7 (X 43 (zn ((a1 * (nI 6)) + a7))) v6 X) else jX10_flood_117 F (hX10_flood_38 F n) a1 a2 a3 a4 a5 a6 a7 (X 43 (zn ((a1 * (nI 6)) + a7))) v6 X)))
set_option maxRecDepth 20000 in
set_option maxHeartbeats 4000000 in
theorem sX10_flood_38 {μ : zM} {w : Nat} (hw : w < 3) {F : Nat} : ∀ {n : Nat} {a1 a2 a3 a4 a5 a6 a7 : Int32} {X : zX} {ρ : zX}, hX10_flood_38 F n a1 a2 a3 a4 a5 a6 a7 X = some ρ → zJ mX10_flood 3 (0, 0) (0, 0) (zQ none (zg μ (w + 4) ρ)) 38 [some (zq (w + 4) 0), some (zi a1), some (zi a2), some (zi a3), some (zi a4), some (zi a5), some (zi a6), some (zi a7), none, none, none, none] [] (zg μ (w + 4) X) := by
  intro n
  induction n with
  | zero => intro a1 a2 a3 a4 a5 a6 a7 X ρ h; exact nomatch (show (none : Option _) = some ρ from h)
  | succ n ih =>
    intro a1 a2 a3 a4 a5 a6 a7 X ρ h
    have hK38 := @ih
    rw [hX10_flood_38] at h
    refine z_iload dX10_flood_38 rfl (z_iload dX10_flood_40 rfl (z_icmp_ge dX10_flood_42 (fun c1 => ?_) (fun c1 => ?_)))
    · have h := ziT h (c1)
      refine z_iload dX10_flood_204 rfl (z_if_ne dX10_flood_205 (fun c2 => ?_) (fun c2 => ?_))
      · have h := ziF h (c2)
        exact z_vretQ dX10_flood_214 rfl (by cases h; rfl)
      · have h := ziT h (c2)
        obtain ⟨y4, l3, h⟩ := zbd_some h
        exact z_aload dX10_flood_208 rfl (z_iload dX10_flood_209 rfl (z_iload dX10_flood_210 rfl (z_callV dX10_flood_211 (tX10_tellNoWay hw l3) (Nat.le_of_ble_eq_true rfl) cdX10_tellNoWay naX10_tellNoWay lkX10_375 imX10_tellNoWay seX10_tellNoWay (in_0 hw) sh_0 rfl rfl rfl (Nat.le_of_ble_eq_true rfl) (z_vretQ dX10_flood_214 rfl (by cases h; rfl)))))
    · have h := ziF h (c1)
      obtain ⟨s5, h⟩ := zchk_some h
      have h := zlet_h h
      refine z_aload dX10_flood_45 rfl (z_getR dX10_flood_46 fkX10_49 (in_0 hw) sh_0 rfl (z_getR dX10_flood_49 fkX10_350 (in_6 hw) sh_6 rfl (z_iload dX10_flood_52 rfl (z_iload dX10_flood_53 rfl (z_callSN dX10_flood_55 (tX11_pair) (Nat.le_of_ble_eq_true rfl) cdX11_pair naX11_pair lkX10_208 stX11_pair rfl rfl (Nat.le_of_ble_eq_true rfl) (z_iald dX10_flood_58 (in_43 hw) sh_43 (zin_vp s5) (z_istore dX10_flood_59 (Nat.le_of_ble_eq_true rfl) (z_iload dX10_flood_61 rfl (z_iload dX10_flood_62 rfl (z_callSN dX10_flood_64 (tX11_pair) (Nat.le_of_ble_eq_true rfl) cdX11_pair naX11_pair lkX10_208 stX11_pair rfl rfl (Nat.le_of_ble_eq_true rfl) (z_istore dX10_flood_67 (Nat.le_of_ble_eq_true rfl) ?_)))))))))))
      obtain ⟨s7, h⟩ := zchk_some h
      refine z_aload dX10_flood_69 rfl (z_getR dX10_flood_70 fkX10_49 (in_0 hw) sh_0 rfl (z_getR dX10_flood_73 fkX10_353 (in_6 hw) sh_6 rfl (z_iload dX10_flood_76 rfl (z_iald dX10_flood_78 (in_41 hw) sh_41 (zin_vp s7) (z_istore dX10_flood_79 (Nat.le_of_ble_eq_true rfl) (z_const dX10_flood_81 (z_istore dX10_flood_82 (Nat.le_of_ble_eq_true rfl) (z_iload dX10_flood_84 rfl (z_aload dX10_flood_86 rfl (z_getR dX10_flood_87 fkX10_49 (in_0 hw) sh_0 rfl (z_getR dX10_flood_90 fkX10_356 (in_6 hw) sh_6 rfl ?_)))))))))))
      obtain ⟨s8, h⟩ := zchk_some h
      refine z_iload dX10_flood_93 rfl (z_iald dX10_flood_95 (in_40 hw) sh_40 (zin_vp s8) (z_callSN dX10_flood_96 (tX11_isIn) (Nat.le_of_ble_eq_true rfl) cdX11_isIn naX11_isIn lkX10_303 stX11_isIn rfl rfl (Nat.le_of_ble_eq_true rfl) (z_if_eq dX10_flood_99 (fun c9 => ?_) (fun c9 => ?_))))
      · have h := ziF h (zB_0.mp c9)
        exact z_mask [true, true, true, true, true, true, true, true, true, true, false, false] (sX10_flood_117 hw hK38 h)
      · have h := ziT h (zB_n0.mp c9)
        obtain ⟨s10, h⟩ := zchk_some h
        refine z_aload dX10_flood_102 rfl (z_getR dX10_flood_103 fkX10_49 (in_0 hw) sh_0 rfl (z_getR dX10_flood_106 fkX10_359 (in_6 hw) sh_6 rfl (z_iload dX10_flood_109 rfl (z_iald dX10_flood_111 (in_42 hw) sh_42 (zin_vp s10) (z_iload dX10_flood_112 rfl (z_icmp_le dX10_flood_114 (fun c11 => ?_) (fun c11 => ?_)))))))
        · have h := ziT h (c11)
          obtain ⟨y13, l12, h⟩ := zbd_some h
          refine z_aload dX10_flood_123 rfl (z_iload dX10_flood_124 rfl (z_callV dX10_flood_126 (tX10_crosses hw l12) (Nat.le_of_ble_eq_true rfl) cdX10_crosses naX10_crosses lkX10_362 imX10_crosses seX10_crosses (in_0 hw) sh_0 rfl rfl rfl (Nat.le_of_ble_eq_true rfl) (z_if_ne dX10_flood_129 (fun c14 => ?_) (fun c14 => ?_))))
          · have h := ziF h (c14)
            have h := zlet_h h
            refine z_iload dX10_flood_138 rfl (z_const dX10_flood_140 (z_iload dX10_flood_141 rfl (z_ishl dX10_flood_143 (z_ior dX10_flood_144 (z_istore dX10_flood_145 (Nat.le_of_ble_eq_true rfl) (z_aload dX10_flood_147 rfl (z_getR dX10_flood_148 fkX10_56 (in_0 hw) sh_0 rfl (z_callV dX10_flood_151 (tX0_isFull hw) (Nat.le_of_ble_eq_true rfl) cdX0_isFull naX0_isFull lkX10_365 imX0_isFull seX0_isFull (in_7 hw) sh_7 rfl rfl rfl (Nat.le_of_ble_eq_true rfl) (z_if_eq dX10_flood_154 (fun c16 => ?_) (fun c16 => ?_))))))))))
            · have h := ziF h (zB_0.mp c16)
              exact z_const dX10_flood_161 (z_mask [true, true, true, true, true, true, true, true, true, true, false, false] (sX10_flood_162 hw hK38 h))
            · have h := ziT h (zB_n0.mp c16)
              exact z_const dX10_flood_157 (z_goto dX10_flood_158 (z_mask [true, true, true, true, true, true, true, true, true, true, false, false] (sX10_flood_162 hw hK38 h)))
          · have h := ziT h (c14)
            exact z_const dX10_flood_132 (z_istore dX10_flood_133 (Nat.le_of_ble_eq_true rfl) (z_goto dX10_flood_135 (z_mask [true, true, true, true, true, true, true, true, true, true, false, true] (sX10_flood_175 hw hK38 h))))
        · have h := ziF h (c11)
          exact z_mask [true, true, true, true, true, true, true, true, true, true, false, false] (sX10_flood_117 hw hK38 h)
def jX10_flood_31 (F : Nat) (a1 a2 a3 a4 a5 a6 b0 b1 : Int32) (X : zX) : Option (zX) := hX10_flood_38 F F a1 a2 a3 a4 a5 a6 (nI 0) (zw X 0 11 (b1 + b0))
set_option maxRecDepth 20000 in
set_option maxHeartbeats 4000000 in
theorem sX10_flood_31 {μ : zM} {w : Nat} (hw : w < 3) {F : Nat} {a1 a2 a3 a4 a5 a6 b0 b1 : Int32} {X : zX} {ρ : zX} (h : jX10_flood_31 F a1 a2 a3 a4 a5 a6 b0 b1 X = some ρ) : zJ mX10_flood 3 (0, 0) (0, 0) (zQ none (zg μ (w + 4) ρ)) 31 [some (zq (w + 4) 0), some (zi a1), some (zi a2), some (zi a3), some (zi a4), some (zi a5), some (zi a6), none, none, none, none, none] [zi b0, zi b1, zq (w + 4) 0] (zg μ (w + 4) X) := by
  unfold jX10_flood_31 at h
  exact z_iadd dX10_flood_31 (z_putI dX10_flood_32 fkX10_77 (in_0 hw) sh_0 rfl (fun _ _ _ h => by cases h; rfl) ⟨_, rfl, rfl, rfl⟩ (z_const dX10_flood_35 (z_istore dX10_flood_36 (Nat.le_of_ble_eq_true rfl) (z_mask [true, true, true, true, true, true, true, true, false, false, false, false] (sX10_flood_38 hw h)))))
def eX10_flood (F : Nat) (x0 x1 x2 x3 : Int32) (X : zX) : Option (zX) := zchk (zin x0 6) (if (X 44 (zn x0)) = 0 then jX10_flood_31 F x0 x1 x2 x3 ((nI 1) <<< (x0 &&& 31)) (X 44 (zn x0)) (nI 1) (X 0 11) X else jX10_flood_31 F x0 x1 x2 x3 ((nI 1) <<< (x0 &&& 31)) (X 44 (zn x0)) (nI 0) (X 0 11) X)
set_option maxRecDepth 20000 in
set_option maxHeartbeats 4000000 in
theorem tX10_flood {μ : zM} {w : Nat} (hw : w < 3) {F : Nat} {x0 x1 x2 x3 : Int32} {X : zX} {ρ : zX} (h : eX10_flood F x0 x1 x2 x3 X = some ρ) : LM mX10_flood 3 [zq (w + 4) 0, zi x0, zi x1, zi x2, zi x3] (zg μ (w + 4) X) none (zg μ (w + 4) ρ) := by
  unfold eX10_flood at h
  refine LM.of (by decide +kernel) rfl (Nat.le_of_ble_eq_true rfl) ?_
  show zJ mX10_flood 3 (0, 0) (0, 0) _ 0 [some (zq (w + 4) 0), some (zi x0), some (zi x1), some (zi x2), some (zi x3), none, none, none, none, none, none, none] [] _
  obtain ⟨s1, h⟩ := zchk_some h
  refine z_const dX10_flood_0 (z_iload dX10_flood_1 rfl (z_ishl dX10_flood_2 (z_istore dX10_flood_3 (Nat.le_of_ble_eq_true rfl) (z_aload dX10_flood_5 rfl (z_getR dX10_flood_6 fkX10_49 (in_0 hw) sh_0 rfl (z_getR dX10_flood_9 fkX10_347 (in_6 hw) sh_6 rfl (z_iload dX10_flood_12 rfl (z_iald dX10_flood_13 (in_44 hw) sh_44 (zin_vp s1) (z_istore dX10_flood_14 (Nat.le_of_ble_eq_true rfl) (z_aload dX10_flood_16 rfl (z_dup dX10_flood_17 rfl ?_)))))))))))
  refine z_getI dX10_flood_18 fkX10_77 (in_0 hw) sh_0 rfl (z_iload dX10_flood_21 rfl (z_if_ne dX10_flood_23 (fun c2 => ?_) (fun c2 => ?_)))
  · have h := ziF h (c2)
    exact z_const dX10_flood_30 (z_mask [true, true, true, true, true, true, true, false, false, false, false, false] (sX10_flood_31 hw h))
  · have h := ziT h (c2)
    exact z_const dX10_flood_26 (z_goto dX10_flood_27 (z_mask [true, true, true, true, true, true, true, false, false, false, false, false] (sX10_flood_31 hw h)))
-- X10_getPacket
def eX10_getPacket (x0 x1 x2 : Int32) (X : zX) : Option (zX) := zchk (zin x0 6) (zchk (zin x0 6) (zlet (zw X 9 (zn x0) ((X 9 (zn x0)) ||| ((nI 1) <<< (x1 &&& 31)))) fun X3 => zbd (eX5_setGap ((x0 * (nI 12)) + x1) (-1) X3) fun y5 => zbd (eX5_setGiver ((x0 * (nI 12)) + x1) x2 (y5 0 12) y5) fun y7 => zbd (eX3_put (y7 0 12) x0 (nI 3) x1 y7) fun y9 => zchk (zin ((x0 * (nI 12)) + x1) 72) (if (y9 21 (zn ((x0 * (nI 12)) + x1))) = (-1) then some (zw y9 0 13 ((y9 0 13) + (nI 1))) else zchk (zin ((x0 * (nI 12)) + x1) 72) (zlet (zw (zw y9 0 13 ((y9 0 13) + (nI 1))) 21 (zn ((x0 * (nI 12)) + x1)) (-1)) fun X13 => zchk (zin ((x0 * (nI 12)) + x1) 72) (zbd (eX4_adapt x0 (y9 24 (zn ((x0 * (nI 12)) + x1))) X13) fun y16 => some y16)))))
set_option maxRecDepth 20000 in
set_option maxHeartbeats 4000000 in
theorem tX10_getPacket {μ : zM} {w : Nat} (hw : w < 3) {x0 x1 x2 : Int32} {X : zX} {ρ : zX} (h : eX10_getPacket x0 x1 x2 X = some ρ) : LM mX10_getPacket 3 [zq (w + 4) 0, zi x0, zi x1, zi x2] (zg μ (w + 4) X) none (zg μ (w + 4) ρ) := by
  unfold eX10_getPacket at h
  refine LM.of (by decide +kernel) rfl (Nat.le_of_ble_eq_true rfl) ?_
  show zJ mX10_getPacket 3 (0, 0) (0, 0) _ 0 [some (zq (w + 4) 0), some (zi x0), some (zi x1), some (zi x2), none] [] _
  obtain ⟨s1, h⟩ := zchk_some h
  refine z_iload dX10_getPacket_0 rfl (z_iload dX10_getPacket_1 rfl (z_callSN dX10_getPacket_2 (tX11_cell) (Nat.le_of_ble_eq_true rfl) cdX11_cell naX11_cell lkX10_156 stX11_cell rfl rfl (Nat.le_of_ble_eq_true rfl) (z_istore dX10_getPacket_5 (Nat.le_of_ble_eq_true rfl) (z_aload dX10_getPacket_7 rfl (z_getR dX10_getPacket_8 fkX10_28 (in_0 hw) sh_0 rfl (z_getR dX10_getPacket_11 fkX10_150 (in_3 hw) sh_3 rfl (z_iload dX10_getPacket_14 rfl (z_dup2 dX10_getPacket_15 rfl rfl (z_iald dX10_getPacket_16 (in_9 hw) sh_9 (zin_vp s1) (z_const dX10_getPacket_17 (z_iload dX10_getPacket_18 rfl ?_)))))))))))
  obtain ⟨s2, h⟩ := zchk_some h
  have h := zlet_h h
  obtain ⟨y5, l4, h⟩ := zbd_some h
  refine z_ishl dX10_getPacket_19 (z_ior dX10_getPacket_20 (z_iast dX10_getPacket_21 (in_9 hw) sh_9 (zin_vp s2) (z_aload dX10_getPacket_22 rfl (z_getR dX10_getPacket_23 fkX10_35 (in_0 hw) sh_0 rfl (z_iload dX10_getPacket_26 rfl (z_const dX10_getPacket_28 (z_callV dX10_getPacket_29 (tX5_setGap hw l4) (Nat.le_of_ble_eq_true rfl) cdX5_setGap naX5_setGap lkX10_179 imX5_setGap seX5_setGap (in_4 hw) sh_4 rfl rfl rfl (Nat.le_of_ble_eq_true rfl) (z_aload dX10_getPacket_32 rfl (z_getR dX10_getPacket_33 fkX10_35 (in_0 hw) sh_0 rfl (z_iload dX10_getPacket_36 rfl (z_iload dX10_getPacket_38 rfl ?_)))))))))))
  obtain ⟨y7, l6, h⟩ := zbd_some h
  obtain ⟨y9, l8, h⟩ := zbd_some h
  refine z_aload dX10_getPacket_39 rfl (z_getI dX10_getPacket_40 fkX10_80 (in_0 hw) sh_0 rfl (z_callV dX10_getPacket_43 (tX5_setGiver hw l6) (Nat.le_of_ble_eq_true rfl) cdX5_setGiver naX5_setGiver lkX10_160 imX5_setGiver seX5_setGiver (in_4 hw) sh_4 rfl rfl rfl (Nat.le_of_ble_eq_true rfl) (z_aload dX10_getPacket_46 rfl (z_getR dX10_getPacket_47 fkX10_63 (in_0 hw) sh_0 rfl (z_aload dX10_getPacket_50 rfl (z_getI dX10_getPacket_51 fkX10_80 (in_0 hw) sh_0 rfl (z_iload dX10_getPacket_54 rfl (z_const dX10_getPacket_55 (z_iload dX10_getPacket_56 rfl (z_callV dX10_getPacket_57 (tX3_put hw l8) (Nat.le_of_ble_eq_true rfl) cdX3_put naX3_put lkX10_164 imX3_put seX3_put (in_8 hw) sh_8 rfl rfl rfl (Nat.le_of_ble_eq_true rfl) (z_aload dX10_getPacket_60 rfl ?_)))))))))))
  obtain ⟨s10, h⟩ := zchk_some h
  refine z_dup dX10_getPacket_61 rfl (z_getI dX10_getPacket_62 fkX10_83 (in_0 hw) sh_0 rfl (z_const dX10_getPacket_65 (z_iadd dX10_getPacket_66 (z_putI dX10_getPacket_67 fkX10_83 (in_0 hw) sh_0 rfl (fun _ _ _ h => by cases h; rfl) ⟨_, rfl, rfl, rfl⟩ (z_aload dX10_getPacket_70 rfl (z_getR dX10_getPacket_71 fkX10_35 (in_0 hw) sh_0 rfl (z_getR dX10_getPacket_74 fkX10_176 (in_4 hw) sh_4 rfl (z_iload dX10_getPacket_77 rfl (z_iald dX10_getPacket_79 (in_21 hw) sh_21 (zin_vp s10) (z_const dX10_getPacket_80 (z_icmp_eq dX10_getPacket_81 (fun c11 => ?_) (fun c11 => ?_))))))))))))
  · have h := ziT h (c11)
    exact z_vretQ dX10_getPacket_113 rfl (by cases h; rfl)
  · have h := ziF h (c11)
    obtain ⟨s12, h⟩ := zchk_some h
    have h := zlet_h h
    refine z_aload dX10_getPacket_84 rfl (z_getR dX10_getPacket_85 fkX10_35 (in_0 hw) sh_0 rfl (z_getR dX10_getPacket_88 fkX10_176 (in_4 hw) sh_4 rfl (z_iload dX10_getPacket_91 rfl (z_const dX10_getPacket_93 (z_iast dX10_getPacket_94 (in_21 hw) sh_21 (zin_vp s12) (z_aload dX10_getPacket_95 rfl (z_getR dX10_getPacket_96 fkX10_28 (in_0 hw) sh_0 rfl (z_iload dX10_getPacket_99 rfl (z_aload dX10_getPacket_100 rfl (z_getR dX10_getPacket_101 fkX10_35 (in_0 hw) sh_0 rfl (z_getR dX10_getPacket_104 fkX10_294 (in_4 hw) sh_4 rfl ?_)))))))))))
    obtain ⟨s14, h⟩ := zchk_some h
    obtain ⟨y16, l15, h⟩ := zbd_some h
    exact z_iload dX10_getPacket_107 rfl (z_iald dX10_getPacket_109 (in_24 hw) sh_24 (zin_vp s14) (z_callV dX10_getPacket_110 (tX4_adapt hw l15) (Nat.le_of_ble_eq_true rfl) cdX4_adapt naX4_adapt lkX10_297 imX4_adapt seX4_adapt (in_3 hw) sh_3 rfl rfl rfl (Nat.le_of_ble_eq_true rfl) (z_vretQ dX10_getPacket_113 rfl (by cases h; rfl))))
-- X10_isWhole
def hX10_isWhole_10 (F : Nat) : Nat → Int32 → Int32 → zX → Option (Int32)
  | 0, _, _, _ => none
  | n + 1, a1, a2, X => if (X 3 0) ≤ a2 then some (nI 1) else if (((X 3 1) >>> (a2 &&& 31)) &&& (nI 1)) = (nI 1) then zchk (zin a2 6) (if ((X 9 (zn a2)) &&& a1) = a1 then (hX10_isWhole_10 F n) a1 (a2 + (nI 1)) X else some (nI 0)) else (hX10_isWhole_10 F n) a1 (a2 + (nI 1)) X
set_option maxRecDepth 20000 in
set_option maxHeartbeats 4000000 in
theorem sX10_isWhole_10 {μ : zM} {w : Nat} (hw : w < 3) {F : Nat} : ∀ {n : Nat} {a1 a2 : Int32} {X : zX} {ρ : Int32}, hX10_isWhole_10 F n a1 a2 X = some ρ → zJ mX10_isWhole 3 (0, 0) (0, 0) (zQ (some (zi ρ)) (zg μ (w + 4) X)) 10 [some (zq (w + 4) 0), some (zi a1), some (zi a2)] [] (zg μ (w + 4) X) := by
  intro n
  induction n with
  | zero => intro a1 a2 X ρ h; exact nomatch (show (none : Option _) = some ρ from h)
  | succ n ih =>
    intro a1 a2 X ρ h
    have hK10 := @ih
    rw [hX10_isWhole_10] at h
    refine z_iload dX10_isWhole_10 rfl (z_aload dX10_isWhole_11 rfl (z_getR dX10_isWhole_12 fkX10_28 (in_0 hw) sh_0 rfl (z_getI dX10_isWhole_15 fkX10_111 (in_3 hw) sh_3 rfl (z_icmp_ge dX10_isWhole_18 (fun c1 => ?_) (fun c1 => ?_)))))
    · have h := ziT h (c1)
      exact z_const dX10_isWhole_55 (z_zretQ dX10_isWhole_56 rfl rfl (by cases h; rfl))
    · have h := ziF h (c1)
      refine z_aload dX10_isWhole_21 rfl (z_getR dX10_isWhole_22 fkX10_28 (in_0 hw) sh_0 rfl (z_iload dX10_isWhole_25 rfl (z_callV dX10_isWhole_26 (tX4_isUp hw) (Nat.le_of_ble_eq_true rfl) cdX4_isUp naX4_isUp lkX10_130 imX4_isUp seX4_isUp (in_3 hw) sh_3 rfl rfl rfl (Nat.le_of_ble_eq_true rfl) (z_if_eq dX10_isWhole_29 (fun c2 => ?_) (fun c2 => ?_)))))
      · have h := ziF h (zB_0.mp c2)
        exact z_iinc dX10_isWhole_49 (Nat.le_of_ble_eq_true rfl) rfl (z_goto dX10_isWhole_52 (z_mask [true, true, true] (hK10 h)))
      · have h := ziT h (zB_n0.mp c2)
        obtain ⟨s3, h⟩ := zchk_some h
        refine z_aload dX10_isWhole_32 rfl (z_getR dX10_isWhole_33 fkX10_28 (in_0 hw) sh_0 rfl (z_getR dX10_isWhole_36 fkX10_150 (in_3 hw) sh_3 rfl (z_iload dX10_isWhole_39 rfl (z_iald dX10_isWhole_40 (in_9 hw) sh_9 (zin_vp s3) (z_iload dX10_isWhole_41 rfl (z_iand dX10_isWhole_42 (z_iload dX10_isWhole_43 rfl (z_icmp_eq dX10_isWhole_44 (fun c4 => ?_) (fun c4 => ?_)))))))))
        · have h := ziT h (c4)
          exact z_iinc dX10_isWhole_49 (Nat.le_of_ble_eq_true rfl) rfl (z_goto dX10_isWhole_52 (z_mask [true, true, true] (hK10 h)))
        · have h := ziF h (c4)
          exact z_const dX10_isWhole_47 (z_zretQ dX10_isWhole_48 rfl rfl (by cases h; rfl))
def eX10_isWhole (F : Nat) (X : zX) : Option (Int32) := hX10_isWhole_10 F F (((nI 1) <<< ((X 0 9) &&& 31)) - (nI 1)) (nI 0) X
set_option maxRecDepth 20000 in
set_option maxHeartbeats 4000000 in
theorem tX10_isWhole {μ : zM} {w : Nat} (hw : w < 3) {F : Nat} {X : zX} {ρ : Int32} (h : eX10_isWhole F X = some ρ) : LM mX10_isWhole 3 [zq (w + 4) 0] (zg μ (w + 4) X) (some (zi ρ)) (zg μ (w + 4) X) := by
  unfold eX10_isWhole at h
  refine LM.of (by decide +kernel) rfl (Nat.le_of_ble_eq_true rfl) ?_
  show zJ mX10_isWhole 3 (0, 0) (0, 0) _ 0 [some (zq (w + 4) 0), none, none] [] _
  exact z_aload dX10_isWhole_0 rfl (z_getI dX10_isWhole_1 fkX10_71 (in_0 hw) sh_0 rfl (z_callSN dX10_isWhole_4 (tX11_bitsBelow) (Nat.le_of_ble_eq_true rfl) cdX11_bitsBelow naX11_bitsBelow lkX10_186 stX11_bitsBelow rfl rfl (Nat.le_of_ble_eq_true rfl) (z_istore dX10_isWhole_7 (Nat.le_of_ble_eq_true rfl) (z_const dX10_isWhole_8 (z_istore dX10_isWhole_9 (Nat.le_of_ble_eq_true rfl) (z_mask [true, true, true] (sX10_isWhole_10 hw h)))))))
-- X10_setAsk
def eX10_setAsk (x0 x1 : Int32) (X : zX) : Option (zX) := zbd (eX10_sourceDistance x0 X) fun r2 => zchk (zin x0 6) (zbd (eX1_upTo (((X 12 (zn x0)) * r2) / (nI 4)) X) fun y5 => zchk (zin x0 6) (zchk (zin x1 72) (zbd (eX10_timeOf ((((y5.2 11 (zn x0)) * r2) / (nI 4)) + y5.1) (y5.2 22 (zn x1)) y5.2) fun r9 => zchk (zin x1 72) (some (zw y5.2 21 (zn x1) r9)))))
set_option maxRecDepth 20000 in
set_option maxHeartbeats 4000000 in
theorem tX10_setAsk {μ : zM} {w : Nat} (hw : w < 3) {x0 x1 : Int32} {X : zX} {ρ : zX} (h : eX10_setAsk x0 x1 X = some ρ) : LM mX10_setAsk 3 [zq (w + 4) 0, zi x0, zi x1] (zg μ (w + 4) X) none (zg μ (w + 4) ρ) := by
  unfold eX10_setAsk at h
  refine LM.of (by decide +kernel) rfl (Nat.le_of_ble_eq_true rfl) ?_
  show zJ mX10_setAsk 3 (0, 0) (0, 0) _ 0 [some (zq (w + 4) 0), some (zi x0), some (zi x1), none, none] [] _
  obtain ⟨r2, l1, h⟩ := zbd_some h
  obtain ⟨s3, h⟩ := zchk_some h
  refine z_aload dX10_setAsk_0 rfl (z_iload dX10_setAsk_1 rfl (z_callV dX10_setAsk_2 (tX10_sourceDistance hw l1) (Nat.le_of_ble_eq_true rfl) cdX10_sourceDistance naX10_sourceDistance lkX10_190 imX10_sourceDistance seX10_sourceDistance (in_0 hw) sh_0 rfl rfl rfl (Nat.le_of_ble_eq_true rfl) (z_istore dX10_setAsk_5 (Nat.le_of_ble_eq_true rfl) (z_aload dX10_setAsk_6 rfl (z_getR dX10_setAsk_7 fkX10_21 (in_0 hw) sh_0 rfl (z_aload dX10_setAsk_10 rfl (z_getR dX10_setAsk_11 fkX10_28 (in_0 hw) sh_0 rfl (z_getR dX10_setAsk_14 fkX10_193 (in_3 hw) sh_3 rfl (z_iload dX10_setAsk_17 rfl (z_iald dX10_setAsk_18 (in_12 hw) sh_12 (zin_vp s3) (z_iload dX10_setAsk_19 rfl ?_)))))))))))
  obtain ⟨y5, l4, h⟩ := zbd_some h
  refine z_imul dX10_setAsk_20 (z_const dX10_setAsk_21 (z_idiv dX10_setAsk_22 (by decide) (z_callV dX10_setAsk_23 (tX1_upTo hw l4) (Nat.le_of_ble_eq_true rfl) cdX1_upTo naX1_upTo lkX10_211 imX1_upTo seX1_upTo (in_2 hw) sh_2 rfl rfl rfl (Nat.le_of_ble_eq_true rfl) (z_istore dX10_setAsk_26 (Nat.le_of_ble_eq_true rfl) (z_aload dX10_setAsk_28 rfl (z_getR dX10_setAsk_29 fkX10_35 (in_0 hw) sh_0 rfl (z_getR dX10_setAsk_32 fkX10_176 (in_4 hw) sh_4 rfl (z_iload dX10_setAsk_35 rfl (z_aload dX10_setAsk_36 rfl (z_aload dX10_setAsk_37 rfl (z_getR dX10_setAsk_38 fkX10_28 (in_0 hw) sh_0 rfl ?_)))))))))))
  obtain ⟨s6, h⟩ := zchk_some h
  refine z_getR dX10_setAsk_41 fkX10_196 (in_3 hw) sh_3 rfl (z_iload dX10_setAsk_44 rfl (z_iald dX10_setAsk_45 (in_11 hw) sh_11 (zin_vp s6) (z_iload dX10_setAsk_46 rfl (z_imul dX10_setAsk_47 (z_const dX10_setAsk_48 (z_idiv dX10_setAsk_49 (by decide) (z_iload dX10_setAsk_50 rfl (z_iadd dX10_setAsk_52 (z_aload dX10_setAsk_53 rfl (z_getR dX10_setAsk_54 fkX10_35 (in_0 hw) sh_0 rfl (z_getR dX10_setAsk_57 fkX10_199 (in_4 hw) sh_4 rfl ?_)))))))))))
  obtain ⟨s7, h⟩ := zchk_some h
  obtain ⟨r9, l8, h⟩ := zbd_some h
  obtain ⟨s10, h⟩ := zchk_some h
  exact z_iload dX10_setAsk_60 rfl (z_iald dX10_setAsk_61 (in_22 hw) sh_22 (zin_vp s7) (z_callV dX10_setAsk_62 (tX10_timeOf hw l8) (Nat.le_of_ble_eq_true rfl) cdX10_timeOf naX10_timeOf lkX10_202 imX10_timeOf seX10_timeOf (in_0 hw) sh_0 rfl rfl rfl (Nat.le_of_ble_eq_true rfl) (z_iast dX10_setAsk_65 (in_21 hw) sh_21 (zin_vp s10) (z_vretQ dX10_setAsk_66 rfl (by cases h; rfl)))))
-- X10_takeAway
def eX10_takeAway (x0 x1 : Int32) (X : zX) : Option (zX) := zchk (zin x0 6) (zchk (zin x0 6) (zlet (zw X 9 (zn x0) ((X 9 (zn x0)) &&& (((nI 1) <<< (x1 &&& 31)) ^^^ (-1)))) fun X3 => zbd (eX5_setGiver ((x0 * (nI 12)) + x1) (-1) (-1) X3) fun y5 => zbd (eX5_dropAnswer ((x0 * (nI 12)) + x1) y5) fun y7 => zbd (eX5_setGap ((x0 * (nI 12)) + x1) (nI 5) y7) fun y9 => some y9))
set_option maxRecDepth 20000 in
set_option maxHeartbeats 4000000 in
theorem tX10_takeAway {μ : zM} {w : Nat} (hw : w < 3) {x0 x1 : Int32} {X : zX} {ρ : zX} (h : eX10_takeAway x0 x1 X = some ρ) : LM mX10_takeAway 3 [zq (w + 4) 0, zi x0, zi x1] (zg μ (w + 4) X) none (zg μ (w + 4) ρ) := by
  unfold eX10_takeAway at h
  refine LM.of (by decide +kernel) rfl (Nat.le_of_ble_eq_true rfl) ?_
  show zJ mX10_takeAway 3 (0, 0) (0, 0) _ 0 [some (zq (w + 4) 0), some (zi x0), some (zi x1), none] [] _
  obtain ⟨s1, h⟩ := zchk_some h
  refine z_iload dX10_takeAway_0 rfl (z_iload dX10_takeAway_1 rfl (z_callSN dX10_takeAway_2 (tX11_cell) (Nat.le_of_ble_eq_true rfl) cdX11_cell naX11_cell lkX10_156 stX11_cell rfl rfl (Nat.le_of_ble_eq_true rfl) (z_istore dX10_takeAway_5 (Nat.le_of_ble_eq_true rfl) (z_aload dX10_takeAway_6 rfl (z_getR dX10_takeAway_7 fkX10_28 (in_0 hw) sh_0 rfl (z_getR dX10_takeAway_10 fkX10_150 (in_3 hw) sh_3 rfl (z_iload dX10_takeAway_13 rfl (z_dup2 dX10_takeAway_14 rfl rfl (z_iald dX10_takeAway_15 (in_9 hw) sh_9 (zin_vp s1) (z_const dX10_takeAway_16 (z_iload dX10_takeAway_17 rfl ?_)))))))))))
  obtain ⟨s2, h⟩ := zchk_some h
  have h := zlet_h h
  obtain ⟨y5, l4, h⟩ := zbd_some h
  refine z_ishl dX10_takeAway_18 (z_const dX10_takeAway_19 (z_ixor dX10_takeAway_20 (z_iand dX10_takeAway_21 (z_iast dX10_takeAway_22 (in_9 hw) sh_9 (zin_vp s2) (z_aload dX10_takeAway_23 rfl (z_getR dX10_takeAway_24 fkX10_35 (in_0 hw) sh_0 rfl (z_iload dX10_takeAway_27 rfl (z_const dX10_takeAway_28 (z_const dX10_takeAway_29 (z_callV dX10_takeAway_30 (tX5_setGiver hw l4) (Nat.le_of_ble_eq_true rfl) cdX5_setGiver naX5_setGiver lkX10_160 imX5_setGiver seX5_setGiver (in_4 hw) sh_4 rfl rfl rfl (Nat.le_of_ble_eq_true rfl) (z_aload dX10_takeAway_33 rfl ?_)))))))))))
  obtain ⟨y7, l6, h⟩ := zbd_some h
  obtain ⟨y9, l8, h⟩ := zbd_some h
  exact z_getR dX10_takeAway_34 fkX10_35 (in_0 hw) sh_0 rfl (z_iload dX10_takeAway_37 rfl (z_callV dX10_takeAway_38 (tX5_dropAnswer hw l6) (Nat.le_of_ble_eq_true rfl) cdX5_dropAnswer naX5_dropAnswer lkX10_183 imX5_dropAnswer seX5_dropAnswer (in_4 hw) sh_4 rfl rfl rfl (Nat.le_of_ble_eq_true rfl) (z_aload dX10_takeAway_41 rfl (z_getR dX10_takeAway_42 fkX10_35 (in_0 hw) sh_0 rfl (z_iload dX10_takeAway_45 rfl (z_const dX10_takeAway_46 (z_callV dX10_takeAway_47 (tX5_setGap hw l8) (Nat.le_of_ble_eq_true rfl) cdX5_setGap naX5_setGap lkX10_179 imX5_setGap seX5_setGap (in_4 hw) sh_4 rfl rfl rfl (Nat.le_of_ble_eq_true rfl) (z_vretQ dX10_takeAway_50 rfl (by cases h; rfl)))))))))
-- X10_askLater
def eX10_askLater (x0 x1 : Int32) (X : zX) : Option (zX) := zbd (eX5_backOff x1 X) fun y2 => zbd (eX10_setAsk x0 x1 y2) fun y4 => zchk (zin x1 72) (zchk (zin x1 72) (zlet (zw y4 25 (zn x1) ((y4 0 12) + (((y4 21 (zn x1)) - (y4 0 12)) / (nI 2)))) fun X7 => some X7))
set_option maxRecDepth 20000 in
set_option maxHeartbeats 4000000 in
theorem tX10_askLater {μ : zM} {w : Nat} (hw : w < 3) {x0 x1 : Int32} {X : zX} {ρ : zX} (h : eX10_askLater x0 x1 X = some ρ) : LM mX10_askLater 4 [zq (w + 4) 0, zi x0, zi x1] (zg μ (w + 4) X) none (zg μ (w + 4) ρ) := by
  unfold eX10_askLater at h
  refine LM.of (by decide +kernel) rfl (Nat.le_of_ble_eq_true rfl) ?_
  show zJ mX10_askLater 4 (0, 0) (0, 0) _ 0 [some (zq (w + 4) 0), some (zi x0), some (zi x1)] [] _
  obtain ⟨y2, l1, h⟩ := zbd_some h
  obtain ⟨y4, l3, h⟩ := zbd_some h
  refine z_aload dX10_askLater_0 rfl (z_getR dX10_askLater_1 fkX10_35 (in_0 hw) sh_0 rfl (z_iload dX10_askLater_4 rfl (z_callV dX10_askLater_5 (tX5_backOff hw l1) (Nat.le_of_ble_eq_true rfl) cdX5_backOff naX5_backOff lkX10_214 imX5_backOff seX5_backOff (in_4 hw) sh_4 rfl rfl rfl (Nat.le_of_ble_eq_true rfl) (z_aload dX10_askLater_8 rfl (z_iload dX10_askLater_9 rfl (z_iload dX10_askLater_10 rfl (z_callV dX10_askLater_11 (tX10_setAsk hw l3) (Nat.le_of_ble_eq_true rfl) cdX10_setAsk naX10_setAsk lkX10_217 imX10_setAsk seX10_setAsk (in_0 hw) sh_0 rfl rfl rfl (Nat.le_of_ble_eq_true rfl) (z_aload dX10_askLater_14 rfl (z_getR dX10_askLater_15 fkX10_35 (in_0 hw) sh_0 rfl (z_getR dX10_askLater_18 fkX10_220 (in_4 hw) sh_4 rfl (z_iload dX10_askLater_21 rfl ?_)))))))))))
  obtain ⟨s5, h⟩ := zchk_some h
  refine z_aload dX10_askLater_22 rfl (z_getI dX10_askLater_23 fkX10_80 (in_0 hw) sh_0 rfl (z_aload dX10_askLater_26 rfl (z_getR dX10_askLater_27 fkX10_35 (in_0 hw) sh_0 rfl (z_getR dX10_askLater_30 fkX10_176 (in_4 hw) sh_4 rfl (z_iload dX10_askLater_33 rfl (z_iald dX10_askLater_34 (in_21 hw) sh_21 (zin_vp s5) (z_aload dX10_askLater_35 rfl (z_getI dX10_askLater_36 fkX10_80 (in_0 hw) sh_0 rfl (z_isub dX10_askLater_39 (z_const dX10_askLater_40 (z_idiv dX10_askLater_41 (by decide) ?_)))))))))))
  obtain ⟨s6, h⟩ := zchk_some h
  have h := zlet_h h
  exact z_iadd dX10_askLater_42 (z_iast dX10_askLater_43 (in_25 hw) sh_25 (zin_vp s6) (z_vretQ dX10_askLater_44 rfl (by cases h; rfl)))
-- X10_hearOf
def hX10_hearOf_34 (F : Nat) : Nat → Int32 → Int32 → Int32 → zX → Option (zX)
  | 0, _, _, _, _ => none
  | n + 1, a1, a3, a4, X => if (nI 12) ≤ a4 then some X else if (a3 >>> (a4 &&& 31)) = 0 then some X else if ((a3 >>> (a4 &&& 31)) &&& (nI 1)) = (nI 1) then zchk (zin ((a1 * (nI 12)) + a4) 72) (if (X 21 (zn ((a1 * (nI 12)) + a4))) = (-1) then zbd (eX5_beginAsk ((a1 * (nI 12)) + a4) X) fun y7 => zbd (eX10_setAsk a1 ((a1 * (nI 12)) + a4) y7) fun y9 => (hX10_hearOf_34 F n) a1 a3 (a4 + (nI 1)) y9 else (hX10_hearOf_34 F n) a1 a3 (a4 + (nI 1)) X) else (hX10_hearOf_34 F n) a1 a3 (a4 + (nI 1)) X
set_option maxRecDepth 20000 in
set_option maxHeartbeats 4000000 in
theorem sX10_hearOf_34 {μ : zM} {w : Nat} (hw : w < 3) {F : Nat} : ∀ {n : Nat} {a1 a3 a4 : Int32} {X : zX} {ρ : zX}, hX10_hearOf_34 F n a1 a3 a4 X = some ρ → zJ mX10_hearOf 4 (0, 0) (0, 0) (zQ none (zg μ (w + 4) ρ)) 34 [some (zq (w + 4) 0), some (zi a1), none, some (zi a3), some (zi a4), none] [] (zg μ (w + 4) X) := by
  intro n
  induction n with
  | zero => intro a1 a3 a4 X ρ h; exact nomatch (show (none : Option _) = some ρ from h)
  | succ n ih =>
    intro a1 a3 a4 X ρ h
    have hK34 := @ih
    rw [hX10_hearOf_34] at h
    refine z_iload dX10_hearOf_34 rfl (z_const dX10_hearOf_36 (z_icmp_ge dX10_hearOf_38 (fun c1 => ?_) (fun c1 => ?_)))
    · have h := ziT h (c1)
      exact z_vretQ dX10_hearOf_101 rfl (by cases h; rfl)
    · have h := ziF h (c1)
      refine z_iload dX10_hearOf_41 rfl (z_iload dX10_hearOf_42 rfl (z_ishr dX10_hearOf_44 (z_if_eq dX10_hearOf_45 (fun c2 => ?_) (fun c2 => ?_))))
      · have h := ziT h (c2)
        exact z_vretQ dX10_hearOf_101 rfl (by cases h; rfl)
      · have h := ziF h (c2)
        refine z_iload dX10_hearOf_48 rfl (z_iload dX10_hearOf_49 rfl (z_callSN dX10_hearOf_51 (tX11_cell) (Nat.le_of_ble_eq_true rfl) cdX11_cell naX11_cell lkX10_156 stX11_cell rfl rfl (Nat.le_of_ble_eq_true rfl) (z_istore dX10_hearOf_54 (Nat.le_of_ble_eq_true rfl) (z_iload dX10_hearOf_56 rfl (z_iload dX10_hearOf_57 rfl (z_callSN dX10_hearOf_59 (tX11_isIn) (Nat.le_of_ble_eq_true rfl) cdX11_isIn naX11_isIn lkX10_303 stX11_isIn rfl rfl (Nat.le_of_ble_eq_true rfl) (z_if_eq dX10_hearOf_62 (fun c3 => ?_) (fun c3 => ?_))))))))
        · have h := ziF h (zB_0.mp c3)
          exact z_iinc dX10_hearOf_95 (Nat.le_of_ble_eq_true rfl) rfl (z_goto dX10_hearOf_98 (z_mask [true, true, false, true, true, false] (hK34 h)))
        · have h := ziT h (zB_n0.mp c3)
          obtain ⟨s4, h⟩ := zchk_some h
          refine z_aload dX10_hearOf_65 rfl (z_getR dX10_hearOf_66 fkX10_35 (in_0 hw) sh_0 rfl (z_getR dX10_hearOf_69 fkX10_176 (in_4 hw) sh_4 rfl (z_iload dX10_hearOf_72 rfl (z_iald dX10_hearOf_74 (in_21 hw) sh_21 (zin_vp s4) (z_const dX10_hearOf_75 (z_icmp_ne dX10_hearOf_76 (fun c5 => ?_) (fun c5 => ?_)))))))
          · have h := ziF h (c5)
            exact z_iinc dX10_hearOf_95 (Nat.le_of_ble_eq_true rfl) rfl (z_goto dX10_hearOf_98 (z_mask [true, true, false, true, true, false] (hK34 h)))
          · have h := ziT h (c5)
            obtain ⟨y7, l6, h⟩ := zbd_some h
            obtain ⟨y9, l8, h⟩ := zbd_some h
            exact z_aload dX10_hearOf_79 rfl (z_getR dX10_hearOf_80 fkX10_35 (in_0 hw) sh_0 rfl (z_iload dX10_hearOf_83 rfl (z_callV dX10_hearOf_85 (tX5_beginAsk hw l6) (Nat.le_of_ble_eq_true rfl) cdX5_beginAsk naX5_beginAsk lkX10_306 imX5_beginAsk seX5_beginAsk (in_4 hw) sh_4 rfl rfl rfl (Nat.le_of_ble_eq_true rfl) (z_aload dX10_hearOf_88 rfl (z_iload dX10_hearOf_89 rfl (z_iload dX10_hearOf_90 rfl (z_callV dX10_hearOf_92 (tX10_setAsk hw l8) (Nat.le_of_ble_eq_true rfl) cdX10_setAsk naX10_setAsk lkX10_217 imX10_setAsk seX10_setAsk (in_0 hw) sh_0 rfl rfl rfl (Nat.le_of_ble_eq_true rfl) (z_iinc dX10_hearOf_95 (Nat.le_of_ble_eq_true rfl) rfl (z_goto dX10_hearOf_98 (z_mask [true, true, false, true, true, false] (hK34 h)))))))))))
def eX10_hearOf (F : Nat) (x0 x1 : Int32) (X : zX) : Option (zX) := zchk (zin x0 6) (zchk (zin x0 6) (zbd (eX4_missing x0 (zw X 10 (zn x0) (zmx (X 10 (zn x0)) x1))) fun r4 => hX10_hearOf_34 F F x0 r4 (nI 0) (zw X 10 (zn x0) (zmx (X 10 (zn x0)) x1))))
set_option maxRecDepth 20000 in
set_option maxHeartbeats 4000000 in
theorem tX10_hearOf {μ : zM} {w : Nat} (hw : w < 3) {F : Nat} {x0 x1 : Int32} {X : zX} {ρ : zX} (h : eX10_hearOf F x0 x1 X = some ρ) : LM mX10_hearOf 4 [zq (w + 4) 0, zi x0, zi x1] (zg μ (w + 4) X) none (zg μ (w + 4) ρ) := by
  unfold eX10_hearOf at h
  refine LM.of (by decide +kernel) rfl (Nat.le_of_ble_eq_true rfl) ?_
  show zJ mX10_hearOf 4 (0, 0) (0, 0) _ 0 [some (zq (w + 4) 0), some (zi x0), some (zi x1), none, none, none] [] _
  obtain ⟨s1, h⟩ := zchk_some h
  obtain ⟨s2, h⟩ := zchk_some h
  refine z_aload dX10_hearOf_0 rfl (z_getR dX10_hearOf_1 fkX10_28 (in_0 hw) sh_0 rfl (z_getR dX10_hearOf_4 fkX10_153 (in_3 hw) sh_3 rfl (z_iload dX10_hearOf_7 rfl (z_aload dX10_hearOf_8 rfl (z_getR dX10_hearOf_9 fkX10_28 (in_0 hw) sh_0 rfl (z_getR dX10_hearOf_12 fkX10_153 (in_3 hw) sh_3 rfl (z_iload dX10_hearOf_15 rfl (z_iald dX10_hearOf_16 (in_10 hw) sh_10 (zin_vp s1) (z_iload dX10_hearOf_17 rfl (z_max dX10_hearOf_18 lkX10_171 (Nat.le_of_ble_eq_true rfl) (Nat.le_of_ble_eq_true rfl) (z_iast dX10_hearOf_21 (in_10 hw) sh_10 (zin_vp s2) ?_)))))))))))
  obtain ⟨r4, l3, h⟩ := zbd_some h
  exact z_aload dX10_hearOf_22 rfl (z_getR dX10_hearOf_23 fkX10_28 (in_0 hw) sh_0 rfl (z_iload dX10_hearOf_26 rfl (z_callV dX10_hearOf_27 (tX4_missing hw l3) (Nat.le_of_ble_eq_true rfl) cdX4_missing naX4_missing lkX10_300 imX4_missing seX4_missing (in_3 hw) sh_3 rfl rfl rfl (Nat.le_of_ble_eq_true rfl) (z_istore dX10_hearOf_30 (Nat.le_of_ble_eq_true rfl) (z_const dX10_hearOf_31 (z_istore dX10_hearOf_32 (Nat.le_of_ble_eq_true rfl) (z_mask [true, true, false, true, true, false] (sX10_hearOf_34 hw h))))))))
-- X10_hearPacket
def jX10_hearPacket_121 (a1 a2 a4 a5 : Int32) (X : zX) : Option (zX) := if a5 = 0 then some X else zchk (zin a2 64) (zbd (eX10_rest a1 a4 (X 47 (zn a2)) X) fun y4 => some y4)
set_option maxRecDepth 20000 in
set_option maxHeartbeats 4000000 in
theorem sX10_hearPacket_121 {μ : zM} {w : Nat} (hw : w < 3) {a1 a2 a4 a5 : Int32} {X : zX} {ρ : zX} (h : jX10_hearPacket_121 a1 a2 a4 a5 X = some ρ) : zJ mX10_hearPacket 4 (0, 0) (0, 0) (zQ none (zg μ (w + 4) ρ)) 121 [some (zq (w + 4) 0), some (zi a1), some (zi a2), none, some (zi a4), some (zi a5)] [] (zg μ (w + 4) X) := by
  unfold jX10_hearPacket_121 at h
  refine z_iload dX10_hearPacket_121 rfl (z_if_eq dX10_hearPacket_123 (fun c1 => ?_) (fun c1 => ?_))
  · have h := ziT h (c1)
    exact z_vretQ dX10_hearPacket_142 rfl (by cases h; rfl)
  · have h := ziF h (c1)
    obtain ⟨s2, h⟩ := zchk_some h
    obtain ⟨y4, l3, h⟩ := zbd_some h
    exact z_aload dX10_hearPacket_126 rfl (z_iload dX10_hearPacket_127 rfl (z_iload dX10_hearPacket_128 rfl (z_aload dX10_hearPacket_130 rfl (z_getR dX10_hearPacket_131 fkX10_56 (in_0 hw) sh_0 rfl (z_getR dX10_hearPacket_134 fkX10_261 (in_7 hw) sh_7 rfl (z_iload dX10_hearPacket_137 rfl (z_iald dX10_hearPacket_138 (in_47 hw) sh_47 (zin_vp s2) (z_callV dX10_hearPacket_139 (tX10_rest hw l3) (Nat.le_of_ble_eq_true rfl) cdX10_rest naX10_rest lkX10_291 imX10_rest seX10_rest (in_0 hw) sh_0 rfl rfl rfl (Nat.le_of_ble_eq_true rfl) (z_vretQ dX10_hearPacket_142 rfl (by cases h; rfl))))))))))
def jX10_hearPacket_85 (a1 a2 a4 a5 : Int32) (X : zX) : Option (zX) := zchk (zin a4 72) (if (X 26 (zn a4)) = (-1) then jX10_hearPacket_121 a1 a2 a4 a5 X else zbd (eX5_dropAnswer a4 X) fun y4 => zchk (zin a1 6) (zchk (zin a1 6) (jX10_hearPacket_121 a1 a2 a4 a5 (zw y4 17 (zn a1) ((y4 17 (zn a1)) + (nI 1))))))
set_option maxRecDepth 20000 in
set_option maxHeartbeats 4000000 in
theorem sX10_hearPacket_85 {μ : zM} {w : Nat} (hw : w < 3) {a1 a2 a4 a5 : Int32} {X : zX} {ρ : zX} (h : jX10_hearPacket_85 a1 a2 a4 a5 X = some ρ) : zJ mX10_hearPacket 4 (0, 0) (0, 0) (zQ none (zg μ (w + 4) ρ)) 85 [some (zq (w + 4) 0), some (zi a1), some (zi a2), none, some (zi a4), some (zi a5)] [] (zg μ (w + 4) X) := by
  unfold jX10_hearPacket_85 at h
  obtain ⟨s1, h⟩ := zchk_some h
  refine z_aload dX10_hearPacket_85 rfl (z_getR dX10_hearPacket_86 fkX10_35 (in_0 hw) sh_0 rfl (z_getR dX10_hearPacket_89 fkX10_285 (in_4 hw) sh_4 rfl (z_iload dX10_hearPacket_92 rfl (z_iald dX10_hearPacket_94 (in_26 hw) sh_26 (zin_vp s1) (z_const dX10_hearPacket_95 (z_icmp_eq dX10_hearPacket_96 (fun c2 => ?_) (fun c2 => ?_)))))))
  · have h := ziT h (c2)
    exact z_mask [true, true, true, false, true, true] (sX10_hearPacket_121 hw h)
  · have h := ziF h (c2)
    obtain ⟨y4, l3, h⟩ := zbd_some h
    obtain ⟨s5, h⟩ := zchk_some h
    refine z_aload dX10_hearPacket_99 rfl (z_getR dX10_hearPacket_100 fkX10_35 (in_0 hw) sh_0 rfl (z_iload dX10_hearPacket_103 rfl (z_callV dX10_hearPacket_105 (tX5_dropAnswer hw l3) (Nat.le_of_ble_eq_true rfl) cdX5_dropAnswer naX5_dropAnswer lkX10_183 imX5_dropAnswer seX5_dropAnswer (in_4 hw) sh_4 rfl rfl rfl (Nat.le_of_ble_eq_true rfl) (z_aload dX10_hearPacket_108 rfl (z_getR dX10_hearPacket_109 fkX10_28 (in_0 hw) sh_0 rfl (z_getR dX10_hearPacket_112 fkX10_288 (in_3 hw) sh_3 rfl (z_iload dX10_hearPacket_115 rfl (z_dup2 dX10_hearPacket_116 rfl rfl (z_iald dX10_hearPacket_117 (in_17 hw) sh_17 (zin_vp s5) (z_const dX10_hearPacket_118 (z_iadd dX10_hearPacket_119 ?_)))))))))))
    obtain ⟨s6, h⟩ := zchk_some h
    exact z_iast dX10_hearPacket_120 (in_17 hw) sh_17 (zin_vp s6) (z_mask [true, true, true, false, true, true] (sX10_hearPacket_121 hw h))
def jX10_hearPacket_35 (a1 a2 a3 a4 b0 : Int32) (X : zX) : Option (zX) := zbd (eX4_hasPacket a1 a3 X) fun r2 => if r2 = 0 then zchk (zin a2 64) (zbd (eX10_getPacket a1 a3 (X 47 (zn a2)) X) fun y9 => jX10_hearPacket_85 a1 a2 a4 b0 y9) else if b0 = 0 then jX10_hearPacket_85 a1 a2 a4 b0 X else zchk (zin a1 6) (zchk (zin a1 6) (jX10_hearPacket_85 a1 a2 a4 b0 (zw X 16 (zn a1) ((X 16 (zn a1)) + (nI 1)))))
set_option maxRecDepth 20000 in
set_option maxHeartbeats 4000000 in
theorem sX10_hearPacket_35 {μ : zM} {w : Nat} (hw : w < 3) {a1 a2 a3 a4 b0 : Int32} {X : zX} {ρ : zX} (h : jX10_hearPacket_35 a1 a2 a3 a4 b0 X = some ρ) : zJ mX10_hearPacket 4 (0, 0) (0, 0) (zQ none (zg μ (w + 4) ρ)) 35 [some (zq (w + 4) 0), some (zi a1), some (zi a2), some (zi a3), some (zi a4), none] [zi b0] (zg μ (w + 4) X) := by
  unfold jX10_hearPacket_35 at h
  obtain ⟨r2, l1, h⟩ := zbd_some h
  refine z_istore dX10_hearPacket_35 (Nat.le_of_ble_eq_true rfl) (z_aload dX10_hearPacket_37 rfl (z_getR dX10_hearPacket_38 fkX10_28 (in_0 hw) sh_0 rfl (z_iload dX10_hearPacket_41 rfl (z_iload dX10_hearPacket_42 rfl (z_callV dX10_hearPacket_43 (tX4_hasPacket hw l1) (Nat.le_of_ble_eq_true rfl) cdX4_hasPacket naX4_hasPacket lkX10_244 imX4_hasPacket seX4_hasPacket (in_3 hw) sh_3 rfl rfl rfl (Nat.le_of_ble_eq_true rfl) (z_if_ne dX10_hearPacket_46 (fun c3 => ?_) (fun c3 => ?_)))))))
  · have h := ziF h (c3)
    refine z_iload dX10_hearPacket_67 rfl (z_if_eq dX10_hearPacket_69 (fun c4 => ?_) (fun c4 => ?_))
    · have h := ziT h (c4)
      exact z_mask [true, true, true, false, true, true] (sX10_hearPacket_85 hw h)
    · have h := ziF h (c4)
      obtain ⟨s5, h⟩ := zchk_some h
      obtain ⟨s6, h⟩ := zchk_some h
      exact z_aload dX10_hearPacket_72 rfl (z_getR dX10_hearPacket_73 fkX10_28 (in_0 hw) sh_0 rfl (z_getR dX10_hearPacket_76 fkX10_282 (in_3 hw) sh_3 rfl (z_iload dX10_hearPacket_79 rfl (z_dup2 dX10_hearPacket_80 rfl rfl (z_iald dX10_hearPacket_81 (in_16 hw) sh_16 (zin_vp s5) (z_const dX10_hearPacket_82 (z_iadd dX10_hearPacket_83 (z_iast dX10_hearPacket_84 (in_16 hw) sh_16 (zin_vp s6) (z_mask [true, true, true, false, true, true] (sX10_hearPacket_85 hw h))))))))))
  · have h := ziT h (c3)
    obtain ⟨s7, h⟩ := zchk_some h
    obtain ⟨y9, l8, h⟩ := zbd_some h
    exact z_aload dX10_hearPacket_49 rfl (z_iload dX10_hearPacket_50 rfl (z_iload dX10_hearPacket_51 rfl (z_aload dX10_hearPacket_52 rfl (z_getR dX10_hearPacket_53 fkX10_56 (in_0 hw) sh_0 rfl (z_getR dX10_hearPacket_56 fkX10_261 (in_7 hw) sh_7 rfl (z_iload dX10_hearPacket_59 rfl (z_iald dX10_hearPacket_60 (in_47 hw) sh_47 (zin_vp s7) (z_callV dX10_hearPacket_61 (tX10_getPacket hw l8) (Nat.le_of_ble_eq_true rfl) cdX10_getPacket naX10_getPacket lkX10_279 imX10_getPacket seX10_getPacket (in_0 hw) sh_0 rfl rfl rfl (Nat.le_of_ble_eq_true rfl) (z_goto dX10_hearPacket_64 (z_mask [true, true, true, false, true, true] (sX10_hearPacket_85 hw h)))))))))))
def eX10_hearPacket (x0 x1 : Int32) (X : zX) : Option (zX) := zchk (zin x1 64) (zchk (zin x1 64) (if (X 48 (zn x1)) = (nI 2) then jX10_hearPacket_35 x0 x1 (X 49 (zn x1)) ((x0 * (nI 12)) + (X 49 (zn x1))) (nI 1) X else jX10_hearPacket_35 x0 x1 (X 49 (zn x1)) ((x0 * (nI 12)) + (X 49 (zn x1))) (nI 0) X))
set_option maxRecDepth 20000 in
set_option maxHeartbeats 4000000 in
theorem tX10_hearPacket {μ : zM} {w : Nat} (hw : w < 3) {x0 x1 : Int32} {X : zX} {ρ : zX} (h : eX10_hearPacket x0 x1 X = some ρ) : LM mX10_hearPacket 4 [zq (w + 4) 0, zi x0, zi x1] (zg μ (w + 4) X) none (zg μ (w + 4) ρ) := by
  unfold eX10_hearPacket at h
  refine LM.of (by decide +kernel) rfl (Nat.le_of_ble_eq_true rfl) ?_
  show zJ mX10_hearPacket 4 (0, 0) (0, 0) _ 0 [some (zq (w + 4) 0), some (zi x0), some (zi x1), none, none, none] [] _
  obtain ⟨s1, h⟩ := zchk_some h
  refine z_aload dX10_hearPacket_0 rfl (z_getR dX10_hearPacket_1 fkX10_56 (in_0 hw) sh_0 rfl (z_getR dX10_hearPacket_4 fkX10_241 (in_7 hw) sh_7 rfl (z_iload dX10_hearPacket_7 rfl (z_iald dX10_hearPacket_8 (in_49 hw) sh_49 (zin_vp s1) (z_istore dX10_hearPacket_9 (Nat.le_of_ble_eq_true rfl) (z_iload dX10_hearPacket_10 rfl (z_iload dX10_hearPacket_11 rfl (z_callSN dX10_hearPacket_12 (tX11_cell) (Nat.le_of_ble_eq_true rfl) cdX11_cell naX11_cell lkX10_156 stX11_cell rfl rfl (Nat.le_of_ble_eq_true rfl) (z_istore dX10_hearPacket_15 (Nat.le_of_ble_eq_true rfl) (z_aload dX10_hearPacket_17 rfl (z_getR dX10_hearPacket_18 fkX10_56 (in_0 hw) sh_0 rfl ?_)))))))))))
  obtain ⟨s2, h⟩ := zchk_some h
  refine z_getR dX10_hearPacket_21 fkX10_238 (in_7 hw) sh_7 rfl (z_iload dX10_hearPacket_24 rfl (z_iald dX10_hearPacket_25 (in_48 hw) sh_48 (zin_vp s2) (z_const dX10_hearPacket_26 (z_icmp_ne dX10_hearPacket_27 (fun c3 => ?_) (fun c3 => ?_)))))
  · have h := ziF h (c3)
    exact z_const dX10_hearPacket_34 (z_mask [true, true, true, true, true, false] (sX10_hearPacket_35 hw h))
  · have h := ziT h (c3)
    exact z_const dX10_hearPacket_30 (z_goto dX10_hearPacket_31 (z_mask [true, true, true, true, true, false] (sX10_hearPacket_35 hw h)))
-- X10_repair
def eX10_repair (F : Nat) (x0 x1 : Int32) (X : zX) : Option (zX) := zchk (zin ((x0 * (nI 12)) + x1) 72) (zchk (zin ((x0 * (nI 12)) + x1) 72) (zbd (eX10_rest x0 ((x0 * (nI 12)) + x1) (X 27 (zn ((x0 * (nI 12)) + x1))) X) fun y4 => zbd (eX5_dropAnswer ((x0 * (nI 12)) + x1) y4) fun y6 => zchk (zin x0 6) (zchk (zin x0 6) (zbd (eX3_put (y6 0 12) x0 (nI 2) x1 (zw y6 15 (zn x0) ((y6 15 (zn x0)) + (nI 1)))) fun y10 => zbd (eX10_flood F x0 (nI 2) x1 (X 28 (zn ((x0 * (nI 12)) + x1))) y10) fun y12 => some y12))))
set_option maxRecDepth 20000 in
set_option maxHeartbeats 4000000 in
theorem tX10_repair {μ : zM} {w : Nat} (hw : w < 3) {F : Nat} {x0 x1 : Int32} {X : zX} {ρ : zX} (h : eX10_repair F x0 x1 X = some ρ) : LM mX10_repair 4 [zq (w + 4) 0, zi x0, zi x1] (zg μ (w + 4) X) none (zg μ (w + 4) ρ) := by
  unfold eX10_repair at h
  refine LM.of (by decide +kernel) rfl (Nat.le_of_ble_eq_true rfl) ?_
  show zJ mX10_repair 4 (0, 0) (0, 0) _ 0 [some (zq (w + 4) 0), some (zi x0), some (zi x1), none, none] [] _
  obtain ⟨s1, h⟩ := zchk_some h
  refine z_iload dX10_repair_0 rfl (z_iload dX10_repair_1 rfl (z_callSN dX10_repair_2 (tX11_cell) (Nat.le_of_ble_eq_true rfl) cdX11_cell naX11_cell lkX10_156 stX11_cell rfl rfl (Nat.le_of_ble_eq_true rfl) (z_istore dX10_repair_5 (Nat.le_of_ble_eq_true rfl) (z_aload dX10_repair_6 rfl (z_getR dX10_repair_7 fkX10_35 (in_0 hw) sh_0 rfl (z_getR dX10_repair_10 fkX10_338 (in_4 hw) sh_4 rfl (z_iload dX10_repair_13 rfl (z_iald dX10_repair_14 (in_28 hw) sh_28 (zin_vp s1) (z_istore dX10_repair_15 (Nat.le_of_ble_eq_true rfl) (z_aload dX10_repair_17 rfl (z_iload dX10_repair_18 rfl ?_)))))))))))
  obtain ⟨s2, h⟩ := zchk_some h
  obtain ⟨y4, l3, h⟩ := zbd_some h
  obtain ⟨y6, l5, h⟩ := zbd_some h
  refine z_iload dX10_repair_19 rfl (z_aload dX10_repair_20 rfl (z_getR dX10_repair_21 fkX10_35 (in_0 hw) sh_0 rfl (z_getR dX10_repair_24 fkX10_341 (in_4 hw) sh_4 rfl (z_iload dX10_repair_27 rfl (z_iald dX10_repair_28 (in_27 hw) sh_27 (zin_vp s2) (z_callV dX10_repair_29 (tX10_rest hw l3) (Nat.le_of_ble_eq_true rfl) cdX10_rest naX10_rest lkX10_291 imX10_rest seX10_rest (in_0 hw) sh_0 rfl rfl rfl (Nat.le_of_ble_eq_true rfl) (z_aload dX10_repair_32 rfl (z_getR dX10_repair_33 fkX10_35 (in_0 hw) sh_0 rfl (z_iload dX10_repair_36 rfl (z_callV dX10_repair_37 (tX5_dropAnswer hw l5) (Nat.le_of_ble_eq_true rfl) cdX5_dropAnswer naX5_dropAnswer lkX10_183 imX5_dropAnswer seX5_dropAnswer (in_4 hw) sh_4 rfl rfl rfl (Nat.le_of_ble_eq_true rfl) (z_aload dX10_repair_40 rfl ?_)))))))))))
  obtain ⟨s7, h⟩ := zchk_some h
  obtain ⟨s8, h⟩ := zchk_some h
  refine z_getR dX10_repair_41 fkX10_28 (in_0 hw) sh_0 rfl (z_getR dX10_repair_44 fkX10_344 (in_3 hw) sh_3 rfl (z_iload dX10_repair_47 rfl (z_dup2 dX10_repair_48 rfl rfl (z_iald dX10_repair_49 (in_15 hw) sh_15 (zin_vp s7) (z_const dX10_repair_50 (z_iadd dX10_repair_51 (z_iast dX10_repair_52 (in_15 hw) sh_15 (zin_vp s8) (z_aload dX10_repair_53 rfl (z_getR dX10_repair_54 fkX10_63 (in_0 hw) sh_0 rfl (z_aload dX10_repair_57 rfl (z_getI dX10_repair_58 fkX10_80 (in_0 hw) sh_0 rfl ?_)))))))))))
  obtain ⟨y10, l9, h⟩ := zbd_some h
  obtain ⟨y12, l11, h⟩ := zbd_some h
  exact z_iload dX10_repair_61 rfl (z_const dX10_repair_62 (z_iload dX10_repair_63 rfl (z_callV dX10_repair_64 (tX3_put hw l9) (Nat.le_of_ble_eq_true rfl) cdX3_put naX3_put lkX10_164 imX3_put seX3_put (in_8 hw) sh_8 rfl rfl rfl (Nat.le_of_ble_eq_true rfl) (z_aload dX10_repair_67 rfl (z_iload dX10_repair_68 rfl (z_const dX10_repair_69 (z_iload dX10_repair_70 rfl (z_iload dX10_repair_71 rfl (z_callV dX10_repair_73 (tX10_flood hw l11) (Nat.le_of_ble_eq_true rfl) cdX10_flood naX10_flood lkX10_168 imX10_flood seX10_flood (in_0 hw) sh_0 rfl rfl rfl (Nat.le_of_ble_eq_true rfl) (z_vretQ dX10_repair_76 rfl (by cases h; rfl)))))))))))
-- X10_sendNext
def eX10_sendNext (F : Nat) (X : zX) : Option (zX) := zchk (zin (X 1 0) 6) (zchk (zin (X 1 0) 6) (zlet (zw (zw X 0 9 ((X 0 9) + (nI 1))) 9 (zn (X 1 0)) ((X 9 (zn (X 1 0))) ||| ((nI 1) <<< ((X 0 9) &&& 31)))) fun X3 => zchk (zin (X 1 0) 6) (zbd (eX5_setGiver (((X 1 0) * (nI 12)) + (X 0 9)) (X 1 0) ((zw X 0 9 ((X 0 9) + (nI 1))) 0 12) (zw X3 10 (zn (X 1 0)) (X 0 9))) fun y6 => zbd (eX3_put (y6 0 12) (X 1 0) (nI 0) (X 0 9) y6) fun y8 => zbd (eX10_flood F (X 1 0) (nI 0) (X 0 9) (nI 5) y8) fun y10 => some y10)))
set_option maxRecDepth 20000 in
set_option maxHeartbeats 4000000 in
theorem tX10_sendNext {μ : zM} {w : Nat} (hw : w < 3) {F : Nat} {X : zX} {ρ : zX} (h : eX10_sendNext F X = some ρ) : LM mX10_sendNext 4 [zq (w + 4) 0] (zg μ (w + 4) X) none (zg μ (w + 4) ρ) := by
  unfold eX10_sendNext at h
  refine LM.of (by decide +kernel) rfl (Nat.le_of_ble_eq_true rfl) ?_
  show zJ mX10_sendNext 4 (0, 0) (0, 0) _ 0 [some (zq (w + 4) 0), none, none] [] _
  refine z_aload dX10_sendNext_0 rfl (z_getR dX10_sendNext_1 fkX10_12 (in_0 hw) sh_0 rfl (z_getI dX10_sendNext_4 fkX10_147 (in_1 hw) sh_1 rfl (z_istore dX10_sendNext_7 (Nat.le_of_ble_eq_true rfl) (z_aload dX10_sendNext_8 rfl (z_getI dX10_sendNext_9 fkX10_71 (in_0 hw) sh_0 rfl (z_istore dX10_sendNext_12 (Nat.le_of_ble_eq_true rfl) (z_aload dX10_sendNext_13 rfl (z_dup dX10_sendNext_14 rfl (z_getI dX10_sendNext_15 fkX10_71 (in_0 hw) sh_0 rfl (z_const dX10_sendNext_18 (z_iadd dX10_sendNext_19 ?_)))))))))))
  obtain ⟨s1, h⟩ := zchk_some h
  obtain ⟨s2, h⟩ := zchk_some h
  have h := zlet_h h
  refine z_putI dX10_sendNext_20 fkX10_71 (in_0 hw) sh_0 rfl (fun _ _ _ h => by cases h; rfl) ⟨_, rfl, rfl, rfl⟩ (z_aload dX10_sendNext_23 rfl (z_getR dX10_sendNext_24 fkX10_28 (in_0 hw) sh_0 rfl (z_getR dX10_sendNext_27 fkX10_150 (in_3 hw) sh_3 rfl (z_iload dX10_sendNext_30 rfl (z_dup2 dX10_sendNext_31 rfl rfl (z_iald dX10_sendNext_32 (in_9 hw) sh_9 (zin_vp s1) (z_const dX10_sendNext_33 (z_iload dX10_sendNext_34 rfl (z_ishl dX10_sendNext_35 (z_ior dX10_sendNext_36 (z_iast dX10_sendNext_37 (in_9 hw) sh_9 (zin_vp s2) ?_)))))))))))
  obtain ⟨s4, h⟩ := zchk_some h
  refine z_aload dX10_sendNext_38 rfl (z_getR dX10_sendNext_39 fkX10_28 (in_0 hw) sh_0 rfl (z_getR dX10_sendNext_42 fkX10_153 (in_3 hw) sh_3 rfl (z_iload dX10_sendNext_45 rfl (z_iload dX10_sendNext_46 rfl (z_iast dX10_sendNext_47 (in_10 hw) sh_10 (zin_vp s4) (z_aload dX10_sendNext_48 rfl (z_getR dX10_sendNext_49 fkX10_35 (in_0 hw) sh_0 rfl (z_iload dX10_sendNext_52 rfl (z_iload dX10_sendNext_53 rfl (z_callSN dX10_sendNext_54 (tX11_cell) (Nat.le_of_ble_eq_true rfl) cdX11_cell naX11_cell lkX10_156 stX11_cell rfl rfl (Nat.le_of_ble_eq_true rfl) (z_iload dX10_sendNext_57 rfl ?_)))))))))))
  obtain ⟨y6, l5, h⟩ := zbd_some h
  obtain ⟨y8, l7, h⟩ := zbd_some h
  refine z_aload dX10_sendNext_58 rfl (z_getI dX10_sendNext_59 fkX10_80 (in_0 hw) sh_0 rfl (z_callV dX10_sendNext_62 (tX5_setGiver hw l5) (Nat.le_of_ble_eq_true rfl) cdX5_setGiver naX5_setGiver lkX10_160 imX5_setGiver seX5_setGiver (in_4 hw) sh_4 rfl rfl rfl (Nat.le_of_ble_eq_true rfl) (z_aload dX10_sendNext_65 rfl (z_getR dX10_sendNext_66 fkX10_63 (in_0 hw) sh_0 rfl (z_aload dX10_sendNext_69 rfl (z_getI dX10_sendNext_70 fkX10_80 (in_0 hw) sh_0 rfl (z_iload dX10_sendNext_73 rfl (z_const dX10_sendNext_74 (z_iload dX10_sendNext_75 rfl (z_callV dX10_sendNext_76 (tX3_put hw l7) (Nat.le_of_ble_eq_true rfl) cdX3_put naX3_put lkX10_164 imX3_put seX3_put (in_8 hw) sh_8 rfl rfl rfl (Nat.le_of_ble_eq_true rfl) (z_aload dX10_sendNext_79 rfl ?_)))))))))))
  obtain ⟨y10, l9, h⟩ := zbd_some h
  exact z_iload dX10_sendNext_80 rfl (z_const dX10_sendNext_81 (z_iload dX10_sendNext_82 rfl (z_const dX10_sendNext_83 (z_callV dX10_sendNext_84 (tX10_flood hw l9) (Nat.le_of_ble_eq_true rfl) cdX10_flood naX10_flood lkX10_168 imX10_flood seX10_flood (in_0 hw) sh_0 rfl rfl rfl (Nat.le_of_ble_eq_true rfl) (z_vretQ dX10_sendNext_87 rfl (by cases h; rfl))))))
-- X10_findWays
def eX10_findWays (F : Nat) (X : zX) : Option (zX) := zbd (eX9_find F (X 3 0) X) fun y2 => some y2
set_option maxRecDepth 20000 in
set_option maxHeartbeats 4000000 in
theorem tX10_findWays {μ : zM} {w : Nat} (hw : w < 3) {F : Nat} {X : zX} {ρ : zX} (h : eX10_findWays F X = some ρ) : LM mX10_findWays 5 [zq (w + 4) 0] (zg μ (w + 4) X) none (zg μ (w + 4) ρ) := by
  unfold eX10_findWays at h
  refine LM.of (by decide +kernel) rfl (Nat.le_of_ble_eq_true rfl) ?_
  show zJ mX10_findWays 5 (0, 0) (0, 0) _ 0 [some (zq (w + 4) 0)] [] _
  obtain ⟨y2, l1, h⟩ := zbd_some h
  exact z_aload dX10_findWays_0 rfl (z_getR dX10_findWays_1 fkX10_49 (in_0 hw) sh_0 rfl (z_aload dX10_findWays_4 rfl (z_getR dX10_findWays_5 fkX10_42 (in_0 hw) sh_0 rfl (z_aload dX10_findWays_8 rfl (z_getR dX10_findWays_9 fkX10_28 (in_0 hw) sh_0 rfl (z_getI dX10_findWays_12 fkX10_111 (in_3 hw) sh_3 rfl (z_callV dX10_findWays_15 (tX9_find hw l1) (Nat.le_of_ble_eq_true rfl) cdX9_find naX9_find lkX10_114 imX9_find seX9_find (in_6 hw) sh_6 rfl rfl rfl (Nat.le_of_ble_eq_true rfl) (z_vretQ dX10_findWays_18 rfl (by cases h; rfl)))))))))
-- X10_hearRequest
def eX10_hearRequest (x0 x1 : Int32) (X : zX) : Option (zX) := zchk (zin x1 64) (zbd (eX4_hasPacket x0 (X 49 (zn x1)) X) fun r3 => if r3 = 0 then zchk (zin ((x0 * (nI 12)) + (X 49 (zn x1))) 72) (zchk (zin ((x0 * (nI 12)) + (X 49 (zn x1))) 72) (zlet (zw X 24 (zn ((x0 * (nI 12)) + (X 49 (zn x1)))) ((X 24 (zn ((x0 * (nI 12)) + (X 49 (zn x1))))) + (nI 1))) fun X7 => zchk (zin ((x0 * (nI 12)) + (X 49 (zn x1))) 72) (if (X 0 12) < (X 25 (zn ((x0 * (nI 12)) + (X 49 (zn x1))))) then some X7 else zbd (eX10_askLater x0 ((x0 * (nI 12)) + (X 49 (zn x1))) X7) fun y11 => zchk (zin x0 6) (zchk (zin x0 6) (some (zw y11 17 (zn x0) ((y11 17 (zn x0)) + (nI 1)))))))) else zchk (zin ((x0 * (nI 12)) + (X 49 (zn x1))) 72) (if (X 26 (zn ((x0 * (nI 12)) + (X 49 (zn x1))))) = (-1) then zchk (zin ((x0 * (nI 12)) + (X 49 (zn x1))) 72) (if (X 0 12) < (X 29 (zn ((x0 * (nI 12)) + (X 49 (zn x1))))) then some X else zchk (zin x1 64) (zchk (zin x1 64) (zbd (eX10_setAnswer x0 ((x0 * (nI 12)) + (X 49 (zn x1))) (X 47 (zn x1)) (X 51 (zn x1)) X) fun y21 => some y21))) else some X))
set_option maxRecDepth 20000 in
set_option maxHeartbeats 4000000 in
theorem tX10_hearRequest {μ : zM} {w : Nat} (hw : w < 3) {x0 x1 : Int32} {X : zX} {ρ : zX} (h : eX10_hearRequest x0 x1 X = some ρ) : LM mX10_hearRequest 5 [zq (w + 4) 0, zi x0, zi x1] (zg μ (w + 4) X) none (zg μ (w + 4) ρ) := by
  unfold eX10_hearRequest at h
  refine LM.of (by decide +kernel) rfl (Nat.le_of_ble_eq_true rfl) ?_
  show zJ mX10_hearRequest 5 (0, 0) (0, 0) _ 0 [some (zq (w + 4) 0), some (zi x0), some (zi x1), none, none] [] _
  obtain ⟨s1, h⟩ := zchk_some h
  refine z_aload dX10_hearRequest_0 rfl (z_getR dX10_hearRequest_1 fkX10_56 (in_0 hw) sh_0 rfl (z_getR dX10_hearRequest_4 fkX10_241 (in_7 hw) sh_7 rfl (z_iload dX10_hearRequest_7 rfl (z_iald dX10_hearRequest_8 (in_49 hw) sh_49 (zin_vp s1) (z_istore dX10_hearRequest_9 (Nat.le_of_ble_eq_true rfl) (z_iload dX10_hearRequest_10 rfl (z_iload dX10_hearRequest_11 rfl (z_callSN dX10_hearRequest_12 (tX11_cell) (Nat.le_of_ble_eq_true rfl) cdX11_cell naX11_cell lkX10_156 stX11_cell rfl rfl (Nat.le_of_ble_eq_true rfl) (z_istore dX10_hearRequest_15 (Nat.le_of_ble_eq_true rfl) (z_aload dX10_hearRequest_17 rfl (z_getR dX10_hearRequest_18 fkX10_28 (in_0 hw) sh_0 rfl ?_)))))))))))
  obtain ⟨r3, l2, h⟩ := zbd_some h
  refine z_iload dX10_hearRequest_21 rfl (z_iload dX10_hearRequest_22 rfl (z_callV dX10_hearRequest_23 (tX4_hasPacket hw l2) (Nat.le_of_ble_eq_true rfl) cdX4_hasPacket naX4_hasPacket lkX10_244 imX4_hasPacket seX4_hasPacket (in_3 hw) sh_3 rfl rfl rfl (Nat.le_of_ble_eq_true rfl) (z_if_eq dX10_hearRequest_26 (fun c4 => ?_) (fun c4 => ?_))))
  · have h := ziT h (c4)
    obtain ⟨s5, h⟩ := zchk_some h
    obtain ⟨s6, h⟩ := zchk_some h
    have h := zlet_h h
    refine z_aload dX10_hearRequest_86 rfl (z_getR dX10_hearRequest_87 fkX10_35 (in_0 hw) sh_0 rfl (z_getR dX10_hearRequest_90 fkX10_294 (in_4 hw) sh_4 rfl (z_iload dX10_hearRequest_93 rfl (z_dup2 dX10_hearRequest_95 rfl rfl (z_iald dX10_hearRequest_96 (in_24 hw) sh_24 (zin_vp s5) (z_const dX10_hearRequest_97 (z_iadd dX10_hearRequest_98 (z_iast dX10_hearRequest_99 (in_24 hw) sh_24 (zin_vp s6) (z_aload dX10_hearRequest_100 rfl (z_getI dX10_hearRequest_101 fkX10_80 (in_0 hw) sh_0 rfl (z_aload dX10_hearRequest_104 rfl ?_)))))))))))
    obtain ⟨s8, h⟩ := zchk_some h
    refine z_getR dX10_hearRequest_105 fkX10_35 (in_0 hw) sh_0 rfl (z_getR dX10_hearRequest_108 fkX10_220 (in_4 hw) sh_4 rfl (z_iload dX10_hearRequest_111 rfl (z_iald dX10_hearRequest_113 (in_25 hw) sh_25 (zin_vp s8) (z_icmp_lt dX10_hearRequest_114 (fun c9 => ?_) (fun c9 => ?_)))))
    · have h := ziT h (c9)
      exact z_vretQ dX10_hearRequest_137 rfl (by cases h; rfl)
    · have h := ziF h (c9)
      obtain ⟨y11, l10, h⟩ := zbd_some h
      obtain ⟨s12, h⟩ := zchk_some h
      refine z_aload dX10_hearRequest_117 rfl (z_iload dX10_hearRequest_118 rfl (z_iload dX10_hearRequest_119 rfl (z_callV dX10_hearRequest_121 (tX10_askLater hw l10) (Nat.le_of_ble_eq_true rfl) cdX10_askLater naX10_askLater lkX10_315 imX10_askLater seX10_askLater (in_0 hw) sh_0 rfl rfl rfl (Nat.le_of_ble_eq_true rfl) (z_aload dX10_hearRequest_124 rfl (z_getR dX10_hearRequest_125 fkX10_28 (in_0 hw) sh_0 rfl (z_getR dX10_hearRequest_128 fkX10_288 (in_3 hw) sh_3 rfl (z_iload dX10_hearRequest_131 rfl (z_dup2 dX10_hearRequest_132 rfl rfl (z_iald dX10_hearRequest_133 (in_17 hw) sh_17 (zin_vp s12) (z_const dX10_hearRequest_134 (z_iadd dX10_hearRequest_135 ?_)))))))))))
      obtain ⟨s13, h⟩ := zchk_some h
      exact z_iast dX10_hearRequest_136 (in_17 hw) sh_17 (zin_vp s13) (z_vretQ dX10_hearRequest_137 rfl (by cases h; rfl))
  · have h := ziF h (c4)
    obtain ⟨s14, h⟩ := zchk_some h
    refine z_aload dX10_hearRequest_29 rfl (z_getR dX10_hearRequest_30 fkX10_35 (in_0 hw) sh_0 rfl (z_getR dX10_hearRequest_33 fkX10_285 (in_4 hw) sh_4 rfl (z_iload dX10_hearRequest_36 rfl (z_iald dX10_hearRequest_38 (in_26 hw) sh_26 (zin_vp s14) (z_const dX10_hearRequest_39 (z_icmp_ne dX10_hearRequest_40 (fun c15 => ?_) (fun c15 => ?_)))))))
    · have h := ziF h (c15)
      exact z_vretQ dX10_hearRequest_85 rfl (by cases h; rfl)
    · have h := ziT h (c15)
      obtain ⟨s16, h⟩ := zchk_some h
      refine z_aload dX10_hearRequest_43 rfl (z_getI dX10_hearRequest_44 fkX10_80 (in_0 hw) sh_0 rfl (z_aload dX10_hearRequest_47 rfl (z_getR dX10_hearRequest_48 fkX10_35 (in_0 hw) sh_0 rfl (z_getR dX10_hearRequest_51 fkX10_232 (in_4 hw) sh_4 rfl (z_iload dX10_hearRequest_54 rfl (z_iald dX10_hearRequest_56 (in_29 hw) sh_29 (zin_vp s16) (z_icmp_lt dX10_hearRequest_57 (fun c17 => ?_) (fun c17 => ?_))))))))
      · have h := ziT h (c17)
        exact z_vretQ dX10_hearRequest_85 rfl (by cases h; rfl)
      · have h := ziF h (c17)
        obtain ⟨s18, h⟩ := zchk_some h
        refine z_aload dX10_hearRequest_60 rfl (z_iload dX10_hearRequest_61 rfl (z_iload dX10_hearRequest_62 rfl (z_aload dX10_hearRequest_64 rfl (z_getR dX10_hearRequest_65 fkX10_56 (in_0 hw) sh_0 rfl (z_getR dX10_hearRequest_68 fkX10_261 (in_7 hw) sh_7 rfl (z_iload dX10_hearRequest_71 rfl (z_iald dX10_hearRequest_72 (in_47 hw) sh_47 (zin_vp s18) (z_aload dX10_hearRequest_73 rfl (z_getR dX10_hearRequest_74 fkX10_56 (in_0 hw) sh_0 rfl (z_getR dX10_hearRequest_77 fkX10_309 (in_7 hw) sh_7 rfl (z_iload dX10_hearRequest_80 rfl ?_)))))))))))
        obtain ⟨s19, h⟩ := zchk_some h
        obtain ⟨y21, l20, h⟩ := zbd_some h
        exact z_iald dX10_hearRequest_81 (in_51 hw) sh_51 (zin_vp s19) (z_callV dX10_hearRequest_82 (tX10_setAnswer hw l20) (Nat.le_of_ble_eq_true rfl) cdX10_setAnswer naX10_setAnswer lkX10_312 imX10_setAnswer seX10_setAnswer (in_0 hw) sh_0 rfl rfl rfl (Nat.le_of_ble_eq_true rfl) (z_vretQ dX10_hearRequest_85 rfl (by cases h; rfl)))
-- X10_request
def eX10_request (F : Nat) (x0 x1 : Int32) (X : zX) : Option (zX) := zbd (eX10_askLater x0 ((x0 * (nI 12)) + x1) X) fun y2 => zbd (eX3_put (y2 0 12) x0 (nI 1) x1 y2) fun y4 => zchk (zin ((x0 * (nI 12)) + x1) 72) (zbd (eX10_flood F x0 (nI 1) x1 (zmn ((y4 1 1) + (y4 23 (zn ((x0 * (nI 12)) + x1)))) (nI 5)) y4) fun y7 => zchk (zin ((x0 * (nI 12)) + x1) 72) (zchk (zin ((x0 * (nI 12)) + x1) 72) (zlet (zw y7 23 (zn ((x0 * (nI 12)) + x1)) ((y7 23 (zn ((x0 * (nI 12)) + x1))) + (nI 1))) fun X10 => zchk (zin ((x0 * (nI 12)) + x1) 72) (zchk (zin ((x0 * (nI 12)) + x1) 72) (zlet (zw X10 24 (zn ((x0 * (nI 12)) + x1)) ((y7 24 (zn ((x0 * (nI 12)) + x1))) + (nI 1))) fun X13 => zchk (zin x0 6) (zchk (zin x0 6) (some (zw X13 14 (zn x0) ((y7 14 (zn x0)) + (nI 1))))))))))
set_option maxRecDepth 20000 in
set_option maxHeartbeats 4000000 in
theorem tX10_request {μ : zM} {w : Nat} (hw : w < 3) {F : Nat} {x0 x1 : Int32} {X : zX} {ρ : zX} (h : eX10_request F x0 x1 X = some ρ) : LM mX10_request 5 [zq (w + 4) 0, zi x0, zi x1] (zg μ (w + 4) X) none (zg μ (w + 4) ρ) := by
  unfold eX10_request at h
  refine LM.of (by decide +kernel) rfl (Nat.le_of_ble_eq_true rfl) ?_
  show zJ mX10_request 5 (0, 0) (0, 0) _ 0 [some (zq (w + 4) 0), some (zi x0), some (zi x1), none] [] _
  obtain ⟨y2, l1, h⟩ := zbd_some h
  refine z_iload dX10_request_0 rfl (z_iload dX10_request_1 rfl (z_callSN dX10_request_2 (tX11_cell) (Nat.le_of_ble_eq_true rfl) cdX11_cell naX11_cell lkX10_156 stX11_cell rfl rfl (Nat.le_of_ble_eq_true rfl) (z_istore dX10_request_5 (Nat.le_of_ble_eq_true rfl) (z_aload dX10_request_6 rfl (z_iload dX10_request_7 rfl (z_iload dX10_request_8 rfl (z_callV dX10_request_9 (tX10_askLater hw l1) (Nat.le_of_ble_eq_true rfl) cdX10_askLater naX10_askLater lkX10_315 imX10_askLater seX10_askLater (in_0 hw) sh_0 rfl rfl rfl (Nat.le_of_ble_eq_true rfl) (z_aload dX10_request_12 rfl (z_getR dX10_request_13 fkX10_63 (in_0 hw) sh_0 rfl (z_aload dX10_request_16 rfl (z_getI dX10_request_17 fkX10_80 (in_0 hw) sh_0 rfl ?_)))))))))))
  obtain ⟨y4, l3, h⟩ := zbd_some h
  refine z_iload dX10_request_20 rfl (z_const dX10_request_21 (z_iload dX10_request_22 rfl (z_callV dX10_request_23 (tX3_put hw l3) (Nat.le_of_ble_eq_true rfl) cdX3_put naX3_put lkX10_164 imX3_put seX3_put (in_8 hw) sh_8 rfl rfl rfl (Nat.le_of_ble_eq_true rfl) (z_aload dX10_request_26 rfl (z_iload dX10_request_27 rfl (z_const dX10_request_28 (z_iload dX10_request_29 rfl (z_aload dX10_request_30 rfl (z_getR dX10_request_31 fkX10_12 (in_0 hw) sh_0 rfl (z_getI dX10_request_34 fkX10_327 (in_1 hw) sh_1 rfl (z_aload dX10_request_37 rfl ?_)))))))))))
  obtain ⟨s5, h⟩ := zchk_some h
  obtain ⟨y7, l6, h⟩ := zbd_some h
  refine z_getR dX10_request_38 fkX10_35 (in_0 hw) sh_0 rfl (z_getR dX10_request_41 fkX10_329 (in_4 hw) sh_4 rfl (z_iload dX10_request_44 rfl (z_iald dX10_request_45 (in_23 hw) sh_23 (zin_vp s5) (z_iadd dX10_request_46 (z_const dX10_request_47 (z_min dX10_request_48 lkX10_332 (Nat.le_of_ble_eq_true rfl) (Nat.le_of_ble_eq_true rfl) (z_callV dX10_request_51 (tX10_flood hw l6) (Nat.le_of_ble_eq_true rfl) cdX10_flood naX10_flood lkX10_168 imX10_flood seX10_flood (in_0 hw) sh_0 rfl rfl rfl (Nat.le_of_ble_eq_true rfl) (z_aload dX10_request_54 rfl (z_getR dX10_request_55 fkX10_35 (in_0 hw) sh_0 rfl (z_getR dX10_request_58 fkX10_329 (in_4 hw) sh_4 rfl (z_iload dX10_request_61 rfl ?_)))))))))))
  obtain ⟨s8, h⟩ := zchk_some h
  obtain ⟨s9, h⟩ := zchk_some h
  have h := zlet_h h
  obtain ⟨s11, h⟩ := zchk_some h
  refine z_dup2 dX10_request_62 rfl rfl (z_iald dX10_request_63 (in_23 hw) sh_23 (zin_vp s8) (z_const dX10_request_64 (z_iadd dX10_request_65 (z_iast dX10_request_66 (in_23 hw) sh_23 (zin_vp s9) (z_aload dX10_request_67 rfl (z_getR dX10_request_68 fkX10_35 (in_0 hw) sh_0 rfl (z_getR dX10_request_71 fkX10_294 (in_4 hw) sh_4 rfl (z_iload dX10_request_74 rfl (z_dup2 dX10_request_75 rfl rfl (z_iald dX10_request_76 (in_24 hw) sh_24 (zin_vp s11) (z_const dX10_request_77 ?_)))))))))))
  obtain ⟨s12, h⟩ := zchk_some h
  have h := zlet_h h
  obtain ⟨s14, h⟩ := zchk_some h
  obtain ⟨s15, h⟩ := zchk_some h
  exact z_iadd dX10_request_78 (z_iast dX10_request_79 (in_24 hw) sh_24 (zin_vp s12) (z_aload dX10_request_80 rfl (z_getR dX10_request_81 fkX10_28 (in_0 hw) sh_0 rfl (z_getR dX10_request_84 fkX10_335 (in_3 hw) sh_3 rfl (z_iload dX10_request_87 rfl (z_dup2 dX10_request_88 rfl rfl (z_iald dX10_request_89 (in_14 hw) sh_14 (zin_vp s14) (z_const dX10_request_90 (z_iadd dX10_request_91 (z_iast dX10_request_92 (in_14 hw) sh_14 (zin_vp s15) (z_vretQ dX10_request_93 rfl (by cases h; rfl))))))))))))
-- X10_act
def jX10_act_69 (F : Nat) (K26 : Int32 → Int32 → Int32 → zX → Option (zX)) (a1 a4 a5 : Int32) (X : zX) : Option (zX) := zchk (zin a4 72) (if (X 26 (zn a4)) = (-1) then K26 a1 (a4 + (nI 1)) (a5 + (nI 1)) X else zchk (zin a4 72) (if (X 0 12) < (X 26 (zn a4)) then K26 a1 (a4 + (nI 1)) (a5 + (nI 1)) X else zbd (eX10_repair F a1 a5 X) fun y6 => K26 a1 (a4 + (nI 1)) (a5 + (nI 1)) y6))
set_option maxRecDepth 20000 in
set_option maxHeartbeats 4000000 in
theorem sX10_act_69 {μ : zM} {w : Nat} (hw : w < 3) {F : Nat} {K26 : Int32 → Int32 → Int32 → zX → Option (zX)} (hK26 : ∀ {xa1 xa4 xa5 : Int32} {xX : zX} {ρ : zX}, K26 xa1 xa4 xa5 xX = some ρ → zJ mX10_act 6 (0, 0) (0, 0) (zQ none (zg μ (w + 4) ρ)) 26 [some (zq (w + 4) 0), some (zi xa1), some (zq (w + 4) 21), some (zq (w + 4) 26), some (zi xa4), some (zi xa5)] [] (zg μ (w + 4) xX)) {a1 a4 a5 : Int32} {X : zX} {ρ : zX} (h : jX10_act_69 F K26 a1 a4 a5 X = some ρ) : zJ mX10_act 6 (0, 0) (0, 0) (zQ none (zg μ (w + 4) ρ)) 69 [some (zq (w + 4) 0), some (zi a1), some (zq (w + 4) 21), some (zq (w + 4) 26), some (zi a4), some (zi a5)] [] (zg μ (w + 4) X) := by
  unfold jX10_act_69 at h
  obtain ⟨s1, h⟩ := zchk_some h
  refine z_aload dX10_act_69 rfl (z_iload dX10_act_70 rfl (z_iald dX10_act_72 (in_26 hw) sh_26 (zin_vp s1) (z_const dX10_act_73 (z_icmp_eq dX10_act_74 (fun c2 => ?_) (fun c2 => ?_)))))
  · have h := ziT h (c2)
    exact z_iinc dX10_act_95 (Nat.le_of_ble_eq_true rfl) rfl (z_iinc dX10_act_98 (Nat.le_of_ble_eq_true rfl) rfl (z_goto dX10_act_101 (z_mask [true, true, true, true, true, true] (hK26 h))))
  · have h := ziF h (c2)
    obtain ⟨s3, h⟩ := zchk_some h
    refine z_aload dX10_act_77 rfl (z_iload dX10_act_78 rfl (z_iald dX10_act_80 (in_26 hw) sh_26 (zin_vp s3) (z_aload dX10_act_81 rfl (z_getI dX10_act_82 fkX10_80 (in_0 hw) sh_0 rfl (z_icmp_gt dX10_act_85 (fun c4 => ?_) (fun c4 => ?_))))))
    · have h := ziT h (c4)
      exact z_iinc dX10_act_95 (Nat.le_of_ble_eq_true rfl) rfl (z_iinc dX10_act_98 (Nat.le_of_ble_eq_true rfl) rfl (z_goto dX10_act_101 (z_mask [true, true, true, true, true, true] (hK26 h))))
    · have h := ziF h (c4)
      obtain ⟨y6, l5, h⟩ := zbd_some h
      exact z_aload dX10_act_88 rfl (z_iload dX10_act_89 rfl (z_iload dX10_act_90 rfl (z_callV dX10_act_92 (tX10_repair hw l5) (Nat.le_of_ble_eq_true rfl) cdX10_repair naX10_repair lkX10_321 imX10_repair seX10_repair (in_0 hw) sh_0 rfl rfl rfl (Nat.le_of_ble_eq_true rfl) (z_iinc dX10_act_95 (Nat.le_of_ble_eq_true rfl) rfl (z_iinc dX10_act_98 (Nat.le_of_ble_eq_true rfl) rfl (z_goto dX10_act_101 (z_mask [true, true, true, true, true, true] (hK26 h))))))))
def hX10_act_26 (F : Nat) : Nat → Int32 → Int32 → Int32 → zX → Option (zX)
  | 0, _, _, _, _ => none
  | n + 1, a1, a4, a5, X => zchk (zin a1 6) (if (X 10 (zn a1)) < a5 then if (X 1 2) ≤ 0 then some X else zchk (znz (X 1 2)) (if (zrem ((X 0 12) + a1) (X 1 2)) = 0 then zbd (eX10_flood F a1 (nI 3) (-1) (nI 5) X) fun y7 => some y7 else some X) else zchk (zin a4 72) (if (X 21 (zn a4)) = (-1) then jX10_act_69 F (hX10_act_26 F n) a1 a4 a5 X else zchk (zin a4 72) (if (X 0 12) < (X 21 (zn a4)) then jX10_act_69 F (hX10_act_26 F n) a1 a4 a5 X else zbd (eX10_request F a1 a5 X) fun y13 => (hX10_act_26 F n) a1 (a4 + (nI 1)) (a5 + (nI 1)) y13)))
set_option maxRecDepth 20000 in
set_option maxHeartbeats 4000000 in
theorem sX10_act_26 {μ : zM} {w : Nat} (hw : w < 3) {F : Nat} : ∀ {n : Nat} {a1 a4 a5 : Int32} {X : zX} {ρ : zX}, hX10_act_26 F n a1 a4 a5 X = some ρ → zJ mX10_act 6 (0, 0) (0, 0) (zQ none (zg μ (w + 4) ρ)) 26 [some (zq (w + 4) 0), some (zi a1), some (zq (w + 4) 21), some (zq (w + 4) 26), some (zi a4), some (zi a5)] [] (zg μ (w + 4) X) := by
  intro n
  induction n with
  | zero => intro a1 a4 a5 X ρ h; exact nomatch (show (none : Option _) = some ρ from h)
  | succ n ih =>
    intro a1 a4 a5 X ρ h
    have hK26 := @ih
    rw [hX10_act_26] at h
    obtain ⟨s1, h⟩ := zchk_some h
    refine z_iload dX10_act_26 rfl (z_aload dX10_act_28 rfl (z_getR dX10_act_29 fkX10_28 (in_0 hw) sh_0 rfl (z_getR dX10_act_32 fkX10_153 (in_3 hw) sh_3 rfl (z_iload dX10_act_35 rfl (z_iald dX10_act_36 (in_10 hw) sh_10 (zin_vp s1) (z_icmp_gt dX10_act_37 (fun c2 => ?_) (fun c2 => ?_)))))))
    · have h := ziT h (c2)
      refine z_aload dX10_act_104 rfl (z_getR dX10_act_105 fkX10_12 (in_0 hw) sh_0 rfl (z_getI dX10_act_108 fkX10_324 (in_1 hw) sh_1 rfl (z_if_le dX10_act_111 (fun c3 => ?_) (fun c3 => ?_))))
      · have h := ziT h (c3)
        exact z_vretQ dX10_act_139 rfl (by cases h; rfl)
      · have h := ziF h (c3)
        obtain ⟨s4, h⟩ := zchk_some h
        refine z_aload dX10_act_114 rfl (z_getI dX10_act_115 fkX10_80 (in_0 hw) sh_0 rfl (z_iload dX10_act_118 rfl (z_iadd dX10_act_119 (z_aload dX10_act_120 rfl (z_getR dX10_act_121 fkX10_12 (in_0 hw) sh_0 rfl (z_getI dX10_act_124 fkX10_324 (in_1 hw) sh_1 rfl (z_irem dX10_act_127 (znz_ne s4) (z_if_ne dX10_act_128 (fun c5 => ?_) (fun c5 => ?_)))))))))
        · have h := ziF h (c5)
          exact z_vretQ dX10_act_139 rfl (by cases h; rfl)
        · have h := ziT h (c5)
          obtain ⟨y7, l6, h⟩ := zbd_some h
          exact z_aload dX10_act_131 rfl (z_iload dX10_act_132 rfl (z_const dX10_act_133 (z_const dX10_act_134 (z_const dX10_act_135 (z_callV dX10_act_136 (tX10_flood hw l6) (Nat.le_of_ble_eq_true rfl) cdX10_flood naX10_flood lkX10_168 imX10_flood seX10_flood (in_0 hw) sh_0 rfl rfl rfl (Nat.le_of_ble_eq_true rfl) (z_vretQ dX10_act_139 rfl (by cases h; rfl)))))))
    · have h := ziF h (c2)
      obtain ⟨s8, h⟩ := zchk_some h
      refine z_aload dX10_act_40 rfl (z_iload dX10_act_41 rfl (z_iald dX10_act_43 (in_21 hw) sh_21 (zin_vp s8) (z_const dX10_act_44 (z_icmp_eq dX10_act_45 (fun c9 => ?_) (fun c9 => ?_)))))
      · have h := ziT h (c9)
        exact z_mask [true, true, true, true, true, true] (sX10_act_69 hw hK26 h)
      · have h := ziF h (c9)
        obtain ⟨s10, h⟩ := zchk_some h
        refine z_aload dX10_act_48 rfl (z_iload dX10_act_49 rfl (z_iald dX10_act_51 (in_21 hw) sh_21 (zin_vp s10) (z_aload dX10_act_52 rfl (z_getI dX10_act_53 fkX10_80 (in_0 hw) sh_0 rfl (z_icmp_gt dX10_act_56 (fun c11 => ?_) (fun c11 => ?_))))))
        · have h := ziT h (c11)
          exact z_mask [true, true, true, true, true, true] (sX10_act_69 hw hK26 h)
        · have h := ziF h (c11)
          obtain ⟨y13, l12, h⟩ := zbd_some h
          exact z_aload dX10_act_59 rfl (z_iload dX10_act_60 rfl (z_iload dX10_act_61 rfl (z_callV dX10_act_63 (tX10_request hw l12) (Nat.le_of_ble_eq_true rfl) cdX10_request naX10_request lkX10_318 imX10_request seX10_request (in_0 hw) sh_0 rfl rfl rfl (Nat.le_of_ble_eq_true rfl) (z_goto dX10_act_66 (z_iinc dX10_act_95 (Nat.le_of_ble_eq_true rfl) rfl (z_iinc dX10_act_98 (Nat.le_of_ble_eq_true rfl) rfl (z_goto dX10_act_101 (z_mask [true, true, true, true, true, true] (hK26 h)))))))))
def eX10_act (F : Nat) (x0 : Int32) (X : zX) : Option (zX) := hX10_act_26 F F x0 ((x0 * (nI 12)) + (nI 0)) (nI 0) X
set_option maxRecDepth 20000 in
set_option maxHeartbeats 4000000 in
theorem tX10_act {μ : zM} {w : Nat} (hw : w < 3) {F : Nat} {x0 : Int32} {X : zX} {ρ : zX} (h : eX10_act F x0 X = some ρ) : LM mX10_act 6 [zq (w + 4) 0, zi x0] (zg μ (w + 4) X) none (zg μ (w + 4) ρ) := by
  unfold eX10_act at h
  refine LM.of (by decide +kernel) rfl (Nat.le_of_ble_eq_true rfl) ?_
  show zJ mX10_act 6 (0, 0) (0, 0) _ 0 [some (zq (w + 4) 0), some (zi x0), none, none, none, none] [] _
  refine z_aload dX10_act_0 rfl (z_getR dX10_act_1 fkX10_35 (in_0 hw) sh_0 rfl (z_getR dX10_act_4 fkX10_176 (in_4 hw) sh_4 rfl (z_astore dX10_act_7 (Nat.le_of_ble_eq_true rfl) (z_aload dX10_act_8 rfl (z_getR dX10_act_9 fkX10_35 (in_0 hw) sh_0 rfl (z_getR dX10_act_12 fkX10_285 (in_4 hw) sh_4 rfl (z_astore dX10_act_15 (Nat.le_of_ble_eq_true rfl) (z_iload dX10_act_16 rfl (z_const dX10_act_17 (z_callSN dX10_act_18 (tX11_cell) (Nat.le_of_ble_eq_true rfl) cdX11_cell naX11_cell lkX10_156 stX11_cell rfl rfl (Nat.le_of_ble_eq_true rfl) (z_istore dX10_act_21 (Nat.le_of_ble_eq_true rfl) ?_)))))))))))
  exact z_const dX10_act_23 (z_istore dX10_act_24 (Nat.le_of_ble_eq_true rfl) (z_mask [true, true, true, true, true, true] (sX10_act_26 hw h)))
-- X10_hear
def jX10_hear_103 (F : Nat) (a1 a2 a3 : Int32) (X : zX) : Option (zX) := zchk (zin a1 64) (zbd (eX10_hearOf F a2 (X 50 (zn a1)) X) fun y3 => if a3 = (nI 1) then zbd (eX10_hearRequest a2 a1 y3) fun y6 => some y6 else some y3)
set_option maxRecDepth 20000 in
set_option maxHeartbeats 4000000 in
theorem sX10_hear_103 {μ : zM} {w : Nat} (hw : w < 3) {F : Nat} {a1 a2 a3 : Int32} {X : zX} {ρ : zX} (h : jX10_hear_103 F a1 a2 a3 X = some ρ) : zJ mX10_hear 6 (0, 0) (0, 0) (zQ none (zg μ (w + 4) ρ)) 103 [some (zq (w + 4) 0), some (zi a1), some (zi a2), some (zi a3)] [] (zg μ (w + 4) X) := by
  unfold jX10_hear_103 at h
  obtain ⟨s1, h⟩ := zchk_some h
  obtain ⟨y3, l2, h⟩ := zbd_some h
  refine z_aload dX10_hear_103 rfl (z_iload dX10_hear_104 rfl (z_aload dX10_hear_105 rfl (z_getR dX10_hear_106 fkX10_56 (in_0 hw) sh_0 rfl (z_getR dX10_hear_109 fkX10_254 (in_7 hw) sh_7 rfl (z_iload dX10_hear_112 rfl (z_iald dX10_hear_113 (in_50 hw) sh_50 (zin_vp s1) (z_callV dX10_hear_114 (tX10_hearOf hw l2) (Nat.le_of_ble_eq_true rfl) cdX10_hearOf naX10_hearOf lkX10_255 imX10_hearOf seX10_hearOf (in_0 hw) sh_0 rfl rfl rfl (Nat.le_of_ble_eq_true rfl) (z_iload dX10_hear_117 rfl (z_const dX10_hear_118 (z_icmp_ne dX10_hear_119 (fun c4 => ?_) (fun c4 => ?_)))))))))))
  · have h := ziF h (c4)
    exact z_vretQ dX10_hear_128 rfl (by cases h; rfl)
  · have h := ziT h (c4)
    obtain ⟨y6, l5, h⟩ := zbd_some h
    exact z_aload dX10_hear_122 rfl (z_iload dX10_hear_123 rfl (z_iload dX10_hear_124 rfl (z_callV dX10_hear_125 (tX10_hearRequest hw l5) (Nat.le_of_ble_eq_true rfl) cdX10_hearRequest naX10_hearRequest lkX10_258 imX10_hearRequest seX10_hearRequest (in_0 hw) sh_0 rfl rfl rfl (Nat.le_of_ble_eq_true rfl) (z_vretQ dX10_hear_128 rfl (by cases h; rfl)))))
def jX10_hear_97 (F : Nat) (a1 a2 a3 : Int32) (X : zX) : Option (zX) := zbd (eX10_hearPacket a2 a1 X) fun y2 => jX10_hear_103 F a1 a2 a3 y2
set_option maxRecDepth 20000 in
set_option maxHeartbeats 4000000 in
theorem sX10_hear_97 {μ : zM} {w : Nat} (hw : w < 3) {F : Nat} {a1 a2 a3 : Int32} {X : zX} {ρ : zX} (h : jX10_hear_97 F a1 a2 a3 X = some ρ) : zJ mX10_hear 6 (0, 0) (0, 0) (zQ none (zg μ (w + 4) ρ)) 97 [some (zq (w + 4) 0), some (zi a1), some (zi a2), some (zi a3)] [] (zg μ (w + 4) X) := by
  unfold jX10_hear_97 at h
  obtain ⟨y2, l1, h⟩ := zbd_some h
  exact z_aload dX10_hear_97 rfl (z_iload dX10_hear_98 rfl (z_iload dX10_hear_99 rfl (z_callV dX10_hear_100 (tX10_hearPacket hw l1) (Nat.le_of_ble_eq_true rfl) cdX10_hearPacket naX10_hearPacket lkX10_251 imX10_hearPacket seX10_hearPacket (in_0 hw) sh_0 rfl rfl rfl (Nat.le_of_ble_eq_true rfl) (z_mask [true, true, true, true] (sX10_hear_103 hw h)))))
def jX10_hear_88 (F : Nat) (a1 a2 a3 : Int32) (X : zX) : Option (zX) := if a3 = 0 then jX10_hear_97 F a1 a2 a3 X else if a3 = (nI 2) then jX10_hear_97 F a1 a2 a3 X else jX10_hear_103 F a1 a2 a3 X
set_option maxRecDepth 20000 in
set_option maxHeartbeats 4000000 in
theorem sX10_hear_88 {μ : zM} {w : Nat} (hw : w < 3) {F : Nat} {a1 a2 a3 : Int32} {X : zX} {ρ : zX} (h : jX10_hear_88 F a1 a2 a3 X = some ρ) : zJ mX10_hear 6 (0, 0) (0, 0) (zQ none (zg μ (w + 4) ρ)) 88 [some (zq (w + 4) 0), some (zi a1), some (zi a2), some (zi a3)] [] (zg μ (w + 4) X) := by
  unfold jX10_hear_88 at h
  refine z_iload dX10_hear_88 rfl (z_if_eq dX10_hear_89 (fun c1 => ?_) (fun c1 => ?_))
  · have h := ziT h (c1)
    exact z_mask [true, true, true, true] (sX10_hear_97 hw h)
  · have h := ziF h (c1)
    refine z_iload dX10_hear_92 rfl (z_const dX10_hear_93 (z_icmp_ne dX10_hear_94 (fun c2 => ?_) (fun c2 => ?_)))
    · have h := ziF h (c2)
      exact z_mask [true, true, true, true] (sX10_hear_103 hw h)
    · have h := ziT h (c2)
      exact z_mask [true, true, true, true] (sX10_hear_97 hw h)
def eX10_hear (F : Nat) (x0 : Int32) (X : zX) : Option (zX) := zchk (zin x0 64) (zchk (zin x0 64) (if (((X 3 1) >>> ((X 46 (zn x0)) &&& 31)) &&& (nI 1)) = (nI 1) then if (X 48 (zn x0)) = (nI 3) then zbd (eX10_hearReport (X 46 (zn x0)) x0 X) fun y6 => jX10_hear_88 F x0 (X 46 (zn x0)) (X 48 (zn x0)) y6 else jX10_hear_88 F x0 (X 46 (zn x0)) (X 48 (zn x0)) X else if (X 48 (zn x0)) = 0 then zchk (zin x0 64) (zbd (eX4_hasPacket (X 46 (zn x0)) (X 49 (zn x0)) X) fun r10 => if r10 = 0 then zchk (zin x0 64) (zbd (eX5_setGap (((X 46 (zn x0)) * (nI 12)) + (X 49 (zn x0))) (nI 4) X) fun y14 => some y14) else some X) else some X))
set_option maxRecDepth 20000 in
set_option maxHeartbeats 4000000 in
theorem tX10_hear {μ : zM} {w : Nat} (hw : w < 3) {F : Nat} {x0 : Int32} {X : zX} {ρ : zX} (h : eX10_hear F x0 X = some ρ) : LM mX10_hear 6 [zq (w + 4) 0, zi x0] (zg μ (w + 4) X) none (zg μ (w + 4) ρ) := by
  unfold eX10_hear at h
  refine LM.of (by decide +kernel) rfl (Nat.le_of_ble_eq_true rfl) ?_
  show zJ mX10_hear 6 (0, 0) (0, 0) _ 0 [some (zq (w + 4) 0), some (zi x0), none, none] [] _
  obtain ⟨s1, h⟩ := zchk_some h
  obtain ⟨s2, h⟩ := zchk_some h
  refine z_aload dX10_hear_0 rfl (z_getR dX10_hear_1 fkX10_56 (in_0 hw) sh_0 rfl (z_getR dX10_hear_4 fkX10_235 (in_7 hw) sh_7 rfl (z_iload dX10_hear_7 rfl (z_iald dX10_hear_8 (in_46 hw) sh_46 (zin_vp s1) (z_istore dX10_hear_9 (Nat.le_of_ble_eq_true rfl) (z_aload dX10_hear_10 rfl (z_getR dX10_hear_11 fkX10_56 (in_0 hw) sh_0 rfl (z_getR dX10_hear_14 fkX10_238 (in_7 hw) sh_7 rfl (z_iload dX10_hear_17 rfl (z_iald dX10_hear_18 (in_48 hw) sh_48 (zin_vp s2) (z_istore dX10_hear_19 (Nat.le_of_ble_eq_true rfl) ?_)))))))))))
  refine z_aload dX10_hear_20 rfl (z_getR dX10_hear_21 fkX10_28 (in_0 hw) sh_0 rfl (z_iload dX10_hear_24 rfl (z_callV dX10_hear_25 (tX4_isUp hw) (Nat.le_of_ble_eq_true rfl) cdX4_isUp naX4_isUp lkX10_130 imX4_isUp seX4_isUp (in_3 hw) sh_3 rfl rfl rfl (Nat.le_of_ble_eq_true rfl) (z_if_ne dX10_hear_28 (fun c3 => ?_) (fun c3 => ?_)))))
  · have h := ziT h (zB_n0.mp c3)
    refine z_iload dX10_hear_77 rfl (z_const dX10_hear_78 (z_icmp_ne dX10_hear_79 (fun c4 => ?_) (fun c4 => ?_)))
    · have h := ziF h (c4)
      exact z_mask [true, true, true, true] (sX10_hear_88 hw h)
    · have h := ziT h (c4)
      obtain ⟨y6, l5, h⟩ := zbd_some h
      exact z_aload dX10_hear_82 rfl (z_iload dX10_hear_83 rfl (z_iload dX10_hear_84 rfl (z_callV dX10_hear_85 (tX10_hearReport hw l5) (Nat.le_of_ble_eq_true rfl) cdX10_hearReport naX10_hearReport lkX10_248 imX10_hearReport seX10_hearReport (in_0 hw) sh_0 rfl rfl rfl (Nat.le_of_ble_eq_true rfl) (z_mask [true, true, true, true] (sX10_hear_88 hw h)))))
  · have h := ziF h (zB_0.mp c3)
    refine z_iload dX10_hear_31 rfl (z_if_ne dX10_hear_32 (fun c7 => ?_) (fun c7 => ?_))
    · have h := ziF h (c7)
      exact z_vretQ dX10_hear_76 rfl (by cases h; rfl)
    · have h := ziT h (c7)
      obtain ⟨s8, h⟩ := zchk_some h
      obtain ⟨r10, l9, h⟩ := zbd_some h
      refine z_aload dX10_hear_35 rfl (z_getR dX10_hear_36 fkX10_28 (in_0 hw) sh_0 rfl (z_iload dX10_hear_39 rfl (z_aload dX10_hear_40 rfl (z_getR dX10_hear_41 fkX10_56 (in_0 hw) sh_0 rfl (z_getR dX10_hear_44 fkX10_241 (in_7 hw) sh_7 rfl (z_iload dX10_hear_47 rfl (z_iald dX10_hear_48 (in_49 hw) sh_49 (zin_vp s8) (z_callV dX10_hear_49 (tX4_hasPacket hw l9) (Nat.le_of_ble_eq_true rfl) cdX4_hasPacket naX4_hasPacket lkX10_244 imX4_hasPacket seX4_hasPacket (in_3 hw) sh_3 rfl rfl rfl (Nat.le_of_ble_eq_true rfl) (z_if_ne dX10_hear_52 (fun c11 => ?_) (fun c11 => ?_))))))))))
      · have h := ziF h (c11)
        exact z_vretQ dX10_hear_76 rfl (by cases h; rfl)
      · have h := ziT h (c11)
        obtain ⟨s12, h⟩ := zchk_some h
        obtain ⟨y14, l13, h⟩ := zbd_some h
        exact z_aload dX10_hear_55 rfl (z_getR dX10_hear_56 fkX10_35 (in_0 hw) sh_0 rfl (z_iload dX10_hear_59 rfl (z_aload dX10_hear_60 rfl (z_getR dX10_hear_61 fkX10_56 (in_0 hw) sh_0 rfl (z_getR dX10_hear_64 fkX10_241 (in_7 hw) sh_7 rfl (z_iload dX10_hear_67 rfl (z_iald dX10_hear_68 (in_49 hw) sh_49 (zin_vp s12) (z_callSN dX10_hear_69 (tX11_cell) (Nat.le_of_ble_eq_true rfl) cdX11_cell naX11_cell lkX10_156 stX11_cell rfl rfl (Nat.le_of_ble_eq_true rfl) (z_const dX10_hear_72 (z_callV dX10_hear_73 (tX5_setGap hw l13) (Nat.le_of_ble_eq_true rfl) cdX5_setGap naX5_setGap lkX10_179 imX5_setGap seX5_setGap (in_4 hw) sh_4 rfl rfl rfl (Nat.le_of_ble_eq_true rfl) (z_vretQ dX10_hear_76 rfl (by cases h; rfl))))))))))))
-- X10_step
def jX10_step_122 (F : Nat) (X : zX) : Option (zX) := some (zw X 0 12 ((X 0 12) + (nI 1)))
set_option maxRecDepth 20000 in
set_option maxHeartbeats 4000000 in
theorem sX10_step_122 {μ : zM} {w : Nat} (hw : w < 3) {F : Nat} {X : zX} {ρ : zX} (h : jX10_step_122 F  X = some ρ) : zJ mX10_step 7 (0, 0) (0, 0) (zQ none (zg μ (w + 4) ρ)) 122 [some (zq (w + 4) 0), none] [] (zg μ (w + 4) X) := by
  unfold jX10_step_122 at h
  exact z_aload dX10_step_122 rfl (z_dup dX10_step_123 rfl (z_getI dX10_step_124 fkX10_80 (in_0 hw) sh_0 rfl (z_const dX10_step_127 (z_iadd dX10_step_128 (z_putI dX10_step_129 fkX10_80 (in_0 hw) sh_0 rfl (fun _ _ _ h => by cases h; rfl) ⟨_, rfl, rfl, rfl⟩ (z_vretQ dX10_step_132 rfl (by cases h; rfl)))))))
def hX10_step_53 (F : Nat) : Nat → Int32 → zX → Option (zX)
  | 0, _, _ => none
  | n + 1, a1, X => if (X 3 0) ≤ a1 then if (X 1 3) ≤ 0 then jX10_step_122 F X else zchk (znz (X 1 3)) (if (zrem (X 0 12) (X 1 3)) = 0 then zbd (eX10_canSend X) fun r6 => if r6 = 0 then jX10_step_122 F X else zbd (eX10_sendNext F X) fun y9 => jX10_step_122 F y9 else jX10_step_122 F X) else if (((X 3 1) >>> (a1 &&& 31)) &&& (nI 1)) = (nI 1) then zbd (eX10_act F a1 X) fun y12 => (hX10_step_53 F n) (a1 + (nI 1)) y12 else (hX10_step_53 F n) (a1 + (nI 1)) X
set_option maxRecDepth 20000 in
set_option maxHeartbeats 4000000 in
theorem sX10_step_53 {μ : zM} {w : Nat} (hw : w < 3) {F : Nat} : ∀ {n : Nat} {a1 : Int32} {X : zX} {ρ : zX}, hX10_step_53 F n a1 X = some ρ → zJ mX10_step 7 (0, 0) (0, 0) (zQ none (zg μ (w + 4) ρ)) 53 [some (zq (w + 4) 0), some (zi a1)] [] (zg μ (w + 4) X) := by
  intro n
  induction n with
  | zero => intro a1 X ρ h; exact nomatch (show (none : Option _) = some ρ from h)
  | succ n ih =>
    intro a1 X ρ h
    have hK53 := @ih
    rw [hX10_step_53] at h
    refine z_iload dX10_step_53 rfl (z_aload dX10_step_54 rfl (z_getR dX10_step_55 fkX10_28 (in_0 hw) sh_0 rfl (z_getI dX10_step_58 fkX10_111 (in_3 hw) sh_3 rfl (z_icmp_ge dX10_step_61 (fun c1 => ?_) (fun c1 => ?_)))))
    · have h := ziT h (c1)
      refine z_aload dX10_step_86 rfl (z_getR dX10_step_87 fkX10_12 (in_0 hw) sh_0 rfl (z_getI dX10_step_90 fkX10_137 (in_1 hw) sh_1 rfl (z_if_le dX10_step_93 (fun c2 => ?_) (fun c2 => ?_))))
      · have h := ziT h (c2)
        exact z_mask [true, false] (sX10_step_122 hw h)
      · have h := ziF h (c2)
        obtain ⟨s3, h⟩ := zchk_some h
        refine z_aload dX10_step_96 rfl (z_getI dX10_step_97 fkX10_80 (in_0 hw) sh_0 rfl (z_aload dX10_step_100 rfl (z_getR dX10_step_101 fkX10_12 (in_0 hw) sh_0 rfl (z_getI dX10_step_104 fkX10_137 (in_1 hw) sh_1 rfl (z_irem dX10_step_107 (znz_ne s3) (z_if_ne dX10_step_108 (fun c4 => ?_) (fun c4 => ?_)))))))
        · have h := ziF h (c4)
          exact z_mask [true, false] (sX10_step_122 hw h)
        · have h := ziT h (c4)
          obtain ⟨r6, l5, h⟩ := zbd_some h
          refine z_aload dX10_step_111 rfl (z_callV dX10_step_112 (tX10_canSend hw l5) (Nat.le_of_ble_eq_true rfl) cdX10_canSend naX10_canSend lkX10_140 imX10_canSend seX10_canSend (in_0 hw) sh_0 rfl rfl rfl (Nat.le_of_ble_eq_true rfl) (z_if_eq dX10_step_115 (fun c7 => ?_) (fun c7 => ?_)))
          · have h := ziT h (c7)
            exact z_mask [true, false] (sX10_step_122 hw h)
          · have h := ziF h (c7)
            obtain ⟨y9, l8, h⟩ := zbd_some h
            exact z_aload dX10_step_118 rfl (z_callV dX10_step_119 (tX10_sendNext hw l8) (Nat.le_of_ble_eq_true rfl) cdX10_sendNext naX10_sendNext lkX10_144 imX10_sendNext seX10_sendNext (in_0 hw) sh_0 rfl rfl rfl (Nat.le_of_ble_eq_true rfl) (z_mask [true, false] (sX10_step_122 hw h)))
    · have h := ziF h (c1)
      refine z_aload dX10_step_64 rfl (z_getR dX10_step_65 fkX10_28 (in_0 hw) sh_0 rfl (z_iload dX10_step_68 rfl (z_callV dX10_step_69 (tX4_isUp hw) (Nat.le_of_ble_eq_true rfl) cdX4_isUp naX4_isUp lkX10_130 imX4_isUp seX4_isUp (in_3 hw) sh_3 rfl rfl rfl (Nat.le_of_ble_eq_true rfl) (z_if_eq dX10_step_72 (fun c10 => ?_) (fun c10 => ?_)))))
      · have h := ziF h (zB_0.mp c10)
        exact z_iinc dX10_step_80 (Nat.le_of_ble_eq_true rfl) rfl (z_goto dX10_step_83 (z_mask [true, true] (hK53 h)))
      · have h := ziT h (zB_n0.mp c10)
        obtain ⟨y12, l11, h⟩ := zbd_some h
        exact z_aload dX10_step_75 rfl (z_iload dX10_step_76 rfl (z_callV dX10_step_77 (tX10_act hw l11) (Nat.le_of_ble_eq_true rfl) cdX10_act naX10_act lkX10_134 imX10_act seX10_act (in_0 hw) sh_0 rfl rfl rfl (Nat.le_of_ble_eq_true rfl) (z_iinc dX10_step_80 (Nat.le_of_ble_eq_true rfl) rfl (z_goto dX10_step_83 (z_mask [true, true] (hK53 h))))))
def hX10_step_2 (F : Nat) : Nat → Int32 → zX → Option (zX)
  | 0, _, _ => none
  | n + 1, a1, X => if (X 7 0) ≤ a1 then zbd (eX0_dropDue F (X 0 12) X) fun y3 => hX10_step_53 F F (nI 0) y3 else zchk (zin a1 64) (if (X 0 12) < (X 45 (zn a1)) then (hX10_step_2 F n) (a1 + (nI 1)) X else zbd (eX10_hear F a1 X) fun y7 => (hX10_step_2 F n) (a1 + (nI 1)) y7)
set_option maxRecDepth 20000 in
set_option maxHeartbeats 4000000 in
theorem sX10_step_2 {μ : zM} {w : Nat} (hw : w < 3) {F : Nat} : ∀ {n : Nat} {a1 : Int32} {X : zX} {ρ : zX}, hX10_step_2 F n a1 X = some ρ → zJ mX10_step 7 (0, 0) (0, 0) (zQ none (zg μ (w + 4) ρ)) 2 [some (zq (w + 4) 0), some (zi a1)] [] (zg μ (w + 4) X) := by
  intro n
  induction n with
  | zero => intro a1 X ρ h; exact nomatch (show (none : Option _) = some ρ from h)
  | succ n ih =>
    intro a1 X ρ h
    have hK2 := @ih
    rw [hX10_step_2] at h
    refine z_iload dX10_step_2 rfl (z_aload dX10_step_3 rfl (z_getR dX10_step_4 fkX10_56 (in_0 hw) sh_0 rfl (z_getI dX10_step_7 fkX10_118 (in_7 hw) sh_7 rfl (z_icmp_ge dX10_step_10 (fun c1 => ?_) (fun c1 => ?_)))))
    · have h := ziT h (c1)
      obtain ⟨y3, l2, h⟩ := zbd_some h
      exact z_aload dX10_step_40 rfl (z_getR dX10_step_41 fkX10_56 (in_0 hw) sh_0 rfl (z_aload dX10_step_44 rfl (z_getI dX10_step_45 fkX10_80 (in_0 hw) sh_0 rfl (z_callV dX10_step_48 (tX0_dropDue hw l2) (Nat.le_of_ble_eq_true rfl) cdX0_dropDue naX0_dropDue lkX10_127 imX0_dropDue seX0_dropDue (in_7 hw) sh_7 rfl rfl rfl (Nat.le_of_ble_eq_true rfl) (z_const dX10_step_51 (z_istore dX10_step_52 (Nat.le_of_ble_eq_true rfl) (z_mask [true, true] (sX10_step_53 hw h))))))))
    · have h := ziF h (c1)
      obtain ⟨s4, h⟩ := zchk_some h
      refine z_aload dX10_step_13 rfl (z_getR dX10_step_14 fkX10_56 (in_0 hw) sh_0 rfl (z_getR dX10_step_17 fkX10_119 (in_7 hw) sh_7 rfl (z_iload dX10_step_20 rfl (z_iald dX10_step_21 (in_45 hw) sh_45 (zin_vp s4) (z_aload dX10_step_22 rfl (z_getI dX10_step_23 fkX10_80 (in_0 hw) sh_0 rfl (z_icmp_gt dX10_step_26 (fun c5 => ?_) (fun c5 => ?_))))))))
      · have h := ziT h (c5)
        exact z_iinc dX10_step_34 (Nat.le_of_ble_eq_true rfl) rfl (z_goto dX10_step_37 (z_mask [true, true] (hK2 h)))
      · have h := ziF h (c5)
        obtain ⟨y7, l6, h⟩ := zbd_some h
        exact z_aload dX10_step_29 rfl (z_iload dX10_step_30 rfl (z_callV dX10_step_31 (tX10_hear hw l6) (Nat.le_of_ble_eq_true rfl) cdX10_hear naX10_hear lkX10_123 imX10_hear seX10_hear (in_0 hw) sh_0 rfl rfl rfl (Nat.le_of_ble_eq_true rfl) (z_iinc dX10_step_34 (Nat.le_of_ble_eq_true rfl) rfl (z_goto dX10_step_37 (z_mask [true, true] (hK2 h))))))
def eX10_step (F : Nat) (X : zX) : Option (zX) := hX10_step_2 F F (nI 0) X
set_option maxRecDepth 20000 in
set_option maxHeartbeats 4000000 in
theorem tX10_step {μ : zM} {w : Nat} (hw : w < 3) {F : Nat} {X : zX} {ρ : zX} (h : eX10_step F X = some ρ) : LM mX10_step 7 [zq (w + 4) 0] (zg μ (w + 4) X) none (zg μ (w + 4) ρ) := by
  unfold eX10_step at h
  refine LM.of (by decide +kernel) rfl (Nat.le_of_ble_eq_true rfl) ?_
  show zJ mX10_step 7 (0, 0) (0, 0) _ 0 [some (zq (w + 4) 0), none] [] _
  exact z_const dX10_step_0 (z_istore dX10_step_1 (Nat.le_of_ble_eq_true rfl) (z_mask [true, true] (sX10_step_2 hw h)))
