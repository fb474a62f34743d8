-- X0_isFull
set_option maxRecDepth 20000 in
set_option maxHeartbeats 4000000 in
theorem tX0_isFull {μ : zM} {w : Nat} (hw : w < 3) {X : zX} : LM mX0_isFull 1 [zq (w + 4) 7] (zg μ (w + 4) X) (some (zi (zB (¬ ((X 7 0) < (nI 64)))))) (zg μ (w + 4) X) := by
  have h : ((X 7 0) < (nI 64) → (nI 0) = (zB (¬ ((X 7 0) < (nI 64)))) ∧ X = X) ∧ (¬ ((X 7 0) < (nI 64)) → (nI 1) = (zB (¬ ((X 7 0) < (nI 64)))) ∧ X = X) := ⟨fun c1 => ⟨(zB_f (fun z => z c1)).symm, rfl⟩, fun c1 => ⟨(zB_t c1).symm, rfl⟩⟩
  refine LM.of (by decide +kernel) rfl (Nat.le_of_ble_eq_true rfl) ?_
  show zJ mX0_isFull 1 (0, 0) (0, 0) _ 0 [some (zq (w + 4) 7)] [] _
  refine z_aload dX0_isFull_0 rfl (z_getI dX0_isFull_1 fkX0_9 (in_7 hw) sh_7 rfl (z_const dX0_isFull_4 (z_icmp_lt dX0_isFull_6 (fun c1 => ?_) (fun c1 => ?_))))
  · have h := h.1 (c1)
    exact z_const dX0_isFull_13 (z_zret1 dX0_isFull_14 rfl rfl h.1 h.2)
  · have h := h.2 (c1)
    exact z_const dX0_isFull_9 (z_goto dX0_isFull_10 (z_zret1 dX0_isFull_14 rfl rfl h.1 h.2))
-- X0_move
def eX0_move (x0 x1 : Int32) (X : zX) : Option (zX) := zchk (zin x0 64) (zchk (zin x1 64) (zchk (zin x0 64) (zchk (zin x1 64) (zlet (zw (zw X 45 (zn x1) (X 45 (zn x0))) 46 (zn x1) (X 46 (zn x0))) fun X5 => zchk (zin x0 64) (zchk (zin x1 64) (zchk (zin x0 64) (zchk (zin x1 64) (zlet (zw (zw X5 47 (zn x1) (X 47 (zn x0))) 48 (zn x1) (X 48 (zn x0))) fun X10 => zchk (zin x0 64) (zchk (zin x1 64) (zchk (zin x0 64) (zchk (zin x1 64) (zlet (zw (zw X10 49 (zn x1) (X 49 (zn x0))) 50 (zn x1) (X 50 (zn x0))) fun X15 => zchk (zin x0 64) (zchk (zin x1 64) (zchk (zin x0 64) (zchk (zin x1 64) (zlet (zw (zw X15 51 (zn x1) (X 51 (zn x0))) 52 (zn x1) (X 52 (zn x0))) fun X20 => zchk (zin x0 64) (zchk (zin x1 64) (zchk (zin x0 64) (zchk (zin x1 64) (zlet (zw (zw X20 53 (zn x1) (X 53 (zn x0))) 54 (zn x1) (X 54 (zn x0))) fun X25 => some X25))))))))))))))))))))
set_option maxRecDepth 20000 in
set_option maxHeartbeats 4000000 in
theorem tX0_move {μ : zM} {w : Nat} (hw : w < 3) {x0 x1 : Int32} {X : zX} {ρ : zX} (h : eX0_move x0 x1 X = some ρ) : LM mX0_move 1 [zq (w + 4) 7, zi x0, zi x1] (zg μ (w + 4) X) none (zg μ (w + 4) ρ) := by
  unfold eX0_move at h
  refine LM.of (by decide +kernel) rfl (Nat.le_of_ble_eq_true rfl) ?_
  show zJ mX0_move 1 (0, 0) (0, 0) _ 0 [some (zq (w + 4) 7), some (zi x0), some (zi x1)] [] _
  obtain ⟨s1, h⟩ := zchk_some h
  obtain ⟨s2, h⟩ := zchk_some h
  refine z_aload dX0_move_0 rfl (z_getR dX0_move_1 fkX0_15 (in_7 hw) sh_7 rfl (z_iload dX0_move_4 rfl (z_aload dX0_move_5 rfl (z_getR dX0_move_6 fkX0_15 (in_7 hw) sh_7 rfl (z_iload dX0_move_9 rfl (z_iald dX0_move_10 (in_45 hw) sh_45 (zin_vp s1) (z_iast dX0_move_11 (in_45 hw) sh_45 (zin_vp s2) (z_aload dX0_move_12 rfl (z_getR dX0_move_13 fkX0_19 (in_7 hw) sh_7 rfl (z_iload dX0_move_16 rfl (z_aload dX0_move_17 rfl ?_)))))))))))
  obtain ⟨s3, h⟩ := zchk_some h
  obtain ⟨s4, h⟩ := zchk_some h
  have h := zlet_h h
  obtain ⟨s6, h⟩ := zchk_some h
  obtain ⟨s7, h⟩ := zchk_some h
  refine z_getR dX0_move_18 fkX0_19 (in_7 hw) sh_7 rfl (z_iload dX0_move_21 rfl (z_iald dX0_move_22 (in_46 hw) sh_46 (zin_vp s3) (z_iast dX0_move_23 (in_46 hw) sh_46 (zin_vp s4) (z_aload dX0_move_24 rfl (z_getR dX0_move_25 fkX0_22 (in_7 hw) sh_7 rfl (z_iload dX0_move_28 rfl (z_aload dX0_move_29 rfl (z_getR dX0_move_30 fkX0_22 (in_7 hw) sh_7 rfl (z_iload dX0_move_33 rfl (z_iald dX0_move_34 (in_47 hw) sh_47 (zin_vp s6) (z_iast dX0_move_35 (in_47 hw) sh_47 (zin_vp s7) ?_)))))))))))
  obtain ⟨s8, h⟩ := zchk_some h
  obtain ⟨s9, h⟩ := zchk_some h
  have h := zlet_h h
  refine z_aload dX0_move_36 rfl (z_getR dX0_move_37 fkX0_25 (in_7 hw) sh_7 rfl (z_iload dX0_move_40 rfl (z_aload dX0_move_41 rfl (z_getR dX0_move_42 fkX0_25 (in_7 hw) sh_7 rfl (z_iload dX0_move_45 rfl (z_iald dX0_move_46 (in_48 hw) sh_48 (zin_vp s8) (z_iast dX0_move_47 (in_48 hw) sh_48 (zin_vp s9) (z_aload dX0_move_48 rfl (z_getR dX0_move_49 fkX0_28 (in_7 hw) sh_7 rfl (z_iload dX0_move_52 rfl (z_aload dX0_move_53 rfl ?_)))))))))))
  obtain ⟨s11, h⟩ := zchk_some h
  obtain ⟨s12, h⟩ := zchk_some h
  obtain ⟨s13, h⟩ := zchk_some h
  obtain ⟨s14, h⟩ := zchk_some h
  have h := zlet_h h
  refine z_getR dX0_move_54 fkX0_28 (in_7 hw) sh_7 rfl (z_iload dX0_move_57 rfl (z_iald dX0_move_58 (in_49 hw) sh_49 (zin_vp s11) (z_iast dX0_move_59 (in_49 hw) sh_49 (zin_vp s12) (z_aload dX0_move_60 rfl (z_getR dX0_move_61 fkX0_31 (in_7 hw) sh_7 rfl (z_iload dX0_move_64 rfl (z_aload dX0_move_65 rfl (z_getR dX0_move_66 fkX0_31 (in_7 hw) sh_7 rfl (z_iload dX0_move_69 rfl (z_iald dX0_move_70 (in_50 hw) sh_50 (zin_vp s13) (z_iast dX0_move_71 (in_50 hw) sh_50 (zin_vp s14) ?_)))))))))))
  obtain ⟨s16, h⟩ := zchk_some h
  obtain ⟨s17, h⟩ := zchk_some h
  refine z_aload dX0_move_72 rfl (z_getR dX0_move_73 fkX0_34 (in_7 hw) sh_7 rfl (z_iload dX0_move_76 rfl (z_aload dX0_move_77 rfl (z_getR dX0_move_78 fkX0_34 (in_7 hw) sh_7 rfl (z_iload dX0_move_81 rfl (z_iald dX0_move_82 (in_51 hw) sh_51 (zin_vp s16) (z_iast dX0_move_83 (in_51 hw) sh_51 (zin_vp s17) (z_aload dX0_move_84 rfl (z_getR dX0_move_85 fkX0_37 (in_7 hw) sh_7 rfl (z_iload dX0_move_88 rfl (z_aload dX0_move_89 rfl ?_)))))))))))
  obtain ⟨s18, h⟩ := zchk_some h
  obtain ⟨s19, h⟩ := zchk_some h
  have h := zlet_h h
  obtain ⟨s21, h⟩ := zchk_some h
  obtain ⟨s22, h⟩ := zchk_some h
  refine z_getR dX0_move_90 fkX0_37 (in_7 hw) sh_7 rfl (z_iload dX0_move_93 rfl (z_iald dX0_move_94 (in_52 hw) sh_52 (zin_vp s18) (z_iast dX0_move_95 (in_52 hw) sh_52 (zin_vp s19) (z_aload dX0_move_96 rfl (z_getR dX0_move_97 fkX0_40 (in_7 hw) sh_7 rfl (z_iload dX0_move_100 rfl (z_aload dX0_move_101 rfl (z_getR dX0_move_102 fkX0_40 (in_7 hw) sh_7 rfl (z_iload dX0_move_105 rfl (z_iald dX0_move_106 (in_53 hw) sh_53 (zin_vp s21) (z_iast dX0_move_107 (in_53 hw) sh_53 (zin_vp s22) ?_)))))))))))
  obtain ⟨s23, h⟩ := zchk_some h
  obtain ⟨s24, h⟩ := zchk_some h
  have h := zlet_h h
  exact z_aload dX0_move_108 rfl (z_getR dX0_move_109 fkX0_43 (in_7 hw) sh_7 rfl (z_iload dX0_move_112 rfl (z_aload dX0_move_113 rfl (z_getR dX0_move_114 fkX0_43 (in_7 hw) sh_7 rfl (z_iload dX0_move_117 rfl (z_iald dX0_move_118 (in_54 hw) sh_54 (zin_vp s23) (z_iast dX0_move_119 (in_54 hw) sh_54 (zin_vp s24) (z_vretQ dX0_move_120 rfl (by cases h; rfl)))))))))
-- X1_upTo
def eX1_upTo (x0 : Int32) (X : zX) : Option (Int32 × zX) := if (X 2 1) = 0 then zlet ((zush ((zw X 2 0 ((1103515245 * (X 2 0)) + (nI 12345))) 2 0) (nI 16)) &&& (nI 32767)) fun v2 => if x0 ≤ 0 then some ((nI 0), zw X 2 0 ((1103515245 * (X 2 0)) + (nI 12345))) else zchk (znz (x0 + (nI 1))) (some ((zrem v2 (x0 + (nI 1))), zw X 2 0 ((1103515245 * (X 2 0)) + (nI 12345)))) else if (X 2 1) = (nI 2) then some (x0, X) else some ((nI 0), X)
set_option maxRecDepth 20000 in
set_option maxHeartbeats 4000000 in
theorem tX1_upTo {μ : zM} {w : Nat} (hw : w < 3) {x0 : Int32} {X : zX} {ρ : Int32 × zX} (h : eX1_upTo x0 X = some ρ) : LM mX1_upTo 1 [zq (w + 4) 2, zi x0] (zg μ (w + 4) X) (some (zi ρ.1)) (zg μ (w + 4) ρ.2) := by
  unfold eX1_upTo at h
  refine LM.of (by decide +kernel) rfl (Nat.le_of_ble_eq_true rfl) ?_
  show zJ mX1_upTo 1 (0, 0) (0, 0) _ 0 [some (zq (w + 4) 2), some (zi x0), none] [] _
  refine z_aload dX1_upTo_0 rfl (z_getI dX1_upTo_1 fkX1_15 (in_2 hw) sh_2 rfl (z_if_eq dX1_upTo_4 (fun c1 => ?_) (fun c1 => ?_)))
  · have h := ziT h (c1)
    refine z_aload dX1_upTo_21 rfl (z_ldc dX1_upTo_22 ckX1_18 (z_aload dX1_upTo_24 rfl (z_getI dX1_upTo_25 fkX1_9 (in_2 hw) sh_2 rfl (z_imul dX1_upTo_28 (z_const dX1_upTo_29 (z_iadd dX1_upTo_32 (z_putI dX1_upTo_33 fkX1_9 (in_2 hw) sh_2 rfl (fun _ _ _ h => by cases h; rfl) ⟨_, rfl, rfl, rfl⟩ (z_aload dX1_upTo_36 rfl (z_getI dX1_upTo_37 fkX1_9 (in_2 hw) sh_2 rfl (z_const dX1_upTo_40 (z_iushr dX1_upTo_42 ?_)))))))))))
    have h := zlet_h h
    refine z_const dX1_upTo_43 (z_iand dX1_upTo_46 (z_istore dX1_upTo_47 (Nat.le_of_ble_eq_true rfl) (z_iload dX1_upTo_48 rfl (z_if_le dX1_upTo_49 (fun c3 => ?_) (fun c3 => ?_)))))
    · have h := ziT h (c3)
      exact z_const dX1_upTo_60 (z_iretQ dX1_upTo_61 rfl (by cases h; rfl))
    · have h := ziF h (c3)
      obtain ⟨s4, h⟩ := zchk_some h
      exact z_iload dX1_upTo_52 rfl (z_iload dX1_upTo_53 rfl (z_const dX1_upTo_54 (z_iadd dX1_upTo_55 (z_irem dX1_upTo_56 (znz_ne s4) (z_goto dX1_upTo_57 (z_iretQ dX1_upTo_61 rfl (by cases h; rfl)))))))
  · have h := ziF h (c1)
    refine z_aload dX1_upTo_7 rfl (z_getI dX1_upTo_8 fkX1_15 (in_2 hw) sh_2 rfl (z_const dX1_upTo_11 (z_icmp_ne dX1_upTo_12 (fun c5 => ?_) (fun c5 => ?_))))
    · have h := ziF h (c5)
      exact z_const dX1_upTo_19 (z_iretQ dX1_upTo_20 rfl (by cases h; rfl))
    · have h := ziT h (c5)
      exact z_iload dX1_upTo_15 rfl (z_goto dX1_upTo_16 (z_iretQ dX1_upTo_20 rfl (by cases h; rfl)))
-- X2_add
def eX2_add (x0 x1 x2 x3 : Int32) (X : zX) : Option (zX) := if (X 5 0) < (nI 10) then zchk (zin (X 5 0) 10) (zchk (zin (X 5 0) 10) (zchk (zin (X 5 0) 10) (zlet (zw (zw (zw X 34 (zn (X 5 0)) x0) 35 (zn (X 5 0)) x1) 36 (zn (X 5 0)) x2) fun X5 => zchk (zin (X 5 0) 10) (zlet (zw (zw X5 37 (zn (X 5 0)) x3) 5 0 ((X 5 0) + (nI 1))) fun X7 => some X7)))) else some X
set_option maxRecDepth 20000 in
set_option maxHeartbeats 4000000 in
theorem tX2_add {μ : zM} {w : Nat} (hw : w < 3) {x0 x1 x2 x3 : Int32} {X : zX} {ρ : zX} (h : eX2_add x0 x1 x2 x3 X = some ρ) : LM mX2_add 1 [zq (w + 4) 5, zi x0, zi x1, zi x2, zi x3] (zg μ (w + 4) X) none (zg μ (w + 4) ρ) := by
  unfold eX2_add at h
  refine LM.of (by decide +kernel) rfl (Nat.le_of_ble_eq_true rfl) ?_
  show zJ mX2_add 1 (0, 0) (0, 0) _ 0 [some (zq (w + 4) 5), some (zi x0), some (zi x1), some (zi x2), some (zi x3)] [] _
  refine z_aload dX2_add_0 rfl (z_getI dX2_add_1 fkX2_9 (in_5 hw) sh_5 rfl (z_const dX2_add_4 (z_icmp_lt dX2_add_6 (fun c1 => ?_) (fun c1 => ?_))))
  · have h := ziT h (c1)
    obtain ⟨s2, h⟩ := zchk_some h
    obtain ⟨s3, h⟩ := zchk_some h
    refine z_aload dX2_add_10 rfl (z_getR dX2_add_11 fkX2_18 (in_5 hw) sh_5 rfl (z_aload dX2_add_14 rfl (z_getI dX2_add_15 fkX2_9 (in_5 hw) sh_5 rfl (z_iload dX2_add_18 rfl (z_iast dX2_add_19 (in_34 hw) sh_34 (zin_vp s2) (z_aload dX2_add_20 rfl (z_getR dX2_add_21 fkX2_22 (in_5 hw) sh_5 rfl (z_aload dX2_add_24 rfl (z_getI dX2_add_25 fkX2_9 (in_5 hw) sh_5 rfl (z_iload dX2_add_28 rfl (z_iast dX2_add_29 (in_35 hw) sh_35 (zin_vp s3) ?_)))))))))))
    obtain ⟨s4, h⟩ := zchk_some h
    have h := zlet_h h
    obtain ⟨s6, h⟩ := zchk_some h
    refine z_aload dX2_add_30 rfl (z_getR dX2_add_31 fkX2_25 (in_5 hw) sh_5 rfl (z_aload dX2_add_34 rfl (z_getI dX2_add_35 fkX2_9 (in_5 hw) sh_5 rfl (z_iload dX2_add_38 rfl (z_iast dX2_add_39 (in_36 hw) sh_36 (zin_vp s4) (z_aload dX2_add_40 rfl (z_getR dX2_add_41 fkX2_28 (in_5 hw) sh_5 rfl (z_aload dX2_add_44 rfl (z_getI dX2_add_45 fkX2_9 (in_5 hw) sh_5 rfl (z_iload dX2_add_48 rfl (z_iast dX2_add_50 (in_37 hw) sh_37 (zin_vp s6) ?_)))))))))))
    have h := zlet_h h
    exact z_aload dX2_add_51 rfl (z_dup dX2_add_52 rfl (z_getI dX2_add_53 fkX2_9 (in_5 hw) sh_5 rfl (z_const dX2_add_56 (z_iadd dX2_add_57 (z_putI dX2_add_58 fkX2_9 (in_5 hw) sh_5 rfl (fun _ _ _ h => by cases h; rfl) ⟨_, rfl, rfl, rfl⟩ (z_vretQ dX2_add_61 rfl (by cases h; rfl)))))))
  · have h := ziF h (c1)
    exact z_vretQ dX2_add_9 rfl (by cases h; rfl)
-- X2_addLoad
def eX2_addLoad (x0 : Int32) (X : zX) : Option (zX) := zchk (zin x0 10) (zchk (zin x0 10) (zlet (zw X 38 (zn x0) (zmn ((X 38 (zn x0)) + (nI 1)) (nI 9999))) fun X3 => some X3))
set_option maxRecDepth 20000 in
set_option maxHeartbeats 4000000 in
theorem tX2_addLoad {μ : zM} {w : Nat} (hw : w < 3) {x0 : Int32} {X : zX} {ρ : zX} (h : eX2_addLoad x0 X = some ρ) : LM mX2_addLoad 1 [zq (w + 4) 5, zi x0] (zg μ (w + 4) X) none (zg μ (w + 4) ρ) := by
  unfold eX2_addLoad at h
  refine LM.of (by decide +kernel) rfl (Nat.le_of_ble_eq_true rfl) ?_
  show zJ mX2_addLoad 1 (0, 0) (0, 0) _ 0 [some (zq (w + 4) 5), some (zi x0)] [] _
  obtain ⟨s1, h⟩ := zchk_some h
  obtain ⟨s2, h⟩ := zchk_some h
  have h := zlet_h h
  refine z_aload dX2_addLoad_0 rfl (z_getR dX2_addLoad_1 fkX2_31 (in_5 hw) sh_5 rfl (z_iload dX2_addLoad_4 rfl (z_aload dX2_addLoad_5 rfl (z_getR dX2_addLoad_6 fkX2_31 (in_5 hw) sh_5 rfl (z_iload dX2_addLoad_9 rfl (z_iald dX2_addLoad_10 (in_38 hw) sh_38 (zin_vp s1) (z_const dX2_addLoad_11 (z_iadd dX2_addLoad_12 (z_const dX2_addLoad_13 (z_min dX2_addLoad_16 lkX2_42 (Nat.le_of_ble_eq_true rfl) (Nat.le_of_ble_eq_true rfl) (z_iast dX2_addLoad_19 (in_38 hw) sh_38 (zin_vp s2) ?_)))))))))))
  exact z_vretQ dX2_addLoad_20 rfl (by cases h; rfl)
-- X2_between
def jX2_between_62 (F : Nat) (K2 : Int32 → Int32 → Int32 → zX → Option (Int32)) (a1 a2 a3 a4 b0 : Int32) (X : zX) : Option (Int32) := if a4 = 0 then if b0 = 0 then K2 a1 a2 (a3 + (nI 1)) X else some a3 else some a3
set_option maxRecDepth 20000 in
set_option maxHeartbeats 4000000 in
theorem sX2_between_62 {μ : zM} {w : Nat} (hw : w < 3) {F : Nat} {K2 : Int32 → Int32 → Int32 → zX → Option (Int32)} (hK2 : ∀ {xa1 xa2 xa3 : Int32} {xX : zX} {ρ : Int32}, K2 xa1 xa2 xa3 xX = some ρ → zJ mX2_between 1 (0, 0) (0, 0) (zQ (some (zi ρ)) (zg μ (w + 4) xX)) 2 [some (zq (w + 4) 5), some (zi xa1), some (zi xa2), some (zi xa3), none, none] [] (zg μ (w + 4) xX)) {a1 a2 a3 a4 b0 : Int32} {X : zX} {ρ : Int32} (h : jX2_between_62 F K2 a1 a2 a3 a4 b0 X = some ρ) : zJ mX2_between 1 (0, 0) (0, 0) (zQ (some (zi ρ)) (zg μ (w + 4) X)) 62 [some (zq (w + 4) 5), some (zi a1), some (zi a2), some (zi a3), some (zi a4), none] [zi b0] (zg μ (w + 4) X) := by
  unfold jX2_between_62 at h
  refine z_istore dX2_between_62 (Nat.le_of_ble_eq_true rfl) (z_iload dX2_between_64 rfl (z_if_ne dX2_between_66 (fun c1 => ?_) (fun c1 => ?_)))
  · have h := ziF h (c1)
    exact z_iload dX2_between_74 rfl (z_iretQ dX2_between_75 rfl (by cases h; rfl))
  · have h := ziT h (c1)
    refine z_iload dX2_between_69 rfl (z_if_eq dX2_between_71 (fun c2 => ?_) (fun c2 => ?_))
    · have h := ziT h (c2)
      exact z_iinc dX2_between_76 (Nat.le_of_ble_eq_true rfl) rfl (z_goto dX2_between_79 (z_mask [true, true, true, true, false, false] (hK2 h)))
    · have h := ziF h (c2)
      exact z_iload dX2_between_74 rfl (z_iretQ dX2_between_75 rfl (by cases h; rfl))
def jX2_between_61 (F : Nat) (K2 : Int32 → Int32 → Int32 → zX → Option (Int32)) (a1 a2 a3 a4 : Int32) (X : zX) : Option (Int32) := jX2_between_62 F K2 a1 a2 a3 a4 (nI 0) X
set_option maxRecDepth 20000 in
set_option maxHeartbeats 4000000 in
theorem sX2_between_61 {μ : zM} {w : Nat} (hw : w < 3) {F : Nat} {K2 : Int32 → Int32 → Int32 → zX → Option (Int32)} (hK2 : ∀ {xa1 xa2 xa3 : Int32} {xX : zX} {ρ : Int32}, K2 xa1 xa2 xa3 xX = some ρ → zJ mX2_between 1 (0, 0) (0, 0) (zQ (some (zi ρ)) (zg μ (w + 4) xX)) 2 [some (zq (w + 4) 5), some (zi xa1), some (zi xa2), some (zi xa3), none, none] [] (zg μ (w + 4) xX)) {a1 a2 a3 a4 : Int32} {X : zX} {ρ : Int32} (h : jX2_between_61 F K2 a1 a2 a3 a4 X = some ρ) : zJ mX2_between 1 (0, 0) (0, 0) (zQ (some (zi ρ)) (zg μ (w + 4) X)) 61 [some (zq (w + 4) 5), some (zi a1), some (zi a2), some (zi a3), some (zi a4), none] [] (zg μ (w + 4) X) := by
  unfold jX2_between_61 at h
  exact z_const dX2_between_61 (z_mask [true, true, true, true, true, false] (sX2_between_62 hw hK2 h))
def jX2_between_35 (F : Nat) (K2 : Int32 → Int32 → Int32 → zX → Option (Int32)) (a1 a2 a3 b0 : Int32) (X : zX) : Option (Int32) := zchk (zin a3 10) (if (X 34 (zn a3)) = a2 then zchk (zin a3 10) (if (X 35 (zn a3)) = a1 then jX2_between_62 F K2 a1 a2 a3 b0 (nI 1) X else jX2_between_61 F K2 a1 a2 a3 b0 X) else jX2_between_61 F K2 a1 a2 a3 b0 X)
set_option maxRecDepth 20000 in
set_option maxHeartbeats 4000000 in
theorem sX2_between_35 {μ : zM} {w : Nat} (hw : w < 3) {F : Nat} {K2 : Int32 → Int32 → Int32 → zX → Option (Int32)} (hK2 : ∀ {xa1 xa2 xa3 : Int32} {xX : zX} {ρ : Int32}, K2 xa1 xa2 xa3 xX = some ρ → zJ mX2_between 1 (0, 0) (0, 0) (zQ (some (zi ρ)) (zg μ (w + 4) xX)) 2 [some (zq (w + 4) 5), some (zi xa1), some (zi xa2), some (zi xa3), none, none] [] (zg μ (w + 4) xX)) {a1 a2 a3 b0 : Int32} {X : zX} {ρ : Int32} (h : jX2_between_35 F K2 a1 a2 a3 b0 X = some ρ) : zJ mX2_between 1 (0, 0) (0, 0) (zQ (some (zi ρ)) (zg μ (w + 4) X)) 35 [some (zq (w + 4) 5), some (zi a1), some (zi a2), some (zi a3), none, none] [zi b0] (zg μ (w + 4) X) := by
  unfold jX2_between_35 at h
  obtain ⟨s1, h⟩ := zchk_some h
  refine z_istore dX2_between_35 (Nat.le_of_ble_eq_true rfl) (z_aload dX2_between_37 rfl (z_getR dX2_between_38 fkX2_18 (in_5 hw) sh_5 rfl (z_iload dX2_between_41 rfl (z_iald dX2_between_42 (in_34 hw) sh_34 (zin_vp s1) (z_iload dX2_between_43 rfl (z_icmp_ne dX2_between_44 (fun c2 => ?_) (fun c2 => ?_)))))))
  · have h := ziF h (c2)
    exact z_mask [true, true, true, true, true, false] (sX2_between_61 hw hK2 h)
  · have h := ziT h (c2)
    obtain ⟨s3, h⟩ := zchk_some h
    refine z_aload dX2_between_47 rfl (z_getR dX2_between_48 fkX2_22 (in_5 hw) sh_5 rfl (z_iload dX2_between_51 rfl (z_iald dX2_between_52 (in_35 hw) sh_35 (zin_vp s3) (z_iload dX2_between_53 rfl (z_icmp_ne dX2_between_54 (fun c4 => ?_) (fun c4 => ?_))))))
    · have h := ziF h (c4)
      exact z_mask [true, true, true, true, true, false] (sX2_between_61 hw hK2 h)
    · have h := ziT h (c4)
      exact z_const dX2_between_57 (z_goto dX2_between_58 (z_mask [true, true, true, true, true, false] (sX2_between_62 hw hK2 h)))
def jX2_between_34 (F : Nat) (K2 : Int32 → Int32 → Int32 → zX → Option (Int32)) (a1 a2 a3 : Int32) (X : zX) : Option (Int32) := jX2_between_35 F K2 a1 a2 a3 (nI 0) X
set_option maxRecDepth 20000 in
set_option maxHeartbeats 4000000 in
theorem sX2_between_34 {μ : zM} {w : Nat} (hw : w < 3) {F : Nat} {K2 : Int32 → Int32 → Int32 → zX → Option (Int32)} (hK2 : ∀ {xa1 xa2 xa3 : Int32} {xX : zX} {ρ : Int32}, K2 xa1 xa2 xa3 xX = some ρ → zJ mX2_between 1 (0, 0) (0, 0) (zQ (some (zi ρ)) (zg μ (w + 4) xX)) 2 [some (zq (w + 4) 5), some (zi xa1), some (zi xa2), some (zi xa3), none, none] [] (zg μ (w + 4) xX)) {a1 a2 a3 : Int32} {X : zX} {ρ : Int32} (h : jX2_between_34 F K2 a1 a2 a3 X = some ρ) : zJ mX2_between 1 (0, 0) (0, 0) (zQ (some (zi ρ)) (zg μ (w + 4) X)) 34 [some (zq (w + 4) 5), some (zi a1), some (zi a2), some (zi a3), none, none] [] (zg μ (w + 4) X) := by
  unfold jX2_between_34 at h
  exact z_const dX2_between_34 (z_mask [true, true, true, true, false, false] (sX2_between_35 hw hK2 h))
def hX2_between_2 (F : Nat) : Nat → Int32 → Int32 → Int32 → zX → Option (Int32)
  | 0, _, _, _, _ => none
  | n + 1, a1, a2, a3, X => if (X 5 0) ≤ a3 then some (-1) else zchk (zin a3 10) (if (X 34 (zn a3)) = a1 then zchk (zin a3 10) (if (X 35 (zn a3)) = a2 then jX2_between_35 F (hX2_between_2 F n) a1 a2 a3 (nI 1) X else jX2_between_34 F (hX2_between_2 F n) a1 a2 a3 X) else jX2_between_34 F (hX2_between_2 F n) a1 a2 a3 X)
set_option maxRecDepth 20000 in
set_option maxHeartbeats 4000000 in
theorem sX2_between_2 {μ : zM} {w : Nat} (hw : w < 3) {F : Nat} : ∀ {n : Nat} {a1 a2 a3 : Int32} {X : zX} {ρ : Int32}, hX2_between_2 F n a1 a2 a3 X = some ρ → zJ mX2_between 1 (0, 0) (0, 0) (zQ (some (zi ρ)) (zg μ (w + 4) X)) 2 [some (zq (w + 4) 5), some (zi a1), some (zi a2), some (zi a3), none, none] [] (zg μ (w + 4) X) := by
  intro n
  induction n with
  | zero => intro a1 a2 a3 X ρ h; exact nomatch (show (none : Option _) = some ρ from h)
  | succ n ih =>
    intro a1 a2 a3 X ρ h
    have hK2 := @ih
    rw [hX2_between_2] at h
    refine z_iload dX2_between_2 rfl (z_aload dX2_between_3 rfl (z_getI dX2_between_4 fkX2_9 (in_5 hw) sh_5 rfl (z_icmp_ge dX2_between_7 (fun c1 => ?_) (fun c1 => ?_))))
    · have h := ziT h (c1)
      exact z_const dX2_between_82 (z_iretQ dX2_between_83 rfl (by cases h; rfl))
    · have h := ziF h (c1)
      obtain ⟨s2, h⟩ := zchk_some h
      refine z_aload dX2_between_10 rfl (z_getR dX2_between_11 fkX2_18 (in_5 hw) sh_5 rfl (z_iload dX2_between_14 rfl (z_iald dX2_between_15 (in_34 hw) sh_34 (zin_vp s2) (z_iload dX2_between_16 rfl (z_icmp_ne dX2_between_17 (fun c3 => ?_) (fun c3 => ?_))))))
      · have h := ziF h (c3)
        exact z_mask [true, true, true, true, false, false] (sX2_between_34 hw hK2 h)
      · have h := ziT h (c3)
        obtain ⟨s4, h⟩ := zchk_some h
        refine z_aload dX2_between_20 rfl (z_getR dX2_between_21 fkX2_22 (in_5 hw) sh_5 rfl (z_iload dX2_between_24 rfl (z_iald dX2_between_25 (in_35 hw) sh_35 (zin_vp s4) (z_iload dX2_between_26 rfl (z_icmp_ne dX2_between_27 (fun c5 => ?_) (fun c5 => ?_))))))
        · have h := ziF h (c5)
          exact z_mask [true, true, true, true, false, false] (sX2_between_34 hw hK2 h)
        · have h := ziT h (c5)
          exact z_const dX2_between_30 (z_goto dX2_between_31 (z_mask [true, true, true, true, false, false] (sX2_between_35 hw hK2 h)))
def eX2_between (F : Nat) (x0 x1 : Int32) (X : zX) : Option (Int32) := hX2_between_2 F F x0 x1 (nI 0) X
set_option maxRecDepth 20000 in
set_option maxHeartbeats 4000000 in
theorem tX2_between {μ : zM} {w : Nat} (hw : w < 3) {F : Nat} {x0 x1 : Int32} {X : zX} {ρ : Int32} (h : eX2_between F x0 x1 X = some ρ) : LM mX2_between 1 [zq (w + 4) 5, zi x0, zi x1] (zg μ (w + 4) X) (some (zi ρ)) (zg μ (w + 4) X) := by
  unfold eX2_between at h
  refine LM.of (by decide +kernel) rfl (Nat.le_of_ble_eq_true rfl) ?_
  show zJ mX2_between 1 (0, 0) (0, 0) _ 0 [some (zq (w + 4) 5), some (zi x0), some (zi x1), none, none, none] [] _
  exact z_const dX2_between_0 (z_istore dX2_between_1 (Nat.le_of_ble_eq_true rfl) (z_mask [true, true, true, true, false, false] (sX2_between_2 hw h)))
-- X3_put
def eX3_put (x0 x1 x2 x3 : Int32) (X : zX) : Option (zX) := zchk (zin (((zw X 8 1 (zrem ((X 8 1) + (nI 1)) (nI 60))) 8 1) * (nI 4)) 240) (zlet (zw (zw X 8 1 (zrem ((X 8 1) + (nI 1)) (nI 60))) 55 (zn (((zw X 8 1 (zrem ((X 8 1) + (nI 1)) (nI 60))) 8 1) * (nI 4))) x0) fun X2 => zchk (zin ((((zw X 8 1 (zrem ((X 8 1) + (nI 1)) (nI 60))) 8 1) * (nI 4)) + (nI 1)) 240) (zlet (zw X2 55 (zn ((((zw X 8 1 (zrem ((X 8 1) + (nI 1)) (nI 60))) 8 1) * (nI 4)) + (nI 1))) x1) fun X4 => zchk (zin ((((zw X 8 1 (zrem ((X 8 1) + (nI 1)) (nI 60))) 8 1) * (nI 4)) + (nI 2)) 240) (zlet (zw X4 55 (zn ((((zw X 8 1 (zrem ((X 8 1) + (nI 1)) (nI 60))) 8 1) * (nI 4)) + (nI 2))) x2) fun X6 => zchk (zin ((((zw X 8 1 (zrem ((X 8 1) + (nI 1)) (nI 60))) 8 1) * (nI 4)) + (nI 3)) 240) (zlet (zw X6 55 (zn ((((zw X 8 1 (zrem ((X 8 1) + (nI 1)) (nI 60))) 8 1) * (nI 4)) + (nI 3))) x3) fun X8 => zlet (zw X8 8 0 (zmn (((zw X 8 1 (zrem ((X 8 1) + (nI 1)) (nI 60))) 8 0) + (nI 1)) (nI 60))) fun X9 => some X9))))
set_option maxRecDepth 20000 in
set_option maxHeartbeats 4000000 in
theorem tX3_put {μ : zM} {w : Nat} (hw : w < 3) {x0 x1 x2 x3 : Int32} {X : zX} {ρ : zX} (h : eX3_put x0 x1 x2 x3 X = some ρ) : LM mX3_put 1 [zq (w + 4) 8, zi x0, zi x1, zi x2, zi x3] (zg μ (w + 4) X) none (zg μ (w + 4) ρ) := by
  unfold eX3_put at h
  refine LM.of (by decide +kernel) rfl (Nat.le_of_ble_eq_true rfl) ?_
  show zJ mX3_put 1 (0, 0) (0, 0) _ 0 [some (zq (w + 4) 8), some (zi x0), some (zi x1), some (zi x2), some (zi x3)] [] _
  refine z_aload dX3_put_0 rfl (z_aload dX3_put_1 rfl (z_getI dX3_put_2 fkX3_15 (in_8 hw) sh_8 rfl (z_const dX3_put_5 (z_iadd dX3_put_6 (z_const dX3_put_7 (z_irem dX3_put_9 (by decide) (z_putI dX3_put_10 fkX3_15 (in_8 hw) sh_8 rfl (fun _ _ _ h => by cases h; rfl) ⟨_, rfl, rfl, rfl⟩ (z_aload dX3_put_13 rfl (z_getR dX3_put_14 fkX3_18 (in_8 hw) sh_8 rfl (z_aload dX3_put_17 rfl (z_getI dX3_put_18 fkX3_15 (in_8 hw) sh_8 rfl ?_)))))))))))
  obtain ⟨s1, h⟩ := zchk_some h
  have h := zlet_h h
  refine z_const dX3_put_21 (z_imul dX3_put_22 (z_iload dX3_put_23 rfl (z_iast dX3_put_24 (in_55 hw) sh_55 (zin_vp s1) (z_aload dX3_put_25 rfl (z_getR dX3_put_26 fkX3_18 (in_8 hw) sh_8 rfl (z_aload dX3_put_29 rfl (z_getI dX3_put_30 fkX3_15 (in_8 hw) sh_8 rfl (z_const dX3_put_33 (z_imul dX3_put_34 (z_const dX3_put_35 (z_iadd dX3_put_36 ?_)))))))))))
  obtain ⟨s3, h⟩ := zchk_some h
  have h := zlet_h h
  obtain ⟨s5, h⟩ := zchk_some h
  have h := zlet_h h
  refine z_iload dX3_put_37 rfl (z_iast dX3_put_38 (in_55 hw) sh_55 (zin_vp s3) (z_aload dX3_put_39 rfl (z_getR dX3_put_40 fkX3_18 (in_8 hw) sh_8 rfl (z_aload dX3_put_43 rfl (z_getI dX3_put_44 fkX3_15 (in_8 hw) sh_8 rfl (z_const dX3_put_47 (z_imul dX3_put_48 (z_const dX3_put_49 (z_iadd dX3_put_50 (z_iload dX3_put_51 rfl (z_iast dX3_put_52 (in_55 hw) sh_55 (zin_vp s5) ?_)))))))))))
  obtain ⟨s7, h⟩ := zchk_some h
  have h := zlet_h h
  refine z_aload dX3_put_53 rfl (z_getR dX3_put_54 fkX3_18 (in_8 hw) sh_8 rfl (z_aload dX3_put_57 rfl (z_getI dX3_put_58 fkX3_15 (in_8 hw) sh_8 rfl (z_const dX3_put_61 (z_imul dX3_put_62 (z_const dX3_put_63 (z_iadd dX3_put_64 (z_iload dX3_put_65 rfl (z_iast dX3_put_67 (in_55 hw) sh_55 (zin_vp s7) (z_aload dX3_put_68 rfl (z_aload dX3_put_69 rfl ?_)))))))))))
  have h := zlet_h h
  exact z_getI dX3_put_70 fkX3_9 (in_8 hw) sh_8 rfl (z_const dX3_put_73 (z_iadd dX3_put_74 (z_const dX3_put_75 (z_min dX3_put_77 lkX3_26 (Nat.le_of_ble_eq_true rfl) (Nat.le_of_ble_eq_true rfl) (z_putI dX3_put_80 fkX3_9 (in_8 hw) sh_8 rfl (fun _ _ _ h => by cases h; rfl) ⟨_, rfl, rfl, rfl⟩ (z_vretQ dX3_put_83 rfl (by cases h; rfl)))))))
-- X3_told
def eX3_told (x0 x1 : Int32) (X : zX) : Option (Int32) := if x0 < 0 then some (-1) else if (X 8 0) ≤ x0 then some (-1) else if x1 < 0 then some (-1) else if x1 < (nI 4) then zchk (zin (((zrem (((X 8 1) - x0) + (nI 60)) (nI 60)) * (nI 4)) + x1) 240) (some (X 55 (zn (((zrem (((X 8 1) - x0) + (nI 60)) (nI 60)) * (nI 4)) + x1)))) else some (-1)
set_option maxRecDepth 20000 in
set_option maxHeartbeats 4000000 in
theorem tX3_told {μ : zM} {w : Nat} (hw : w < 3) {x0 x1 : Int32} {X : zX} {ρ : Int32} (h : eX3_told x0 x1 X = some ρ) : LM mX3_told 1 [zq (w + 4) 8, zi x0, zi x1] (zg μ (w + 4) X) (some (zi ρ)) (zg μ (w + 4) X) := by
  unfold eX3_told at h
  refine LM.of (by decide +kernel) rfl (Nat.le_of_ble_eq_true rfl) ?_
  show zJ mX3_told 1 (0, 0) (0, 0) _ 0 [some (zq (w + 4) 8), some (zi x0), some (zi x1)] [] _
  refine z_iload dX3_told_0 rfl (z_if_lt dX3_told_1 (fun c1 => ?_) (fun c1 => ?_))
  · have h := ziT h (c1)
    exact z_const dX3_told_21 (z_iretQ dX3_told_22 rfl (by cases h; rfl))
  · have h := ziF h (c1)
    refine z_iload dX3_told_4 rfl (z_aload dX3_told_5 rfl (z_getI dX3_told_6 fkX3_9 (in_8 hw) sh_8 rfl (z_icmp_ge dX3_told_9 (fun c2 => ?_) (fun c2 => ?_))))
    · have h := ziT h (c2)
      exact z_const dX3_told_21 (z_iretQ dX3_told_22 rfl (by cases h; rfl))
    · have h := ziF h (c2)
      refine z_iload dX3_told_12 rfl (z_if_lt dX3_told_13 (fun c3 => ?_) (fun c3 => ?_))
      · have h := ziT h (c3)
        exact z_const dX3_told_21 (z_iretQ dX3_told_22 rfl (by cases h; rfl))
      · have h := ziF h (c3)
        refine z_iload dX3_told_16 rfl (z_const dX3_told_17 (z_icmp_lt dX3_told_18 (fun c4 => ?_) (fun c4 => ?_)))
        · have h := ziT h (c4)
          refine z_aload dX3_told_23 rfl (z_getR dX3_told_24 fkX3_18 (in_8 hw) sh_8 rfl (z_aload dX3_told_27 rfl (z_getI dX3_told_28 fkX3_15 (in_8 hw) sh_8 rfl (z_iload dX3_told_31 rfl (z_isub dX3_told_32 (z_const dX3_told_33 (z_iadd dX3_told_35 (z_const dX3_told_36 (z_irem dX3_told_38 (by decide) (z_const dX3_told_39 (z_imul dX3_told_40 ?_)))))))))))
          obtain ⟨s5, h⟩ := zchk_some h
          exact z_iload dX3_told_41 rfl (z_iadd dX3_told_42 (z_iald dX3_told_43 (in_55 hw) sh_55 (zin_vp s5) (z_iretQ dX3_told_44 rfl (by cases h; rfl))))
        · have h := ziF h (c4)
          exact z_const dX3_told_21 (z_iretQ dX3_told_22 rfl (by cases h; rfl))
-- X4_add
def jX4_add_29 (a2 a3 b0 b1 : Int32) (X : zX) : Option (zX) := zchk (zin ((zw X 3 1 (b1 ||| b0)) 3 0) 6) (zlet (zw (zw X 3 1 (b1 ||| b0)) 11 (zn ((zw X 3 1 (b1 ||| b0)) 3 0)) a2) fun X2 => zchk (zin ((zw X 3 1 (b1 ||| b0)) 3 0) 6) (zlet (zw (zw X2 12 (zn ((zw X 3 1 (b1 ||| b0)) 3 0)) a3) 3 0 (((zw X 3 1 (b1 ||| b0)) 3 0) + (nI 1))) fun X4 => some X4))
set_option maxRecDepth 20000 in
set_option maxHeartbeats 4000000 in
theorem sX4_add_29 {μ : zM} {w : Nat} (hw : w < 3) {a2 a3 b0 b1 : Int32} {X : zX} {ρ : zX} (h : jX4_add_29 a2 a3 b0 b1 X = some ρ) : zJ mX4_add 1 (0, 0) (0, 0) (zQ none (zg μ (w + 4) ρ)) 29 [some (zq (w + 4) 3), none, some (zi a2), some (zi a3)] [zi b0, zi b1, zq (w + 4) 3] (zg μ (w + 4) X) := by
  unfold jX4_add_29 at h
  obtain ⟨s1, h⟩ := zchk_some h
  have h := zlet_h h
  refine z_ior dX4_add_29 (z_putI dX4_add_30 fkX4_15 (in_3 hw) sh_3 rfl (fun _ _ _ h => by cases h; rfl) ⟨_, rfl, rfl, rfl⟩ (z_aload dX4_add_33 rfl (z_getR dX4_add_34 fkX4_29 (in_3 hw) sh_3 rfl (z_aload dX4_add_37 rfl (z_getI dX4_add_38 fkX4_9 (in_3 hw) sh_3 rfl (z_iload dX4_add_41 rfl (z_iast dX4_add_42 (in_11 hw) sh_11 (zin_vp s1) (z_aload dX4_add_43 rfl (z_getR dX4_add_44 fkX4_32 (in_3 hw) sh_3 rfl (z_aload dX4_add_47 rfl (z_getI dX4_add_48 fkX4_9 (in_3 hw) sh_3 rfl ?_)))))))))))
  obtain ⟨s3, h⟩ := zchk_some h
  have h := zlet_h h
  exact z_iload dX4_add_51 rfl (z_iast dX4_add_52 (in_12 hw) sh_12 (zin_vp s3) (z_aload dX4_add_53 rfl (z_dup dX4_add_54 rfl (z_getI dX4_add_55 fkX4_9 (in_3 hw) sh_3 rfl (z_const dX4_add_58 (z_iadd dX4_add_59 (z_putI dX4_add_60 fkX4_9 (in_3 hw) sh_3 rfl (fun _ _ _ h => by cases h; rfl) ⟨_, rfl, rfl, rfl⟩ (z_vretQ dX4_add_63 rfl (by cases h; rfl)))))))))
def eX4_add (x0 x1 x2 : Int32) (X : zX) : Option (zX) := if (X 3 0) < (nI 6) then if x0 = 0 then jX4_add_29 x1 x2 (nI 0) (X 3 1) X else jX4_add_29 x1 x2 ((nI 1) <<< ((X 3 0) &&& 31)) (X 3 1) X else some X
set_option maxRecDepth 20000 in
set_option maxHeartbeats 4000000 in
theorem tX4_add {μ : zM} {w : Nat} (hw : w < 3) {x0 x1 x2 : Int32} {X : zX} {ρ : zX} (h : eX4_add x0 x1 x2 X = some ρ) : LM mX4_add 1 [zq (w + 4) 3, zi x0, zi x1, zi x2] (zg μ (w + 4) X) none (zg μ (w + 4) ρ) := by
  unfold eX4_add at h
  refine LM.of (by decide +kernel) rfl (Nat.le_of_ble_eq_true rfl) ?_
  show zJ mX4_add 1 (0, 0) (0, 0) _ 0 [some (zq (w + 4) 3), some (zi x0), some (zi x1), some (zi x2)] [] _
  refine z_aload dX4_add_0 rfl (z_getI dX4_add_1 fkX4_9 (in_3 hw) sh_3 rfl (z_const dX4_add_4 (z_icmp_lt dX4_add_6 (fun c1 => ?_) (fun c1 => ?_))))
  · have h := ziT h (c1)
    refine z_aload dX4_add_10 rfl (z_dup dX4_add_11 rfl (z_getI dX4_add_12 fkX4_15 (in_3 hw) sh_3 rfl (z_iload dX4_add_15 rfl (z_if_eq dX4_add_16 (fun c2 => ?_) (fun c2 => ?_)))))
    · have h := ziT h (c2)
      exact z_const dX4_add_28 (z_mask [true, false, true, true] (sX4_add_29 hw h))
    · have h := ziF h (c2)
      exact z_const dX4_add_19 (z_aload dX4_add_20 rfl (z_getI dX4_add_21 fkX4_9 (in_3 hw) sh_3 rfl (z_ishl dX4_add_24 (z_goto dX4_add_25 (z_mask [true, false, true, true] (sX4_add_29 hw h))))))
  · have h := ziF h (c1)
    exact z_vretQ dX4_add_9 rfl (by cases h; rfl)
-- X4_sumq14
def hX4_sumq14_4 (F : Nat) : Nat → Int32 → Int32 → zX → Option (Int32)
  | 0, _, _, _ => none
  | n + 1, a2, a3, X => if (X 3 0) ≤ a3 then some a2 else if (nI 6) ≤ a3 then some a2 else zchk (zin a3 6) ((hX4_sumq14_4 F n) (a2 + (X 14 (zn a3))) (a3 + (nI 1)) X)
set_option maxRecDepth 20000 in
set_option maxHeartbeats 4000000 in
theorem sX4_sumq14_4 {μ : zM} {w : Nat} (hw : w < 3) {F : Nat} : ∀ {n : Nat} {a2 a3 : Int32} {X : zX} {ρ : Int32}, hX4_sumq14_4 F n a2 a3 X = some ρ → zJ mX4_sum 1 (0, 0) (0, 0) (zQ (some (zi ρ)) (zg μ (w + 4) X)) 4 [some (zq (w + 4) 3), some (zq (w + 4) 14), some (zi a2), some (zi a3)] [] (zg μ (w + 4) X) := by
  intro n
  induction n with
  | zero => intro a2 a3 X ρ h; exact nomatch (show (none : Option _) = some ρ from h)
  | succ n ih =>
    intro a2 a3 X ρ h
    have hK4 := @ih
    rw [hX4_sumq14_4] at h
    refine z_iload dX4_sum_4 rfl (z_aload dX4_sum_5 rfl (z_getI dX4_sum_6 fkX4_9 (in_3 hw) sh_3 rfl (z_icmp_ge dX4_sum_9 (fun c1 => ?_) (fun c1 => ?_))))
    · have h := ziT h (c1)
      exact z_iload dX4_sum_30 rfl (z_iretQ dX4_sum_31 rfl (by cases h; rfl))
    · have h := ziF h (c1)
      refine z_iload dX4_sum_12 rfl (z_aload dX4_sum_13 rfl (z_alen dX4_sum_14 (in_14 hw) sh_14 (by decide) (z_icmp_ge dX4_sum_15 (fun c2 => ?_) (fun c2 => ?_))))
      · have h := ziT h (c2)
        exact z_iload dX4_sum_30 rfl (z_iretQ dX4_sum_31 rfl (by cases h; rfl))
      · have h := ziF h (c2)
        obtain ⟨s3, h⟩ := zchk_some h
        exact z_iload dX4_sum_18 rfl (z_aload dX4_sum_19 rfl (z_iload dX4_sum_20 rfl (z_iald dX4_sum_21 (in_14 hw) sh_14 (zin_vp s3) (z_iadd dX4_sum_22 (z_istore dX4_sum_23 (Nat.le_of_ble_eq_true rfl) (z_iinc dX4_sum_24 (Nat.le_of_ble_eq_true rfl) rfl (z_goto dX4_sum_27 (z_mask [true, true, true, true] (hK4 h)))))))))
def eX4_sumq14 (F : Nat) (X : zX) : Option (Int32) := hX4_sumq14_4 F F (nI 0) (nI 0) X
set_option maxRecDepth 20000 in
set_option maxHeartbeats 4000000 in
theorem tX4_sumq14 {μ : zM} {w : Nat} (hw : w < 3) {F : Nat} {X : zX} {ρ : Int32} (h : eX4_sumq14 F X = some ρ) : LM mX4_sum 1 [zq (w + 4) 3, zq (w + 4) 14] (zg μ (w + 4) X) (some (zi ρ)) (zg μ (w + 4) X) := by
  unfold eX4_sumq14 at h
  refine LM.of (by decide +kernel) rfl (Nat.le_of_ble_eq_true rfl) ?_
  show zJ mX4_sum 1 (0, 0) (0, 0) _ 0 [some (zq (w + 4) 3), some (zq (w + 4) 14), none, none] [] _
  exact z_const dX4_sum_0 (z_istore dX4_sum_1 (Nat.le_of_ble_eq_true rfl) (z_const dX4_sum_2 (z_istore dX4_sum_3 (Nat.le_of_ble_eq_true rfl) (z_mask [true, true, true, true] (sX4_sumq14_4 hw h)))))
-- X4_sumq15
def hX4_sumq15_4 (F : Nat) : Nat → Int32 → Int32 → zX → Option (Int32)
  | 0, _, _, _ => none
  | n + 1, a2, a3, X => if (X 3 0) ≤ a3 then some a2 else if (nI 6) ≤ a3 then some a2 else zchk (zin a3 6) ((hX4_sumq15_4 F n) (a2 + (X 15 (zn a3))) (a3 + (nI 1)) X)
set_option maxRecDepth 20000 in
set_option maxHeartbeats 4000000 in
theorem sX4_sumq15_4 {μ : zM} {w : Nat} (hw : w < 3) {F : Nat} : ∀ {n : Nat} {a2 a3 : Int32} {X : zX} {ρ : Int32}, hX4_sumq15_4 F n a2 a3 X = some ρ → zJ mX4_sum 1 (0, 0) (0, 0) (zQ (some (zi ρ)) (zg μ (w + 4) X)) 4 [some (zq (w + 4) 3), some (zq (w + 4) 15), some (zi a2), some (zi a3)] [] (zg μ (w + 4) X) := by
  intro n
  induction n with
  | zero => intro a2 a3 X ρ h; exact nomatch (show (none : Option _) = some ρ from h)
  | succ n ih =>
    intro a2 a3 X ρ h
    have hK4 := @ih
    rw [hX4_sumq15_4] at h
    refine z_iload dX4_sum_4 rfl (z_aload dX4_sum_5 rfl (z_getI dX4_sum_6 fkX4_9 (in_3 hw) sh_3 rfl (z_icmp_ge dX4_sum_9 (fun c1 => ?_) (fun c1 => ?_))))
    · have h := ziT h (c1)
      exact z_iload dX4_sum_30 rfl (z_iretQ dX4_sum_31 rfl (by cases h; rfl))
    · have h := ziF h (c1)
      refine z_iload dX4_sum_12 rfl (z_aload dX4_sum_13 rfl (z_alen dX4_sum_14 (in_15 hw) sh_15 (by decide) (z_icmp_ge dX4_sum_15 (fun c2 => ?_) (fun c2 => ?_))))
      · have h := ziT h (c2)
        exact z_iload dX4_sum_30 rfl (z_iretQ dX4_sum_31 rfl (by cases h; rfl))
      · have h := ziF h (c2)
        obtain ⟨s3, h⟩ := zchk_some h
        exact z_iload dX4_sum_18 rfl (z_aload dX4_sum_19 rfl (z_iload dX4_sum_20 rfl (z_iald dX4_sum_21 (in_15 hw) sh_15 (zin_vp s3) (z_iadd dX4_sum_22 (z_istore dX4_sum_23 (Nat.le_of_ble_eq_true rfl) (z_iinc dX4_sum_24 (Nat.le_of_ble_eq_true rfl) rfl (z_goto dX4_sum_27 (z_mask [true, true, true, true] (hK4 h)))))))))
def eX4_sumq15 (F : Nat) (X : zX) : Option (Int32) := hX4_sumq15_4 F F (nI 0) (nI 0) X
set_option maxRecDepth 20000 in
set_option maxHeartbeats 4000000 in
theorem tX4_sumq15 {μ : zM} {w : Nat} (hw : w < 3) {F : Nat} {X : zX} {ρ : Int32} (h : eX4_sumq15 F X = some ρ) : LM mX4_sum 1 [zq (w + 4) 3, zq (w + 4) 15] (zg μ (w + 4) X) (some (zi ρ)) (zg μ (w + 4) X) := by
  unfold eX4_sumq15 at h
  refine LM.of (by decide +kernel) rfl (Nat.le_of_ble_eq_true rfl) ?_
  show zJ mX4_sum 1 (0, 0) (0, 0) _ 0 [some (zq (w + 4) 3), some (zq (w + 4) 15), none, none] [] _
  exact z_const dX4_sum_0 (z_istore dX4_sum_1 (Nat.le_of_ble_eq_true rfl) (z_const dX4_sum_2 (z_istore dX4_sum_3 (Nat.le_of_ble_eq_true rfl) (z_mask [true, true, true, true] (sX4_sumq15_4 hw h)))))
-- X5_backOff
def eX5_backOff (x0 : Int32) (X : zX) : Option (zX) := zchk (zin x0 72) (zchk (zin x0 72) (zlet (zw X 22 (zn x0) (zmn ((X 22 (zn x0)) + (nI 1)) (nI 5))) fun X3 => some X3))
set_option maxRecDepth 20000 in
set_option maxHeartbeats 4000000 in
theorem tX5_backOff {μ : zM} {w : Nat} (hw : w < 3) {x0 : Int32} {X : zX} {ρ : zX} (h : eX5_backOff x0 X = some ρ) : LM mX5_backOff 1 [zq (w + 4) 4, zi x0] (zg μ (w + 4) X) none (zg μ (w + 4) ρ) := by
  unfold eX5_backOff at h
  refine LM.of (by decide +kernel) rfl (Nat.le_of_ble_eq_true rfl) ?_
  show zJ mX5_backOff 1 (0, 0) (0, 0) _ 0 [some (zq (w + 4) 4), some (zi x0)] [] _
  obtain ⟨s1, h⟩ := zchk_some h
  obtain ⟨s2, h⟩ := zchk_some h
  have h := zlet_h h
  refine z_aload dX5_backOff_0 rfl (z_getR dX5_backOff_1 fkX5_19 (in_4 hw) sh_4 rfl (z_iload dX5_backOff_4 rfl (z_aload dX5_backOff_5 rfl (z_getR dX5_backOff_6 fkX5_19 (in_4 hw) sh_4 rfl (z_iload dX5_backOff_9 rfl (z_iald dX5_backOff_10 (in_22 hw) sh_22 (zin_vp s1) (z_const dX5_backOff_11 (z_iadd dX5_backOff_12 (z_const dX5_backOff_13 (z_min dX5_backOff_14 lkX5_59 (Nat.le_of_ble_eq_true rfl) (Nat.le_of_ble_eq_true rfl) (z_iast dX5_backOff_17 (in_22 hw) sh_22 (zin_vp s2) ?_)))))))))))
  exact z_vretQ dX5_backOff_18 rfl (by cases h; rfl)
-- X5_beginAnswer
def eX5_beginAnswer (x0 x1 x2 x3 : Int32) (X : zX) : Option (zX) := zchk (zin x0 72) (zchk (zin x0 72) (zchk (zin x0 72) (zlet (zw (zw (zw X 26 (zn x0) x1) 27 (zn x0) x2) 28 (zn x0) x3) fun X4 => some X4)))
set_option maxRecDepth 20000 in
set_option maxHeartbeats 4000000 in
theorem tX5_beginAnswer {μ : zM} {w : Nat} (hw : w < 3) {x0 x1 x2 x3 : Int32} {X : zX} {ρ : zX} (h : eX5_beginAnswer x0 x1 x2 x3 X = some ρ) : LM mX5_beginAnswer 1 [zq (w + 4) 4, zi x0, zi x1, zi x2, zi x3] (zg μ (w + 4) X) none (zg μ (w + 4) ρ) := by
  unfold eX5_beginAnswer at h
  refine LM.of (by decide +kernel) rfl (Nat.le_of_ble_eq_true rfl) ?_
  show zJ mX5_beginAnswer 1 (0, 0) (0, 0) _ 0 [some (zq (w + 4) 4), some (zi x0), some (zi x1), some (zi x2), some (zi x3)] [] _
  obtain ⟨s1, h⟩ := zchk_some h
  obtain ⟨s2, h⟩ := zchk_some h
  refine z_aload dX5_beginAnswer_0 rfl (z_getR dX5_beginAnswer_1 fkX5_31 (in_4 hw) sh_4 rfl (z_iload dX5_beginAnswer_4 rfl (z_iload dX5_beginAnswer_5 rfl (z_iast dX5_beginAnswer_6 (in_26 hw) sh_26 (zin_vp s1) (z_aload dX5_beginAnswer_7 rfl (z_getR dX5_beginAnswer_8 fkX5_34 (in_4 hw) sh_4 rfl (z_iload dX5_beginAnswer_11 rfl (z_iload dX5_beginAnswer_12 rfl (z_iast dX5_beginAnswer_13 (in_27 hw) sh_27 (zin_vp s2) (z_aload dX5_beginAnswer_14 rfl (z_getR dX5_beginAnswer_15 fkX5_37 (in_4 hw) sh_4 rfl ?_)))))))))))
  obtain ⟨s3, h⟩ := zchk_some h
  have h := zlet_h h
  exact z_iload dX5_beginAnswer_18 rfl (z_iload dX5_beginAnswer_19 rfl (z_iast dX5_beginAnswer_21 (in_28 hw) sh_28 (zin_vp s3) (z_vretQ dX5_beginAnswer_22 rfl (by cases h; rfl))))
-- X5_beginAsk
def eX5_beginAsk (x0 : Int32) (X : zX) : Option (zX) := zchk (zin x0 72) (zchk (zin x0 72) (zchk (zin x0 72) (zlet (zw (zw (zw X 22 (zn x0) (nI 0)) 23 (zn x0) (nI 0)) 24 (zn x0) (nI 0)) fun X4 => zchk (zin x0 72) (some (zw X4 25 (zn x0) (nI 0))))))
set_option maxRecDepth 20000 in
set_option maxHeartbeats 4000000 in
theorem tX5_beginAsk {μ : zM} {w : Nat} (hw : w < 3) {x0 : Int32} {X : zX} {ρ : zX} (h : eX5_beginAsk x0 X = some ρ) : LM mX5_beginAsk 1 [zq (w + 4) 4, zi x0] (zg μ (w + 4) X) none (zg μ (w + 4) ρ) := by
  unfold eX5_beginAsk at h
  refine LM.of (by decide +kernel) rfl (Nat.le_of_ble_eq_true rfl) ?_
  show zJ mX5_beginAsk 1 (0, 0) (0, 0) _ 0 [some (zq (w + 4) 4), some (zi x0)] [] _
  obtain ⟨s1, h⟩ := zchk_some h
  obtain ⟨s2, h⟩ := zchk_some h
  refine z_aload dX5_beginAsk_0 rfl (z_getR dX5_beginAsk_1 fkX5_19 (in_4 hw) sh_4 rfl (z_iload dX5_beginAsk_4 rfl (z_const dX5_beginAsk_5 (z_iast dX5_beginAsk_6 (in_22 hw) sh_22 (zin_vp s1) (z_aload dX5_beginAsk_7 rfl (z_getR dX5_beginAsk_8 fkX5_22 (in_4 hw) sh_4 rfl (z_iload dX5_beginAsk_11 rfl (z_const dX5_beginAsk_12 (z_iast dX5_beginAsk_13 (in_23 hw) sh_23 (zin_vp s2) (z_aload dX5_beginAsk_14 rfl (z_getR dX5_beginAsk_15 fkX5_25 (in_4 hw) sh_4 rfl ?_)))))))))))
  obtain ⟨s3, h⟩ := zchk_some h
  have h := zlet_h h
  obtain ⟨s5, h⟩ := zchk_some h
  exact z_iload dX5_beginAsk_18 rfl (z_const dX5_beginAsk_19 (z_iast dX5_beginAsk_20 (in_24 hw) sh_24 (zin_vp s3) (z_aload dX5_beginAsk_21 rfl (z_getR dX5_beginAsk_22 fkX5_28 (in_4 hw) sh_4 rfl (z_iload dX5_beginAsk_25 rfl (z_const dX5_beginAsk_26 (z_iast dX5_beginAsk_27 (in_25 hw) sh_25 (zin_vp s5) (z_vretQ dX5_beginAsk_28 rfl (by cases h; rfl)))))))))
-- X5_gapBehind
def eX5_gapBehind (x0 x1 : Int32) (X : zX) : Option (Int32) := if x1 < 0 then some (-1) else zchk (zin x0 72) (if x1 ≤ (X 31 (zn x0)) then if x1 ≤ 0 then zchk (zin x0 72) (some (X 30 (zn x0))) else zchk (zin x0 72) (if x1 = (X 31 (zn x0)) then some (nI 0) else zchk (zin x0 72) (some (X 30 (zn x0)))) else some (-1))
set_option maxRecDepth 20000 in
set_option maxHeartbeats 4000000 in
theorem tX5_gapBehind {μ : zM} {w : Nat} (hw : w < 3) {x0 x1 : Int32} {X : zX} {ρ : Int32} (h : eX5_gapBehind x0 x1 X = some ρ) : LM mX5_gapBehind 1 [zq (w + 4) 4, zi x0, zi x1] (zg μ (w + 4) X) (some (zi ρ)) (zg μ (w + 4) X) := by
  unfold eX5_gapBehind at h
  refine LM.of (by decide +kernel) rfl (Nat.le_of_ble_eq_true rfl) ?_
  show zJ mX5_gapBehind 1 (0, 0) (0, 0) _ 0 [some (zq (w + 4) 4), some (zi x0), some (zi x1)] [] _
  refine z_iload dX5_gapBehind_0 rfl (z_if_lt dX5_gapBehind_1 (fun c1 => ?_) (fun c1 => ?_))
  · have h := ziT h (c1)
    exact z_const dX5_gapBehind_14 (z_iretQ dX5_gapBehind_15 rfl (by cases h; rfl))
  · have h := ziF h (c1)
    obtain ⟨s2, h⟩ := zchk_some h
    refine z_iload dX5_gapBehind_4 rfl (z_aload dX5_gapBehind_5 rfl (z_getR dX5_gapBehind_6 fkX5_46 (in_4 hw) sh_4 rfl (z_iload dX5_gapBehind_9 rfl (z_iald dX5_gapBehind_10 (in_31 hw) sh_31 (zin_vp s2) (z_icmp_le dX5_gapBehind_11 (fun c3 => ?_) (fun c3 => ?_))))))
    · have h := ziT h (c3)
      refine z_iload dX5_gapBehind_16 rfl (z_if_le dX5_gapBehind_17 (fun c4 => ?_) (fun c4 => ?_))
      · have h := ziT h (c4)
        obtain ⟨s5, h⟩ := zchk_some h
        exact z_aload dX5_gapBehind_34 rfl (z_getR dX5_gapBehind_35 fkX5_43 (in_4 hw) sh_4 rfl (z_iload dX5_gapBehind_38 rfl (z_iald dX5_gapBehind_39 (in_30 hw) sh_30 (zin_vp s5) (z_iretQ dX5_gapBehind_40 rfl (by cases h; rfl)))))
      · have h := ziF h (c4)
        obtain ⟨s6, h⟩ := zchk_some h
        refine z_iload dX5_gapBehind_20 rfl (z_aload dX5_gapBehind_21 rfl (z_getR dX5_gapBehind_22 fkX5_46 (in_4 hw) sh_4 rfl (z_iload dX5_gapBehind_25 rfl (z_iald dX5_gapBehind_26 (in_31 hw) sh_31 (zin_vp s6) (z_icmp_ne dX5_gapBehind_27 (fun c7 => ?_) (fun c7 => ?_))))))
        · have h := ziF h (c7)
          obtain ⟨s8, h⟩ := zchk_some h
          exact z_aload dX5_gapBehind_34 rfl (z_getR dX5_gapBehind_35 fkX5_43 (in_4 hw) sh_4 rfl (z_iload dX5_gapBehind_38 rfl (z_iald dX5_gapBehind_39 (in_30 hw) sh_30 (zin_vp s8) (z_iretQ dX5_gapBehind_40 rfl (by cases h; rfl)))))
        · have h := ziT h (c7)
          exact z_const dX5_gapBehind_30 (z_goto dX5_gapBehind_31 (z_iretQ dX5_gapBehind_40 rfl (by cases h; rfl)))
    · have h := ziF h (c3)
      exact z_const dX5_gapBehind_14 (z_iretQ dX5_gapBehind_15 rfl (by cases h; rfl))
-- X5_setGap
def eX5_setGap (x0 x1 : Int32) (X : zX) : Option (zX) := zchk (zin x0 72) (zchk (zin x0 72) (some (zw (zw X 30 (zn x0) x1) 31 (zn x0) (nI 0))))
set_option maxRecDepth 20000 in
set_option maxHeartbeats 4000000 in
theorem tX5_setGap {μ : zM} {w : Nat} (hw : w < 3) {x0 x1 : Int32} {X : zX} {ρ : zX} (h : eX5_setGap x0 x1 X = some ρ) : LM mX5_setGap 1 [zq (w + 4) 4, zi x0, zi x1] (zg μ (w + 4) X) none (zg μ (w + 4) ρ) := by
  unfold eX5_setGap at h
  refine LM.of (by decide +kernel) rfl (Nat.le_of_ble_eq_true rfl) ?_
  show zJ mX5_setGap 1 (0, 0) (0, 0) _ 0 [some (zq (w + 4) 4), some (zi x0), some (zi x1)] [] _
  obtain ⟨s1, h⟩ := zchk_some h
  obtain ⟨s2, h⟩ := zchk_some h
  exact z_aload dX5_setGap_0 rfl (z_getR dX5_setGap_1 fkX5_43 (in_4 hw) sh_4 rfl (z_iload dX5_setGap_4 rfl (z_iload dX5_setGap_5 rfl (z_iast dX5_setGap_6 (in_30 hw) sh_30 (zin_vp s1) (z_aload dX5_setGap_7 rfl (z_getR dX5_setGap_8 fkX5_46 (in_4 hw) sh_4 rfl (z_iload dX5_setGap_11 rfl (z_const dX5_setGap_12 (z_iast dX5_setGap_13 (in_31 hw) sh_31 (zin_vp s2) (z_vretQ dX5_setGap_14 rfl (by cases h; rfl)))))))))))
-- X5_setGapBehind
def eX5_setGapBehind (x0 x1 : Int32) (X : zX) : Option (zX) := zchk (zin x0 72) (zchk (zin x1 72) (zchk (zin x0 72) (zlet (zw (zw X 30 (zn x0) (nI 1)) 31 (zn x0) ((X 31 (zn x1)) + (nI 1))) fun X4 => some X4)))
set_option maxRecDepth 20000 in
set_option maxHeartbeats 4000000 in
theorem tX5_setGapBehind {μ : zM} {w : Nat} (hw : w < 3) {x0 x1 : Int32} {X : zX} {ρ : zX} (h : eX5_setGapBehind x0 x1 X = some ρ) : LM mX5_setGapBehind 1 [zq (w + 4) 4, zi x0, zi x1] (zg μ (w + 4) X) none (zg μ (w + 4) ρ) := by
  unfold eX5_setGapBehind at h
  refine LM.of (by decide +kernel) rfl (Nat.le_of_ble_eq_true rfl) ?_
  show zJ mX5_setGapBehind 1 (0, 0) (0, 0) _ 0 [some (zq (w + 4) 4), some (zi x0), some (zi x1)] [] _
  obtain ⟨s1, h⟩ := zchk_some h
  obtain ⟨s2, h⟩ := zchk_some h
  refine z_aload dX5_setGapBehind_0 rfl (z_getR dX5_setGapBehind_1 fkX5_43 (in_4 hw) sh_4 rfl (z_iload dX5_setGapBehind_4 rfl (z_const dX5_setGapBehind_5 (z_iast dX5_setGapBehind_6 (in_30 hw) sh_30 (zin_vp s1) (z_aload dX5_setGapBehind_7 rfl (z_getR dX5_setGapBehind_8 fkX5_46 (in_4 hw) sh_4 rfl (z_iload dX5_setGapBehind_11 rfl (z_aload dX5_setGapBehind_12 rfl (z_getR dX5_setGapBehind_13 fkX5_46 (in_4 hw) sh_4 rfl (z_iload dX5_setGapBehind_16 rfl (z_iald dX5_setGapBehind_17 (in_31 hw) sh_31 (zin_vp s2) ?_)))))))))))
  obtain ⟨s3, h⟩ := zchk_some h
  have h := zlet_h h
  exact z_const dX5_setGapBehind_18 (z_iadd dX5_setGapBehind_19 (z_iast dX5_setGapBehind_20 (in_31 hw) sh_31 (zin_vp s3) (z_vretQ dX5_setGapBehind_21 rfl (by cases h; rfl))))
-- X5_setGiver
def eX5_setGiver (x0 x1 x2 : Int32) (X : zX) : Option (zX) := zchk (zin x0 72) (zchk (zin x0 72) (some (zw (zw X 32 (zn x0) x1) 33 (zn x0) x2)))
set_option maxRecDepth 20000 in
set_option maxHeartbeats 4000000 in
theorem tX5_setGiver {μ : zM} {w : Nat} (hw : w < 3) {x0 x1 x2 : Int32} {X : zX} {ρ : zX} (h : eX5_setGiver x0 x1 x2 X = some ρ) : LM mX5_setGiver 1 [zq (w + 4) 4, zi x0, zi x1, zi x2] (zg μ (w + 4) X) none (zg μ (w + 4) ρ) := by
  unfold eX5_setGiver at h
  refine LM.of (by decide +kernel) rfl (Nat.le_of_ble_eq_true rfl) ?_
  show zJ mX5_setGiver 1 (0, 0) (0, 0) _ 0 [some (zq (w + 4) 4), some (zi x0), some (zi x1), some (zi x2)] [] _
  obtain ⟨s1, h⟩ := zchk_some h
  obtain ⟨s2, h⟩ := zchk_some h
  exact z_aload dX5_setGiver_0 rfl (z_getR dX5_setGiver_1 fkX5_49 (in_4 hw) sh_4 rfl (z_iload dX5_setGiver_4 rfl (z_iload dX5_setGiver_5 rfl (z_iast dX5_setGiver_6 (in_32 hw) sh_32 (zin_vp s1) (z_aload dX5_setGiver_7 rfl (z_getR dX5_setGiver_8 fkX5_52 (in_4 hw) sh_4 rfl (z_iload dX5_setGiver_11 rfl (z_iload dX5_setGiver_12 rfl (z_iast dX5_setGiver_13 (in_33 hw) sh_33 (zin_vp s2) (z_vretQ dX5_setGiver_14 rfl (by cases h; rfl)))))))))))
-- X0_dropDue
def hX0_dropDue_4 (F : Nat) : Nat → Int32 → Int32 → Int32 → zX → Option (zX)
  | 0, _, _, _, _ => none
  | n + 1, a1, a2, a3, X => if (X 7 0) ≤ a3 then some (zw X 7 0 a2) else zchk (zin a3 64) (if (X 45 (zn a3)) ≤ a1 then (hX0_dropDue_4 F n) a1 a2 (a3 + (nI 1)) X else if a3 ≤ a2 then (hX0_dropDue_4 F n) a1 (a2 + (nI 1)) (a3 + (nI 1)) X else zbd (eX0_move a3 a2 X) fun y6 => (hX0_dropDue_4 F n) a1 (a2 + (nI 1)) (a3 + (nI 1)) y6)
set_option maxRecDepth 20000 in
set_option maxHeartbeats 4000000 in
theorem sX0_dropDue_4 {μ : zM} {w : Nat} (hw : w < 3) {F : Nat} : ∀ {n : Nat} {a1 a2 a3 : Int32} {X : zX} {ρ : zX}, hX0_dropDue_4 F n a1 a2 a3 X = some ρ → zJ mX0_dropDue 2 (0, 0) (0, 0) (zQ none (zg μ (w + 4) ρ)) 4 [some (zq (w + 4) 7), some (zi a1), some (zi a2), some (zi a3)] [] (zg μ (w + 4) X) := by
  intro n
  induction n with
  | zero => intro a1 a2 a3 X ρ h; exact nomatch (show (none : Option _) = some ρ from h)
  | succ n ih =>
    intro a1 a2 a3 X ρ h
    have hK4 := @ih
    rw [hX0_dropDue_4] at h
    refine z_iload dX0_dropDue_4 rfl (z_aload dX0_dropDue_5 rfl (z_getI dX0_dropDue_6 fkX0_9 (in_7 hw) sh_7 rfl (z_icmp_ge dX0_dropDue_9 (fun c1 => ?_) (fun c1 => ?_))))
    · have h := ziT h (c1)
      exact z_aload dX0_dropDue_42 rfl (z_iload dX0_dropDue_43 rfl (z_putI dX0_dropDue_44 fkX0_9 (in_7 hw) sh_7 rfl (fun _ _ _ h => by cases h; rfl) ⟨_, rfl, rfl, rfl⟩ (z_vretQ dX0_dropDue_47 rfl (by cases h; rfl))))
    · have h := ziF h (c1)
      obtain ⟨s2, h⟩ := zchk_some h
      refine z_aload dX0_dropDue_12 rfl (z_getR dX0_dropDue_13 fkX0_15 (in_7 hw) sh_7 rfl (z_iload dX0_dropDue_16 rfl (z_iald dX0_dropDue_17 (in_45 hw) sh_45 (zin_vp s2) (z_iload dX0_dropDue_18 rfl (z_icmp_le dX0_dropDue_19 (fun c3 => ?_) (fun c3 => ?_))))))
      · have h := ziT h (c3)
        exact z_iinc dX0_dropDue_36 (Nat.le_of_ble_eq_true rfl) rfl (z_goto dX0_dropDue_39 (z_mask [true, true, true, true] (hK4 h)))
      · have h := ziF h (c3)
        refine z_iload dX0_dropDue_22 rfl (z_iload dX0_dropDue_23 rfl (z_icmp_ge dX0_dropDue_24 (fun c4 => ?_) (fun c4 => ?_)))
        · have h := ziT h (c4)
          exact z_iinc dX0_dropDue_33 (Nat.le_of_ble_eq_true rfl) rfl (z_iinc dX0_dropDue_36 (Nat.le_of_ble_eq_true rfl) rfl (z_goto dX0_dropDue_39 (z_mask [true, true, true, true] (hK4 h))))
        · have h := ziF h (c4)
          obtain ⟨y6, l5, h⟩ := zbd_some h
          exact z_aload dX0_dropDue_27 rfl (z_iload dX0_dropDue_28 rfl (z_iload dX0_dropDue_29 rfl (z_callV dX0_dropDue_30 (tX0_move hw l5) (Nat.le_of_ble_eq_true rfl) cdX0_move naX0_move lkX0_50 imX0_move seX0_move (in_7 hw) sh_7 rfl rfl rfl (Nat.le_of_ble_eq_true rfl) (z_iinc dX0_dropDue_33 (Nat.le_of_ble_eq_true rfl) rfl (z_iinc dX0_dropDue_36 (Nat.le_of_ble_eq_true rfl) rfl (z_goto dX0_dropDue_39 (z_mask [true, true, true, true] (hK4 h))))))))
def eX0_dropDue (F : Nat) (x0 : Int32) (X : zX) : Option (zX) := hX0_dropDue_4 F F x0 (nI 0) (nI 0) X
set_option maxRecDepth 20000 in
set_option maxHeartbeats 4000000 in
theorem tX0_dropDue {μ : zM} {w : Nat} (hw : w < 3) {F : Nat} {x0 : Int32} {X : zX} {ρ : zX} (h : eX0_dropDue F x0 X = some ρ) : LM mX0_dropDue 2 [zq (w + 4) 7, zi x0] (zg μ (w + 4) X) none (zg μ (w + 4) ρ) := by
  unfold eX0_dropDue at h
  refine LM.of (by decide +kernel) rfl (Nat.le_of_ble_eq_true rfl) ?_
  show zJ mX0_dropDue 2 (0, 0) (0, 0) _ 0 [some (zq (w + 4) 7), some (zi x0), none, none] [] _
  exact z_const dX0_dropDue_0 (z_istore dX0_dropDue_1 (Nat.le_of_ble_eq_true rfl) (z_const dX0_dropDue_2 (z_istore dX0_dropDue_3 (Nat.le_of_ble_eq_true rfl) (z_mask [true, true, true, true] (sX0_dropDue_4 hw h)))))
-- X2_isCut
set_option maxRecDepth 20000 in
set_option maxHeartbeats 4000000 in
theorem tX2_isCut {μ : zM} {w : Nat} (hw : w < 3) {X : zX} {x0 : Int32} : LM mX2_isCut 2 [zq (w + 4) 5, zi x0] (zg μ (w + 4) X) (some (zi (zB ((((X 5 1) >>> (x0 &&& 31)) &&& (nI 1)) = (nI 1))))) (zg μ (w + 4) X) := by
  have h : (zB ((((X 5 1) >>> (x0 &&& 31)) &&& (nI 1)) = (nI 1))) = (zB ((((X 5 1) >>> (x0 &&& 31)) &&& (nI 1)) = (nI 1))) ∧ X = X := ⟨rfl, rfl⟩
  refine LM.of (by decide +kernel) rfl (Nat.le_of_ble_eq_true rfl) ?_
  show zJ mX2_isCut 2 (0, 0) (0, 0) _ 0 [some (zq (w + 4) 5), some (zi x0)] [] _
  exact z_aload dX2_isCut_0 rfl (z_getI dX2_isCut_1 fkX2_15 (in_5 hw) sh_5 rfl (z_iload dX2_isCut_4 rfl (z_callSN dX2_isCut_5 (tX11_isIn) (Nat.le_of_ble_eq_true rfl) cdX11_isIn naX11_isIn lkX2_38 stX11_isIn rfl rfl (Nat.le_of_ble_eq_true rfl) (z_zret1 dX2_isCut_8 rfl (zB_nar) h.1 h.2))))
-- X2_joined
def hX2_joined_20 (F : Nat) (K7 : Int32 → Int32 → Int32 → zX → Option (Int32)) : Nat → Int32 → Int32 → Int32 → Int32 → Int32 → zX → Option (Int32)
  | 0, _, _, _, _, _, _ => none
  | n + 1, a2, a3, a4, a5, a6, X => if (X 5 0) ≤ a6 then if a3 = a5 then some a3 else K7 a2 a3 (a4 + (nI 1)) X else zchk (zin a6 10) (zchk (zin a6 10) (zlet (((nI 1) <<< ((X 34 (zn a6)) &&& 31)) ||| ((nI 1) <<< ((X 35 (zn a6)) &&& 31))) fun v5 => if ((a2 >>> (a6 &&& 31)) &&& (nI 1)) = (nI 1) then (hX2_joined_20 F K7 n) a2 a3 a4 a5 (a6 + (nI 1)) X else if (a3 &&& v5) = 0 then (hX2_joined_20 F K7 n) a2 a3 a4 a5 (a6 + (nI 1)) X else (hX2_joined_20 F K7 n) a2 (a3 ||| v5) a4 a5 (a6 + (nI 1)) X))
set_option maxRecDepth 20000 in
set_option maxHeartbeats 4000000 in
theorem sX2_joined_20 {μ : zM} {w : Nat} (hw : w < 3) {F : Nat} {K7 : Int32 → Int32 → Int32 → zX → Option (Int32)} (hK7 : ∀ {xa2 xa3 xa4 : Int32} {xX : zX} {ρ : Int32}, K7 xa2 xa3 xa4 xX = some ρ → zJ mX2_joined 2 (0, 0) (0, 0) (zQ (some (zi ρ)) (zg μ (w + 4) xX)) 7 [some (zq (w + 4) 5), none, some (zi xa2), some (zi xa3), some (zi xa4), none, none, none] [] (zg μ (w + 4) xX)) : ∀ {n : Nat} {a2 a3 a4 a5 a6 : Int32} {X : zX} {ρ : Int32}, hX2_joined_20 F K7 n a2 a3 a4 a5 a6 X = some ρ → zJ mX2_joined 2 (0, 0) (0, 0) (zQ (some (zi ρ)) (zg μ (w + 4) X)) 20 [some (zq (w + 4) 5), none, some (zi a2), some (zi a3), some (zi a4), some (zi a5), some (zi a6), none] [] (zg μ (w + 4) X) := by
  intro n
  induction n with
  | zero => intro a2 a3 a4 a5 a6 X ρ h; exact nomatch (show (none : Option _) = some ρ from h)
  | succ n ih =>
    intro a2 a3 a4 a5 a6 X ρ h
    have hK20 := @ih
    rw [hX2_joined_20] at h
    refine z_iload dX2_joined_20 rfl (z_aload dX2_joined_22 rfl (z_getI dX2_joined_23 fkX2_9 (in_5 hw) sh_5 rfl (z_icmp_ge dX2_joined_26 (fun c1 => ?_) (fun c1 => ?_))))
    · have h := ziT h (c1)
      refine z_iload dX2_joined_77 rfl (z_iload dX2_joined_78 rfl (z_icmp_ne dX2_joined_80 (fun c2 => ?_) (fun c2 => ?_)))
      · have h := ziF h (c2)
        exact z_iinc dX2_joined_85 (Nat.le_of_ble_eq_true rfl) rfl (z_goto dX2_joined_88 (z_mask [true, false, true, true, true, false, false, false] (hK7 h)))
      · have h := ziT h (c2)
        exact z_iload dX2_joined_83 rfl (z_iretQ dX2_joined_84 rfl (by cases h; rfl))
    · have h := ziF h (c1)
      obtain ⟨s3, h⟩ := zchk_some h
      obtain ⟨s4, h⟩ := zchk_some h
      refine z_const dX2_joined_29 (z_aload dX2_joined_30 rfl (z_getR dX2_joined_31 fkX2_18 (in_5 hw) sh_5 rfl (z_iload dX2_joined_34 rfl (z_iald dX2_joined_36 (in_34 hw) sh_34 (zin_vp s3) (z_ishl dX2_joined_37 (z_const dX2_joined_38 (z_aload dX2_joined_39 rfl (z_getR dX2_joined_40 fkX2_22 (in_5 hw) sh_5 rfl (z_iload dX2_joined_43 rfl (z_iald dX2_joined_45 (in_35 hw) sh_35 (zin_vp s4) (z_ishl dX2_joined_46 ?_)))))))))))
      have h := zlet_h h
      refine z_ior dX2_joined_47 (z_istore dX2_joined_48 (Nat.le_of_ble_eq_true rfl) (z_iload dX2_joined_50 rfl (z_iload dX2_joined_51 rfl (z_callSN dX2_joined_53 (tX11_isIn) (Nat.le_of_ble_eq_true rfl) cdX11_isIn naX11_isIn lkX2_38 stX11_isIn rfl rfl (Nat.le_of_ble_eq_true rfl) (z_if_ne dX2_joined_56 (fun c6 => ?_) (fun c6 => ?_))))))
      · have h := ziT h (zB_n0.mp c6)
        exact z_iinc dX2_joined_71 (Nat.le_of_ble_eq_true rfl) rfl (z_goto dX2_joined_74 (z_mask [true, false, true, true, true, true, true, false] (hK20 h)))
      · have h := ziF h (zB_0.mp c6)
        refine z_iload dX2_joined_59 rfl (z_iload dX2_joined_60 rfl (z_iand dX2_joined_62 (z_if_eq dX2_joined_63 (fun c7 => ?_) (fun c7 => ?_))))
        · have h := ziT h (c7)
          exact z_iinc dX2_joined_71 (Nat.le_of_ble_eq_true rfl) rfl (z_goto dX2_joined_74 (z_mask [true, false, true, true, true, true, true, false] (hK20 h)))
        · have h := ziF h (c7)
          exact z_iload dX2_joined_66 rfl (z_iload dX2_joined_67 rfl (z_ior dX2_joined_69 (z_istore dX2_joined_70 (Nat.le_of_ble_eq_true rfl) (z_iinc dX2_joined_71 (Nat.le_of_ble_eq_true rfl) rfl (z_goto dX2_joined_74 (z_mask [true, false, true, true, true, true, true, false] (hK20 h)))))))
def hX2_joined_7 (F : Nat) : Nat → Int32 → Int32 → Int32 → zX → Option (Int32)
  | 0, _, _, _, _ => none
  | n + 1, a2, a3, a4, X => if (nI 6) ≤ a4 then some a3 else hX2_joined_20 F (hX2_joined_7 F n) F a2 a3 a4 a3 (nI 0) X
set_option maxRecDepth 20000 in
set_option maxHeartbeats 4000000 in
theorem sX2_joined_7 {μ : zM} {w : Nat} (hw : w < 3) {F : Nat} : ∀ {n : Nat} {a2 a3 a4 : Int32} {X : zX} {ρ : Int32}, hX2_joined_7 F n a2 a3 a4 X = some ρ → zJ mX2_joined 2 (0, 0) (0, 0) (zQ (some (zi ρ)) (zg μ (w + 4) X)) 7 [some (zq (w + 4) 5), none, some (zi a2), some (zi a3), some (zi a4), none, none, none] [] (zg μ (w + 4) X) := by
  intro n
  induction n with
  | zero => intro a2 a3 a4 X ρ h; exact nomatch (show (none : Option _) = some ρ from h)
  | succ n ih =>
    intro a2 a3 a4 X ρ h
    have hK7 := @ih
    rw [hX2_joined_7] at h
    refine z_iload dX2_joined_7 rfl (z_const dX2_joined_9 (z_icmp_ge dX2_joined_11 (fun c1 => ?_) (fun c1 => ?_)))
    · have h := ziT h (c1)
      exact z_iload dX2_joined_91 rfl (z_iretQ dX2_joined_92 rfl (by cases h; rfl))
    · have h := ziF h (c1)
      exact z_iload dX2_joined_14 rfl (z_istore dX2_joined_15 (Nat.le_of_ble_eq_true rfl) (z_const dX2_joined_17 (z_istore dX2_joined_18 (Nat.le_of_ble_eq_true rfl) (z_mask [true, false, true, true, true, true, true, false] (sX2_joined_20 hw hK7 h)))))
def eX2_joined (F : Nat) (x0 x1 : Int32) (X : zX) : Option (Int32) := hX2_joined_7 F F x1 ((nI 1) <<< (x0 &&& 31)) (nI 1) X
set_option maxRecDepth 20000 in
set_option maxHeartbeats 4000000 in
theorem tX2_joined {μ : zM} {w : Nat} (hw : w < 3) {F : Nat} {x0 x1 : Int32} {X : zX} {ρ : Int32} (h : eX2_joined F x0 x1 X = some ρ) : LM mX2_joined 2 [zq (w + 4) 5, zi x0, zi x1] (zg μ (w + 4) X) (some (zi ρ)) (zg μ (w + 4) X) := by
  unfold eX2_joined at h
  refine LM.of (by decide +kernel) rfl (Nat.le_of_ble_eq_true rfl) ?_
  show zJ mX2_joined 2 (0, 0) (0, 0) _ 0 [some (zq (w + 4) 5), some (zi x0), some (zi x1), none, none, none, none, none] [] _
  exact z_const dX2_joined_0 (z_iload dX2_joined_1 rfl (z_ishl dX2_joined_2 (z_istore dX2_joined_3 (Nat.le_of_ble_eq_true rfl) (z_const dX2_joined_4 (z_istore dX2_joined_5 (Nat.le_of_ble_eq_true rfl) (z_mask [true, false, true, true, true, false, false, false] (sX2_joined_7 hw h)))))))
-- X4_adapt
def eX4_adapt (x0 x1 : Int32) (X : zX) : Option (zX) := zchk (zin x0 6) (zchk (zin x0 6) (zbd (eJ9_floorDiv_7cf53 (((nI 16) * x1) - (X 13 (zn x0))) (nI 4)) fun r4 => zchk (zin x0 6) (zchk (zin x0 6) (if ((zw X 13 (zn x0) ((X 13 (zn x0)) + r4)) 13 (zn x0)) ≤ (nI 32) then zchk (zin x0 6) (if (nI 20) ≤ ((zw X 13 (zn x0) ((X 13 (zn x0)) + r4)) 13 (zn x0)) then some (zw X 13 (zn x0) ((X 13 (zn x0)) + r4)) else zchk (zin x0 6) (zchk (zin x0 6) (zlet (zw (zw X 13 (zn x0) ((X 13 (zn x0)) + r4)) 11 (zn x0) (zmx ((X 11 (zn x0)) - (nI 1)) (nI 1))) fun X12 => zchk (zin x0 6) (zchk (zin x0 6) (zlet (zw X12 12 (zn x0) (zmx ((X 12 (zn x0)) - (nI 1)) (nI 2))) fun X15 => some X15))))) else zchk (zin x0 6) (zchk (zin x0 6) (zlet (zw (zw X 13 (zn x0) ((X 13 (zn x0)) + r4)) 11 (zn x0) (zmn ((X 11 (zn x0)) + (nI 1)) (nI 32))) fun X18 => zchk (zin x0 6) (zchk (zin x0 6) (zlet (zw X18 12 (zn x0) (zmn ((X 12 (zn x0)) + (nI 2)) (nI 32))) fun X21 => some X21))))))))
set_option maxRecDepth 20000 in
set_option maxHeartbeats 4000000 in
theorem tX4_adapt {μ : zM} {w : Nat} (hw : w < 3) {x0 x1 : Int32} {X : zX} {ρ : zX} (h : eX4_adapt x0 x1 X = some ρ) : LM mX4_adapt 2 [zq (w + 4) 3, zi x0, zi x1] (zg μ (w + 4) X) none (zg μ (w + 4) ρ) := by
  unfold eX4_adapt at h
  refine LM.of (by decide +kernel) rfl (Nat.le_of_ble_eq_true rfl) ?_
  show zJ mX4_adapt 2 (0, 0) (0, 0) _ 0 [some (zq (w + 4) 3), some (zi x0), some (zi x1)] [] _
  obtain ⟨s1, h⟩ := zchk_some h
  obtain ⟨s2, h⟩ := zchk_some h
  refine z_aload dX4_adapt_0 rfl (z_getR dX4_adapt_1 fkX4_35 (in_3 hw) sh_3 rfl (z_iload dX4_adapt_4 rfl (z_dup2 dX4_adapt_5 rfl rfl (z_iald dX4_adapt_6 (in_13 hw) sh_13 (zin_vp s1) (z_const dX4_adapt_7 (z_iload dX4_adapt_9 rfl (z_imul dX4_adapt_10 (z_aload dX4_adapt_11 rfl (z_getR dX4_adapt_12 fkX4_35 (in_3 hw) sh_3 rfl (z_iload dX4_adapt_15 rfl (z_iald dX4_adapt_16 (in_13 hw) sh_13 (zin_vp s2) ?_)))))))))))
  obtain ⟨r4, l3, h⟩ := zbd_some h
  obtain ⟨s5, h⟩ := zchk_some h
  obtain ⟨s6, h⟩ := zchk_some h
  refine z_isub dX4_adapt_17 (z_const dX4_adapt_18 (z_callS dX4_adapt_19 (tJ9_floorDiv_7cf53 l3) (Nat.le_of_ble_eq_true rfl) cdJ9_floorDiv_7cf53 naJ9_floorDiv_7cf53 lkX4_88 stJ9_floorDiv_7cf53 rfl rfl (Nat.le_of_ble_eq_true rfl) (z_iadd dX4_adapt_22 (z_iast dX4_adapt_23 (in_13 hw) sh_13 (zin_vp s5) (z_aload dX4_adapt_24 rfl (z_getR dX4_adapt_25 fkX4_35 (in_3 hw) sh_3 rfl (z_iload dX4_adapt_28 rfl (z_iald dX4_adapt_29 (in_13 hw) sh_13 (zin_vp s6) (z_const dX4_adapt_30 (z_icmp_le dX4_adapt_32 (fun c7 => ?_) (fun c7 => ?_)))))))))))
  · have h := ziT h (c7)
    obtain ⟨s8, h⟩ := zchk_some h
    refine z_aload dX4_adapt_76 rfl (z_getR dX4_adapt_77 fkX4_35 (in_3 hw) sh_3 rfl (z_iload dX4_adapt_80 rfl (z_iald dX4_adapt_81 (in_13 hw) sh_13 (zin_vp s8) (z_const dX4_adapt_82 (z_icmp_ge dX4_adapt_84 (fun c9 => ?_) (fun c9 => ?_))))))
    · have h := ziT h (c9)
      exact z_vretQ dX4_adapt_123 rfl (by cases h; rfl)
    · have h := ziF h (c9)
      obtain ⟨s10, h⟩ := zchk_some h
      obtain ⟨s11, h⟩ := zchk_some h
      have h := zlet_h h
      refine z_aload dX4_adapt_87 rfl (z_getR dX4_adapt_88 fkX4_29 (in_3 hw) sh_3 rfl (z_iload dX4_adapt_91 rfl (z_aload dX4_adapt_92 rfl (z_getR dX4_adapt_93 fkX4_29 (in_3 hw) sh_3 rfl (z_iload dX4_adapt_96 rfl (z_iald dX4_adapt_97 (in_11 hw) sh_11 (zin_vp s10) (z_const dX4_adapt_98 (z_isub dX4_adapt_99 (z_const dX4_adapt_100 (z_max dX4_adapt_101 lkX4_97 (Nat.le_of_ble_eq_true rfl) (Nat.le_of_ble_eq_true rfl) (z_iast dX4_adapt_104 (in_11 hw) sh_11 (zin_vp s11) ?_)))))))))))
      obtain ⟨s13, h⟩ := zchk_some h
      obtain ⟨s14, h⟩ := zchk_some h
      have h := zlet_h h
      refine z_aload dX4_adapt_105 rfl (z_getR dX4_adapt_106 fkX4_32 (in_3 hw) sh_3 rfl (z_iload dX4_adapt_109 rfl (z_aload dX4_adapt_110 rfl (z_getR dX4_adapt_111 fkX4_32 (in_3 hw) sh_3 rfl (z_iload dX4_adapt_114 rfl (z_iald dX4_adapt_115 (in_12 hw) sh_12 (zin_vp s13) (z_const dX4_adapt_116 (z_isub dX4_adapt_117 (z_const dX4_adapt_118 (z_max dX4_adapt_119 lkX4_97 (Nat.le_of_ble_eq_true rfl) (Nat.le_of_ble_eq_true rfl) (z_iast dX4_adapt_122 (in_12 hw) sh_12 (zin_vp s14) ?_)))))))))))
      exact z_vretQ dX4_adapt_123 rfl (by cases h; rfl)
  · have h := ziF h (c7)
    obtain ⟨s16, h⟩ := zchk_some h
    obtain ⟨s17, h⟩ := zchk_some h
    have h := zlet_h h
    refine z_aload dX4_adapt_35 rfl (z_getR dX4_adapt_36 fkX4_29 (in_3 hw) sh_3 rfl (z_iload dX4_adapt_39 rfl (z_aload dX4_adapt_40 rfl (z_getR dX4_adapt_41 fkX4_29 (in_3 hw) sh_3 rfl (z_iload dX4_adapt_44 rfl (z_iald dX4_adapt_45 (in_11 hw) sh_11 (zin_vp s16) (z_const dX4_adapt_46 (z_iadd dX4_adapt_47 (z_const dX4_adapt_48 (z_min dX4_adapt_50 lkX4_94 (Nat.le_of_ble_eq_true rfl) (Nat.le_of_ble_eq_true rfl) (z_iast dX4_adapt_53 (in_11 hw) sh_11 (zin_vp s17) ?_)))))))))))
    obtain ⟨s19, h⟩ := zchk_some h
    obtain ⟨s20, h⟩ := zchk_some h
    have h := zlet_h h
    refine z_aload dX4_adapt_54 rfl (z_getR dX4_adapt_55 fkX4_32 (in_3 hw) sh_3 rfl (z_iload dX4_adapt_58 rfl (z_aload dX4_adapt_59 rfl (z_getR dX4_adapt_60 fkX4_32 (in_3 hw) sh_3 rfl (z_iload dX4_adapt_63 rfl (z_iald dX4_adapt_64 (in_12 hw) sh_12 (zin_vp s19) (z_const dX4_adapt_65 (z_iadd dX4_adapt_66 (z_const dX4_adapt_67 (z_min dX4_adapt_69 lkX4_94 (Nat.le_of_ble_eq_true rfl) (Nat.le_of_ble_eq_true rfl) (z_iast dX4_adapt_72 (in_12 hw) sh_12 (zin_vp s20) ?_)))))))))))
    exact z_goto dX4_adapt_73 (z_vretQ dX4_adapt_123 rfl (by cases h; rfl))
-- X4_allRepairs
def eX4_allRepairs (F : Nat) (X : zX) : Option (Int32) := zbd (eX4_sumq15 F X) fun r2 => some r2
set_option maxRecDepth 20000 in
set_option maxHeartbeats 4000000 in
theorem tX4_allRepairs {μ : zM} {w : Nat} (hw : w < 3) {F : Nat} {X : zX} {ρ : Int32} (h : eX4_allRepairs F X = some ρ) : LM mX4_allRepairs 2 [zq (w + 4) 3] (zg μ (w + 4) X) (some (zi ρ)) (zg μ (w + 4) X) := by
  unfold eX4_allRepairs at h
  refine LM.of (by decide +kernel) rfl (Nat.le_of_ble_eq_true rfl) ?_
  show zJ mX4_allRepairs 2 (0, 0) (0, 0) _ 0 [some (zq (w + 4) 3)] [] _
  obtain ⟨r2, l1, h⟩ := zbd_some h
  exact z_aload dX4_allRepairs_0 rfl (z_aload dX4_allRepairs_1 rfl (z_getR dX4_allRepairs_2 fkX4_41 (in_3 hw) sh_3 rfl (z_callV dX4_allRepairs_5 (tX4_sumq15 hw l1) (Nat.le_of_ble_eq_true rfl) cdX4_sum naX4_sum lkX4_84 imX4_sum seX4_sum (in_3 hw) sh_3 rfl rfl rfl (Nat.le_of_ble_eq_true rfl) (z_iretQ dX4_allRepairs_8 rfl (by cases h; rfl)))))
-- X4_allRequests
def eX4_allRequests (F : Nat) (X : zX) : Option (Int32) := zbd (eX4_sumq14 F X) fun r2 => some r2
set_option maxRecDepth 20000 in
set_option maxHeartbeats 4000000 in
theorem tX4_allRequests {μ : zM} {w : Nat} (hw : w < 3) {F : Nat} {X : zX} {ρ : Int32} (h : eX4_allRequests F X = some ρ) : LM mX4_allRequests 2 [zq (w + 4) 3] (zg μ (w + 4) X) (some (zi ρ)) (zg μ (w + 4) X) := by
  unfold eX4_allRequests at h
  refine LM.of (by decide +kernel) rfl (Nat.le_of_ble_eq_true rfl) ?_
  show zJ mX4_allRequests 2 (0, 0) (0, 0) _ 0 [some (zq (w + 4) 3)] [] _
  obtain ⟨r2, l1, h⟩ := zbd_some h
  exact z_aload dX4_allRequests_0 rfl (z_aload dX4_allRequests_1 rfl (z_getR dX4_allRequests_2 fkX4_38 (in_3 hw) sh_3 rfl (z_callV dX4_allRequests_5 (tX4_sumq14 hw l1) (Nat.le_of_ble_eq_true rfl) cdX4_sum naX4_sum lkX4_84 imX4_sum seX4_sum (in_3 hw) sh_3 rfl rfl rfl (Nat.le_of_ble_eq_true rfl) (z_iretQ dX4_allRequests_8 rfl (by cases h; rfl)))))
-- X4_hasPacket
def eX4_hasPacket (x0 x1 : Int32) (X : zX) : Option (Int32) := zchk (zin x0 6) (some (zB ((((X 9 (zn x0)) >>> (x1 &&& 31)) &&& (nI 1)) = (nI 1))))
set_option maxRecDepth 20000 in
set_option maxHeartbeats 4000000 in
theorem tX4_hasPacket {μ : zM} {w : Nat} (hw : w < 3) {x0 x1 : Int32} {X : zX} {ρ : Int32} (h : eX4_hasPacket x0 x1 X = some ρ) : LM mX4_hasPacket 2 [zq (w + 4) 3, zi x0, zi x1] (zg μ (w + 4) X) (some (zi ρ)) (zg μ (w + 4) X) := by
  unfold eX4_hasPacket at h
  refine LM.of (by decide +kernel) rfl (Nat.le_of_ble_eq_true rfl) ?_
  show zJ mX4_hasPacket 2 (0, 0) (0, 0) _ 0 [some (zq (w + 4) 3), some (zi x0), some (zi x1)] [] _
  obtain ⟨s1, h⟩ := zchk_some h
  exact z_aload dX4_hasPacket_0 rfl (z_getR dX4_hasPacket_1 fkX4_18 (in_3 hw) sh_3 rfl (z_iload dX4_hasPacket_4 rfl (z_iald dX4_hasPacket_5 (in_9 hw) sh_9 (zin_vp s1) (z_iload dX4_hasPacket_6 rfl (z_callSN dX4_hasPacket_7 (tX11_isIn) (Nat.le_of_ble_eq_true rfl) cdX11_isIn naX11_isIn lkX4_69 stX11_isIn rfl rfl (Nat.le_of_ble_eq_true rfl) (z_zretQ dX4_hasPacket_10 rfl zB_nar (by cases h; rfl)))))))
-- X4_isUp
set_option maxRecDepth 20000 in
set_option maxHeartbeats 4000000 in
theorem tX4_isUp {μ : zM} {w : Nat} (hw : w < 3) {X : zX} {x0 : Int32} : LM mX4_isUp 2 [zq (w + 4) 3, zi x0] (zg μ (w + 4) X) (some (zi (zB ((((X 3 1) >>> (x0 &&& 31)) &&& (nI 1)) = (nI 1))))) (zg μ (w + 4) X) := by
  have h : (zB ((((X 3 1) >>> (x0 &&& 31)) &&& (nI 1)) = (nI 1))) = (zB ((((X 3 1) >>> (x0 &&& 31)) &&& (nI 1)) = (nI 1))) ∧ X = X := ⟨rfl, rfl⟩
  refine LM.of (by decide +kernel) rfl (Nat.le_of_ble_eq_true rfl) ?_
  show zJ mX4_isUp 2 (0, 0) (0, 0) _ 0 [some (zq (w + 4) 3), some (zi x0)] [] _
  exact z_aload dX4_isUp_0 rfl (z_getI dX4_isUp_1 fkX4_15 (in_3 hw) sh_3 rfl (z_iload dX4_isUp_4 rfl (z_callSN dX4_isUp_5 (tX11_isIn) (Nat.le_of_ble_eq_true rfl) cdX11_isIn naX11_isIn lkX4_69 stX11_isIn rfl rfl (Nat.le_of_ble_eq_true rfl) (z_zret1 dX4_isUp_8 rfl (zB_nar) h.1 h.2))))
-- X4_missing
def eX4_missing (x0 : Int32) (X : zX) : Option (Int32) := zchk (zin x0 6) (zchk (zin x0 6) (some ((((nI 1) <<< (((X 10 (zn x0)) + (nI 1)) &&& 31)) - (nI 1)) &&& ((X 9 (zn x0)) ^^^ (-1)))))
set_option maxRecDepth 20000 in
set_option maxHeartbeats 4000000 in
theorem tX4_missing {μ : zM} {w : Nat} (hw : w < 3) {x0 : Int32} {X : zX} {ρ : Int32} (h : eX4_missing x0 X = some ρ) : LM mX4_missing 2 [zq (w + 4) 3, zi x0] (zg μ (w + 4) X) (some (zi ρ)) (zg μ (w + 4) X) := by
  unfold eX4_missing at h
  refine LM.of (by decide +kernel) rfl (Nat.le_of_ble_eq_true rfl) ?_
  show zJ mX4_missing 2 (0, 0) (0, 0) _ 0 [some (zq (w + 4) 3), some (zi x0)] [] _
  obtain ⟨s1, h⟩ := zchk_some h
  obtain ⟨s2, h⟩ := zchk_some h
  refine z_aload dX4_missing_0 rfl (z_getR dX4_missing_1 fkX4_26 (in_3 hw) sh_3 rfl (z_iload dX4_missing_4 rfl (z_iald dX4_missing_5 (in_10 hw) sh_10 (zin_vp s1) (z_const dX4_missing_6 (z_iadd dX4_missing_7 (z_callSN dX4_missing_8 (tX11_bitsBelow) (Nat.le_of_ble_eq_true rfl) cdX11_bitsBelow naX11_bitsBelow lkX4_73 stX11_bitsBelow rfl rfl (Nat.le_of_ble_eq_true rfl) (z_aload dX4_missing_11 rfl (z_getR dX4_missing_12 fkX4_18 (in_3 hw) sh_3 rfl (z_iload dX4_missing_15 rfl (z_iald dX4_missing_16 (in_9 hw) sh_9 (zin_vp s2) (z_const dX4_missing_17 ?_)))))))))))
  exact z_ixor dX4_missing_18 (z_iand dX4_missing_19 (z_iretQ dX4_missing_20 rfl (by cases h; rfl)))
-- X5_dropAnswer
def eX5_dropAnswer (x0 : Int32) (X : zX) : Option (zX) := zbd (eX5_beginAnswer x0 (-1) (-1) (-1) X) fun y2 => some y2
set_option maxRecDepth 20000 in
set_option maxHeartbeats 4000000 in
theorem tX5_dropAnswer {μ : zM} {w : Nat} (hw : w < 3) {x0 : Int32} {X : zX} {ρ : zX} (h : eX5_dropAnswer x0 X = some ρ) : LM mX5_dropAnswer 2 [zq (w + 4) 4, zi x0] (zg μ (w + 4) X) none (zg μ (w + 4) ρ) := by
  unfold eX5_dropAnswer at h
  refine LM.of (by decide +kernel) rfl (Nat.le_of_ble_eq_true rfl) ?_
  show zJ mX5_dropAnswer 2 (0, 0) (0, 0) _ 0 [some (zq (w + 4) 4), some (zi x0)] [] _
  obtain ⟨y2, l1, h⟩ := zbd_some h
  exact z_aload dX5_dropAnswer_0 rfl (z_iload dX5_dropAnswer_1 rfl (z_const dX5_dropAnswer_2 (z_const dX5_dropAnswer_3 (z_const dX5_dropAnswer_4 (z_callV dX5_dropAnswer_5 (tX5_beginAnswer hw l1) (Nat.le_of_ble_eq_true rfl) cdX5_beginAnswer naX5_beginAnswer lkX5_65 imX5_beginAnswer seX5_beginAnswer (in_4 hw) sh_4 rfl rfl rfl (Nat.le_of_ble_eq_true rfl) (z_vretQ dX5_dropAnswer_8 rfl (by cases h; rfl)))))))
-- X2_bridges
def hX2_bridges_4 (F : Nat) : Nat → Int32 → Int32 → zX → Option (Int32)
  | 0, _, _, _ => none
  | n + 1, a1, a2, X => if (X 5 0) ≤ a2 then some a1 else if (((X 5 1) >>> (a2 &&& 31)) &&& (nI 1)) = (nI 1) then (hX2_bridges_4 F n) a1 (a2 + (nI 1)) X else zchk (zin a2 10) (zbd (eX2_joined F (X 34 (zn a2)) ((X 5 1) ||| ((nI 1) <<< (a2 &&& 31))) X) fun r5 => zchk (zin a2 10) (if ((r5 >>> ((X 35 (zn a2)) &&& 31)) &&& (nI 1)) = (nI 1) then (hX2_bridges_4 F n) a1 (a2 + (nI 1)) X else (hX2_bridges_4 F n) (a1 ||| ((nI 1) <<< (a2 &&& 31))) (a2 + (nI 1)) X))
set_option maxRecDepth 20000 in
set_option maxHeartbeats 4000000 in
theorem sX2_bridges_4 {μ : zM} {w : Nat} (hw : w < 3) {F : Nat} : ∀ {n : Nat} {a1 a2 : Int32} {X : zX} {ρ : Int32}, hX2_bridges_4 F n a1 a2 X = some ρ → zJ mX2_bridges 3 (0, 0) (0, 0) (zQ (some (zi ρ)) (zg μ (w + 4) X)) 4 [some (zq (w + 4) 5), some (zi a1), some (zi a2)] [] (zg μ (w + 4) X) := by
  intro n
  induction n with
  | zero => intro a1 a2 X ρ h; exact nomatch (show (none : Option _) = some ρ from h)
  | succ n ih =>
    intro a1 a2 X ρ h
    have hK4 := @ih
    rw [hX2_bridges_4] at h
    refine z_iload dX2_bridges_4 rfl (z_aload dX2_bridges_5 rfl (z_getI dX2_bridges_6 fkX2_9 (in_5 hw) sh_5 rfl (z_icmp_ge dX2_bridges_9 (fun c1 => ?_) (fun c1 => ?_))))
    · have h := ziT h (c1)
      exact z_iload dX2_bridges_62 rfl (z_iretQ dX2_bridges_63 rfl (by cases h; rfl))
    · have h := ziF h (c1)
      refine z_aload dX2_bridges_12 rfl (z_iload dX2_bridges_13 rfl (z_callV dX2_bridges_14 (tX2_isCut hw) (Nat.le_of_ble_eq_true rfl) cdX2_isCut naX2_isCut lkX2_48 imX2_isCut seX2_isCut (in_5 hw) sh_5 rfl rfl rfl (Nat.le_of_ble_eq_true rfl) (z_if_ne dX2_bridges_17 (fun c2 => ?_) (fun c2 => ?_))))
      · have h := ziT h (zB_n0.mp c2)
        exact z_iinc dX2_bridges_56 (Nat.le_of_ble_eq_true rfl) rfl (z_goto dX2_bridges_59 (z_mask [true, true, true] (hK4 h)))
      · have h := ziF h (zB_0.mp c2)
        obtain ⟨s3, h⟩ := zchk_some h
        obtain ⟨r5, l4, h⟩ := zbd_some h
        refine z_aload dX2_bridges_20 rfl (z_aload dX2_bridges_21 rfl (z_getR dX2_bridges_22 fkX2_18 (in_5 hw) sh_5 rfl (z_iload dX2_bridges_25 rfl (z_iald dX2_bridges_26 (in_34 hw) sh_34 (zin_vp s3) (z_aload dX2_bridges_27 rfl (z_getI dX2_bridges_28 fkX2_15 (in_5 hw) sh_5 rfl (z_const dX2_bridges_31 (z_iload dX2_bridges_32 rfl (z_ishl dX2_bridges_33 (z_ior dX2_bridges_34 (z_callV dX2_bridges_35 (tX2_joined hw l4) (Nat.le_of_ble_eq_true rfl) cdX2_joined naX2_joined lkX2_52 imX2_joined seX2_joined (in_5 hw) sh_5 rfl rfl rfl (Nat.le_of_ble_eq_true rfl) ?_)))))))))))
        obtain ⟨s6, h⟩ := zchk_some h
        refine z_aload dX2_bridges_38 rfl (z_getR dX2_bridges_39 fkX2_22 (in_5 hw) sh_5 rfl (z_iload dX2_bridges_42 rfl (z_iald dX2_bridges_43 (in_35 hw) sh_35 (zin_vp s6) (z_callSN dX2_bridges_44 (tX11_isIn) (Nat.le_of_ble_eq_true rfl) cdX11_isIn naX11_isIn lkX2_38 stX11_isIn rfl rfl (Nat.le_of_ble_eq_true rfl) (z_if_ne dX2_bridges_47 (fun c7 => ?_) (fun c7 => ?_))))))
        · have h := ziT h (zB_n0.mp c7)
          exact z_iinc dX2_bridges_56 (Nat.le_of_ble_eq_true rfl) rfl (z_goto dX2_bridges_59 (z_mask [true, true, true] (hK4 h)))
        · have h := ziF h (zB_0.mp c7)
          exact z_iload dX2_bridges_50 rfl (z_const dX2_bridges_51 (z_iload dX2_bridges_52 rfl (z_ishl dX2_bridges_53 (z_ior dX2_bridges_54 (z_istore dX2_bridges_55 (Nat.le_of_ble_eq_true rfl) (z_iinc dX2_bridges_56 (Nat.le_of_ble_eq_true rfl) rfl (z_goto dX2_bridges_59 (z_mask [true, true, true] (hK4 h)))))))))
def eX2_bridges (F : Nat) (X : zX) : Option (Int32) := hX2_bridges_4 F F (nI 0) (nI 0) X
set_option maxRecDepth 20000 in
set_option maxHeartbeats 4000000 in
theorem tX2_bridges {μ : zM} {w : Nat} (hw : w < 3) {F : Nat} {X : zX} {ρ : Int32} (h : eX2_bridges F X = some ρ) : LM mX2_bridges 3 [zq (w + 4) 5] (zg μ (w + 4) X) (some (zi ρ)) (zg μ (w + 4) X) := by
  unfold eX2_bridges at h
  refine LM.of (by decide +kernel) rfl (Nat.le_of_ble_eq_true rfl) ?_
  show zJ mX2_bridges 3 (0, 0) (0, 0) _ 0 [some (zq (w + 4) 5), none, none] [] _
  exact z_const dX2_bridges_0 (z_istore dX2_bridges_1 (Nat.le_of_ble_eq_true rfl) (z_const dX2_bridges_2 (z_istore dX2_bridges_3 (Nat.le_of_ble_eq_true rfl) (z_mask [true, true, true] (sX2_bridges_4 hw h)))))
-- X2_fewestAround
def jX2_fewestAround_69 (F : Nat) (K33 : Int32 → Int32 → Int32 → Int32 → Int32 → zX → Option (Int32)) (a1 a2 a3 a4 a5 b0 : Int32) (X : zX) : Option (Int32) := if b0 = 0 then K33 a1 a2 a3 a4 (a5 + (nI 1)) X else zbd (eX2_joined F a1 ((X 5 1) ||| a5) X) fun r3 => if (r3 &&& a2) = 0 then zbd (eJ6_bitCount_0f7a4 a5) fun r6 => K33 a1 a2 a5 r6 (a5 + (nI 1)) X else K33 a1 a2 a3 a4 (a5 + (nI 1)) X
set_option maxRecDepth 20000 in
set_option maxHeartbeats 4000000 in
theorem sX2_fewestAround_69 {μ : zM} {w : Nat} (hw : w < 3) {F : Nat} {K33 : Int32 → Int32 → Int32 → Int32 → Int32 → zX → Option (Int32)} (hK33 : ∀ {xa1 xa2 xa3 xa4 xa5 : Int32} {xX : zX} {ρ : Int32}, K33 xa1 xa2 xa3 xa4 xa5 xX = some ρ → zJ mX2_fewestAround 3 (0, 0) (0, 0) (zQ (some (zi ρ)) (zg μ (w + 4) xX)) 33 [some (zq (w + 4) 5), some (zi xa1), some (zi xa2), some (zi xa3), some (zi xa4), some (zi xa5), none] [] (zg μ (w + 4) xX)) {a1 a2 a3 a4 a5 b0 : Int32} {X : zX} {ρ : Int32} (h : jX2_fewestAround_69 F K33 a1 a2 a3 a4 a5 b0 X = some ρ) : zJ mX2_fewestAround 3 (0, 0) (0, 0) (zQ (some (zi ρ)) (zg μ (w + 4) X)) 69 [some (zq (w + 4) 5), some (zi a1), some (zi a2), some (zi a3), some (zi a4), some (zi a5), none] [zi b0] (zg μ (w + 4) X) := by
  unfold jX2_fewestAround_69 at h
  refine z_istore dX2_fewestAround_69 (Nat.le_of_ble_eq_true rfl) (z_iload dX2_fewestAround_71 rfl (z_if_eq dX2_fewestAround_73 (fun c1 => ?_) (fun c1 => ?_)))
  · have h := ziT h (c1)
    exact z_iinc dX2_fewestAround_103 (Nat.le_of_ble_eq_true rfl) rfl (z_goto dX2_fewestAround_106 (z_mask [true, true, true, true, true, true, false] (hK33 h)))
  · have h := ziF h (c1)
    obtain ⟨r3, l2, h⟩ := zbd_some h
    refine z_aload dX2_fewestAround_76 rfl (z_iload dX2_fewestAround_77 rfl (z_aload dX2_fewestAround_78 rfl (z_getI dX2_fewestAround_79 fkX2_15 (in_5 hw) sh_5 rfl (z_iload dX2_fewestAround_82 rfl (z_ior dX2_fewestAround_84 (z_callV dX2_fewestAround_85 (tX2_joined hw l2) (Nat.le_of_ble_eq_true rfl) cdX2_joined naX2_joined lkX2_52 imX2_joined seX2_joined (in_5 hw) sh_5 rfl rfl rfl (Nat.le_of_ble_eq_true rfl) (z_iload dX2_fewestAround_88 rfl (z_iand dX2_fewestAround_89 (z_if_ne dX2_fewestAround_90 (fun c4 => ?_) (fun c4 => ?_))))))))))
    · have h := ziF h (c4)
      exact z_iinc dX2_fewestAround_103 (Nat.le_of_ble_eq_true rfl) rfl (z_goto dX2_fewestAround_106 (z_mask [true, true, true, true, true, true, false] (hK33 h)))
    · have h := ziT h (c4)
      obtain ⟨r6, l5, h⟩ := zbd_some h
      exact z_iload dX2_fewestAround_93 rfl (z_istore dX2_fewestAround_95 (Nat.le_of_ble_eq_true rfl) (z_iload dX2_fewestAround_96 rfl (z_callS dX2_fewestAround_98 (tJ6_bitCount_0f7a4 l5) (Nat.le_of_ble_eq_true rfl) cdJ6_bitCount_0f7a4 naJ6_bitCount_0f7a4 lkX2_55 stJ6_bitCount_0f7a4 rfl rfl (Nat.le_of_ble_eq_true rfl) (z_istore dX2_fewestAround_101 (Nat.le_of_ble_eq_true rfl) (z_iinc dX2_fewestAround_103 (Nat.le_of_ble_eq_true rfl) rfl (z_goto dX2_fewestAround_106 (z_mask [true, true, true, true, true, true, false] (hK33 h))))))))
def jX2_fewestAround_68 (F : Nat) (K33 : Int32 → Int32 → Int32 → Int32 → Int32 → zX → Option (Int32)) (a1 a2 a3 a4 a5 : Int32) (X : zX) : Option (Int32) := jX2_fewestAround_69 F K33 a1 a2 a3 a4 a5 (nI 0) X
set_option maxRecDepth 20000 in
set_option maxHeartbeats 4000000 in
theorem sX2_fewestAround_68 {μ : zM} {w : Nat} (hw : w < 3) {F : Nat} {K33 : Int32 → Int32 → Int32 → Int32 → Int32 → zX → Option (Int32)} (hK33 : ∀ {xa1 xa2 xa3 xa4 xa5 : Int32} {xX : zX} {ρ : Int32}, K33 xa1 xa2 xa3 xa4 xa5 xX = some ρ → zJ mX2_fewestAround 3 (0, 0) (0, 0) (zQ (some (zi ρ)) (zg μ (w + 4) xX)) 33 [some (zq (w + 4) 5), some (zi xa1), some (zi xa2), some (zi xa3), some (zi xa4), some (zi xa5), none] [] (zg μ (w + 4) xX)) {a1 a2 a3 a4 a5 : Int32} {X : zX} {ρ : Int32} (h : jX2_fewestAround_68 F K33 a1 a2 a3 a4 a5 X = some ρ) : zJ mX2_fewestAround 3 (0, 0) (0, 0) (zQ (some (zi ρ)) (zg μ (w + 4) X)) 68 [some (zq (w + 4) 5), some (zi a1), some (zi a2), some (zi a3), some (zi a4), some (zi a5), none] [] (zg μ (w + 4) X) := by
  unfold jX2_fewestAround_68 at h
  exact z_const dX2_fewestAround_68 (z_mask [true, true, true, true, true, true, false] (sX2_fewestAround_69 hw hK33 h))
def hX2_fewestAround_33 (F : Nat) : Nat → Int32 → Int32 → Int32 → Int32 → Int32 → zX → Option (Int32)
  | 0, _, _, _, _, _, _ => none
  | n + 1, a1, a2, a3, a4, a5, X => if ((nI 1) <<< ((X 5 0) &&& 31)) ≤ a5 then some a3 else if (a5 &&& (X 5 1)) = 0 then zbd (eJ6_bitCount_0f7a4 a5) fun r4 => if a4 ≤ r4 then jX2_fewestAround_68 F (hX2_fewestAround_33 F n) a1 a2 a3 a4 a5 X else jX2_fewestAround_69 F (hX2_fewestAround_33 F n) a1 a2 a3 a4 a5 (nI 1) X else jX2_fewestAround_68 F (hX2_fewestAround_33 F n) a1 a2 a3 a4 a5 X
set_option maxRecDepth 20000 in
set_option maxHeartbeats 4000000 in
theorem sX2_fewestAround_33 {μ : zM} {w : Nat} (hw : w < 3) {F : Nat} : ∀ {n : Nat} {a1 a2 a3 a4 a5 : Int32} {X : zX} {ρ : Int32}, hX2_fewestAround_33 F n a1 a2 a3 a4 a5 X = some ρ → zJ mX2_fewestAround 3 (0, 0) (0, 0) (zQ (some (zi ρ)) (zg μ (w + 4) X)) 33 [some (zq (w + 4) 5), some (zi a1), some (zi a2), some (zi a3), some (zi a4), some (zi a5), none] [] (zg μ (w + 4) X) := by
  intro n
  induction n with
  | zero => intro a1 a2 a3 a4 a5 X ρ h; exact nomatch (show (none : Option _) = some ρ from h)
  | succ n ih =>
    intro a1 a2 a3 a4 a5 X ρ h
    have hK33 := @ih
    rw [hX2_fewestAround_33] at h
    refine z_iload dX2_fewestAround_33 rfl (z_const dX2_fewestAround_35 (z_aload dX2_fewestAround_36 rfl (z_getI dX2_fewestAround_37 fkX2_9 (in_5 hw) sh_5 rfl (z_ishl dX2_fewestAround_40 (z_icmp_ge dX2_fewestAround_41 (fun c1 => ?_) (fun c1 => ?_))))))
    · have h := ziT h (c1)
      exact z_iload dX2_fewestAround_109 rfl (z_iretQ dX2_fewestAround_110 rfl (by cases h; rfl))
    · have h := ziF h (c1)
      refine z_iload dX2_fewestAround_44 rfl (z_aload dX2_fewestAround_46 rfl (z_getI dX2_fewestAround_47 fkX2_15 (in_5 hw) sh_5 rfl (z_iand dX2_fewestAround_50 (z_if_ne dX2_fewestAround_51 (fun c2 => ?_) (fun c2 => ?_)))))
      · have h := ziF h (c2)
        exact z_mask [true, true, true, true, true, true, false] (sX2_fewestAround_68 hw hK33 h)
      · have h := ziT h (c2)
        obtain ⟨r4, l3, h⟩ := zbd_some h
        refine z_iload dX2_fewestAround_54 rfl (z_callS dX2_fewestAround_56 (tJ6_bitCount_0f7a4 l3) (Nat.le_of_ble_eq_true rfl) cdJ6_bitCount_0f7a4 naJ6_bitCount_0f7a4 lkX2_55 stJ6_bitCount_0f7a4 rfl rfl (Nat.le_of_ble_eq_true rfl) (z_iload dX2_fewestAround_59 rfl (z_icmp_ge dX2_fewestAround_61 (fun c5 => ?_) (fun c5 => ?_))))
        · have h := ziT h (c5)
          exact z_mask [true, true, true, true, true, true, false] (sX2_fewestAround_68 hw hK33 h)
        · have h := ziF h (c5)
          exact z_const dX2_fewestAround_64 (z_goto dX2_fewestAround_65 (z_mask [true, true, true, true, true, true, false] (sX2_fewestAround_69 hw hK33 h)))
def eX2_fewestAround (F : Nat) (x0 x1 : Int32) (X : zX) : Option (Int32) := zbd (eX2_joined F x0 (X 5 1) X) fun r2 => if (r2 &&& x1) = 0 then some (-1) else if ((x1 >>> (x0 &&& 31)) &&& (nI 1)) = (nI 1) then some (-1) else hX2_fewestAround_33 F F x0 x1 (-1) (nI 11) (nI 1) X
set_option maxRecDepth 20000 in
set_option maxHeartbeats 4000000 in
theorem tX2_fewestAround {μ : zM} {w : Nat} (hw : w < 3) {F : Nat} {x0 x1 : Int32} {X : zX} {ρ : Int32} (h : eX2_fewestAround F x0 x1 X = some ρ) : LM mX2_fewestAround 3 [zq (w + 4) 5, zi x0, zi x1] (zg μ (w + 4) X) (some (zi ρ)) (zg μ (w + 4) X) := by
  unfold eX2_fewestAround at h
  refine LM.of (by decide +kernel) rfl (Nat.le_of_ble_eq_true rfl) ?_
  show zJ mX2_fewestAround 3 (0, 0) (0, 0) _ 0 [some (zq (w + 4) 5), some (zi x0), some (zi x1), none, none, none, none] [] _
  obtain ⟨r2, l1, h⟩ := zbd_some h
  refine z_aload dX2_fewestAround_0 rfl (z_iload dX2_fewestAround_1 rfl (z_aload dX2_fewestAround_2 rfl (z_getI dX2_fewestAround_3 fkX2_15 (in_5 hw) sh_5 rfl (z_callV dX2_fewestAround_6 (tX2_joined hw l1) (Nat.le_of_ble_eq_true rfl) cdX2_joined naX2_joined lkX2_52 imX2_joined seX2_joined (in_5 hw) sh_5 rfl rfl rfl (Nat.le_of_ble_eq_true rfl) (z_iload dX2_fewestAround_9 rfl (z_iand dX2_fewestAround_10 (z_if_eq dX2_fewestAround_11 (fun c3 => ?_) (fun c3 => ?_))))))))
  · have h := ziT h (c3)
    exact z_const dX2_fewestAround_22 (z_iretQ dX2_fewestAround_23 rfl (by cases h; rfl))
  · have h := ziF h (c3)
    refine z_iload dX2_fewestAround_14 rfl (z_iload dX2_fewestAround_15 rfl (z_callSN dX2_fewestAround_16 (tX11_isIn) (Nat.le_of_ble_eq_true rfl) cdX11_isIn naX11_isIn lkX2_38 stX11_isIn rfl rfl (Nat.le_of_ble_eq_true rfl) (z_if_eq dX2_fewestAround_19 (fun c4 => ?_) (fun c4 => ?_))))
    · have h := ziF h (zB_0.mp c4)
      exact z_const dX2_fewestAround_24 (z_istore dX2_fewestAround_25 (Nat.le_of_ble_eq_true rfl) (z_const dX2_fewestAround_26 (z_istore dX2_fewestAround_28 (Nat.le_of_ble_eq_true rfl) (z_const dX2_fewestAround_30 (z_istore dX2_fewestAround_31 (Nat.le_of_ble_eq_true rfl) (z_mask [true, true, true, true, true, true, false] (sX2_fewestAround_33 hw h)))))))
    · have h := ziT h (zB_n0.mp c4)
      exact z_const dX2_fewestAround_22 (z_iretQ dX2_fewestAround_23 rfl (by cases h; rfl))
-- X4_holdersOf
def jX4_holdersOf_37 (F : Nat) (K4 : Int32 → Int32 → Int32 → zX → Option (Int32)) (a1 a3 b0 b1 : Int32) (X : zX) : Option (Int32) := K4 a1 (b1 ||| b0) (a3 + (nI 1)) X
set_option maxRecDepth 20000 in
set_option maxHeartbeats 4000000 in
theorem sX4_holdersOf_37 {μ : zM} {w : Nat} (hw : w < 3) {F : Nat} {K4 : Int32 → Int32 → Int32 → zX → Option (Int32)} (hK4 : ∀ {xa1 xa2 xa3 : Int32} {xX : zX} {ρ : Int32}, K4 xa1 xa2 xa3 xX = some ρ → zJ mX4_holdersOf 3 (0, 0) (0, 0) (zQ (some (zi ρ)) (zg μ (w + 4) xX)) 4 [some (zq (w + 4) 3), some (zi xa1), some (zi xa2), some (zi xa3)] [] (zg μ (w + 4) xX)) {a1 a3 b0 b1 : Int32} {X : zX} {ρ : Int32} (h : jX4_holdersOf_37 F K4 a1 a3 b0 b1 X = some ρ) : zJ mX4_holdersOf 3 (0, 0) (0, 0) (zQ (some (zi ρ)) (zg μ (w + 4) X)) 37 [some (zq (w + 4) 3), some (zi a1), none, some (zi a3)] [zi b0, zi b1] (zg μ (w + 4) X) := by
  unfold jX4_holdersOf_37 at h
  exact z_ior dX4_holdersOf_37 (z_istore dX4_holdersOf_38 (Nat.le_of_ble_eq_true rfl) (z_iinc dX4_holdersOf_39 (Nat.le_of_ble_eq_true rfl) rfl (z_goto dX4_holdersOf_42 (z_mask [true, true, true, true] (hK4 h)))))
def jX4_holdersOf_36 (F : Nat) (K4 : Int32 → Int32 → Int32 → zX → Option (Int32)) (a1 a3 b0 : Int32) (X : zX) : Option (Int32) := jX4_holdersOf_37 F K4 a1 a3 (nI 0) b0 X
set_option maxRecDepth 20000 in
set_option maxHeartbeats 4000000 in
theorem sX4_holdersOf_36 {μ : zM} {w : Nat} (hw : w < 3) {F : Nat} {K4 : Int32 → Int32 → Int32 → zX → Option (Int32)} (hK4 : ∀ {xa1 xa2 xa3 : Int32} {xX : zX} {ρ : Int32}, K4 xa1 xa2 xa3 xX = some ρ → zJ mX4_holdersOf 3 (0, 0) (0, 0) (zQ (some (zi ρ)) (zg μ (w + 4) xX)) 4 [some (zq (w + 4) 3), some (zi xa1), some (zi xa2), some (zi xa3)] [] (zg μ (w + 4) xX)) {a1 a3 b0 : Int32} {X : zX} {ρ : Int32} (h : jX4_holdersOf_36 F K4 a1 a3 b0 X = some ρ) : zJ mX4_holdersOf 3 (0, 0) (0, 0) (zQ (some (zi ρ)) (zg μ (w + 4) X)) 36 [some (zq (w + 4) 3), some (zi a1), none, some (zi a3)] [zi b0] (zg μ (w + 4) X) := by
  unfold jX4_holdersOf_36 at h
  exact z_const dX4_holdersOf_36 (z_mask [true, true, false, true] (sX4_holdersOf_37 hw hK4 h))
def hX4_holdersOf_4 (F : Nat) : Nat → Int32 → Int32 → Int32 → zX → Option (Int32)
  | 0, _, _, _, _ => none
  | n + 1, a1, a2, a3, X => if (X 3 0) ≤ a3 then some a2 else if (((X 3 1) >>> (a3 &&& 31)) &&& (nI 1)) = (nI 1) then zbd (eX4_hasPacket a3 a1 X) fun r4 => if r4 = 0 then jX4_holdersOf_36 F (hX4_holdersOf_4 F n) a1 a3 a2 X else jX4_holdersOf_37 F (hX4_holdersOf_4 F n) a1 a3 ((nI 1) <<< (a3 &&& 31)) a2 X else jX4_holdersOf_36 F (hX4_holdersOf_4 F n) a1 a3 a2 X
set_option maxRecDepth 20000 in
set_option maxHeartbeats 4000000 in
theorem sX4_holdersOf_4 {μ : zM} {w : Nat} (hw : w < 3) {F : Nat} : ∀ {n : Nat} {a1 a2 a3 : Int32} {X : zX} {ρ : Int32}, hX4_holdersOf_4 F n a1 a2 a3 X = some ρ → zJ mX4_holdersOf 3 (0, 0) (0, 0) (zQ (some (zi ρ)) (zg μ (w + 4) X)) 4 [some (zq (w + 4) 3), some (zi a1), some (zi a2), some (zi a3)] [] (zg μ (w + 4) X) := by
  intro n
  induction n with
  | zero => intro a1 a2 a3 X ρ h; exact nomatch (show (none : Option _) = some ρ from h)
  | succ n ih =>
    intro a1 a2 a3 X ρ h
    have hK4 := @ih
    rw [hX4_holdersOf_4] at h
    refine z_iload dX4_holdersOf_4 rfl (z_aload dX4_holdersOf_5 rfl (z_getI dX4_holdersOf_6 fkX4_9 (in_3 hw) sh_3 rfl (z_icmp_ge dX4_holdersOf_9 (fun c1 => ?_) (fun c1 => ?_))))
    · have h := ziT h (c1)
      exact z_iload dX4_holdersOf_45 rfl (z_iretQ dX4_holdersOf_46 rfl (by cases h; rfl))
    · have h := ziF h (c1)
      refine z_iload dX4_holdersOf_12 rfl (z_aload dX4_holdersOf_13 rfl (z_iload dX4_holdersOf_14 rfl (z_callV dX4_holdersOf_15 (tX4_isUp hw) (Nat.le_of_ble_eq_true rfl) cdX4_isUp naX4_isUp lkX4_77 imX4_isUp seX4_isUp (in_3 hw) sh_3 rfl rfl rfl (Nat.le_of_ble_eq_true rfl) (z_if_eq dX4_holdersOf_18 (fun c2 => ?_) (fun c2 => ?_)))))
      · have h := ziF h (zB_0.mp c2)
        exact z_mask [true, true, false, true] (sX4_holdersOf_36 hw hK4 h)
      · have h := ziT h (zB_n0.mp c2)
        obtain ⟨r4, l3, h⟩ := zbd_some h
        refine z_aload dX4_holdersOf_21 rfl (z_iload dX4_holdersOf_22 rfl (z_iload dX4_holdersOf_23 rfl (z_callV dX4_holdersOf_24 (tX4_hasPacket hw l3) (Nat.le_of_ble_eq_true rfl) cdX4_hasPacket naX4_hasPacket lkX4_81 imX4_hasPacket seX4_hasPacket (in_3 hw) sh_3 rfl rfl rfl (Nat.le_of_ble_eq_true rfl) (z_if_eq dX4_holdersOf_27 (fun c5 => ?_) (fun c5 => ?_)))))
        · have h := ziT h (c5)
          exact z_mask [true, true, false, true] (sX4_holdersOf_36 hw hK4 h)
        · have h := ziF h (c5)
          exact z_const dX4_holdersOf_30 (z_iload dX4_holdersOf_31 rfl (z_ishl dX4_holdersOf_32 (z_goto dX4_holdersOf_33 (z_mask [true, true, false, true] (sX4_holdersOf_37 hw hK4 h)))))
def eX4_holdersOf (F : Nat) (x0 : Int32) (X : zX) : Option (Int32) := hX4_holdersOf_4 F F x0 (nI 0) (nI 0) X
set_option maxRecDepth 20000 in
set_option maxHeartbeats 4000000 in
theorem tX4_holdersOf {μ : zM} {w : Nat} (hw : w < 3) {F : Nat} {x0 : Int32} {X : zX} {ρ : Int32} (h : eX4_holdersOf F x0 X = some ρ) : LM mX4_holdersOf 3 [zq (w + 4) 3, zi x0] (zg μ (w + 4) X) (some (zi ρ)) (zg μ (w + 4) X) := by
  unfold eX4_holdersOf at h
  refine LM.of (by decide +kernel) rfl (Nat.le_of_ble_eq_true rfl) ?_
  show zJ mX4_holdersOf 3 (0, 0) (0, 0) _ 0 [some (zq (w + 4) 3), some (zi x0), none, none] [] _
  exact z_const dX4_holdersOf_0 (z_istore dX4_holdersOf_1 (Nat.le_of_ble_eq_true rfl) (z_const dX4_holdersOf_2 (z_istore dX4_holdersOf_3 (Nat.le_of_ble_eq_true rfl) (z_mask [true, true, true, true] (sX4_holdersOf_4 hw h)))))
