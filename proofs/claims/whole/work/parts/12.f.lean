-- X6_fail
def eX6_fail (X : zX) : Option (Int32 × zX) := some ((nI 0), zw X 3 3 (X 3 2))
set_option maxRecDepth 20000 in
set_option maxHeartbeats 4000000 in
theorem tX6_fail {μ : zM} {X : zX} {ρ : Int32 × zX} (h : eX6_fail X = some ρ) : LM mX6_fail 1 [zq 0 3] (zg μ 0 X) (some (zi ρ.1)) (zg μ 0 ρ.2) := by
  unfold eX6_fail at h
  refine LM.of (by decide +kernel) rfl (Nat.le_of_ble_eq_true rfl) ?_
  show zJ mX6_fail 1 (0, 0) (0, 0) _ 0 [some (zq 0 3)] [] _
  exact z_aload dX6_fail_0 rfl (z_aload dX6_fail_1 rfl (z_getI dX6_fail_2 fkX6_19 in0_3 sh0_3 rfl (z_putI dX6_fail_5 fkX6_22 in0_3 sh0_3 rfl (fun _ _ _ h => by cases h; rfl) ⟨_, rfl, rfl, rfl⟩ (z_const dX6_fail_8 (z_zretQ dX6_fail_9 rfl rfl (by cases h; rfl))))))
-- X7_byteAt
def eX7_byteAt (x0 : Int32) (X : zX) : Option (Int32) := if x0 < 0 then some (-1) else if (X 1 1) ≤ x0 then some (-1) else zchk (zin x0 400) (some ((X 2 (zn x0)) &&& (nI 255)))
set_option maxRecDepth 20000 in
set_option maxHeartbeats 4000000 in
theorem tX7_byteAt {μ : zM} {x0 : Int32} {X : zX} {ρ : Int32} (h : eX7_byteAt x0 X = some ρ) : LM mX7_byteAt 1 [zq 0 1, zi x0] (zg μ 0 X) (some (zi ρ)) (zg μ 0 X) := by
  unfold eX7_byteAt at h
  refine LM.of (by decide +kernel) rfl (Nat.le_of_ble_eq_true rfl) ?_
  show zJ mX7_byteAt 1 (0, 0) (0, 0) _ 0 [some (zq 0 1), some (zi x0)] [] _
  refine z_iload dX7_byteAt_0 rfl (z_if_lt dX7_byteAt_1 (fun c1 => ?_) (fun c1 => ?_))
  · have h := ziT h (c1)
    exact z_const dX7_byteAt_25 (z_iretQ dX7_byteAt_26 rfl (by cases h; rfl))
  · have h := ziF h (c1)
    refine z_iload dX7_byteAt_4 rfl (z_aload dX7_byteAt_5 rfl (z_getI dX7_byteAt_6 fkX7_15 in0_1 sh0_1 rfl (z_icmp_ge dX7_byteAt_9 (fun c2 => ?_) (fun c2 => ?_))))
    · have h := ziT h (c2)
      exact z_const dX7_byteAt_25 (z_iretQ dX7_byteAt_26 rfl (by cases h; rfl))
    · have h := ziF h (c2)
      obtain ⟨s3, h⟩ := zchk_some h
      exact z_aload dX7_byteAt_12 rfl (z_getR dX7_byteAt_13 fkX7_9 in0_1 sh0_1 rfl (z_iload dX7_byteAt_16 rfl (z_bald dX7_byteAt_17 in0_2 sh0_2 (zin_vp s3) (z_const dX7_byteAt_18 (z_iand dX7_byteAt_21 (z_goto dX7_byteAt_22 (z_iretQ dX7_byteAt_26 rfl (by cases h; rfl))))))))
-- X7_hasRoom
set_option maxRecDepth 20000 in
set_option maxHeartbeats 4000000 in
theorem tX7_hasRoom {μ : zM} {X : zX} : LM mX7_hasRoom 1 [zq 0 1] (zg μ 0 X) (some (zi (zB (¬ ((nI 400) < ((X 1 1) + (nI 20))))))) (zg μ 0 X) := by
  have h : ((nI 400) < ((X 1 1) + (nI 20)) → (nI 0) = (zB (¬ ((nI 400) < ((X 1 1) + (nI 20))))) ∧ X = X) ∧ (¬ ((nI 400) < ((X 1 1) + (nI 20))) → (nI 1) = (zB (¬ ((nI 400) < ((X 1 1) + (nI 20))))) ∧ X = X) := ⟨fun c1 => ⟨(zB_f (fun z => z c1)).symm, rfl⟩, fun c1 => ⟨(zB_t c1).symm, rfl⟩⟩
  refine LM.of (by decide +kernel) rfl (Nat.le_of_ble_eq_true rfl) ?_
  show zJ mX7_hasRoom 1 (0, 0) (0, 0) _ 0 [some (zq 0 1)] [] _
  refine z_aload dX7_hasRoom_0 rfl (z_getI dX7_hasRoom_1 fkX7_15 in0_1 sh0_1 rfl (z_const dX7_hasRoom_4 (z_iadd dX7_hasRoom_6 (z_const dX7_hasRoom_7 (z_icmp_gt dX7_hasRoom_10 (fun c1 => ?_) (fun c1 => ?_))))))
  · have h := h.1 (c1)
    exact z_const dX7_hasRoom_17 (z_zret1 dX7_hasRoom_18 rfl rfl h.1 h.2)
  · have h := h.2 (c1)
    exact z_const dX7_hasRoom_13 (z_goto dX7_hasRoom_14 (z_zret1 dX7_hasRoom_18 rfl rfl h.1 h.2))
-- X7_put
def hX7_put_3 (F : Nat) : Nat → Int32 → Int32 → zX → Option (zX)
  | 0, _, _, _ => none
  | n + 1, a1, a2, X => if a2 < 0 then some X else if (nI 400) ≤ (X 1 1) then some X else zchk (zin (X 1 1) 400) (zlet (zw X 2 (zn (X 1 1)) (vp_nar .byte ((zush a1 a2).toInt8.toInt32))) fun X4 => (hX7_put_3 F n) a1 (a2 + (-8)) (zw X4 1 1 ((X 1 1) + (nI 1))))
set_option maxRecDepth 20000 in
set_option maxHeartbeats 4000000 in
theorem sX7_put_3 {μ : zM} {F : Nat} : ∀ {n : Nat} {a1 a2 : Int32} {X : zX} {ρ : zX}, hX7_put_3 F n a1 a2 X = some ρ → zJ mX7_put 1 (0, 0) (0, 0) (zQ none (zg μ 0 ρ)) 3 [some (zq 0 1), some (zi a1), some (zi a2)] [] (zg μ 0 X) := by
  intro n
  induction n with
  | zero => intro a1 a2 X ρ h; exact nomatch (show (none : Option _) = some ρ from h)
  | succ n ih =>
    intro a1 a2 X ρ h
    have hK3 := @ih
    rw [hX7_put_3] at h
    refine z_iload dX7_put_3 rfl (z_if_lt dX7_put_4 (fun c1 => ?_) (fun c1 => ?_))
    · have h := ziT h (c1)
      exact z_vretQ dX7_put_46 rfl (by cases h; rfl)
    · have h := ziF h (c1)
      refine z_aload dX7_put_7 rfl (z_getI dX7_put_8 fkX7_15 in0_1 sh0_1 rfl (z_const dX7_put_11 (z_icmp_ge dX7_put_14 (fun c2 => ?_) (fun c2 => ?_))))
      · have h := ziT h (c2)
        exact z_vretQ dX7_put_46 rfl (by cases h; rfl)
      · have h := ziF h (c2)
        obtain ⟨s3, h⟩ := zchk_some h
        have h := zlet_h h
        refine z_aload dX7_put_17 rfl (z_getR dX7_put_18 fkX7_9 in0_1 sh0_1 rfl (z_aload dX7_put_21 rfl (z_getI dX7_put_22 fkX7_15 in0_1 sh0_1 rfl (z_iload dX7_put_25 rfl (z_iload dX7_put_26 rfl (z_iushr dX7_put_27 (z_i2b dX7_put_28 (z_bast dX7_put_29 in0_2 sh0_2 (zin_vp s3) (z_aload dX7_put_30 rfl (z_dup dX7_put_31 rfl (z_getI dX7_put_32 fkX7_15 in0_1 sh0_1 rfl ?_)))))))))))
        exact z_const dX7_put_35 (z_iadd dX7_put_36 (z_putI dX7_put_37 fkX7_15 in0_1 sh0_1 rfl (fun _ _ _ h => by cases h; rfl) ⟨_, rfl, rfl, rfl⟩ (z_iinc dX7_put_40 (Nat.le_of_ble_eq_true rfl) rfl (z_goto dX7_put_43 (z_mask [true, true, true] (hK3 h))))))
def eX7_put (F : Nat) (x0 : Int32) (X : zX) : Option (zX) := hX7_put_3 F F x0 (nI 24) X
set_option maxRecDepth 20000 in
set_option maxHeartbeats 4000000 in
theorem tX7_put {μ : zM} {F : Nat} {x0 : Int32} {X : zX} {ρ : zX} (h : eX7_put F x0 X = some ρ) : LM mX7_put 1 [zq 0 1, zi x0] (zg μ 0 X) none (zg μ 0 ρ) := by
  unfold eX7_put at h
  refine LM.of (by decide +kernel) rfl (Nat.le_of_ble_eq_true rfl) ?_
  show zJ mX7_put 1 (0, 0) (0, 0) _ 0 [some (zq 0 1), some (zi x0), none] [] _
  exact z_const dX7_put_0 (z_istore dX7_put_2 (Nat.le_of_ble_eq_true rfl) (z_mask [true, true, true] (sX7_put_3 h)))
-- X6_skipBlanks
def hX6_skipBlanks_0 (F : Nat) : Nat → zX → Option (zX)
  | 0, _ => none
  | n + 1, X => if (X 1 1) ≤ (X 3 1) then some X else zbd (eX7_byteAt (X 3 1) X) fun r3 => if r3 = (nI 32) then (hX6_skipBlanks_0 F n)  (zw X 3 1 ((X 3 1) + (nI 1))) else some X
set_option maxRecDepth 20000 in
set_option maxHeartbeats 4000000 in
theorem sX6_skipBlanks_0 {μ : zM} {F : Nat} : ∀ {n : Nat} {X : zX} {ρ : zX}, hX6_skipBlanks_0 F n  X = some ρ → zJ mX6_skipBlanks 2 (0, 0) (0, 0) (zQ none (zg μ 0 ρ)) 0 [some (zq 0 3)] [] (zg μ 0 X) := by
  intro n
  induction n with
  | zero => intro  X ρ h; exact nomatch (show (none : Option _) = some ρ from h)
  | succ n ih =>
    intro  X ρ h
    have hK0 := @ih
    rw [hX6_skipBlanks_0] at h
    refine z_aload dX6_skipBlanks_0 rfl (z_getI dX6_skipBlanks_1 fkX6_15 in0_3 sh0_3 rfl (z_aload dX6_skipBlanks_4 rfl (z_getR dX6_skipBlanks_5 fkX6_9 in0_3 sh0_3 rfl (z_getI dX6_skipBlanks_8 fkX6_28 in0_1 sh0_1 rfl (z_icmp_ge dX6_skipBlanks_11 (fun c1 => ?_) (fun c1 => ?_))))))
    · have h := ziT h (c1)
      exact z_vretQ dX6_skipBlanks_43 rfl (by cases h; rfl)
    · have h := ziF h (c1)
      obtain ⟨r3, l2, h⟩ := zbd_some h
      refine z_aload dX6_skipBlanks_14 rfl (z_getR dX6_skipBlanks_15 fkX6_9 in0_3 sh0_3 rfl (z_aload dX6_skipBlanks_18 rfl (z_getI dX6_skipBlanks_19 fkX6_15 in0_3 sh0_3 rfl (z_callV dX6_skipBlanks_22 (tX7_byteAt l2) (Nat.le_of_ble_eq_true rfl) cdX7_byteAt naX7_byteAt lkX6_37 imX7_byteAt seX7_byteAt in0_1 sh0_1 rfl rfl rfl (Nat.le_of_ble_eq_true rfl) (z_const dX6_skipBlanks_25 (z_icmp_ne dX6_skipBlanks_27 (fun c4 => ?_) (fun c4 => ?_)))))))
      · have h := ziF h (c4)
        exact z_vretQ dX6_skipBlanks_43 rfl (by cases h; rfl)
      · have h := ziT h (c4)
        exact z_aload dX6_skipBlanks_30 rfl (z_dup dX6_skipBlanks_31 rfl (z_getI dX6_skipBlanks_32 fkX6_15 in0_3 sh0_3 rfl (z_const dX6_skipBlanks_35 (z_iadd dX6_skipBlanks_36 (z_putI dX6_skipBlanks_37 fkX6_15 in0_3 sh0_3 rfl (fun _ _ _ h => by cases h; rfl) ⟨_, rfl, rfl, rfl⟩ (z_goto dX6_skipBlanks_40 (z_mask [true] (hK0 h))))))))
def eX6_skipBlanks (F : Nat) (X : zX) : Option (zX) := hX6_skipBlanks_0 F F X
set_option maxRecDepth 20000 in
set_option maxHeartbeats 4000000 in
theorem tX6_skipBlanks {μ : zM} {F : Nat} {X : zX} {ρ : zX} (h : eX6_skipBlanks F X = some ρ) : LM mX6_skipBlanks 2 [zq 0 3] (zg μ 0 X) none (zg μ 0 ρ) := by
  unfold eX6_skipBlanks at h
  refine LM.of (by decide +kernel) rfl (Nat.le_of_ble_eq_true rfl) ?_
  show zJ mX6_skipBlanks 2 (0, 0) (0, 0) _ 0 [some (zq 0 3)] [] _
  exact z_mask [true] (sX6_skipBlanks_0 h)
-- X6_takeNumber
def jX6_takeNumber_78 (F : Nat) (K14 : Int32 → Int32 → Int32 → zX → Option (Int32 × zX)) (a1 a2 a3 : Int32) (X : zX) : Option (Int32 × zX) := K14 a1 a2 a3 (zw X 3 1 ((X 3 1) + (nI 1)))
set_option maxRecDepth 20000 in
set_option maxHeartbeats 4000000 in
theorem sX6_takeNumber_78 {μ : zM} {F : Nat} {K14 : Int32 → Int32 → Int32 → zX → Option (Int32 × zX)} (hK14 : ∀ {xa1 xa2 xa3 : Int32} {xX : zX} {ρ : Int32 × zX}, K14 xa1 xa2 xa3 xX = some ρ → zJ mX6_takeNumber 3 (0, 0) (0, 0) (zQ (some (zi ρ.1)) (zg μ 0 ρ.2)) 14 [some (zq 0 3), some (zi xa1), some (zi xa2), some (zi xa3), none] [] (zg μ 0 xX)) {a1 a2 a3 : Int32} {X : zX} {ρ : Int32 × zX} (h : jX6_takeNumber_78 F K14 a1 a2 a3 X = some ρ) : zJ mX6_takeNumber 3 (0, 0) (0, 0) (zQ (some (zi ρ.1)) (zg μ 0 ρ.2)) 78 [some (zq 0 3), some (zi a1), some (zi a2), some (zi a3), none] [] (zg μ 0 X) := by
  unfold jX6_takeNumber_78 at h
  exact z_aload dX6_takeNumber_78 rfl (z_dup dX6_takeNumber_79 rfl (z_getI dX6_takeNumber_80 fkX6_15 in0_3 sh0_3 rfl (z_const dX6_takeNumber_83 (z_iadd dX6_takeNumber_84 (z_putI dX6_takeNumber_85 fkX6_15 in0_3 sh0_3 rfl (fun _ _ _ h => by cases h; rfl) ⟨_, rfl, rfl, rfl⟩ (z_goto dX6_takeNumber_88 (z_mask [true, true, true, true, false] (hK14 h))))))))
def jX6_takeNumber_124 (F : Nat) (X : zX) : Option (Int32 × zX) := zbd (eX6_fail X) fun y2 => some ((-1), y2.2)
set_option maxRecDepth 20000 in
set_option maxHeartbeats 4000000 in
theorem sX6_takeNumber_124 {μ : zM} {F : Nat} {X : zX} {ρ : Int32 × zX} (h : jX6_takeNumber_124 F  X = some ρ) : zJ mX6_takeNumber 3 (0, 0) (0, 0) (zQ (some (zi ρ.1)) (zg μ 0 ρ.2)) 124 [some (zq 0 3), none, none, none, none] [] (zg μ 0 X) := by
  unfold jX6_takeNumber_124 at h
  obtain ⟨y2, l1, h⟩ := zbd_some h
  exact z_aload dX6_takeNumber_124 rfl (z_callV dX6_takeNumber_125 (tX6_fail l1) (Nat.le_of_ble_eq_true rfl) cdX6_fail naX6_fail lkX6_87 imX6_fail seX6_fail in0_3 sh0_3 rfl rfl rfl (Nat.le_of_ble_eq_true rfl) (z_pop dX6_takeNumber_128 (z_const dX6_takeNumber_129 (z_iretQ dX6_takeNumber_130 rfl (by cases h; rfl)))))
def jX6_takeNumber_91 (F : Nat) (a1 a2 a3 : Int32) (X : zX) : Option (Int32 × zX) := if ((X 3 1) - (X 3 2)) < (nI 1) then jX6_takeNumber_124 F X else if (nI 3) < ((X 3 1) - (X 3 2)) then jX6_takeNumber_124 F X else if a3 < a1 then jX6_takeNumber_124 F X else if a3 ≤ a2 then some (a3, X) else jX6_takeNumber_124 F X
set_option maxRecDepth 20000 in
set_option maxHeartbeats 4000000 in
theorem sX6_takeNumber_91 {μ : zM} {F : Nat} {a1 a2 a3 : Int32} {X : zX} {ρ : Int32 × zX} (h : jX6_takeNumber_91 F a1 a2 a3 X = some ρ) : zJ mX6_takeNumber 3 (0, 0) (0, 0) (zQ (some (zi ρ.1)) (zg μ 0 ρ.2)) 91 [some (zq 0 3), some (zi a1), some (zi a2), some (zi a3), none] [] (zg μ 0 X) := by
  unfold jX6_takeNumber_91 at h
  refine z_aload dX6_takeNumber_91 rfl (z_getI dX6_takeNumber_92 fkX6_15 in0_3 sh0_3 rfl (z_aload dX6_takeNumber_95 rfl (z_getI dX6_takeNumber_96 fkX6_19 in0_3 sh0_3 rfl (z_isub dX6_takeNumber_99 (z_istore dX6_takeNumber_100 (Nat.le_of_ble_eq_true rfl) (z_iload dX6_takeNumber_102 rfl (z_const dX6_takeNumber_104 (z_icmp_lt dX6_takeNumber_105 (fun c1 => ?_) (fun c1 => ?_)))))))))
  · have h := ziT h (c1)
    exact z_mask [true, false, false, false, false] (sX6_takeNumber_124 h)
  · have h := ziF h (c1)
    refine z_iload dX6_takeNumber_108 rfl (z_const dX6_takeNumber_110 (z_icmp_gt dX6_takeNumber_111 (fun c2 => ?_) (fun c2 => ?_)))
    · have h := ziT h (c2)
      exact z_mask [true, false, false, false, false] (sX6_takeNumber_124 h)
    · have h := ziF h (c2)
      refine z_iload dX6_takeNumber_114 rfl (z_iload dX6_takeNumber_115 rfl (z_icmp_lt dX6_takeNumber_116 (fun c3 => ?_) (fun c3 => ?_)))
      · have h := ziT h (c3)
        exact z_mask [true, false, false, false, false] (sX6_takeNumber_124 h)
      · have h := ziF h (c3)
        refine z_iload dX6_takeNumber_119 rfl (z_iload dX6_takeNumber_120 rfl (z_icmp_le dX6_takeNumber_121 (fun c4 => ?_) (fun c4 => ?_)))
        · have h := ziT h (c4)
          exact z_iload dX6_takeNumber_131 rfl (z_iretQ dX6_takeNumber_132 rfl (by cases h; rfl))
        · have h := ziF h (c4)
          exact z_mask [true, false, false, false, false] (sX6_takeNumber_124 h)
def hX6_takeNumber_14 (F : Nat) : Nat → Int32 → Int32 → Int32 → zX → Option (Int32 × zX)
  | 0, _, _, _, _ => none
  | n + 1, a1, a2, a3, X => if (X 1 1) ≤ (X 3 1) then jX6_takeNumber_91 F a1 a2 a3 X else zbd (eX7_byteAt (X 3 1) X) fun r3 => if (¬ (r3 < (nI 48))) ∧ (¬ ((nI 57) < r3)) then if (nI 3) ≤ ((X 3 1) - (X 3 2)) then jX6_takeNumber_78 F (hX6_takeNumber_14 F n) a1 a2 a3 X else zbd (eX7_byteAt (X 3 1) X) fun r7 => jX6_takeNumber_78 F (hX6_takeNumber_14 F n) a1 a2 (((a3 * (nI 10)) + r7) - (nI 48)) X else jX6_takeNumber_91 F a1 a2 a3 X
set_option maxRecDepth 20000 in
set_option maxHeartbeats 4000000 in
theorem sX6_takeNumber_14 {μ : zM} {F : Nat} : ∀ {n : Nat} {a1 a2 a3 : Int32} {X : zX} {ρ : Int32 × zX}, hX6_takeNumber_14 F n a1 a2 a3 X = some ρ → zJ mX6_takeNumber 3 (0, 0) (0, 0) (zQ (some (zi ρ.1)) (zg μ 0 ρ.2)) 14 [some (zq 0 3), some (zi a1), some (zi a2), some (zi a3), none] [] (zg μ 0 X) := by
  intro n
  induction n with
  | zero => intro a1 a2 a3 X ρ h; exact nomatch (show (none : Option _) = some ρ from h)
  | succ n ih =>
    intro a1 a2 a3 X ρ h
    have hK14 := @ih
    rw [hX6_takeNumber_14] at h
    refine z_aload dX6_takeNumber_14 rfl (z_getI dX6_takeNumber_15 fkX6_15 in0_3 sh0_3 rfl (z_aload dX6_takeNumber_18 rfl (z_getR dX6_takeNumber_19 fkX6_9 in0_3 sh0_3 rfl (z_getI dX6_takeNumber_22 fkX6_28 in0_1 sh0_1 rfl (z_icmp_ge dX6_takeNumber_25 (fun c1 => ?_) (fun c1 => ?_))))))
    · have h := ziT h (c1)
      exact z_mask [true, true, true, true, false] (sX6_takeNumber_91 h)
    · have h := ziF h (c1)
      obtain ⟨r3, l2, h⟩ := zbd_some h
      refine z_aload dX6_takeNumber_28 rfl (z_getR dX6_takeNumber_29 fkX6_9 in0_3 sh0_3 rfl (z_aload dX6_takeNumber_32 rfl (z_getI dX6_takeNumber_33 fkX6_15 in0_3 sh0_3 rfl (z_callV dX6_takeNumber_36 (tX7_byteAt l2) (Nat.le_of_ble_eq_true rfl) cdX7_byteAt naX7_byteAt lkX6_37 imX7_byteAt seX7_byteAt in0_1 sh0_1 rfl rfl rfl (Nat.le_of_ble_eq_true rfl) (z_callS dX6_takeNumber_39 (tX6_isDigit) (Nat.le_of_ble_eq_true rfl) cdX6_isDigit naX6_isDigit lkX6_167 stX6_isDigit rfl rfl (Nat.le_of_ble_eq_true rfl) (z_if_eq dX6_takeNumber_42 (fun c4 => ?_) (fun c4 => ?_)))))))
      · have h := ziF h (zB_0.mp c4)
        exact z_mask [true, true, true, true, false] (sX6_takeNumber_91 h)
      · have h := ziT h (zB_n0.mp c4)
        refine z_aload dX6_takeNumber_45 rfl (z_getI dX6_takeNumber_46 fkX6_15 in0_3 sh0_3 rfl (z_aload dX6_takeNumber_49 rfl (z_getI dX6_takeNumber_50 fkX6_19 in0_3 sh0_3 rfl (z_isub dX6_takeNumber_53 (z_const dX6_takeNumber_54 (z_icmp_ge dX6_takeNumber_55 (fun c5 => ?_) (fun c5 => ?_)))))))
        · have h := ziT h (c5)
          exact z_mask [true, true, true, true, false] (sX6_takeNumber_78 hK14 h)
        · have h := ziF h (c5)
          obtain ⟨r7, l6, h⟩ := zbd_some h
          refine z_iload dX6_takeNumber_58 rfl (z_const dX6_takeNumber_59 (z_imul dX6_takeNumber_61 (z_aload dX6_takeNumber_62 rfl (z_getR dX6_takeNumber_63 fkX6_9 in0_3 sh0_3 rfl (z_aload dX6_takeNumber_66 rfl (z_getI dX6_takeNumber_67 fkX6_15 in0_3 sh0_3 rfl (z_callV dX6_takeNumber_70 (tX7_byteAt l6) (Nat.le_of_ble_eq_true rfl) cdX7_byteAt naX7_byteAt lkX6_37 imX7_byteAt seX7_byteAt in0_1 sh0_1 rfl rfl rfl (Nat.le_of_ble_eq_true rfl) (z_iadd dX6_takeNumber_73 (z_const dX6_takeNumber_74 (z_isub dX6_takeNumber_76 (z_istore dX6_takeNumber_77 (Nat.le_of_ble_eq_true rfl) ?_)))))))))))
          exact z_mask [true, true, true, true, false] (sX6_takeNumber_78 hK14 h)
def eX6_takeNumber (F : Nat) (x0 x1 : Int32) (X : zX) : Option (Int32 × zX) := zbd (eX6_skipBlanks F X) fun y2 => hX6_takeNumber_14 F F x0 x1 (nI 0) (zw y2 3 2 (y2 3 1))
set_option maxRecDepth 20000 in
set_option maxHeartbeats 4000000 in
theorem tX6_takeNumber {μ : zM} {F : Nat} {x0 x1 : Int32} {X : zX} {ρ : Int32 × zX} (h : eX6_takeNumber F x0 x1 X = some ρ) : LM mX6_takeNumber 3 [zq 0 3, zi x0, zi x1] (zg μ 0 X) (some (zi ρ.1)) (zg μ 0 ρ.2) := by
  unfold eX6_takeNumber at h
  refine LM.of (by decide +kernel) rfl (Nat.le_of_ble_eq_true rfl) ?_
  show zJ mX6_takeNumber 3 (0, 0) (0, 0) _ 0 [some (zq 0 3), some (zi x0), some (zi x1), none, none] [] _
  obtain ⟨y2, l1, h⟩ := zbd_some h
  exact z_aload dX6_takeNumber_0 rfl (z_callV dX6_takeNumber_1 (tX6_skipBlanks l1) (Nat.le_of_ble_eq_true rfl) cdX6_skipBlanks naX6_skipBlanks lkX6_25 imX6_skipBlanks seX6_skipBlanks in0_3 sh0_3 rfl rfl rfl (Nat.le_of_ble_eq_true rfl) (z_aload dX6_takeNumber_4 rfl (z_aload dX6_takeNumber_5 rfl (z_getI dX6_takeNumber_6 fkX6_15 in0_3 sh0_3 rfl (z_putI dX6_takeNumber_9 fkX6_19 in0_3 sh0_3 rfl (fun _ _ _ h => by cases h; rfl) ⟨_, rfl, rfl, rfl⟩ (z_const dX6_takeNumber_12 (z_istore dX6_takeNumber_13 (Nat.le_of_ble_eq_true rfl) (z_mask [true, true, true, true, false] (sX6_takeNumber_14 h)))))))))
-- X6_takeWord
def hX6_takeWord_12 (F : Nat) : Nat → zX → Option (zX)
  | 0, _ => none
  | n + 1, X => if (X 1 1) ≤ (X 3 1) then some X else zbd (eX7_byteAt (X 3 1) X) fun r3 => if (¬ (r3 < (nI 97))) ∧ (¬ ((nI 122) < r3)) then (hX6_takeWord_12 F n)  (zw X 3 1 ((X 3 1) + (nI 1))) else some X
set_option maxRecDepth 20000 in
set_option maxHeartbeats 4000000 in
theorem sX6_takeWord_12 {μ : zM} {F : Nat} : ∀ {n : Nat} {X : zX} {ρ : zX}, hX6_takeWord_12 F n  X = some ρ → zJ mX6_takeWord 3 (0, 0) (0, 0) (zQ none (zg μ 0 ρ)) 12 [some (zq 0 3)] [] (zg μ 0 X) := by
  intro n
  induction n with
  | zero => intro  X ρ h; exact nomatch (show (none : Option _) = some ρ from h)
  | succ n ih =>
    intro  X ρ h
    have hK12 := @ih
    rw [hX6_takeWord_12] at h
    refine z_aload dX6_takeWord_12 rfl (z_getI dX6_takeWord_13 fkX6_15 in0_3 sh0_3 rfl (z_aload dX6_takeWord_16 rfl (z_getR dX6_takeWord_17 fkX6_9 in0_3 sh0_3 rfl (z_getI dX6_takeWord_20 fkX6_28 in0_1 sh0_1 rfl (z_icmp_ge dX6_takeWord_23 (fun c1 => ?_) (fun c1 => ?_))))))
    · have h := ziT h (c1)
      exact z_vretQ dX6_takeWord_56 rfl (by cases h; rfl)
    · have h := ziF h (c1)
      obtain ⟨r3, l2, h⟩ := zbd_some h
      refine z_aload dX6_takeWord_26 rfl (z_getR dX6_takeWord_27 fkX6_9 in0_3 sh0_3 rfl (z_aload dX6_takeWord_30 rfl (z_getI dX6_takeWord_31 fkX6_15 in0_3 sh0_3 rfl (z_callV dX6_takeWord_34 (tX7_byteAt l2) (Nat.le_of_ble_eq_true rfl) cdX7_byteAt naX7_byteAt lkX6_37 imX7_byteAt seX7_byteAt in0_1 sh0_1 rfl rfl rfl (Nat.le_of_ble_eq_true rfl) (z_callS dX6_takeWord_37 (tX6_isLetter) (Nat.le_of_ble_eq_true rfl) cdX6_isLetter naX6_isLetter lkX6_91 stX6_isLetter rfl rfl (Nat.le_of_ble_eq_true rfl) (z_if_eq dX6_takeWord_40 (fun c4 => ?_) (fun c4 => ?_)))))))
      · have h := ziF h (zB_0.mp c4)
        exact z_vretQ dX6_takeWord_56 rfl (by cases h; rfl)
      · have h := ziT h (zB_n0.mp c4)
        exact z_aload dX6_takeWord_43 rfl (z_dup dX6_takeWord_44 rfl (z_getI dX6_takeWord_45 fkX6_15 in0_3 sh0_3 rfl (z_const dX6_takeWord_48 (z_iadd dX6_takeWord_49 (z_putI dX6_takeWord_50 fkX6_15 in0_3 sh0_3 rfl (fun _ _ _ h => by cases h; rfl) ⟨_, rfl, rfl, rfl⟩ (z_goto dX6_takeWord_53 (z_mask [true] (hK12 h))))))))
def eX6_takeWord (F : Nat) (X : zX) : Option (zX) := zbd (eX6_skipBlanks F X) fun y2 => hX6_takeWord_12 F F (zw y2 3 2 (y2 3 1))
set_option maxRecDepth 20000 in
set_option maxHeartbeats 4000000 in
theorem tX6_takeWord {μ : zM} {F : Nat} {X : zX} {ρ : zX} (h : eX6_takeWord F X = some ρ) : LM mX6_takeWord 3 [zq 0 3] (zg μ 0 X) none (zg μ 0 ρ) := by
  unfold eX6_takeWord at h
  refine LM.of (by decide +kernel) rfl (Nat.le_of_ble_eq_true rfl) ?_
  show zJ mX6_takeWord 3 (0, 0) (0, 0) _ 0 [some (zq 0 3)] [] _
  obtain ⟨y2, l1, h⟩ := zbd_some h
  exact z_aload dX6_takeWord_0 rfl (z_callV dX6_takeWord_1 (tX6_skipBlanks l1) (Nat.le_of_ble_eq_true rfl) cdX6_skipBlanks naX6_skipBlanks lkX6_25 imX6_skipBlanks seX6_skipBlanks in0_3 sh0_3 rfl rfl rfl (Nat.le_of_ble_eq_true rfl) (z_aload dX6_takeWord_4 rfl (z_aload dX6_takeWord_5 rfl (z_getI dX6_takeWord_6 fkX6_15 in0_3 sh0_3 rfl (z_putI dX6_takeWord_9 fkX6_19 in0_3 sh0_3 rfl (fun _ _ _ h => by cases h; rfl) ⟨_, rfl, rfl, rfl⟩ (z_mask [true] (sX6_takeWord_12 h)))))))
-- X6_readRepair
def jX6_readRepair_24 (F : Nat) (a2 b0 : Int32) (μ : zM) : Option (Int32 × zM) := if b0 = (-1) then some ((nI 0), μ) else some ((nI 1), zg μ 6 (zw (zw (μ 6) 1 6 a2) 1 7 b0))
set_option maxRecDepth 20000 in
set_option maxHeartbeats 4000000 in
theorem sX6_readRepair_24 {F : Nat} {a2 b0 : Int32} {μ : zM} {ρ : Int32 × zM} (h : jX6_readRepair_24 F a2 b0 μ = some ρ) : zJ mX6_readRepair 4 (0, 0) (0, 0) (zQ (some (zi ρ.1)) ρ.2) 24 [none, some (zq 6 1), some (zi a2), none] [zi b0] μ := by
  unfold jX6_readRepair_24 at h
  refine z_istore dX6_readRepair_24 (Nat.le_of_ble_eq_true rfl) (z_iload dX6_readRepair_25 rfl (z_const dX6_readRepair_26 (z_icmp_ne dX6_readRepair_27 (fun c1 => ?_) (fun c1 => ?_))))
  · have h := ziF h (c1)
    exact z_aload dX6_readRepair_32 rfl (z_iload dX6_readRepair_33 rfl (z_focus 6 (z_putI dX6_readRepair_34 fkX6_144 in6_1 sh_1 rfl (fun _ _ _ h => by cases h; rfl) ⟨_, rfl, rfl, rfl⟩ (z_aload dX6_readRepair_37 rfl (z_iload dX6_readRepair_38 rfl (z_putI dX6_readRepair_39 fkX6_147 in6_1 sh_1 rfl (fun _ _ _ h => by cases h; rfl) ⟨_, rfl, rfl, rfl⟩ (z_const dX6_readRepair_42 (z_zretQ dX6_readRepair_43 rfl rfl (by cases h; rfl)))))))))
  · have h := ziT h (c1)
    exact z_const dX6_readRepair_30 (z_zretQ dX6_readRepair_31 rfl rfl (by cases h; rfl))
def eX6_readRepair (F : Nat) (μ : zM) : Option (Int32 × zM) := zbd (eX6_takeNumber F (nI 0) (nI 32) (μ 0)) fun y2 => if y2.1 = (-1) then jX6_readRepair_24 F y2.1 (-1) (zg μ 0 y2.2) else zbd (eX6_takeNumber F (nI 0) (nI 32) y2.2) fun y5 => jX6_readRepair_24 F y2.1 y5.1 (zg μ 0 y5.2)
set_option maxRecDepth 20000 in
set_option maxHeartbeats 4000000 in
theorem tX6_readRepair {F : Nat} {μ : zM} {ρ : Int32 × zM} (h : eX6_readRepair F μ = some ρ) : LM mX6_readRepair 4 [zq 0 3, zq 6 1] μ (some (zi ρ.1)) ρ.2 := by
  unfold eX6_readRepair at h
  refine LM.of (by decide +kernel) rfl (Nat.le_of_ble_eq_true rfl) ?_
  show zJ mX6_readRepair 4 (0, 0) (0, 0) _ 0 [some (zq 0 3), some (zq 6 1), none, none] [] _
  obtain ⟨y2, l1, h⟩ := zbd_some h
  refine z_aload dX6_readRepair_0 rfl (z_const dX6_readRepair_1 (z_const dX6_readRepair_2 (z_focus 0 (z_callV dX6_readRepair_4 (tX6_takeNumber l1) (Nat.le_of_ble_eq_true rfl) cdX6_takeNumber naX6_takeNumber lkX6_119 imX6_takeNumber seX6_takeNumber in0_3 sh0_3 rfl rfl rfl (Nat.le_of_ble_eq_true rfl) (z_istore dX6_readRepair_7 (Nat.le_of_ble_eq_true rfl) (z_iload dX6_readRepair_8 rfl (z_const dX6_readRepair_9 (z_icmp_ne dX6_readRepair_10 (fun c3 => ?_) (fun c3 => ?_)))))))))
  · have h := ziF h (c3)
    obtain ⟨y5, l4, h⟩ := zbd_some h
    exact z_aload dX6_readRepair_17 rfl (z_const dX6_readRepair_18 (z_const dX6_readRepair_19 (z_callV dX6_readRepair_21 (tX6_takeNumber l4) (Nat.le_of_ble_eq_true rfl) cdX6_takeNumber naX6_takeNumber lkX6_119 imX6_takeNumber seX6_takeNumber in0_3 sh0_3 rfl rfl rfl (Nat.le_of_ble_eq_true rfl) (z_mask [false, true, true, false] (sX6_readRepair_24 h)))))
  · have h := ziT h (c3)
    exact z_const dX6_readRepair_13 (z_goto dX6_readRepair_14 (z_mask [false, true, true, false] (sX6_readRepair_24 h)))
-- X6_readRequest
def jX6_readRequest_24 (F : Nat) (a2 b0 : Int32) (μ : zM) : Option (Int32 × zM) := if b0 = (-1) then some ((nI 0), μ) else zbd (eJ7_fill_53178q11 F a2 (zw (zw (μ 6) 1 4 a2) 1 5 b0)) fun y3 => zbd (eJ7_fill_53178q12 F b0 y3) fun y5 => some ((nI 1), zg μ 6 y5)
set_option maxRecDepth 20000 in
set_option maxHeartbeats 4000000 in
theorem sX6_readRequest_24 {F : Nat} {a2 b0 : Int32} {μ : zM} {ρ : Int32 × zM} (h : jX6_readRequest_24 F a2 b0 μ = some ρ) : zJ mX6_readRequest 4 (0, 0) (0, 0) (zQ (some (zi ρ.1)) ρ.2) 24 [none, some (zq 6 0), some (zi a2), none] [zi b0] μ := by
  unfold jX6_readRequest_24 at h
  refine z_istore dX6_readRequest_24 (Nat.le_of_ble_eq_true rfl) (z_iload dX6_readRequest_25 rfl (z_const dX6_readRequest_26 (z_icmp_ne dX6_readRequest_27 (fun c1 => ?_) (fun c1 => ?_))))
  · have h := ziF h (c1)
    refine z_aload dX6_readRequest_32 rfl (z_getR dX6_readRequest_33 fkX6_65 in6_0 sh_0 rfl (z_iload dX6_readRequest_36 rfl (z_focus 6 (z_putI dX6_readRequest_37 fkX6_100 in6_1 sh_1 rfl (fun _ _ _ h => by cases h; rfl) ⟨_, rfl, rfl, rfl⟩ (z_aload dX6_readRequest_40 rfl (z_getR dX6_readRequest_41 fkX6_65 in6_0 sh_0 rfl (z_iload dX6_readRequest_44 rfl (z_putI dX6_readRequest_45 fkX6_105 in6_1 sh_1 rfl (fun _ _ _ h => by cases h; rfl) ⟨_, rfl, rfl, rfl⟩ (z_aload dX6_readRequest_48 rfl (z_getR dX6_readRequest_49 fkX6_78 in6_0 sh_0 rfl (z_getR dX6_readRequest_52 fkX6_133 in6_3 sh_3 rfl ?_)))))))))))
    obtain ⟨y3, l2, h⟩ := zbd_some h
    obtain ⟨y5, l4, h⟩ := zbd_some h
    exact z_iload dX6_readRequest_55 rfl (z_callS dX6_readRequest_56 (tJ7_fill_53178q11 (by decide) l2) (Nat.le_of_ble_eq_true rfl) cdJ7_fill_53178 naJ7_fill_53178 lkX6_136 stJ7_fill_53178 rfl rfl (Nat.le_of_ble_eq_true rfl) (z_aload dX6_readRequest_59 rfl (z_getR dX6_readRequest_60 fkX6_78 in6_0 sh_0 rfl (z_getR dX6_readRequest_63 fkX6_142 in6_3 sh_3 rfl (z_iload dX6_readRequest_66 rfl (z_callS dX6_readRequest_67 (tJ7_fill_53178q12 (by decide) l4) (Nat.le_of_ble_eq_true rfl) cdJ7_fill_53178 naJ7_fill_53178 lkX6_136 stJ7_fill_53178 rfl rfl (Nat.le_of_ble_eq_true rfl) (z_const dX6_readRequest_70 (z_zretQ dX6_readRequest_71 rfl rfl (by cases h; rfl)))))))))
  · have h := ziT h (c1)
    exact z_const dX6_readRequest_30 (z_zretQ dX6_readRequest_31 rfl rfl (by cases h; rfl))
def eX6_readRequest (F : Nat) (μ : zM) : Option (Int32 × zM) := zbd (eX6_takeNumber F (nI 0) (nI 32) (μ 0)) fun y2 => if y2.1 = (-1) then jX6_readRequest_24 F y2.1 (-1) (zg μ 0 y2.2) else zbd (eX6_takeNumber F (nI 0) (nI 32) y2.2) fun y5 => jX6_readRequest_24 F y2.1 y5.1 (zg μ 0 y5.2)
set_option maxRecDepth 20000 in
set_option maxHeartbeats 4000000 in
theorem tX6_readRequest {F : Nat} {μ : zM} {ρ : Int32 × zM} (h : eX6_readRequest F μ = some ρ) : LM mX6_readRequest 4 [zq 0 3, zq 6 0] μ (some (zi ρ.1)) ρ.2 := by
  unfold eX6_readRequest at h
  refine LM.of (by decide +kernel) rfl (Nat.le_of_ble_eq_true rfl) ?_
  show zJ mX6_readRequest 4 (0, 0) (0, 0) _ 0 [some (zq 0 3), some (zq 6 0), none, none] [] _
  obtain ⟨y2, l1, h⟩ := zbd_some h
  refine z_aload dX6_readRequest_0 rfl (z_const dX6_readRequest_1 (z_const dX6_readRequest_2 (z_focus 0 (z_callV dX6_readRequest_4 (tX6_takeNumber l1) (Nat.le_of_ble_eq_true rfl) cdX6_takeNumber naX6_takeNumber lkX6_119 imX6_takeNumber seX6_takeNumber in0_3 sh0_3 rfl rfl rfl (Nat.le_of_ble_eq_true rfl) (z_istore dX6_readRequest_7 (Nat.le_of_ble_eq_true rfl) (z_iload dX6_readRequest_8 rfl (z_const dX6_readRequest_9 (z_icmp_ne dX6_readRequest_10 (fun c3 => ?_) (fun c3 => ?_)))))))))
  · have h := ziF h (c3)
    obtain ⟨y5, l4, h⟩ := zbd_some h
    exact z_aload dX6_readRequest_17 rfl (z_const dX6_readRequest_18 (z_const dX6_readRequest_19 (z_callV dX6_readRequest_21 (tX6_takeNumber l4) (Nat.le_of_ble_eq_true rfl) cdX6_takeNumber naX6_takeNumber lkX6_119 imX6_takeNumber seX6_takeNumber in0_3 sh0_3 rfl rfl rfl (Nat.le_of_ble_eq_true rfl) (z_mask [false, true, true, false] (sX6_readRequest_24 h)))))
  · have h := ziT h (c3)
    exact z_const dX6_readRequest_13 (z_goto dX6_readRequest_14 (z_mask [false, true, true, false] (sX6_readRequest_24 h)))
-- X6_isWords0
def hX6_isWords0_20 (F : Nat) : Nat → Int32 → zX → Option (Int32)
  | 0, _, _ => none
  | n + 1, a2, X => if (nI 4) ≤ a2 then some (nI 1) else zbd (eX7_byteAt ((X 3 2) + a2) X) fun r3 => zchk (zin a2 4) (if r3 = (nI (List.getD [110, 111, 100, 101] (zn a2) 0)) then (hX6_isWords0_20 F n) (a2 + (nI 1)) X else some (nI 0))
set_option maxRecDepth 20000 in
set_option maxHeartbeats 4000000 in
theorem sX6_isWords0_20 {μ : zM} {F : Nat} : ∀ {n : Nat} {a2 : Int32} {X : zX} {ρ : Int32}, hX6_isWords0_20 F n a2 X = some ρ → zJ mX6_isWord 6 (0, 0) (0, 0) (zQ (some (zi ρ)) (zg μ 0 X)) 20 [some (zq 0 3), some (zq 3 1), some (zi a2)] [] (zg μ 0 X) := by
  intro n
  induction n with
  | zero => intro a2 X ρ h; exact nomatch (show (none : Option _) = some ρ from h)
  | succ n ih =>
    intro a2 X ρ h
    have hK20 := @ih
    rw [hX6_isWords0_20] at h
    refine z_iload dX6_isWord_20 rfl (z_aload dX6_isWord_21 rfl (z_strlen dX6_isWord_22 (i := 0) lkX6_170 rfl (Nat.le_of_ble_eq_true rfl) (Nat.le_of_ble_eq_true rfl) (z_icmp_ge dX6_isWord_25 (fun c1 => ?_) (fun c1 => ?_))))
    · have h := ziT h (c1)
      exact z_const dX6_isWord_57 (z_zretQ dX6_isWord_58 rfl rfl (by cases h; rfl))
    · have h := ziF h (c1)
      obtain ⟨r3, l2, h⟩ := zbd_some h
      obtain ⟨s4, h⟩ := zchk_some h
      refine z_aload dX6_isWord_28 rfl (z_getR dX6_isWord_29 fkX6_9 in0_3 sh0_3 rfl (z_aload dX6_isWord_32 rfl (z_getI dX6_isWord_33 fkX6_19 in0_3 sh0_3 rfl (z_iload dX6_isWord_36 rfl (z_iadd dX6_isWord_37 (z_callV dX6_isWord_38 (tX7_byteAt l2) (Nat.le_of_ble_eq_true rfl) cdX7_byteAt naX7_byteAt lkX6_37 imX7_byteAt seX7_byteAt in0_1 sh0_1 rfl rfl rfl (Nat.le_of_ble_eq_true rfl) (z_aload dX6_isWord_41 rfl (z_iload dX6_isWord_42 rfl (z_charAt dX6_isWord_43 (i := 0) lkX6_175 rfl (id s4) (Nat.le_of_ble_eq_true rfl) (Nat.le_of_ble_eq_true rfl) (z_icmp_eq dX6_isWord_46 (fun c5 => ?_) (fun c5 => ?_)))))))))))
      · have h := ziT h (c5)
        exact z_iinc dX6_isWord_51 (Nat.le_of_ble_eq_true rfl) rfl (z_goto dX6_isWord_54 (z_mask [true, true, true] (hK20 h)))
      · have h := ziF h (c5)
        exact z_const dX6_isWord_49 (z_zretQ dX6_isWord_50 rfl rfl (by cases h; rfl))
def eX6_isWords0 (F : Nat) (X : zX) : Option (Int32) := if ((X 3 1) - (X 3 2)) = (nI 4) then hX6_isWords0_20 F F (nI 0) X else some (nI 0)
set_option maxRecDepth 20000 in
set_option maxHeartbeats 4000000 in
theorem tX6_isWords0 {μ : zM} {F : Nat} {X : zX} {ρ : Int32} (h : eX6_isWords0 F X = some ρ) : LM mX6_isWord 6 [zq 0 3, zq 3 1] (zg μ 0 X) (some (zi ρ)) (zg μ 0 X) := by
  unfold eX6_isWords0 at h
  refine LM.of (by decide +kernel) rfl (Nat.le_of_ble_eq_true rfl) ?_
  show zJ mX6_isWord 6 (0, 0) (0, 0) _ 0 [some (zq 0 3), some (zq 3 1), none] [] _
  refine z_aload dX6_isWord_0 rfl (z_getI dX6_isWord_1 fkX6_15 in0_3 sh0_3 rfl (z_aload dX6_isWord_4 rfl (z_getI dX6_isWord_5 fkX6_19 in0_3 sh0_3 rfl (z_isub dX6_isWord_8 (z_aload dX6_isWord_9 rfl (z_strlen dX6_isWord_10 (i := 0) lkX6_170 rfl (Nat.le_of_ble_eq_true rfl) (Nat.le_of_ble_eq_true rfl) (z_icmp_eq dX6_isWord_13 (fun c1 => ?_) (fun c1 => ?_))))))))
  · have h := ziT h (c1)
    exact z_const dX6_isWord_18 (z_istore dX6_isWord_19 (Nat.le_of_ble_eq_true rfl) (z_mask [true, true, true] (sX6_isWords0_20 h)))
  · have h := ziF h (c1)
    exact z_const dX6_isWord_16 (z_zretQ dX6_isWord_17 rfl rfl (by cases h; rfl))
-- X6_isWords1
def hX6_isWords1_20 (F : Nat) : Nat → Int32 → zX → Option (Int32)
  | 0, _, _ => none
  | n + 1, a2, X => if (nI 4) ≤ a2 then some (nI 1) else zbd (eX7_byteAt ((X 3 2) + a2) X) fun r3 => zchk (zin a2 4) (if r3 = (nI (List.getD [100, 111, 119, 110] (zn a2) 0)) then (hX6_isWords1_20 F n) (a2 + (nI 1)) X else some (nI 0))
set_option maxRecDepth 20000 in
set_option maxHeartbeats 4000000 in
theorem sX6_isWords1_20 {μ : zM} {F : Nat} : ∀ {n : Nat} {a2 : Int32} {X : zX} {ρ : Int32}, hX6_isWords1_20 F n a2 X = some ρ → zJ mX6_isWord 6 (0, 0) (0, 0) (zQ (some (zi ρ)) (zg μ 0 X)) 20 [some (zq 0 3), some (zq 3 2), some (zi a2)] [] (zg μ 0 X) := by
  intro n
  induction n with
  | zero => intro a2 X ρ h; exact nomatch (show (none : Option _) = some ρ from h)
  | succ n ih =>
    intro a2 X ρ h
    have hK20 := @ih
    rw [hX6_isWords1_20] at h
    refine z_iload dX6_isWord_20 rfl (z_aload dX6_isWord_21 rfl (z_strlen dX6_isWord_22 (i := 1) lkX6_170 rfl (Nat.le_of_ble_eq_true rfl) (Nat.le_of_ble_eq_true rfl) (z_icmp_ge dX6_isWord_25 (fun c1 => ?_) (fun c1 => ?_))))
    · have h := ziT h (c1)
      exact z_const dX6_isWord_57 (z_zretQ dX6_isWord_58 rfl rfl (by cases h; rfl))
    · have h := ziF h (c1)
      obtain ⟨r3, l2, h⟩ := zbd_some h
      obtain ⟨s4, h⟩ := zchk_some h
      refine z_aload dX6_isWord_28 rfl (z_getR dX6_isWord_29 fkX6_9 in0_3 sh0_3 rfl (z_aload dX6_isWord_32 rfl (z_getI dX6_isWord_33 fkX6_19 in0_3 sh0_3 rfl (z_iload dX6_isWord_36 rfl (z_iadd dX6_isWord_37 (z_callV dX6_isWord_38 (tX7_byteAt l2) (Nat.le_of_ble_eq_true rfl) cdX7_byteAt naX7_byteAt lkX6_37 imX7_byteAt seX7_byteAt in0_1 sh0_1 rfl rfl rfl (Nat.le_of_ble_eq_true rfl) (z_aload dX6_isWord_41 rfl (z_iload dX6_isWord_42 rfl (z_charAt dX6_isWord_43 (i := 1) lkX6_175 rfl (id s4) (Nat.le_of_ble_eq_true rfl) (Nat.le_of_ble_eq_true rfl) (z_icmp_eq dX6_isWord_46 (fun c5 => ?_) (fun c5 => ?_)))))))))))
      · have h := ziT h (c5)
        exact z_iinc dX6_isWord_51 (Nat.le_of_ble_eq_true rfl) rfl (z_goto dX6_isWord_54 (z_mask [true, true, true] (hK20 h)))
      · have h := ziF h (c5)
        exact z_const dX6_isWord_49 (z_zretQ dX6_isWord_50 rfl rfl (by cases h; rfl))
def eX6_isWords1 (F : Nat) (X : zX) : Option (Int32) := if ((X 3 1) - (X 3 2)) = (nI 4) then hX6_isWords1_20 F F (nI 0) X else some (nI 0)
set_option maxRecDepth 20000 in
set_option maxHeartbeats 4000000 in
theorem tX6_isWords1 {μ : zM} {F : Nat} {X : zX} {ρ : Int32} (h : eX6_isWords1 F X = some ρ) : LM mX6_isWord 6 [zq 0 3, zq 3 2] (zg μ 0 X) (some (zi ρ)) (zg μ 0 X) := by
  unfold eX6_isWords1 at h
  refine LM.of (by decide +kernel) rfl (Nat.le_of_ble_eq_true rfl) ?_
  show zJ mX6_isWord 6 (0, 0) (0, 0) _ 0 [some (zq 0 3), some (zq 3 2), none] [] _
  refine z_aload dX6_isWord_0 rfl (z_getI dX6_isWord_1 fkX6_15 in0_3 sh0_3 rfl (z_aload dX6_isWord_4 rfl (z_getI dX6_isWord_5 fkX6_19 in0_3 sh0_3 rfl (z_isub dX6_isWord_8 (z_aload dX6_isWord_9 rfl (z_strlen dX6_isWord_10 (i := 1) lkX6_170 rfl (Nat.le_of_ble_eq_true rfl) (Nat.le_of_ble_eq_true rfl) (z_icmp_eq dX6_isWord_13 (fun c1 => ?_) (fun c1 => ?_))))))))
  · have h := ziT h (c1)
    exact z_const dX6_isWord_18 (z_istore dX6_isWord_19 (Nat.le_of_ble_eq_true rfl) (z_mask [true, true, true] (sX6_isWords1_20 h)))
  · have h := ziF h (c1)
    exact z_const dX6_isWord_16 (z_zretQ dX6_isWord_17 rfl rfl (by cases h; rfl))
-- X6_isWords2
def hX6_isWords2_20 (F : Nat) : Nat → Int32 → zX → Option (Int32)
  | 0, _, _ => none
  | n + 1, a2, X => if (nI 4) ≤ a2 then some (nI 1) else zbd (eX7_byteAt ((X 3 2) + a2) X) fun r3 => zchk (zin a2 4) (if r3 = (nI (List.getD [108, 105, 110, 107] (zn a2) 0)) then (hX6_isWords2_20 F n) (a2 + (nI 1)) X else some (nI 0))
set_option maxRecDepth 20000 in
set_option maxHeartbeats 4000000 in
theorem sX6_isWords2_20 {μ : zM} {F : Nat} : ∀ {n : Nat} {a2 : Int32} {X : zX} {ρ : Int32}, hX6_isWords2_20 F n a2 X = some ρ → zJ mX6_isWord 6 (0, 0) (0, 0) (zQ (some (zi ρ)) (zg μ 0 X)) 20 [some (zq 0 3), some (zq 3 3), some (zi a2)] [] (zg μ 0 X) := by
  intro n
  induction n with
  | zero => intro a2 X ρ h; exact nomatch (show (none : Option _) = some ρ from h)
  | succ n ih =>
    intro a2 X ρ h
    have hK20 := @ih
    rw [hX6_isWords2_20] at h
    refine z_iload dX6_isWord_20 rfl (z_aload dX6_isWord_21 rfl (z_strlen dX6_isWord_22 (i := 2) lkX6_170 rfl (Nat.le_of_ble_eq_true rfl) (Nat.le_of_ble_eq_true rfl) (z_icmp_ge dX6_isWord_25 (fun c1 => ?_) (fun c1 => ?_))))
    · have h := ziT h (c1)
      exact z_const dX6_isWord_57 (z_zretQ dX6_isWord_58 rfl rfl (by cases h; rfl))
    · have h := ziF h (c1)
      obtain ⟨r3, l2, h⟩ := zbd_some h
      obtain ⟨s4, h⟩ := zchk_some h
      refine z_aload dX6_isWord_28 rfl (z_getR dX6_isWord_29 fkX6_9 in0_3 sh0_3 rfl (z_aload dX6_isWord_32 rfl (z_getI dX6_isWord_33 fkX6_19 in0_3 sh0_3 rfl (z_iload dX6_isWord_36 rfl (z_iadd dX6_isWord_37 (z_callV dX6_isWord_38 (tX7_byteAt l2) (Nat.le_of_ble_eq_true rfl) cdX7_byteAt naX7_byteAt lkX6_37 imX7_byteAt seX7_byteAt in0_1 sh0_1 rfl rfl rfl (Nat.le_of_ble_eq_true rfl) (z_aload dX6_isWord_41 rfl (z_iload dX6_isWord_42 rfl (z_charAt dX6_isWord_43 (i := 2) lkX6_175 rfl (id s4) (Nat.le_of_ble_eq_true rfl) (Nat.le_of_ble_eq_true rfl) (z_icmp_eq dX6_isWord_46 (fun c5 => ?_) (fun c5 => ?_)))))))))))
      · have h := ziT h (c5)
        exact z_iinc dX6_isWord_51 (Nat.le_of_ble_eq_true rfl) rfl (z_goto dX6_isWord_54 (z_mask [true, true, true] (hK20 h)))
      · have h := ziF h (c5)
        exact z_const dX6_isWord_49 (z_zretQ dX6_isWord_50 rfl rfl (by cases h; rfl))
def eX6_isWords2 (F : Nat) (X : zX) : Option (Int32) := if ((X 3 1) - (X 3 2)) = (nI 4) then hX6_isWords2_20 F F (nI 0) X else some (nI 0)
set_option maxRecDepth 20000 in
set_option maxHeartbeats 4000000 in
theorem tX6_isWords2 {μ : zM} {F : Nat} {X : zX} {ρ : Int32} (h : eX6_isWords2 F X = some ρ) : LM mX6_isWord 6 [zq 0 3, zq 3 3] (zg μ 0 X) (some (zi ρ)) (zg μ 0 X) := by
  unfold eX6_isWords2 at h
  refine LM.of (by decide +kernel) rfl (Nat.le_of_ble_eq_true rfl) ?_
  show zJ mX6_isWord 6 (0, 0) (0, 0) _ 0 [some (zq 0 3), some (zq 3 3), none] [] _
  refine z_aload dX6_isWord_0 rfl (z_getI dX6_isWord_1 fkX6_15 in0_3 sh0_3 rfl (z_aload dX6_isWord_4 rfl (z_getI dX6_isWord_5 fkX6_19 in0_3 sh0_3 rfl (z_isub dX6_isWord_8 (z_aload dX6_isWord_9 rfl (z_strlen dX6_isWord_10 (i := 2) lkX6_170 rfl (Nat.le_of_ble_eq_true rfl) (Nat.le_of_ble_eq_true rfl) (z_icmp_eq dX6_isWord_13 (fun c1 => ?_) (fun c1 => ?_))))))))
  · have h := ziT h (c1)
    exact z_const dX6_isWord_18 (z_istore dX6_isWord_19 (Nat.le_of_ble_eq_true rfl) (z_mask [true, true, true] (sX6_isWords2_20 h)))
  · have h := ziF h (c1)
    exact z_const dX6_isWord_16 (z_zretQ dX6_isWord_17 rfl rfl (by cases h; rfl))
-- X6_isWords3
def hX6_isWords3_20 (F : Nat) : Nat → Int32 → zX → Option (Int32)
  | 0, _, _ => none
  | n + 1, a2, X => if (nI 5) ≤ a2 then some (nI 1) else zbd (eX7_byteAt ((X 3 2) + a2) X) fun r3 => zchk (zin a2 5) (if r3 = (nI (List.getD [100, 101, 108, 97, 121] (zn a2) 0)) then (hX6_isWords3_20 F n) (a2 + (nI 1)) X else some (nI 0))
set_option maxRecDepth 20000 in
set_option maxHeartbeats 4000000 in
theorem sX6_isWords3_20 {μ : zM} {F : Nat} : ∀ {n : Nat} {a2 : Int32} {X : zX} {ρ : Int32}, hX6_isWords3_20 F n a2 X = some ρ → zJ mX6_isWord 6 (0, 0) (0, 0) (zQ (some (zi ρ)) (zg μ 0 X)) 20 [some (zq 0 3), some (zq 3 4), some (zi a2)] [] (zg μ 0 X) := by
  intro n
  induction n with
  | zero => intro a2 X ρ h; exact nomatch (show (none : Option _) = some ρ from h)
  | succ n ih =>
    intro a2 X ρ h
    have hK20 := @ih
    rw [hX6_isWords3_20] at h
    refine z_iload dX6_isWord_20 rfl (z_aload dX6_isWord_21 rfl (z_strlen dX6_isWord_22 (i := 3) lkX6_170 rfl (Nat.le_of_ble_eq_true rfl) (Nat.le_of_ble_eq_true rfl) (z_icmp_ge dX6_isWord_25 (fun c1 => ?_) (fun c1 => ?_))))
    · have h := ziT h (c1)
      exact z_const dX6_isWord_57 (z_zretQ dX6_isWord_58 rfl rfl (by cases h; rfl))
    · have h := ziF h (c1)
      obtain ⟨r3, l2, h⟩ := zbd_some h
      obtain ⟨s4, h⟩ := zchk_some h
      refine z_aload dX6_isWord_28 rfl (z_getR dX6_isWord_29 fkX6_9 in0_3 sh0_3 rfl (z_aload dX6_isWord_32 rfl (z_getI dX6_isWord_33 fkX6_19 in0_3 sh0_3 rfl (z_iload dX6_isWord_36 rfl (z_iadd dX6_isWord_37 (z_callV dX6_isWord_38 (tX7_byteAt l2) (Nat.le_of_ble_eq_true rfl) cdX7_byteAt naX7_byteAt lkX6_37 imX7_byteAt seX7_byteAt in0_1 sh0_1 rfl rfl rfl (Nat.le_of_ble_eq_true rfl) (z_aload dX6_isWord_41 rfl (z_iload dX6_isWord_42 rfl (z_charAt dX6_isWord_43 (i := 3) lkX6_175 rfl (id s4) (Nat.le_of_ble_eq_true rfl) (Nat.le_of_ble_eq_true rfl) (z_icmp_eq dX6_isWord_46 (fun c5 => ?_) (fun c5 => ?_)))))))))))
      · have h := ziT h (c5)
        exact z_iinc dX6_isWord_51 (Nat.le_of_ble_eq_true rfl) rfl (z_goto dX6_isWord_54 (z_mask [true, true, true] (hK20 h)))
      · have h := ziF h (c5)
        exact z_const dX6_isWord_49 (z_zretQ dX6_isWord_50 rfl rfl (by cases h; rfl))
def eX6_isWords3 (F : Nat) (X : zX) : Option (Int32) := if ((X 3 1) - (X 3 2)) = (nI 5) then hX6_isWords3_20 F F (nI 0) X else some (nI 0)
set_option maxRecDepth 20000 in
set_option maxHeartbeats 4000000 in
theorem tX6_isWords3 {μ : zM} {F : Nat} {X : zX} {ρ : Int32} (h : eX6_isWords3 F X = some ρ) : LM mX6_isWord 6 [zq 0 3, zq 3 4] (zg μ 0 X) (some (zi ρ)) (zg μ 0 X) := by
  unfold eX6_isWords3 at h
  refine LM.of (by decide +kernel) rfl (Nat.le_of_ble_eq_true rfl) ?_
  show zJ mX6_isWord 6 (0, 0) (0, 0) _ 0 [some (zq 0 3), some (zq 3 4), none] [] _
  refine z_aload dX6_isWord_0 rfl (z_getI dX6_isWord_1 fkX6_15 in0_3 sh0_3 rfl (z_aload dX6_isWord_4 rfl (z_getI dX6_isWord_5 fkX6_19 in0_3 sh0_3 rfl (z_isub dX6_isWord_8 (z_aload dX6_isWord_9 rfl (z_strlen dX6_isWord_10 (i := 3) lkX6_170 rfl (Nat.le_of_ble_eq_true rfl) (Nat.le_of_ble_eq_true rfl) (z_icmp_eq dX6_isWord_13 (fun c1 => ?_) (fun c1 => ?_))))))))
  · have h := ziT h (c1)
    exact z_const dX6_isWord_18 (z_istore dX6_isWord_19 (Nat.le_of_ble_eq_true rfl) (z_mask [true, true, true] (sX6_isWords3_20 h)))
  · have h := ziF h (c1)
    exact z_const dX6_isWord_16 (z_zretQ dX6_isWord_17 rfl rfl (by cases h; rfl))
-- X6_isWords4
def hX6_isWords4_20 (F : Nat) : Nat → Int32 → zX → Option (Int32)
  | 0, _, _ => none
  | n + 1, a2, X => if (nI 4) ≤ a2 then some (nI 1) else zbd (eX7_byteAt ((X 3 2) + a2) X) fun r3 => zchk (zin a2 4) (if r3 = (nI (List.getD [108, 111, 115, 115] (zn a2) 0)) then (hX6_isWords4_20 F n) (a2 + (nI 1)) X else some (nI 0))
set_option maxRecDepth 20000 in
set_option maxHeartbeats 4000000 in
theorem sX6_isWords4_20 {μ : zM} {F : Nat} : ∀ {n : Nat} {a2 : Int32} {X : zX} {ρ : Int32}, hX6_isWords4_20 F n a2 X = some ρ → zJ mX6_isWord 6 (0, 0) (0, 0) (zQ (some (zi ρ)) (zg μ 0 X)) 20 [some (zq 0 3), some (zq 3 5), some (zi a2)] [] (zg μ 0 X) := by
  intro n
  induction n with
  | zero => intro a2 X ρ h; exact nomatch (show (none : Option _) = some ρ from h)
  | succ n ih =>
    intro a2 X ρ h
    have hK20 := @ih
    rw [hX6_isWords4_20] at h
    refine z_iload dX6_isWord_20 rfl (z_aload dX6_isWord_21 rfl (z_strlen dX6_isWord_22 (i := 4) lkX6_170 rfl (Nat.le_of_ble_eq_true rfl) (Nat.le_of_ble_eq_true rfl) (z_icmp_ge dX6_isWord_25 (fun c1 => ?_) (fun c1 => ?_))))
    · have h := ziT h (c1)
      exact z_const dX6_isWord_57 (z_zretQ dX6_isWord_58 rfl rfl (by cases h; rfl))
    · have h := ziF h (c1)
      obtain ⟨r3, l2, h⟩ := zbd_some h
      obtain ⟨s4, h⟩ := zchk_some h
      refine z_aload dX6_isWord_28 rfl (z_getR dX6_isWord_29 fkX6_9 in0_3 sh0_3 rfl (z_aload dX6_isWord_32 rfl (z_getI dX6_isWord_33 fkX6_19 in0_3 sh0_3 rfl (z_iload dX6_isWord_36 rfl (z_iadd dX6_isWord_37 (z_callV dX6_isWord_38 (tX7_byteAt l2) (Nat.le_of_ble_eq_true rfl) cdX7_byteAt naX7_byteAt lkX6_37 imX7_byteAt seX7_byteAt in0_1 sh0_1 rfl rfl rfl (Nat.le_of_ble_eq_true rfl) (z_aload dX6_isWord_41 rfl (z_iload dX6_isWord_42 rfl (z_charAt dX6_isWord_43 (i := 4) lkX6_175 rfl (id s4) (Nat.le_of_ble_eq_true rfl) (Nat.le_of_ble_eq_true rfl) (z_icmp_eq dX6_isWord_46 (fun c5 => ?_) (fun c5 => ?_)))))))))))
      · have h := ziT h (c5)
        exact z_iinc dX6_isWord_51 (Nat.le_of_ble_eq_true rfl) rfl (z_goto dX6_isWord_54 (z_mask [true, true, true] (hK20 h)))
      · have h := ziF h (c5)
        exact z_const dX6_isWord_49 (z_zretQ dX6_isWord_50 rfl rfl (by cases h; rfl))
def eX6_isWords4 (F : Nat) (X : zX) : Option (Int32) := if ((X 3 1) - (X 3 2)) = (nI 4) then hX6_isWords4_20 F F (nI 0) X else some (nI 0)
set_option maxRecDepth 20000 in
set_option maxHeartbeats 4000000 in
theorem tX6_isWords4 {μ : zM} {F : Nat} {X : zX} {ρ : Int32} (h : eX6_isWords4 F X = some ρ) : LM mX6_isWord 6 [zq 0 3, zq 3 5] (zg μ 0 X) (some (zi ρ)) (zg μ 0 X) := by
  unfold eX6_isWords4 at h
  refine LM.of (by decide +kernel) rfl (Nat.le_of_ble_eq_true rfl) ?_
  show zJ mX6_isWord 6 (0, 0) (0, 0) _ 0 [some (zq 0 3), some (zq 3 5), none] [] _
  refine z_aload dX6_isWord_0 rfl (z_getI dX6_isWord_1 fkX6_15 in0_3 sh0_3 rfl (z_aload dX6_isWord_4 rfl (z_getI dX6_isWord_5 fkX6_19 in0_3 sh0_3 rfl (z_isub dX6_isWord_8 (z_aload dX6_isWord_9 rfl (z_strlen dX6_isWord_10 (i := 4) lkX6_170 rfl (Nat.le_of_ble_eq_true rfl) (Nat.le_of_ble_eq_true rfl) (z_icmp_eq dX6_isWord_13 (fun c1 => ?_) (fun c1 => ?_))))))))
  · have h := ziT h (c1)
    exact z_const dX6_isWord_18 (z_istore dX6_isWord_19 (Nat.le_of_ble_eq_true rfl) (z_mask [true, true, true] (sX6_isWords4_20 h)))
  · have h := ziF h (c1)
    exact z_const dX6_isWord_16 (z_zretQ dX6_isWord_17 rfl rfl (by cases h; rfl))
-- X6_isWords5
def hX6_isWords5_20 (F : Nat) : Nat → Int32 → zX → Option (Int32)
  | 0, _, _ => none
  | n + 1, a2, X => if (nI 7) ≤ a2 then some (nI 1) else zbd (eX7_byteAt ((X 3 2) + a2) X) fun r3 => zchk (zin a2 7) (if r3 = (nI (List.getD [114, 101, 113, 117, 101, 115, 116] (zn a2) 0)) then (hX6_isWords5_20 F n) (a2 + (nI 1)) X else some (nI 0))
set_option maxRecDepth 20000 in
set_option maxHeartbeats 4000000 in
theorem sX6_isWords5_20 {μ : zM} {F : Nat} : ∀ {n : Nat} {a2 : Int32} {X : zX} {ρ : Int32}, hX6_isWords5_20 F n a2 X = some ρ → zJ mX6_isWord 6 (0, 0) (0, 0) (zQ (some (zi ρ)) (zg μ 0 X)) 20 [some (zq 0 3), some (zq 3 6), some (zi a2)] [] (zg μ 0 X) := by
  intro n
  induction n with
  | zero => intro a2 X ρ h; exact nomatch (show (none : Option _) = some ρ from h)
  | succ n ih =>
    intro a2 X ρ h
    have hK20 := @ih
    rw [hX6_isWords5_20] at h
    refine z_iload dX6_isWord_20 rfl (z_aload dX6_isWord_21 rfl (z_strlen dX6_isWord_22 (i := 5) lkX6_170 rfl (Nat.le_of_ble_eq_true rfl) (Nat.le_of_ble_eq_true rfl) (z_icmp_ge dX6_isWord_25 (fun c1 => ?_) (fun c1 => ?_))))
    · have h := ziT h (c1)
      exact z_const dX6_isWord_57 (z_zretQ dX6_isWord_58 rfl rfl (by cases h; rfl))
    · have h := ziF h (c1)
      obtain ⟨r3, l2, h⟩ := zbd_some h
      obtain ⟨s4, h⟩ := zchk_some h
      refine z_aload dX6_isWord_28 rfl (z_getR dX6_isWord_29 fkX6_9 in0_3 sh0_3 rfl (z_aload dX6_isWord_32 rfl (z_getI dX6_isWord_33 fkX6_19 in0_3 sh0_3 rfl (z_iload dX6_isWord_36 rfl (z_iadd dX6_isWord_37 (z_callV dX6_isWord_38 (tX7_byteAt l2) (Nat.le_of_ble_eq_true rfl) cdX7_byteAt naX7_byteAt lkX6_37 imX7_byteAt seX7_byteAt in0_1 sh0_1 rfl rfl rfl (Nat.le_of_ble_eq_true rfl) (z_aload dX6_isWord_41 rfl (z_iload dX6_isWord_42 rfl (z_charAt dX6_isWord_43 (i := 5) lkX6_175 rfl (id s4) (Nat.le_of_ble_eq_true rfl) (Nat.le_of_ble_eq_true rfl) (z_icmp_eq dX6_isWord_46 (fun c5 => ?_) (fun c5 => ?_)))))))))))
      · have h := ziT h (c5)
        exact z_iinc dX6_isWord_51 (Nat.le_of_ble_eq_true rfl) rfl (z_goto dX6_isWord_54 (z_mask [true, true, true] (hK20 h)))
      · have h := ziF h (c5)
        exact z_const dX6_isWord_49 (z_zretQ dX6_isWord_50 rfl rfl (by cases h; rfl))
def eX6_isWords5 (F : Nat) (X : zX) : Option (Int32) := if ((X 3 1) - (X 3 2)) = (nI 7) then hX6_isWords5_20 F F (nI 0) X else some (nI 0)
set_option maxRecDepth 20000 in
set_option maxHeartbeats 4000000 in
theorem tX6_isWords5 {μ : zM} {F : Nat} {X : zX} {ρ : Int32} (h : eX6_isWords5 F X = some ρ) : LM mX6_isWord 6 [zq 0 3, zq 3 6] (zg μ 0 X) (some (zi ρ)) (zg μ 0 X) := by
  unfold eX6_isWords5 at h
  refine LM.of (by decide +kernel) rfl (Nat.le_of_ble_eq_true rfl) ?_
  show zJ mX6_isWord 6 (0, 0) (0, 0) _ 0 [some (zq 0 3), some (zq 3 6), none] [] _
  refine z_aload dX6_isWord_0 rfl (z_getI dX6_isWord_1 fkX6_15 in0_3 sh0_3 rfl (z_aload dX6_isWord_4 rfl (z_getI dX6_isWord_5 fkX6_19 in0_3 sh0_3 rfl (z_isub dX6_isWord_8 (z_aload dX6_isWord_9 rfl (z_strlen dX6_isWord_10 (i := 5) lkX6_170 rfl (Nat.le_of_ble_eq_true rfl) (Nat.le_of_ble_eq_true rfl) (z_icmp_eq dX6_isWord_13 (fun c1 => ?_) (fun c1 => ?_))))))))
  · have h := ziT h (c1)
    exact z_const dX6_isWord_18 (z_istore dX6_isWord_19 (Nat.le_of_ble_eq_true rfl) (z_mask [true, true, true] (sX6_isWords5_20 h)))
  · have h := ziF h (c1)
    exact z_const dX6_isWord_16 (z_zretQ dX6_isWord_17 rfl rfl (by cases h; rfl))
-- X6_isWords6
def hX6_isWords6_20 (F : Nat) : Nat → Int32 → zX → Option (Int32)
  | 0, _, _ => none
  | n + 1, a2, X => if (nI 6) ≤ a2 then some (nI 1) else zbd (eX7_byteAt ((X 3 2) + a2) X) fun r3 => zchk (zin a2 6) (if r3 = (nI (List.getD [114, 101, 112, 97, 105, 114] (zn a2) 0)) then (hX6_isWords6_20 F n) (a2 + (nI 1)) X else some (nI 0))
set_option maxRecDepth 20000 in
set_option maxHeartbeats 4000000 in
theorem sX6_isWords6_20 {μ : zM} {F : Nat} : ∀ {n : Nat} {a2 : Int32} {X : zX} {ρ : Int32}, hX6_isWords6_20 F n a2 X = some ρ → zJ mX6_isWord 6 (0, 0) (0, 0) (zQ (some (zi ρ)) (zg μ 0 X)) 20 [some (zq 0 3), some (zq 3 7), some (zi a2)] [] (zg μ 0 X) := by
  intro n
  induction n with
  | zero => intro a2 X ρ h; exact nomatch (show (none : Option _) = some ρ from h)
  | succ n ih =>
    intro a2 X ρ h
    have hK20 := @ih
    rw [hX6_isWords6_20] at h
    refine z_iload dX6_isWord_20 rfl (z_aload dX6_isWord_21 rfl (z_strlen dX6_isWord_22 (i := 6) lkX6_170 rfl (Nat.le_of_ble_eq_true rfl) (Nat.le_of_ble_eq_true rfl) (z_icmp_ge dX6_isWord_25 (fun c1 => ?_) (fun c1 => ?_))))
    · have h := ziT h (c1)
      exact z_const dX6_isWord_57 (z_zretQ dX6_isWord_58 rfl rfl (by cases h; rfl))
    · have h := ziF h (c1)
      obtain ⟨r3, l2, h⟩ := zbd_some h
      obtain ⟨s4, h⟩ := zchk_some h
      refine z_aload dX6_isWord_28 rfl (z_getR dX6_isWord_29 fkX6_9 in0_3 sh0_3 rfl (z_aload dX6_isWord_32 rfl (z_getI dX6_isWord_33 fkX6_19 in0_3 sh0_3 rfl (z_iload dX6_isWord_36 rfl (z_iadd dX6_isWord_37 (z_callV dX6_isWord_38 (tX7_byteAt l2) (Nat.le_of_ble_eq_true rfl) cdX7_byteAt naX7_byteAt lkX6_37 imX7_byteAt seX7_byteAt in0_1 sh0_1 rfl rfl rfl (Nat.le_of_ble_eq_true rfl) (z_aload dX6_isWord_41 rfl (z_iload dX6_isWord_42 rfl (z_charAt dX6_isWord_43 (i := 6) lkX6_175 rfl (id s4) (Nat.le_of_ble_eq_true rfl) (Nat.le_of_ble_eq_true rfl) (z_icmp_eq dX6_isWord_46 (fun c5 => ?_) (fun c5 => ?_)))))))))))
      · have h := ziT h (c5)
        exact z_iinc dX6_isWord_51 (Nat.le_of_ble_eq_true rfl) rfl (z_goto dX6_isWord_54 (z_mask [true, true, true] (hK20 h)))
      · have h := ziF h (c5)
        exact z_const dX6_isWord_49 (z_zretQ dX6_isWord_50 rfl rfl (by cases h; rfl))
def eX6_isWords6 (F : Nat) (X : zX) : Option (Int32) := if ((X 3 1) - (X 3 2)) = (nI 6) then hX6_isWords6_20 F F (nI 0) X else some (nI 0)
set_option maxRecDepth 20000 in
set_option maxHeartbeats 4000000 in
theorem tX6_isWords6 {μ : zM} {F : Nat} {X : zX} {ρ : Int32} (h : eX6_isWords6 F X = some ρ) : LM mX6_isWord 6 [zq 0 3, zq 3 7] (zg μ 0 X) (some (zi ρ)) (zg μ 0 X) := by
  unfold eX6_isWords6 at h
  refine LM.of (by decide +kernel) rfl (Nat.le_of_ble_eq_true rfl) ?_
  show zJ mX6_isWord 6 (0, 0) (0, 0) _ 0 [some (zq 0 3), some (zq 3 7), none] [] _
  refine z_aload dX6_isWord_0 rfl (z_getI dX6_isWord_1 fkX6_15 in0_3 sh0_3 rfl (z_aload dX6_isWord_4 rfl (z_getI dX6_isWord_5 fkX6_19 in0_3 sh0_3 rfl (z_isub dX6_isWord_8 (z_aload dX6_isWord_9 rfl (z_strlen dX6_isWord_10 (i := 6) lkX6_170 rfl (Nat.le_of_ble_eq_true rfl) (Nat.le_of_ble_eq_true rfl) (z_icmp_eq dX6_isWord_13 (fun c1 => ?_) (fun c1 => ?_))))))))
  · have h := ziT h (c1)
    exact z_const dX6_isWord_18 (z_istore dX6_isWord_19 (Nat.le_of_ble_eq_true rfl) (z_mask [true, true, true] (sX6_isWords6_20 h)))
  · have h := ziF h (c1)
    exact z_const dX6_isWord_16 (z_zretQ dX6_isWord_17 rfl rfl (by cases h; rfl))
-- X6_isWords7
def hX6_isWords7_20 (F : Nat) : Nat → Int32 → zX → Option (Int32)
  | 0, _, _ => none
  | n + 1, a2, X => if (nI 6) ≤ a2 then some (nI 1) else zbd (eX7_byteAt ((X 3 2) + a2) X) fun r3 => zchk (zin a2 6) (if r3 = (nI (List.getD [115, 111, 117, 114, 99, 101] (zn a2) 0)) then (hX6_isWords7_20 F n) (a2 + (nI 1)) X else some (nI 0))
set_option maxRecDepth 20000 in
set_option maxHeartbeats 4000000 in
theorem sX6_isWords7_20 {μ : zM} {F : Nat} : ∀ {n : Nat} {a2 : Int32} {X : zX} {ρ : Int32}, hX6_isWords7_20 F n a2 X = some ρ → zJ mX6_isWord 6 (0, 0) (0, 0) (zQ (some (zi ρ)) (zg μ 0 X)) 20 [some (zq 0 3), some (zq 3 8), some (zi a2)] [] (zg μ 0 X) := by
  intro n
  induction n with
  | zero => intro a2 X ρ h; exact nomatch (show (none : Option _) = some ρ from h)
  | succ n ih =>
    intro a2 X ρ h
    have hK20 := @ih
    rw [hX6_isWords7_20] at h
    refine z_iload dX6_isWord_20 rfl (z_aload dX6_isWord_21 rfl (z_strlen dX6_isWord_22 (i := 7) lkX6_170 rfl (Nat.le_of_ble_eq_true rfl) (Nat.le_of_ble_eq_true rfl) (z_icmp_ge dX6_isWord_25 (fun c1 => ?_) (fun c1 => ?_))))
    · have h := ziT h (c1)
      exact z_const dX6_isWord_57 (z_zretQ dX6_isWord_58 rfl rfl (by cases h; rfl))
    · have h := ziF h (c1)
      obtain ⟨r3, l2, h⟩ := zbd_some h
      obtain ⟨s4, h⟩ := zchk_some h
      refine z_aload dX6_isWord_28 rfl (z_getR dX6_isWord_29 fkX6_9 in0_3 sh0_3 rfl (z_aload dX6_isWord_32 rfl (z_getI dX6_isWord_33 fkX6_19 in0_3 sh0_3 rfl (z_iload dX6_isWord_36 rfl (z_iadd dX6_isWord_37 (z_callV dX6_isWord_38 (tX7_byteAt l2) (Nat.le_of_ble_eq_true rfl) cdX7_byteAt naX7_byteAt lkX6_37 imX7_byteAt seX7_byteAt in0_1 sh0_1 rfl rfl rfl (Nat.le_of_ble_eq_true rfl) (z_aload dX6_isWord_41 rfl (z_iload dX6_isWord_42 rfl (z_charAt dX6_isWord_43 (i := 7) lkX6_175 rfl (id s4) (Nat.le_of_ble_eq_true rfl) (Nat.le_of_ble_eq_true rfl) (z_icmp_eq dX6_isWord_46 (fun c5 => ?_) (fun c5 => ?_)))))))))))
      · have h := ziT h (c5)
        exact z_iinc dX6_isWord_51 (Nat.le_of_ble_eq_true rfl) rfl (z_goto dX6_isWord_54 (z_mask [true, true, true] (hK20 h)))
      · have h := ziF h (c5)
        exact z_const dX6_isWord_49 (z_zretQ dX6_isWord_50 rfl rfl (by cases h; rfl))
def eX6_isWords7 (F : Nat) (X : zX) : Option (Int32) := if ((X 3 1) - (X 3 2)) = (nI 6) then hX6_isWords7_20 F F (nI 0) X else some (nI 0)
set_option maxRecDepth 20000 in
set_option maxHeartbeats 4000000 in
theorem tX6_isWords7 {μ : zM} {F : Nat} {X : zX} {ρ : Int32} (h : eX6_isWords7 F X = some ρ) : LM mX6_isWord 6 [zq 0 3, zq 3 8] (zg μ 0 X) (some (zi ρ)) (zg μ 0 X) := by
  unfold eX6_isWords7 at h
  refine LM.of (by decide +kernel) rfl (Nat.le_of_ble_eq_true rfl) ?_
  show zJ mX6_isWord 6 (0, 0) (0, 0) _ 0 [some (zq 0 3), some (zq 3 8), none] [] _
  refine z_aload dX6_isWord_0 rfl (z_getI dX6_isWord_1 fkX6_15 in0_3 sh0_3 rfl (z_aload dX6_isWord_4 rfl (z_getI dX6_isWord_5 fkX6_19 in0_3 sh0_3 rfl (z_isub dX6_isWord_8 (z_aload dX6_isWord_9 rfl (z_strlen dX6_isWord_10 (i := 7) lkX6_170 rfl (Nat.le_of_ble_eq_true rfl) (Nat.le_of_ble_eq_true rfl) (z_icmp_eq dX6_isWord_13 (fun c1 => ?_) (fun c1 => ?_))))))))
  · have h := ziT h (c1)
    exact z_const dX6_isWord_18 (z_istore dX6_isWord_19 (Nat.le_of_ble_eq_true rfl) (z_mask [true, true, true] (sX6_isWords7_20 h)))
  · have h := ziF h (c1)
    exact z_const dX6_isWord_16 (z_zretQ dX6_isWord_17 rfl rfl (by cases h; rfl))
-- X6_isWords8
def hX6_isWords8_20 (F : Nat) : Nat → Int32 → zX → Option (Int32)
  | 0, _, _ => none
  | n + 1, a2, X => if (nI 5) ≤ a2 then some (nI 1) else zbd (eX7_byteAt ((X 3 2) + a2) X) fun r3 => zchk (zin a2 5) (if r3 = (nI (List.getD [115, 99, 111, 112, 101] (zn a2) 0)) then (hX6_isWords8_20 F n) (a2 + (nI 1)) X else some (nI 0))
set_option maxRecDepth 20000 in
set_option maxHeartbeats 4000000 in
theorem sX6_isWords8_20 {μ : zM} {F : Nat} : ∀ {n : Nat} {a2 : Int32} {X : zX} {ρ : Int32}, hX6_isWords8_20 F n a2 X = some ρ → zJ mX6_isWord 6 (0, 0) (0, 0) (zQ (some (zi ρ)) (zg μ 0 X)) 20 [some (zq 0 3), some (zq 3 9), some (zi a2)] [] (zg μ 0 X) := by
  intro n
  induction n with
  | zero => intro a2 X ρ h; exact nomatch (show (none : Option _) = some ρ from h)
  | succ n ih =>
    intro a2 X ρ h
    have hK20 := @ih
    rw [hX6_isWords8_20] at h
    refine z_iload dX6_isWord_20 rfl (z_aload dX6_isWord_21 rfl (z_strlen dX6_isWord_22 (i := 8) lkX6_170 rfl (Nat.le_of_ble_eq_true rfl) (Nat.le_of_ble_eq_true rfl) (z_icmp_ge dX6_isWord_25 (fun c1 => ?_) (fun c1 => ?_))))
    · have h := ziT h (c1)
      exact z_const dX6_isWord_57 (z_zretQ dX6_isWord_58 rfl rfl (by cases h; rfl))
    · have h := ziF h (c1)
      obtain ⟨r3, l2, h⟩ := zbd_some h
      obtain ⟨s4, h⟩ := zchk_some h
      refine z_aload dX6_isWord_28 rfl (z_getR dX6_isWord_29 fkX6_9 in0_3 sh0_3 rfl (z_aload dX6_isWord_32 rfl (z_getI dX6_isWord_33 fkX6_19 in0_3 sh0_3 rfl (z_iload dX6_isWord_36 rfl (z_iadd dX6_isWord_37 (z_callV dX6_isWord_38 (tX7_byteAt l2) (Nat.le_of_ble_eq_true rfl) cdX7_byteAt naX7_byteAt lkX6_37 imX7_byteAt seX7_byteAt in0_1 sh0_1 rfl rfl rfl (Nat.le_of_ble_eq_true rfl) (z_aload dX6_isWord_41 rfl (z_iload dX6_isWord_42 rfl (z_charAt dX6_isWord_43 (i := 8) lkX6_175 rfl (id s4) (Nat.le_of_ble_eq_true rfl) (Nat.le_of_ble_eq_true rfl) (z_icmp_eq dX6_isWord_46 (fun c5 => ?_) (fun c5 => ?_)))))))))))
      · have h := ziT h (c5)
        exact z_iinc dX6_isWord_51 (Nat.le_of_ble_eq_true rfl) rfl (z_goto dX6_isWord_54 (z_mask [true, true, true] (hK20 h)))
      · have h := ziF h (c5)
        exact z_const dX6_isWord_49 (z_zretQ dX6_isWord_50 rfl rfl (by cases h; rfl))
def eX6_isWords8 (F : Nat) (X : zX) : Option (Int32) := if ((X 3 1) - (X 3 2)) = (nI 5) then hX6_isWords8_20 F F (nI 0) X else some (nI 0)
set_option maxRecDepth 20000 in
set_option maxHeartbeats 4000000 in
theorem tX6_isWords8 {μ : zM} {F : Nat} {X : zX} {ρ : Int32} (h : eX6_isWords8 F X = some ρ) : LM mX6_isWord 6 [zq 0 3, zq 3 9] (zg μ 0 X) (some (zi ρ)) (zg μ 0 X) := by
  unfold eX6_isWords8 at h
  refine LM.of (by decide +kernel) rfl (Nat.le_of_ble_eq_true rfl) ?_
  show zJ mX6_isWord 6 (0, 0) (0, 0) _ 0 [some (zq 0 3), some (zq 3 9), none] [] _
  refine z_aload dX6_isWord_0 rfl (z_getI dX6_isWord_1 fkX6_15 in0_3 sh0_3 rfl (z_aload dX6_isWord_4 rfl (z_getI dX6_isWord_5 fkX6_19 in0_3 sh0_3 rfl (z_isub dX6_isWord_8 (z_aload dX6_isWord_9 rfl (z_strlen dX6_isWord_10 (i := 8) lkX6_170 rfl (Nat.le_of_ble_eq_true rfl) (Nat.le_of_ble_eq_true rfl) (z_icmp_eq dX6_isWord_13 (fun c1 => ?_) (fun c1 => ?_))))))))
  · have h := ziT h (c1)
    exact z_const dX6_isWord_18 (z_istore dX6_isWord_19 (Nat.le_of_ble_eq_true rfl) (z_mask [true, true, true] (sX6_isWords8_20 h)))
  · have h := ziF h (c1)
    exact z_const dX6_isWord_16 (z_zretQ dX6_isWord_17 rfl rfl (by cases h; rfl))
-- X6_isWords9
def hX6_isWords9_20 (F : Nat) : Nat → Int32 → zX → Option (Int32)
  | 0, _, _ => none
  | n + 1, a2, X => if (nI 7) ≤ a2 then some (nI 1) else zbd (eX7_byteAt ((X 3 2) + a2) X) fun r3 => zchk (zin a2 7) (if r3 = (nI (List.getD [115, 101, 115, 115, 105, 111, 110] (zn a2) 0)) then (hX6_isWords9_20 F n) (a2 + (nI 1)) X else some (nI 0))
set_option maxRecDepth 20000 in
set_option maxHeartbeats 4000000 in
theorem sX6_isWords9_20 {μ : zM} {F : Nat} : ∀ {n : Nat} {a2 : Int32} {X : zX} {ρ : Int32}, hX6_isWords9_20 F n a2 X = some ρ → zJ mX6_isWord 6 (0, 0) (0, 0) (zQ (some (zi ρ)) (zg μ 0 X)) 20 [some (zq 0 3), some (zq 3 10), some (zi a2)] [] (zg μ 0 X) := by
  intro n
  induction n with
  | zero => intro a2 X ρ h; exact nomatch (show (none : Option _) = some ρ from h)
  | succ n ih =>
    intro a2 X ρ h
    have hK20 := @ih
    rw [hX6_isWords9_20] at h
    refine z_iload dX6_isWord_20 rfl (z_aload dX6_isWord_21 rfl (z_strlen dX6_isWord_22 (i := 9) lkX6_170 rfl (Nat.le_of_ble_eq_true rfl) (Nat.le_of_ble_eq_true rfl) (z_icmp_ge dX6_isWord_25 (fun c1 => ?_) (fun c1 => ?_))))
    · have h := ziT h (c1)
      exact z_const dX6_isWord_57 (z_zretQ dX6_isWord_58 rfl rfl (by cases h; rfl))
    · have h := ziF h (c1)
      obtain ⟨r3, l2, h⟩ := zbd_some h
      obtain ⟨s4, h⟩ := zchk_some h
      refine z_aload dX6_isWord_28 rfl (z_getR dX6_isWord_29 fkX6_9 in0_3 sh0_3 rfl (z_aload dX6_isWord_32 rfl (z_getI dX6_isWord_33 fkX6_19 in0_3 sh0_3 rfl (z_iload dX6_isWord_36 rfl (z_iadd dX6_isWord_37 (z_callV dX6_isWord_38 (tX7_byteAt l2) (Nat.le_of_ble_eq_true rfl) cdX7_byteAt naX7_byteAt lkX6_37 imX7_byteAt seX7_byteAt in0_1 sh0_1 rfl rfl rfl (Nat.le_of_ble_eq_true rfl) (z_aload dX6_isWord_41 rfl (z_iload dX6_isWord_42 rfl (z_charAt dX6_isWord_43 (i := 9) lkX6_175 rfl (id s4) (Nat.le_of_ble_eq_true rfl) (Nat.le_of_ble_eq_true rfl) (z_icmp_eq dX6_isWord_46 (fun c5 => ?_) (fun c5 => ?_)))))))))))
      · have h := ziT h (c5)
        exact z_iinc dX6_isWord_51 (Nat.le_of_ble_eq_true rfl) rfl (z_goto dX6_isWord_54 (z_mask [true, true, true] (hK20 h)))
      · have h := ziF h (c5)
        exact z_const dX6_isWord_49 (z_zretQ dX6_isWord_50 rfl rfl (by cases h; rfl))
def eX6_isWords9 (F : Nat) (X : zX) : Option (Int32) := if ((X 3 1) - (X 3 2)) = (nI 7) then hX6_isWords9_20 F F (nI 0) X else some (nI 0)
set_option maxRecDepth 20000 in
set_option maxHeartbeats 4000000 in
theorem tX6_isWords9 {μ : zM} {F : Nat} {X : zX} {ρ : Int32} (h : eX6_isWords9 F X = some ρ) : LM mX6_isWord 6 [zq 0 3, zq 3 10] (zg μ 0 X) (some (zi ρ)) (zg μ 0 X) := by
  unfold eX6_isWords9 at h
  refine LM.of (by decide +kernel) rfl (Nat.le_of_ble_eq_true rfl) ?_
  show zJ mX6_isWord 6 (0, 0) (0, 0) _ 0 [some (zq 0 3), some (zq 3 10), none] [] _
  refine z_aload dX6_isWord_0 rfl (z_getI dX6_isWord_1 fkX6_15 in0_3 sh0_3 rfl (z_aload dX6_isWord_4 rfl (z_getI dX6_isWord_5 fkX6_19 in0_3 sh0_3 rfl (z_isub dX6_isWord_8 (z_aload dX6_isWord_9 rfl (z_strlen dX6_isWord_10 (i := 9) lkX6_170 rfl (Nat.le_of_ble_eq_true rfl) (Nat.le_of_ble_eq_true rfl) (z_icmp_eq dX6_isWord_13 (fun c1 => ?_) (fun c1 => ?_))))))))
  · have h := ziT h (c1)
    exact z_const dX6_isWord_18 (z_istore dX6_isWord_19 (Nat.le_of_ble_eq_true rfl) (z_mask [true, true, true] (sX6_isWords9_20 h)))
  · have h := ziF h (c1)
    exact z_const dX6_isWord_16 (z_zretQ dX6_isWord_17 rfl rfl (by cases h; rfl))
-- X6_isWords10
def hX6_isWords10_20 (F : Nat) : Nat → Int32 → zX → Option (Int32)
  | 0, _, _ => none
  | n + 1, a2, X => if (nI 4) ≤ a2 then some (nI 1) else zbd (eX7_byteAt ((X 3 2) + a2) X) fun r3 => zchk (zin a2 4) (if r3 = (nI (List.getD [114, 97, 116, 101] (zn a2) 0)) then (hX6_isWords10_20 F n) (a2 + (nI 1)) X else some (nI 0))
set_option maxRecDepth 20000 in
set_option maxHeartbeats 4000000 in
theorem sX6_isWords10_20 {μ : zM} {F : Nat} : ∀ {n : Nat} {a2 : Int32} {X : zX} {ρ : Int32}, hX6_isWords10_20 F n a2 X = some ρ → zJ mX6_isWord 6 (0, 0) (0, 0) (zQ (some (zi ρ)) (zg μ 0 X)) 20 [some (zq 0 3), some (zq 3 11), some (zi a2)] [] (zg μ 0 X) := by
  intro n
  induction n with
  | zero => intro a2 X ρ h; exact nomatch (show (none : Option _) = some ρ from h)
  | succ n ih =>
    intro a2 X ρ h
    have hK20 := @ih
    rw [hX6_isWords10_20] at h
    refine z_iload dX6_isWord_20 rfl (z_aload dX6_isWord_21 rfl (z_strlen dX6_isWord_22 (i := 10) lkX6_170 rfl (Nat.le_of_ble_eq_true rfl) (Nat.le_of_ble_eq_true rfl) (z_icmp_ge dX6_isWord_25 (fun c1 => ?_) (fun c1 => ?_))))
    · have h := ziT h (c1)
      exact z_const dX6_isWord_57 (z_zretQ dX6_isWord_58 rfl rfl (by cases h; rfl))
    · have h := ziF h (c1)
      obtain ⟨r3, l2, h⟩ := zbd_some h
      obtain ⟨s4, h⟩ := zchk_some h
      refine z_aload dX6_isWord_28 rfl (z_getR dX6_isWord_29 fkX6_9 in0_3 sh0_3 rfl (z_aload dX6_isWord_32 rfl (z_getI dX6_isWord_33 fkX6_19 in0_3 sh0_3 rfl (z_iload dX6_isWord_36 rfl (z_iadd dX6_isWord_37 (z_callV dX6_isWord_38 (tX7_byteAt l2) (Nat.le_of_ble_eq_true rfl) cdX7_byteAt naX7_byteAt lkX6_37 imX7_byteAt seX7_byteAt in0_1 sh0_1 rfl rfl rfl (Nat.le_of_ble_eq_true rfl) (z_aload dX6_isWord_41 rfl (z_iload dX6_isWord_42 rfl (z_charAt dX6_isWord_43 (i := 10) lkX6_175 rfl (id s4) (Nat.le_of_ble_eq_true rfl) (Nat.le_of_ble_eq_true rfl) (z_icmp_eq dX6_isWord_46 (fun c5 => ?_) (fun c5 => ?_)))))))))))
      · have h := ziT h (c5)
        exact z_iinc dX6_isWord_51 (Nat.le_of_ble_eq_true rfl) rfl (z_goto dX6_isWord_54 (z_mask [true, true, true] (hK20 h)))
      · have h := ziF h (c5)
        exact z_const dX6_isWord_49 (z_zretQ dX6_isWord_50 rfl rfl (by cases h; rfl))
def eX6_isWords10 (F : Nat) (X : zX) : Option (Int32) := if ((X 3 1) - (X 3 2)) = (nI 4) then hX6_isWords10_20 F F (nI 0) X else some (nI 0)
set_option maxRecDepth 20000 in
set_option maxHeartbeats 4000000 in
theorem tX6_isWords10 {μ : zM} {F : Nat} {X : zX} {ρ : Int32} (h : eX6_isWords10 F X = some ρ) : LM mX6_isWord 6 [zq 0 3, zq 3 11] (zg μ 0 X) (some (zi ρ)) (zg μ 0 X) := by
  unfold eX6_isWords10 at h
  refine LM.of (by decide +kernel) rfl (Nat.le_of_ble_eq_true rfl) ?_
  show zJ mX6_isWord 6 (0, 0) (0, 0) _ 0 [some (zq 0 3), some (zq 3 11), none] [] _
  refine z_aload dX6_isWord_0 rfl (z_getI dX6_isWord_1 fkX6_15 in0_3 sh0_3 rfl (z_aload dX6_isWord_4 rfl (z_getI dX6_isWord_5 fkX6_19 in0_3 sh0_3 rfl (z_isub dX6_isWord_8 (z_aload dX6_isWord_9 rfl (z_strlen dX6_isWord_10 (i := 10) lkX6_170 rfl (Nat.le_of_ble_eq_true rfl) (Nat.le_of_ble_eq_true rfl) (z_icmp_eq dX6_isWord_13 (fun c1 => ?_) (fun c1 => ?_))))))))
  · have h := ziT h (c1)
    exact z_const dX6_isWord_18 (z_istore dX6_isWord_19 (Nat.le_of_ble_eq_true rfl) (z_mask [true, true, true] (sX6_isWords10_20 h)))
  · have h := ziF h (c1)
    exact z_const dX6_isWord_16 (z_zretQ dX6_isWord_17 rfl rfl (by cases h; rfl))
-- X6_readNumber
def eX6_readNumber (F : Nat) (μ : zM) : Option (Int32 × zM) := zbd (eX6_isWords7 F (μ 0)) fun r2 => if r2 = 0 then zbd (eX6_isWords8 F (μ 0)) fun r5 => if r5 = 0 then zbd (eX6_isWords9 F (μ 0)) fun r8 => if r8 = 0 then zbd (eX6_isWords10 F (μ 0)) fun r11 => if r11 = 0 then zbd (eX6_fail (μ 0)) fun y14 => zchk (zbl y14.1) (some (y14.1, zg μ 0 y14.2)) else zbd (eX6_takeNumber F (nI 0) (nI 20) (μ 0)) fun y17 => if ((zw (μ 6) 1 3 y17.1) 1 3) = (-1) then some ((nI 0), zg (zg μ 0 y17.2) 6 (zw (μ 6) 1 3 y17.1)) else some ((nI 1), zg (zg μ 0 y17.2) 6 (zw (μ 6) 1 3 y17.1)) else zbd (eX6_takeNumber F (nI 0) (nI 20) (μ 0)) fun y20 => if ((zw (μ 6) 1 2 y20.1) 1 2) = (-1) then some ((nI 0), zg (zg μ 0 y20.2) 6 (zw (μ 6) 1 2 y20.1)) else some ((nI 1), zg (zg μ 0 y20.2) 6 (zw (μ 6) 1 2 y20.1)) else zbd (eX6_takeNumber F (nI 1) (nI 5) (μ 0)) fun y23 => if ((zw (μ 6) 1 1 y23.1) 1 1) = (-1) then some ((nI 0), zg (zg μ 0 y23.2) 6 (zw (μ 6) 1 1 y23.1)) else some ((nI 1), zg (zg μ 0 y23.2) 6 (zw (μ 6) 1 1 y23.1)) else zbd (eX6_takeNumber F (nI 0) (((μ 6) 3 0) - (nI 1)) (μ 0)) fun y26 => zlet (zg (zg (zg (zg μ 0 (μ 0)) 6 (μ 6)) 0 y26.2) 6 (zw (μ 6) 1 0 y26.1)) fun m27 => if ((zw (μ 6) 1 0 y26.1) 1 0) = (-1) then some ((nI 0), zg m27 6 (m27 6)) else some ((nI 1), zg m27 6 (m27 6))
set_option maxRecDepth 20000 in
set_option maxHeartbeats 4000000 in
theorem tX6_readNumber {F : Nat} {μ : zM} {ρ : Int32 × zM} (h : eX6_readNumber F μ = some ρ) : LM mX6_readNumber 7 [zq 0 3, zq 6 0] μ (some (zi ρ.1)) ρ.2 := by
  unfold eX6_readNumber at h
  refine LM.of (by decide +kernel) rfl (Nat.le_of_ble_eq_true rfl) ?_
  show zJ mX6_readNumber 7 (0, 0) (0, 0) _ 0 [some (zq 0 3), some (zq 6 0), none] [] _
  obtain ⟨r2, l1, h⟩ := zbd_some h
  refine z_aload dX6_readNumber_0 rfl (z_getR dX6_readNumber_1 fkX6_65 in6_0 sh_0 rfl (z_astore dX6_readNumber_4 (Nat.le_of_ble_eq_true rfl) (z_aload dX6_readNumber_5 rfl (z_ldcs dX6_readNumber_6 (i := 7) rfl rfl rfl (z_focus 0 (z_callV dX6_readNumber_8 (tX6_isWords7 l1) (Nat.le_of_ble_eq_true rfl) cdX6_isWord naX6_isWord lkX6_46 imX6_isWord seX6_isWord in0_3 sh0_3 rfl rfl rfl (Nat.le_of_ble_eq_true rfl) (z_if_eq dX6_readNumber_11 (fun c3 => ?_) (fun c3 => ?_))))))))
  · have h := ziT h (c3)
    obtain ⟨r5, l4, h⟩ := zbd_some h
    refine z_aload dX6_readNumber_46 rfl (z_ldcs dX6_readNumber_47 (i := 8) rfl rfl rfl (z_callV dX6_readNumber_49 (tX6_isWords8 l4) (Nat.le_of_ble_eq_true rfl) cdX6_isWord naX6_isWord lkX6_46 imX6_isWord seX6_isWord in0_3 sh0_3 rfl rfl rfl (Nat.le_of_ble_eq_true rfl) (z_if_eq dX6_readNumber_52 (fun c6 => ?_) (fun c6 => ?_))))
    · have h := ziT h (c6)
      obtain ⟨r8, l7, h⟩ := zbd_some h
      refine z_aload dX6_readNumber_79 rfl (z_ldcs dX6_readNumber_80 (i := 9) rfl rfl rfl (z_callV dX6_readNumber_82 (tX6_isWords9 l7) (Nat.le_of_ble_eq_true rfl) cdX6_isWord naX6_isWord lkX6_46 imX6_isWord seX6_isWord in0_3 sh0_3 rfl rfl rfl (Nat.le_of_ble_eq_true rfl) (z_if_eq dX6_readNumber_85 (fun c9 => ?_) (fun c9 => ?_))))
      · have h := ziT h (c9)
        obtain ⟨r11, l10, h⟩ := zbd_some h
        refine z_aload dX6_readNumber_113 rfl (z_ldcs dX6_readNumber_114 (i := 10) rfl rfl rfl (z_callV dX6_readNumber_116 (tX6_isWords10 l10) (Nat.le_of_ble_eq_true rfl) cdX6_isWord naX6_isWord lkX6_46 imX6_isWord seX6_isWord in0_3 sh0_3 rfl rfl rfl (Nat.le_of_ble_eq_true rfl) (z_if_eq dX6_readNumber_119 (fun c12 => ?_) (fun c12 => ?_))))
        · have h := ziT h (c12)
          obtain ⟨y14, l13, h⟩ := zbd_some h
          obtain ⟨s15, h⟩ := zchk_some h
          exact z_aload dX6_readNumber_147 rfl (z_callV dX6_readNumber_148 (tX6_fail l13) (Nat.le_of_ble_eq_true rfl) cdX6_fail naX6_fail lkX6_87 imX6_fail seX6_fail in0_3 sh0_3 rfl rfl rfl (Nat.le_of_ble_eq_true rfl) (z_zretQ dX6_readNumber_151 rfl (zbl_n (id s15)) (by cases h; rfl)))
        · have h := ziF h (c12)
          obtain ⟨y17, l16, h⟩ := zbd_some h
          refine z_aload dX6_readNumber_122 rfl (z_aload dX6_readNumber_123 rfl (z_const dX6_readNumber_124 (z_const dX6_readNumber_125 (z_callV dX6_readNumber_127 (tX6_takeNumber l16) (Nat.le_of_ble_eq_true rfl) cdX6_takeNumber naX6_takeNumber lkX6_119 imX6_takeNumber seX6_takeNumber in0_3 sh0_3 rfl rfl rfl (Nat.le_of_ble_eq_true rfl) (z_focus 6 (z_putI dX6_readNumber_130 fkX6_165 in6_1 sh_1 rfl (fun _ _ _ h => by cases h; rfl) ⟨_, rfl, rfl, rfl⟩ (z_aload dX6_readNumber_133 rfl (z_getI dX6_readNumber_134 fkX6_165 in6_1 sh_1 rfl (z_const dX6_readNumber_137 (z_icmp_eq dX6_readNumber_138 (fun c18 => ?_) (fun c18 => ?_)))))))))))
          · have h := ziT h (c18)
            exact z_const dX6_readNumber_145 (z_zretQ dX6_readNumber_146 rfl rfl (by cases h; rfl))
          · have h := ziF h (c18)
            exact z_const dX6_readNumber_141 (z_goto dX6_readNumber_142 (z_zretQ dX6_readNumber_146 rfl rfl (by cases h; rfl)))
      · have h := ziF h (c9)
        obtain ⟨y20, l19, h⟩ := zbd_some h
        refine z_aload dX6_readNumber_88 rfl (z_aload dX6_readNumber_89 rfl (z_const dX6_readNumber_90 (z_const dX6_readNumber_91 (z_callV dX6_readNumber_93 (tX6_takeNumber l19) (Nat.le_of_ble_eq_true rfl) cdX6_takeNumber naX6_takeNumber lkX6_119 imX6_takeNumber seX6_takeNumber in0_3 sh0_3 rfl rfl rfl (Nat.le_of_ble_eq_true rfl) (z_focus 6 (z_putI dX6_readNumber_96 fkX6_160 in6_1 sh_1 rfl (fun _ _ _ h => by cases h; rfl) ⟨_, rfl, rfl, rfl⟩ (z_aload dX6_readNumber_99 rfl (z_getI dX6_readNumber_100 fkX6_160 in6_1 sh_1 rfl (z_const dX6_readNumber_103 (z_icmp_eq dX6_readNumber_104 (fun c21 => ?_) (fun c21 => ?_)))))))))))
        · have h := ziT h (c21)
          exact z_const dX6_readNumber_111 (z_zretQ dX6_readNumber_112 rfl rfl (by cases h; rfl))
        · have h := ziF h (c21)
          exact z_const dX6_readNumber_107 (z_goto dX6_readNumber_108 (z_zretQ dX6_readNumber_112 rfl rfl (by cases h; rfl)))
    · have h := ziF h (c6)
      obtain ⟨y23, l22, h⟩ := zbd_some h
      refine z_aload dX6_readNumber_55 rfl (z_aload dX6_readNumber_56 rfl (z_const dX6_readNumber_57 (z_const dX6_readNumber_58 (z_callV dX6_readNumber_59 (tX6_takeNumber l22) (Nat.le_of_ble_eq_true rfl) cdX6_takeNumber naX6_takeNumber lkX6_119 imX6_takeNumber seX6_takeNumber in0_3 sh0_3 rfl rfl rfl (Nat.le_of_ble_eq_true rfl) (z_focus 6 (z_putI dX6_readNumber_62 fkX6_156 in6_1 sh_1 rfl (fun _ _ _ h => by cases h; rfl) ⟨_, rfl, rfl, rfl⟩ (z_aload dX6_readNumber_65 rfl (z_getI dX6_readNumber_66 fkX6_156 in6_1 sh_1 rfl (z_const dX6_readNumber_69 (z_icmp_eq dX6_readNumber_70 (fun c24 => ?_) (fun c24 => ?_)))))))))))
      · have h := ziT h (c24)
        exact z_const dX6_readNumber_77 (z_zretQ dX6_readNumber_78 rfl rfl (by cases h; rfl))
      · have h := ziF h (c24)
        exact z_const dX6_readNumber_73 (z_goto dX6_readNumber_74 (z_zretQ dX6_readNumber_78 rfl rfl (by cases h; rfl)))
  · have h := ziF h (c3)
    obtain ⟨y26, l25, h⟩ := zbd_some h
    have h := zlet_h h
    refine z_aload dX6_readNumber_14 rfl (z_aload dX6_readNumber_15 rfl (z_const dX6_readNumber_16 (z_aload dX6_readNumber_17 rfl (z_getR dX6_readNumber_18 fkX6_78 in6_0 sh_0 rfl (z_focus 6 (z_getI dX6_readNumber_21 fkX6_82 in6_3 sh_3 rfl (z_const dX6_readNumber_24 (z_isub dX6_readNumber_25 (z_focus 0 (z_callV dX6_readNumber_26 (tX6_takeNumber l25) (Nat.le_of_ble_eq_true rfl) cdX6_takeNumber naX6_takeNumber lkX6_119 imX6_takeNumber seX6_takeNumber in0_3 sh0_3 rfl rfl rfl (Nat.le_of_ble_eq_true rfl) (z_focus 6 (z_putI dX6_readNumber_29 fkX6_152 in6_1 sh_1 rfl (fun _ _ _ h => by cases h; rfl) ⟨_, rfl, rfl, rfl⟩ ?_))))))))))))
    refine z_aload dX6_readNumber_32 rfl (z_focus 6 (z_getI dX6_readNumber_33 fkX6_152 in6_1 sh_1 rfl (z_const dX6_readNumber_36 (z_icmp_eq dX6_readNumber_37 (fun c28 => ?_) (fun c28 => ?_)))))
    · have h := ziT h (c28)
      exact z_const dX6_readNumber_44 (z_zretQ dX6_readNumber_45 rfl rfl (by cases h; rfl))
    · have h := ziF h (c28)
      exact z_const dX6_readNumber_40 (z_goto dX6_readNumber_41 (z_zretQ dX6_readNumber_45 rfl rfl (by cases h; rfl)))
-- X6_takeThisWords1
def eX6_takeThisWords1 (F : Nat) (X : zX) : Option (Int32 × zX) := zbd (eX6_takeWord F X) fun y2 => zbd (eX6_isWords1 F y2) fun r4 => if r4 = 0 then zbd (eX6_fail y2) fun y7 => if y7.1 = 0 then some ((nI 0), y7.2) else some ((nI 1), y7.2) else some ((nI 1), y2)
set_option maxRecDepth 20000 in
set_option maxHeartbeats 4000000 in
theorem tX6_takeThisWords1 {μ : zM} {F : Nat} {X : zX} {ρ : Int32 × zX} (h : eX6_takeThisWords1 F X = some ρ) : LM mX6_takeThisWord 7 [zq 0 3, zq 3 2] (zg μ 0 X) (some (zi ρ.1)) (zg μ 0 ρ.2) := by
  unfold eX6_takeThisWords1 at h
  refine LM.of (by decide +kernel) rfl (Nat.le_of_ble_eq_true rfl) ?_
  show zJ mX6_takeThisWord 7 (0, 0) (0, 0) _ 0 [some (zq 0 3), some (zq 3 2)] [] _
  obtain ⟨y2, l1, h⟩ := zbd_some h
  obtain ⟨r4, l3, h⟩ := zbd_some h
  refine z_aload dX6_takeThisWord_0 rfl (z_callV dX6_takeThisWord_1 (tX6_takeWord l1) (Nat.le_of_ble_eq_true rfl) cdX6_takeWord naX6_takeWord lkX6_41 imX6_takeWord seX6_takeWord in0_3 sh0_3 rfl rfl rfl (Nat.le_of_ble_eq_true rfl) (z_aload dX6_takeThisWord_4 rfl (z_aload dX6_takeThisWord_5 rfl (z_callV dX6_takeThisWord_6 (tX6_isWords1 l3) (Nat.le_of_ble_eq_true rfl) cdX6_isWord naX6_isWord lkX6_46 imX6_isWord seX6_isWord in0_3 sh0_3 rfl rfl rfl (Nat.le_of_ble_eq_true rfl) (z_if_ne dX6_takeThisWord_9 (fun c5 => ?_) (fun c5 => ?_))))))
  · have h := ziF h (c5)
    exact z_const dX6_takeThisWord_19 (z_goto dX6_takeThisWord_20 (z_zretQ dX6_takeThisWord_24 rfl rfl (by cases h; rfl)))
  · have h := ziT h (c5)
    obtain ⟨y7, l6, h⟩ := zbd_some h
    refine z_aload dX6_takeThisWord_12 rfl (z_callV dX6_takeThisWord_13 (tX6_fail l6) (Nat.le_of_ble_eq_true rfl) cdX6_fail naX6_fail lkX6_87 imX6_fail seX6_fail in0_3 sh0_3 rfl rfl rfl (Nat.le_of_ble_eq_true rfl) (z_if_eq dX6_takeThisWord_16 (fun c8 => ?_) (fun c8 => ?_)))
    · have h := ziT h (c8)
      exact z_const dX6_takeThisWord_23 (z_zretQ dX6_takeThisWord_24 rfl rfl (by cases h; rfl))
    · have h := ziF h (c8)
      exact z_const dX6_takeThisWord_19 (z_goto dX6_takeThisWord_20 (z_zretQ dX6_takeThisWord_24 rfl rfl (by cases h; rfl)))
-- X6_takeThisWords3
def eX6_takeThisWords3 (F : Nat) (X : zX) : Option (Int32 × zX) := zbd (eX6_takeWord F X) fun y2 => zbd (eX6_isWords3 F y2) fun r4 => if r4 = 0 then zbd (eX6_fail y2) fun y7 => if y7.1 = 0 then some ((nI 0), y7.2) else some ((nI 1), y7.2) else some ((nI 1), y2)
set_option maxRecDepth 20000 in
set_option maxHeartbeats 4000000 in
theorem tX6_takeThisWords3 {μ : zM} {F : Nat} {X : zX} {ρ : Int32 × zX} (h : eX6_takeThisWords3 F X = some ρ) : LM mX6_takeThisWord 7 [zq 0 3, zq 3 4] (zg μ 0 X) (some (zi ρ.1)) (zg μ 0 ρ.2) := by
  unfold eX6_takeThisWords3 at h
  refine LM.of (by decide +kernel) rfl (Nat.le_of_ble_eq_true rfl) ?_
  show zJ mX6_takeThisWord 7 (0, 0) (0, 0) _ 0 [some (zq 0 3), some (zq 3 4)] [] _
  obtain ⟨y2, l1, h⟩ := zbd_some h
  obtain ⟨r4, l3, h⟩ := zbd_some h
  refine z_aload dX6_takeThisWord_0 rfl (z_callV dX6_takeThisWord_1 (tX6_takeWord l1) (Nat.le_of_ble_eq_true rfl) cdX6_takeWord naX6_takeWord lkX6_41 imX6_takeWord seX6_takeWord in0_3 sh0_3 rfl rfl rfl (Nat.le_of_ble_eq_true rfl) (z_aload dX6_takeThisWord_4 rfl (z_aload dX6_takeThisWord_5 rfl (z_callV dX6_takeThisWord_6 (tX6_isWords3 l3) (Nat.le_of_ble_eq_true rfl) cdX6_isWord naX6_isWord lkX6_46 imX6_isWord seX6_isWord in0_3 sh0_3 rfl rfl rfl (Nat.le_of_ble_eq_true rfl) (z_if_ne dX6_takeThisWord_9 (fun c5 => ?_) (fun c5 => ?_))))))
  · have h := ziF h (c5)
    exact z_const dX6_takeThisWord_19 (z_goto dX6_takeThisWord_20 (z_zretQ dX6_takeThisWord_24 rfl rfl (by cases h; rfl)))
  · have h := ziT h (c5)
    obtain ⟨y7, l6, h⟩ := zbd_some h
    refine z_aload dX6_takeThisWord_12 rfl (z_callV dX6_takeThisWord_13 (tX6_fail l6) (Nat.le_of_ble_eq_true rfl) cdX6_fail naX6_fail lkX6_87 imX6_fail seX6_fail in0_3 sh0_3 rfl rfl rfl (Nat.le_of_ble_eq_true rfl) (z_if_eq dX6_takeThisWord_16 (fun c8 => ?_) (fun c8 => ?_)))
    · have h := ziT h (c8)
      exact z_const dX6_takeThisWord_23 (z_zretQ dX6_takeThisWord_24 rfl rfl (by cases h; rfl))
    · have h := ziF h (c8)
      exact z_const dX6_takeThisWord_19 (z_goto dX6_takeThisWord_20 (z_zretQ dX6_takeThisWord_24 rfl rfl (by cases h; rfl)))
-- X6_takeThisWords4
def eX6_takeThisWords4 (F : Nat) (X : zX) : Option (Int32 × zX) := zbd (eX6_takeWord F X) fun y2 => zbd (eX6_isWords4 F y2) fun r4 => if r4 = 0 then zbd (eX6_fail y2) fun y7 => if y7.1 = 0 then some ((nI 0), y7.2) else some ((nI 1), y7.2) else some ((nI 1), y2)
set_option maxRecDepth 20000 in
set_option maxHeartbeats 4000000 in
theorem tX6_takeThisWords4 {μ : zM} {F : Nat} {X : zX} {ρ : Int32 × zX} (h : eX6_takeThisWords4 F X = some ρ) : LM mX6_takeThisWord 7 [zq 0 3, zq 3 5] (zg μ 0 X) (some (zi ρ.1)) (zg μ 0 ρ.2) := by
  unfold eX6_takeThisWords4 at h
  refine LM.of (by decide +kernel) rfl (Nat.le_of_ble_eq_true rfl) ?_
  show zJ mX6_takeThisWord 7 (0, 0) (0, 0) _ 0 [some (zq 0 3), some (zq 3 5)] [] _
  obtain ⟨y2, l1, h⟩ := zbd_some h
  obtain ⟨r4, l3, h⟩ := zbd_some h
  refine z_aload dX6_takeThisWord_0 rfl (z_callV dX6_takeThisWord_1 (tX6_takeWord l1) (Nat.le_of_ble_eq_true rfl) cdX6_takeWord naX6_takeWord lkX6_41 imX6_takeWord seX6_takeWord in0_3 sh0_3 rfl rfl rfl (Nat.le_of_ble_eq_true rfl) (z_aload dX6_takeThisWord_4 rfl (z_aload dX6_takeThisWord_5 rfl (z_callV dX6_takeThisWord_6 (tX6_isWords4 l3) (Nat.le_of_ble_eq_true rfl) cdX6_isWord naX6_isWord lkX6_46 imX6_isWord seX6_isWord in0_3 sh0_3 rfl rfl rfl (Nat.le_of_ble_eq_true rfl) (z_if_ne dX6_takeThisWord_9 (fun c5 => ?_) (fun c5 => ?_))))))
  · have h := ziF h (c5)
    exact z_const dX6_takeThisWord_19 (z_goto dX6_takeThisWord_20 (z_zretQ dX6_takeThisWord_24 rfl rfl (by cases h; rfl)))
  · have h := ziT h (c5)
    obtain ⟨y7, l6, h⟩ := zbd_some h
    refine z_aload dX6_takeThisWord_12 rfl (z_callV dX6_takeThisWord_13 (tX6_fail l6) (Nat.le_of_ble_eq_true rfl) cdX6_fail naX6_fail lkX6_87 imX6_fail seX6_fail in0_3 sh0_3 rfl rfl rfl (Nat.le_of_ble_eq_true rfl) (z_if_eq dX6_takeThisWord_16 (fun c8 => ?_) (fun c8 => ?_)))
    · have h := ziT h (c8)
      exact z_const dX6_takeThisWord_23 (z_zretQ dX6_takeThisWord_24 rfl rfl (by cases h; rfl))
    · have h := ziF h (c8)
      exact z_const dX6_takeThisWord_19 (z_goto dX6_takeThisWord_20 (z_zretQ dX6_takeThisWord_24 rfl rfl (by cases h; rfl)))
-- X6_readLink
def jX6_readLink_79 (F : Nat) (μ : zM) : Option (Int32 × zM) := zbd (eX6_fail (μ 0)) fun y2 => zchk (zbl y2.1) (some (y2.1, zg μ 0 y2.2))
set_option maxRecDepth 20000 in
set_option maxHeartbeats 4000000 in
theorem sX6_readLink_79 {F : Nat} {μ : zM} {ρ : Int32 × zM} (h : jX6_readLink_79 F  μ = some ρ) : zJ mX6_readLink 8 (0, 0) (0, 0) (zQ (some (zi ρ.1)) ρ.2) 79 [some (zq 0 3), none, none, none, none, none, none] [] μ := by
  unfold jX6_readLink_79 at h
  obtain ⟨y2, l1, h⟩ := zbd_some h
  obtain ⟨s3, h⟩ := zchk_some h
  exact z_aload dX6_readLink_79 rfl (z_focus 0 (z_callV dX6_readLink_80 (tX6_fail l1) (Nat.le_of_ble_eq_true rfl) cdX6_fail naX6_fail lkX6_87 imX6_fail seX6_fail in0_3 sh0_3 rfl rfl rfl (Nat.le_of_ble_eq_true rfl) (z_zretQ dX6_readLink_83 rfl (zbl_n (id s3)) (by cases h; rfl))))
def jX6_readLink_134 (F : Nat) (a3 a4 a5 b0 : Int32) (μ : zM) : Option (Int32 × zM) := if b0 = (-1) then some ((nI 0), μ) else zbd (eX2_add a3 a4 a5 b0 (μ 6)) fun y3 => some ((nI 1), zg μ 6 y3)
set_option maxRecDepth 20000 in
set_option maxHeartbeats 4000000 in
theorem sX6_readLink_134 {F : Nat} {a3 a4 a5 b0 : Int32} {μ : zM} {ρ : Int32 × zM} (h : jX6_readLink_134 F a3 a4 a5 b0 μ = some ρ) : zJ mX6_readLink 8 (0, 0) (0, 0) (zQ (some (zi ρ.1)) ρ.2) 134 [none, some (zq 6 0), none, some (zi a3), some (zi a4), some (zi a5), none] [zi b0] μ := by
  unfold jX6_readLink_134 at h
  refine z_istore dX6_readLink_134 (Nat.le_of_ble_eq_true rfl) (z_iload dX6_readLink_136 rfl (z_const dX6_readLink_138 (z_icmp_ne dX6_readLink_139 (fun c1 => ?_) (fun c1 => ?_))))
  · have h := ziF h (c1)
    obtain ⟨y3, l2, h⟩ := zbd_some h
    exact z_aload dX6_readLink_144 rfl (z_getR dX6_readLink_145 fkX6_112 in6_0 sh_0 rfl (z_iload dX6_readLink_148 rfl (z_iload dX6_readLink_149 rfl (z_iload dX6_readLink_151 rfl (z_iload dX6_readLink_153 rfl (z_focus 6 (z_callV dX6_readLink_155 (tX2_add (by decide) l2) (Nat.le_of_ble_eq_true rfl) cdX2_add naX2_add lkX6_130 imX2_add seX2_add in6_5 sh_5 rfl rfl rfl (Nat.le_of_ble_eq_true rfl) (z_const dX6_readLink_158 (z_zretQ dX6_readLink_159 rfl rfl (by cases h; rfl))))))))))
  · have h := ziT h (c1)
    exact z_const dX6_readLink_142 (z_zretQ dX6_readLink_143 rfl rfl (by cases h; rfl))
def jX6_readLink_104 (F : Nat) (a3 a4 b0 : Int32) (μ : zM) : Option (Int32 × zM) := if b0 = (-1) then some ((nI 0), μ) else zbd (eX6_takeThisWords4 F (μ 0)) fun y3 => if y3.1 = 0 then jX6_readLink_134 F a3 a4 b0 (-1) (zg μ 0 y3.2) else zbd (eX6_takeNumber F (nI 0) (nI 100) y3.2) fun y6 => jX6_readLink_134 F a3 a4 b0 y6.1 (zg μ 0 y6.2)
set_option maxRecDepth 20000 in
set_option maxHeartbeats 4000000 in
theorem sX6_readLink_104 {F : Nat} {a3 a4 b0 : Int32} {μ : zM} {ρ : Int32 × zM} (h : jX6_readLink_104 F a3 a4 b0 μ = some ρ) : zJ mX6_readLink 8 (0, 0) (0, 0) (zQ (some (zi ρ.1)) ρ.2) 104 [some (zq 0 3), some (zq 6 0), none, some (zi a3), some (zi a4), none, none] [zi b0] μ := by
  unfold jX6_readLink_104 at h
  refine z_istore dX6_readLink_104 (Nat.le_of_ble_eq_true rfl) (z_iload dX6_readLink_106 rfl (z_const dX6_readLink_108 (z_icmp_ne dX6_readLink_109 (fun c1 => ?_) (fun c1 => ?_))))
  · have h := ziF h (c1)
    obtain ⟨y3, l2, h⟩ := zbd_some h
    refine z_aload dX6_readLink_114 rfl (z_ldcs dX6_readLink_115 (i := 4) rfl rfl rfl (z_focus 0 (z_callV dX6_readLink_117 (tX6_takeThisWords4 l2) (Nat.le_of_ble_eq_true rfl) cdX6_takeThisWord naX6_takeThisWord lkX6_97 imX6_takeThisWord seX6_takeThisWord in0_3 sh0_3 rfl rfl rfl (Nat.le_of_ble_eq_true rfl) (z_if_eq dX6_readLink_120 (fun c4 => ?_) (fun c4 => ?_)))))
    · have h := ziT h (c4)
      exact z_const dX6_readLink_133 (z_mask [false, true, false, true, true, true, false] (sX6_readLink_134 h))
    · have h := ziF h (c4)
      obtain ⟨y6, l5, h⟩ := zbd_some h
      exact z_aload dX6_readLink_123 rfl (z_const dX6_readLink_124 (z_const dX6_readLink_125 (z_callV dX6_readLink_127 (tX6_takeNumber l5) (Nat.le_of_ble_eq_true rfl) cdX6_takeNumber naX6_takeNumber lkX6_119 imX6_takeNumber seX6_takeNumber in0_3 sh0_3 rfl rfl rfl (Nat.le_of_ble_eq_true rfl) (z_goto dX6_readLink_130 (z_mask [false, true, false, true, true, true, false] (sX6_readLink_134 h))))))
  · have h := ziT h (c1)
    exact z_const dX6_readLink_112 (z_zretQ dX6_readLink_113 rfl rfl (by cases h; rfl))
def jX6_readLink_49 (F : Nat) (a3 b0 : Int32) (μ : zM) : Option (Int32 × zM) := if b0 = (-1) then some ((nI 0), μ) else if a3 = b0 then jX6_readLink_79 F μ else zbd (eX2_between F a3 b0 (μ 6)) fun r4 => if r4 = (-1) then zbd (eX6_takeThisWords3 F (μ 0)) fun y7 => if y7.1 = 0 then jX6_readLink_104 F a3 b0 (-1) (zg (zg μ 6 (μ 6)) 0 y7.2) else zbd (eX6_takeNumber F (nI 1) (nI 9) y7.2) fun y10 => jX6_readLink_104 F a3 b0 y10.1 (zg (zg μ 6 (μ 6)) 0 y10.2) else jX6_readLink_79 F (zg μ 6 (μ 6))
set_option maxRecDepth 20000 in
set_option maxHeartbeats 4000000 in
theorem sX6_readLink_49 {F : Nat} {a3 b0 : Int32} {μ : zM} {ρ : Int32 × zM} (h : jX6_readLink_49 F a3 b0 μ = some ρ) : zJ mX6_readLink 8 (0, 0) (0, 0) (zQ (some (zi ρ.1)) ρ.2) 49 [some (zq 0 3), some (zq 6 0), none, some (zi a3), none, none, none] [zi b0] μ := by
  unfold jX6_readLink_49 at h
  refine z_istore dX6_readLink_49 (Nat.le_of_ble_eq_true rfl) (z_iload dX6_readLink_51 rfl (z_const dX6_readLink_53 (z_icmp_ne dX6_readLink_54 (fun c1 => ?_) (fun c1 => ?_))))
  · have h := ziF h (c1)
    refine z_iload dX6_readLink_59 rfl (z_iload dX6_readLink_60 rfl (z_icmp_eq dX6_readLink_62 (fun c2 => ?_) (fun c2 => ?_)))
    · have h := ziT h (c2)
      exact z_mask [true, false, false, false, false, false, false] (sX6_readLink_79 h)
    · have h := ziF h (c2)
      obtain ⟨r4, l3, h⟩ := zbd_some h
      refine z_aload dX6_readLink_65 rfl (z_getR dX6_readLink_66 fkX6_112 in6_0 sh_0 rfl (z_iload dX6_readLink_69 rfl (z_iload dX6_readLink_70 rfl (z_focus 6 (z_callV dX6_readLink_72 (tX2_between (by decide) l3) (Nat.le_of_ble_eq_true rfl) cdX2_between naX2_between lkX6_123 imX2_between seX2_between in6_5 sh_5 rfl rfl rfl (Nat.le_of_ble_eq_true rfl) (z_const dX6_readLink_75 (z_icmp_eq dX6_readLink_76 (fun c5 => ?_) (fun c5 => ?_))))))))
      · have h := ziT h (c5)
        obtain ⟨y7, l6, h⟩ := zbd_some h
        refine z_aload dX6_readLink_84 rfl (z_ldcs dX6_readLink_85 (i := 3) rfl rfl rfl (z_focus 0 (z_callV dX6_readLink_87 (tX6_takeThisWords3 l6) (Nat.le_of_ble_eq_true rfl) cdX6_takeThisWord naX6_takeThisWord lkX6_97 imX6_takeThisWord seX6_takeThisWord in0_3 sh0_3 rfl rfl rfl (Nat.le_of_ble_eq_true rfl) (z_if_eq dX6_readLink_90 (fun c8 => ?_) (fun c8 => ?_)))))
        · have h := ziT h (c8)
          exact z_const dX6_readLink_103 (z_mask [true, true, false, true, true, false, false] (sX6_readLink_104 h))
        · have h := ziF h (c8)
          obtain ⟨y10, l9, h⟩ := zbd_some h
          exact z_aload dX6_readLink_93 rfl (z_const dX6_readLink_94 (z_const dX6_readLink_95 (z_callV dX6_readLink_97 (tX6_takeNumber l9) (Nat.le_of_ble_eq_true rfl) cdX6_takeNumber naX6_takeNumber lkX6_119 imX6_takeNumber seX6_takeNumber in0_3 sh0_3 rfl rfl rfl (Nat.le_of_ble_eq_true rfl) (z_goto dX6_readLink_100 (z_mask [true, true, false, true, true, false, false] (sX6_readLink_104 h))))))
      · have h := ziF h (c5)
        exact z_mask [true, false, false, false, false, false, false] (sX6_readLink_79 h)
  · have h := ziT h (c1)
    exact z_const dX6_readLink_57 (z_zretQ dX6_readLink_58 rfl rfl (by cases h; rfl))
def eX6_readLink (F : Nat) (μ : zM) : Option (Int32 × zM) := if ((μ 6) 5 0) < (nI 10) then zbd (eX6_takeNumber F (nI 0) (((μ 6) 3 0) - (nI 1)) (μ 0)) fun y3 => if y3.1 = (-1) then jX6_readLink_49 F y3.1 (-1) (zg (zg μ 6 (μ 6)) 0 y3.2) else zbd (eX6_takeNumber F (nI 0) (((μ 6) 3 0) - (nI 1)) y3.2) fun y6 => jX6_readLink_49 F y3.1 y6.1 (zg (zg μ 6 (μ 6)) 0 y6.2) else zbd (eX6_fail (μ 0)) fun y8 => zchk (zbl y8.1) (some (y8.1, zg (zg μ 6 (μ 6)) 0 y8.2))
set_option maxRecDepth 20000 in
set_option maxHeartbeats 4000000 in
theorem tX6_readLink {F : Nat} {μ : zM} {ρ : Int32 × zM} (h : eX6_readLink F μ = some ρ) : LM mX6_readLink 8 [zq 0 3, zq 6 0] μ (some (zi ρ.1)) ρ.2 := by
  unfold eX6_readLink at h
  refine LM.of (by decide +kernel) rfl (Nat.le_of_ble_eq_true rfl) ?_
  show zJ mX6_readLink 8 (0, 0) (0, 0) _ 0 [some (zq 0 3), some (zq 6 0), none, none, none, none, none] [] _
  refine z_aload dX6_readLink_0 rfl (z_getR dX6_readLink_1 fkX6_112 in6_0 sh_0 rfl (z_focus 6 (z_getI dX6_readLink_4 fkX6_116 in6_5 sh_5 rfl (z_const dX6_readLink_7 (z_icmp_lt dX6_readLink_9 (fun c1 => ?_) (fun c1 => ?_))))))
  · have h := ziT h (c1)
    obtain ⟨y3, l2, h⟩ := zbd_some h
    refine z_aload dX6_readLink_17 rfl (z_getR dX6_readLink_18 fkX6_78 in6_0 sh_0 rfl (z_getI dX6_readLink_21 fkX6_82 in6_3 sh_3 rfl (z_const dX6_readLink_24 (z_isub dX6_readLink_25 (z_istore dX6_readLink_26 (Nat.le_of_ble_eq_true rfl) (z_aload dX6_readLink_27 rfl (z_const dX6_readLink_28 (z_iload dX6_readLink_29 rfl (z_focus 0 (z_callV dX6_readLink_30 (tX6_takeNumber l2) (Nat.le_of_ble_eq_true rfl) cdX6_takeNumber naX6_takeNumber lkX6_119 imX6_takeNumber seX6_takeNumber in0_3 sh0_3 rfl rfl rfl (Nat.le_of_ble_eq_true rfl) (z_istore dX6_readLink_33 (Nat.le_of_ble_eq_true rfl) ?_)))))))))))
    refine z_iload dX6_readLink_34 rfl (z_const dX6_readLink_35 (z_icmp_ne dX6_readLink_36 (fun c4 => ?_) (fun c4 => ?_)))
    · have h := ziF h (c4)
      obtain ⟨y6, l5, h⟩ := zbd_some h
      exact z_aload dX6_readLink_43 rfl (z_const dX6_readLink_44 (z_iload dX6_readLink_45 rfl (z_callV dX6_readLink_46 (tX6_takeNumber l5) (Nat.le_of_ble_eq_true rfl) cdX6_takeNumber naX6_takeNumber lkX6_119 imX6_takeNumber seX6_takeNumber in0_3 sh0_3 rfl rfl rfl (Nat.le_of_ble_eq_true rfl) (z_mask [true, true, false, true, false, false, false] (sX6_readLink_49 h)))))
    · have h := ziT h (c4)
      exact z_const dX6_readLink_39 (z_goto dX6_readLink_40 (z_mask [true, true, false, true, false, false, false] (sX6_readLink_49 h)))
  · have h := ziF h (c1)
    obtain ⟨y8, l7, h⟩ := zbd_some h
    obtain ⟨s9, h⟩ := zchk_some h
    exact z_aload dX6_readLink_12 rfl (z_focus 0 (z_callV dX6_readLink_13 (tX6_fail l7) (Nat.le_of_ble_eq_true rfl) cdX6_fail naX6_fail lkX6_87 imX6_fail seX6_fail in0_3 sh0_3 rfl rfl rfl (Nat.le_of_ble_eq_true rfl) (z_zretQ dX6_readLink_16 rfl (zbl_n (id s9)) (by cases h; rfl))))
-- X6_readNode
def jX6_readNode_64 (F : Nat) (b0 : Int32) (μ : zM) : Option (Int32 × zM) := zbd (eX4_add b0 ((μ 6) 1 4) ((μ 6) 1 5) (μ 6)) fun y2 => some ((nI 1), zg μ 6 y2)
set_option maxRecDepth 20000 in
set_option maxHeartbeats 4000000 in
theorem sX6_readNode_64 {F : Nat} {b0 : Int32} {μ : zM} {ρ : Int32 × zM} (h : jX6_readNode_64 F b0 μ = some ρ) : zJ mX6_readNode 8 (0, 0) (0, 0) (zQ (some (zi ρ.1)) ρ.2) 64 [none, some (zq 6 0), none] [zi b0, zq 6 3] μ := by
  unfold jX6_readNode_64 at h
  obtain ⟨y2, l1, h⟩ := zbd_some h
  exact z_aload dX6_readNode_64 rfl (z_getR dX6_readNode_65 fkX6_65 in6_0 sh_0 rfl (z_focus 6 (z_getI dX6_readNode_68 fkX6_100 in6_1 sh_1 rfl (z_aload dX6_readNode_71 rfl (z_getR dX6_readNode_72 fkX6_65 in6_0 sh_0 rfl (z_getI dX6_readNode_75 fkX6_105 in6_1 sh_1 rfl (z_callV dX6_readNode_78 (tX4_add (by decide) l1) (Nat.le_of_ble_eq_true rfl) cdX4_add naX4_add lkX6_108 imX4_add seX4_add in6_3 sh_3 rfl rfl rfl (Nat.le_of_ble_eq_true rfl) (z_const dX6_readNode_81 (z_zretQ dX6_readNode_82 rfl rfl (by cases h; rfl))))))))))
def jX6_readNode_51 (F : Nat) (a2 : Int32) (μ : zM) : Option (Int32 × zM) := if a2 = 0 then jX6_readNode_64 F (nI 1) μ else jX6_readNode_64 F (nI 0) μ
set_option maxRecDepth 20000 in
set_option maxHeartbeats 4000000 in
theorem sX6_readNode_51 {F : Nat} {a2 : Int32} {μ : zM} {ρ : Int32 × zM} (h : jX6_readNode_51 F a2 μ = some ρ) : zJ mX6_readNode 8 (0, 0) (0, 0) (zQ (some (zi ρ.1)) ρ.2) 51 [none, some (zq 6 0), some (zi a2)] [] μ := by
  unfold jX6_readNode_51 at h
  refine z_aload dX6_readNode_51 rfl (z_getR dX6_readNode_52 fkX6_78 in6_0 sh_0 rfl (z_iload dX6_readNode_55 rfl (z_if_ne dX6_readNode_56 (fun c1 => ?_) (fun c1 => ?_))))
  · have h := ziF h (c1)
    exact z_const dX6_readNode_63 (z_mask [false, true, false] (sX6_readNode_64 h))
  · have h := ziT h (c1)
    exact z_const dX6_readNode_59 (z_goto dX6_readNode_60 (z_mask [false, true, false] (sX6_readNode_64 h)))
def eX6_readNode (F : Nat) (μ : zM) : Option (Int32 × zM) := if ((μ 6) 3 0) < (nI 6) then zbd (eX6_skipBlanks F (μ 0)) fun y3 => zbd (eX7_byteAt (y3 3 1) y3) fun r5 => if (¬ (r5 < (nI 97))) ∧ (¬ ((nI 122) < r5)) then zbd (eX6_takeThisWords1 F y3) fun y8 => if y8.1 = 0 then some ((nI 0), zg (zg μ 6 (μ 6)) 0 y8.2) else jX6_readNode_51 F (zB ((¬ (r5 < (nI 97))) ∧ (¬ ((nI 122) < r5)))) (zg (zg μ 6 (μ 6)) 0 y8.2) else jX6_readNode_51 F (zB ((¬ (r5 < (nI 97))) ∧ (¬ ((nI 122) < r5)))) (zg (zg μ 6 (μ 6)) 0 y3) else zbd (eX6_fail (μ 0)) fun y11 => zchk (zbl y11.1) (some (y11.1, zg (zg μ 6 (μ 6)) 0 y11.2))
set_option maxRecDepth 20000 in
set_option maxHeartbeats 4000000 in
theorem tX6_readNode {F : Nat} {μ : zM} {ρ : Int32 × zM} (h : eX6_readNode F μ = some ρ) : LM mX6_readNode 8 [zq 0 3, zq 6 0] μ (some (zi ρ.1)) ρ.2 := by
  unfold eX6_readNode at h
  refine LM.of (by decide +kernel) rfl (Nat.le_of_ble_eq_true rfl) ?_
  show zJ mX6_readNode 8 (0, 0) (0, 0) _ 0 [some (zq 0 3), some (zq 6 0), none] [] _
  refine z_aload dX6_readNode_0 rfl (z_getR dX6_readNode_1 fkX6_78 in6_0 sh_0 rfl (z_focus 6 (z_getI dX6_readNode_4 fkX6_82 in6_3 sh_3 rfl (z_const dX6_readNode_7 (z_icmp_lt dX6_readNode_9 (fun c1 => ?_) (fun c1 => ?_))))))
  · have h := ziT h (c1)
    obtain ⟨y3, l2, h⟩ := zbd_some h
    obtain ⟨r5, l4, h⟩ := zbd_some h
    refine z_aload dX6_readNode_17 rfl (z_focus 0 (z_callV dX6_readNode_18 (tX6_skipBlanks l2) (Nat.le_of_ble_eq_true rfl) cdX6_skipBlanks naX6_skipBlanks lkX6_25 imX6_skipBlanks seX6_skipBlanks in0_3 sh0_3 rfl rfl rfl (Nat.le_of_ble_eq_true rfl) (z_aload dX6_readNode_21 rfl (z_getR dX6_readNode_22 fkX6_9 in0_3 sh0_3 rfl (z_aload dX6_readNode_25 rfl (z_getI dX6_readNode_26 fkX6_15 in0_3 sh0_3 rfl (z_callV dX6_readNode_29 (tX7_byteAt l4) (Nat.le_of_ble_eq_true rfl) cdX7_byteAt naX7_byteAt lkX6_37 imX7_byteAt seX7_byteAt in0_1 sh0_1 rfl rfl rfl (Nat.le_of_ble_eq_true rfl) (z_callS dX6_readNode_32 (tX6_isLetter) (Nat.le_of_ble_eq_true rfl) cdX6_isLetter naX6_isLetter lkX6_91 stX6_isLetter rfl rfl (Nat.le_of_ble_eq_true rfl) (z_istore dX6_readNode_35 (Nat.le_of_ble_eq_true rfl) (z_iload dX6_readNode_36 rfl (z_if_eq dX6_readNode_37 (fun c6 => ?_) (fun c6 => ?_))))))))))))
    · have h := ziF h (zB_0.mp c6)
      exact z_mask [false, true, true] (sX6_readNode_51 h)
    · have h := ziT h (zB_n0.mp c6)
      obtain ⟨y8, l7, h⟩ := zbd_some h
      refine z_aload dX6_readNode_40 rfl (z_ldcs dX6_readNode_41 (i := 1) rfl rfl rfl (z_callV dX6_readNode_43 (tX6_takeThisWords1 l7) (Nat.le_of_ble_eq_true rfl) cdX6_takeThisWord naX6_takeThisWord lkX6_97 imX6_takeThisWord seX6_takeThisWord in0_3 sh0_3 rfl rfl rfl (Nat.le_of_ble_eq_true rfl) (z_if_ne dX6_readNode_46 (fun c9 => ?_) (fun c9 => ?_))))
      · have h := ziF h (c9)
        exact z_mask [false, true, true] (sX6_readNode_51 h)
      · have h := ziT h (c9)
        exact z_const dX6_readNode_49 (z_zretQ dX6_readNode_50 rfl rfl (by cases h; rfl))
  · have h := ziF h (c1)
    obtain ⟨y11, l10, h⟩ := zbd_some h
    obtain ⟨s12, h⟩ := zchk_some h
    exact z_aload dX6_readNode_12 rfl (z_focus 0 (z_callV dX6_readNode_13 (tX6_fail l10) (Nat.le_of_ble_eq_true rfl) cdX6_fail naX6_fail lkX6_87 imX6_fail seX6_fail in0_3 sh0_3 rfl rfl rfl (Nat.le_of_ble_eq_true rfl) (z_zretQ dX6_readNode_16 rfl (zbl_n (id s12)) (by cases h; rfl))))
-- X6_readLine
def eX6_readLine (F : Nat) (μ : zM) : Option (Int32 × zM) := zbd (eX6_takeWord F (μ 0)) fun y2 => zbd (eX6_isWords0 F y2) fun r4 => if r4 = 0 then zbd (eX6_isWords2 F y2) fun r7 => if r7 = 0 then zbd (eX6_isWords5 F y2) fun r10 => if r10 = 0 then zbd (eX6_isWords6 F y2) fun r13 => if r13 = 0 then zbd (eX6_readNumber F (zg μ 0 y2)) fun y16 => zchk (zbl y16.1) (some (y16.1, y16.2)) else zbd (eX6_readRepair F (zg μ 0 y2)) fun y19 => zchk (zbl y19.1) (some (y19.1, y19.2)) else zbd (eX6_readRequest F (zg μ 0 y2)) fun y22 => zchk (zbl y22.1) (some (y22.1, y22.2)) else zbd (eX6_readLink F (zg μ 0 y2)) fun y25 => zchk (zbl y25.1) (some (y25.1, y25.2)) else zbd (eX6_readNode F (zg μ 0 y2)) fun y28 => zchk (zbl y28.1) (some (y28.1, y28.2))
set_option maxRecDepth 20000 in
set_option maxHeartbeats 4000000 in
theorem tX6_readLine {F : Nat} {μ : zM} {ρ : Int32 × zM} (h : eX6_readLine F μ = some ρ) : LM mX6_readLine 9 [zq 0 3, zq 6 0] μ (some (zi ρ.1)) ρ.2 := by
  unfold eX6_readLine at h
  refine LM.of (by decide +kernel) rfl (Nat.le_of_ble_eq_true rfl) ?_
  show zJ mX6_readLine 9 (0, 0) (0, 0) _ 0 [some (zq 0 3), some (zq 6 0)] [] _
  obtain ⟨y2, l1, h⟩ := zbd_some h
  obtain ⟨r4, l3, h⟩ := zbd_some h
  refine z_aload dX6_readLine_0 rfl (z_focus 0 (z_callV dX6_readLine_1 (tX6_takeWord l1) (Nat.le_of_ble_eq_true rfl) cdX6_takeWord naX6_takeWord lkX6_41 imX6_takeWord seX6_takeWord in0_3 sh0_3 rfl rfl rfl (Nat.le_of_ble_eq_true rfl) (z_aload dX6_readLine_4 rfl (z_ldcs dX6_readLine_5 (i := 0) rfl rfl rfl (z_callV dX6_readLine_7 (tX6_isWords0 l3) (Nat.le_of_ble_eq_true rfl) cdX6_isWord naX6_isWord lkX6_46 imX6_isWord seX6_isWord in0_3 sh0_3 rfl rfl rfl (Nat.le_of_ble_eq_true rfl) (z_if_eq dX6_readLine_10 (fun c5 => ?_) (fun c5 => ?_)))))))
  · have h := ziT h (c5)
    obtain ⟨r7, l6, h⟩ := zbd_some h
    refine z_aload dX6_readLine_19 rfl (z_ldcs dX6_readLine_20 (i := 2) rfl rfl rfl (z_callV dX6_readLine_22 (tX6_isWords2 l6) (Nat.le_of_ble_eq_true rfl) cdX6_isWord naX6_isWord lkX6_46 imX6_isWord seX6_isWord in0_3 sh0_3 rfl rfl rfl (Nat.le_of_ble_eq_true rfl) (z_if_eq dX6_readLine_25 (fun c8 => ?_) (fun c8 => ?_))))
    · have h := ziT h (c8)
      obtain ⟨r10, l9, h⟩ := zbd_some h
      refine z_aload dX6_readLine_34 rfl (z_ldcs dX6_readLine_35 (i := 5) rfl rfl rfl (z_callV dX6_readLine_37 (tX6_isWords5 l9) (Nat.le_of_ble_eq_true rfl) cdX6_isWord naX6_isWord lkX6_46 imX6_isWord seX6_isWord in0_3 sh0_3 rfl rfl rfl (Nat.le_of_ble_eq_true rfl) (z_if_eq dX6_readLine_40 (fun c11 => ?_) (fun c11 => ?_))))
      · have h := ziT h (c11)
        obtain ⟨r13, l12, h⟩ := zbd_some h
        refine z_aload dX6_readLine_49 rfl (z_ldcs dX6_readLine_50 (i := 6) rfl rfl rfl (z_callV dX6_readLine_52 (tX6_isWords6 l12) (Nat.le_of_ble_eq_true rfl) cdX6_isWord naX6_isWord lkX6_46 imX6_isWord seX6_isWord in0_3 sh0_3 rfl rfl rfl (Nat.le_of_ble_eq_true rfl) (z_if_eq dX6_readLine_55 (fun c14 => ?_) (fun c14 => ?_))))
        · have h := ziT h (c14)
          obtain ⟨y16, l15, h⟩ := zbd_some h
          obtain ⟨s17, h⟩ := zchk_some h
          exact z_aload dX6_readLine_67 rfl (z_aload dX6_readLine_68 rfl (z_callV dX6_readLine_69 (tX6_readNumber l15) (Nat.le_of_ble_eq_true rfl) cdX6_readNumber naX6_readNumber lkX6_75 imX6_readNumber seX6_readNumber in0_3 sh0_3 rfl rfl rfl (Nat.le_of_ble_eq_true rfl) (z_zretQ dX6_readLine_72 rfl (zbl_n (id s17)) (by cases h; rfl))))
        · have h := ziF h (c14)
          obtain ⟨y19, l18, h⟩ := zbd_some h
          obtain ⟨s20, h⟩ := zchk_some h
          exact z_aload dX6_readLine_58 rfl (z_aload dX6_readLine_59 rfl (z_getR dX6_readLine_60 fkX6_65 in6_0 sh_0 rfl (z_callV dX6_readLine_63 (tX6_readRepair l18) (Nat.le_of_ble_eq_true rfl) cdX6_readRepair naX6_readRepair lkX6_71 imX6_readRepair seX6_readRepair in0_3 sh0_3 rfl rfl rfl (Nat.le_of_ble_eq_true rfl) (z_zretQ dX6_readLine_66 rfl (zbl_n (id s20)) (by cases h; rfl)))))
      · have h := ziF h (c11)
        obtain ⟨y22, l21, h⟩ := zbd_some h
        obtain ⟨s23, h⟩ := zchk_some h
        exact z_aload dX6_readLine_43 rfl (z_aload dX6_readLine_44 rfl (z_callV dX6_readLine_45 (tX6_readRequest l21) (Nat.le_of_ble_eq_true rfl) cdX6_readRequest naX6_readRequest lkX6_60 imX6_readRequest seX6_readRequest in0_3 sh0_3 rfl rfl rfl (Nat.le_of_ble_eq_true rfl) (z_zretQ dX6_readLine_48 rfl (zbl_n (id s23)) (by cases h; rfl))))
    · have h := ziF h (c8)
      obtain ⟨y25, l24, h⟩ := zbd_some h
      obtain ⟨s26, h⟩ := zchk_some h
      exact z_aload dX6_readLine_28 rfl (z_aload dX6_readLine_29 rfl (z_callV dX6_readLine_30 (tX6_readLink l24) (Nat.le_of_ble_eq_true rfl) cdX6_readLink naX6_readLink lkX6_55 imX6_readLink seX6_readLink in0_3 sh0_3 rfl rfl rfl (Nat.le_of_ble_eq_true rfl) (z_zretQ dX6_readLine_33 rfl (zbl_n (id s26)) (by cases h; rfl))))
  · have h := ziF h (c5)
    obtain ⟨y28, l27, h⟩ := zbd_some h
    obtain ⟨s29, h⟩ := zchk_some h
    exact z_aload dX6_readLine_13 rfl (z_aload dX6_readLine_14 rfl (z_callV dX6_readLine_15 (tX6_readNode l27) (Nat.le_of_ble_eq_true rfl) cdX6_readNode naX6_readNode lkX6_50 imX6_readNode seX6_readNode in0_3 sh0_3 rfl rfl rfl (Nat.le_of_ble_eq_true rfl) (z_zretQ dX6_readLine_18 rfl (zbl_n (id s29)) (by cases h; rfl))))
-- X6_read
def hX6_read_37 (F : Nat) : Nat → Int32 → zM → Option (Int32 × zM)
  | 0, _, _ => none
  | n + 1, a2, μ => if (nI 14) ≤ a2 then some (((μ 0) 3 1), zg μ 0 (μ 0)) else zbd (eX6_readLine F μ) fun y3 => if y3.1 = 0 then some (((y3.2 0) 3 3), zg y3.2 0 (y3.2 0)) else zbd (eX6_skipBlanks F (y3.2 0)) fun y6 => if (y6 3 1) < (y6 1 1) then zbd (eX7_byteAt (y6 3 1) y6) fun r9 => if r9 = (nI 59) then zbd (eX6_skipBlanks F (zw y6 3 1 ((y6 3 1) + (nI 1)))) fun y12 => (hX6_read_37 F n) (a2 + (nI 1)) (zg y3.2 0 y12) else some ((y6 3 1), zg y3.2 0 y6) else some ((-1), zg y3.2 0 y6)
set_option maxRecDepth 20000 in
set_option maxHeartbeats 4000000 in
theorem sX6_read_37 {F : Nat} : ∀ {n : Nat} {a2 : Int32} {μ : zM} {ρ : Int32 × zM}, hX6_read_37 F n a2 μ = some ρ → zJ mX6_read 10 (0, 0) (0, 0) (zQ (some (zi ρ.1)) ρ.2) 37 [some (zq 0 3), some (zq 6 0), some (zi a2)] [] μ := by
  intro n
  induction n with
  | zero => intro a2 μ ρ h; exact nomatch (show (none : Option _) = some ρ from h)
  | succ n ih =>
    intro a2 μ ρ h
    have hK37 := @ih
    rw [hX6_read_37] at h
    refine z_iload dX6_read_37 rfl (z_const dX6_read_38 (z_icmp_ge dX6_read_40 (fun c1 => ?_) (fun c1 => ?_)))
    · have h := ziT h (c1)
      exact z_aload dX6_read_117 rfl (z_focus 0 (z_getI dX6_read_118 fkX6_15 in0_3 sh0_3 rfl (z_iretQ dX6_read_121 rfl (by cases h; rfl))))
    · have h := ziF h (c1)
      obtain ⟨y3, l2, h⟩ := zbd_some h
      refine z_aload dX6_read_43 rfl (z_aload dX6_read_44 rfl (z_callV dX6_read_45 (tX6_readLine l2) (Nat.le_of_ble_eq_true rfl) cdX6_readLine naX6_readLine lkX6_33 imX6_readLine seX6_readLine in0_3 sh0_3 rfl rfl rfl (Nat.le_of_ble_eq_true rfl) (z_if_ne dX6_read_48 (fun c4 => ?_) (fun c4 => ?_))))
      · have h := ziF h (c4)
        obtain ⟨y6, l5, h⟩ := zbd_some h
        refine z_aload dX6_read_56 rfl (z_focus 0 (z_callV dX6_read_57 (tX6_skipBlanks l5) (Nat.le_of_ble_eq_true rfl) cdX6_skipBlanks naX6_skipBlanks lkX6_25 imX6_skipBlanks seX6_skipBlanks in0_3 sh0_3 rfl rfl rfl (Nat.le_of_ble_eq_true rfl) (z_aload dX6_read_60 rfl (z_getI dX6_read_61 fkX6_15 in0_3 sh0_3 rfl (z_aload dX6_read_64 rfl (z_getR dX6_read_65 fkX6_9 in0_3 sh0_3 rfl (z_getI dX6_read_68 fkX6_28 in0_1 sh0_1 rfl (z_icmp_lt dX6_read_71 (fun c7 => ?_) (fun c7 => ?_)))))))))
        · have h := ziT h (c7)
          obtain ⟨r9, l8, h⟩ := zbd_some h
          refine z_aload dX6_read_76 rfl (z_getR dX6_read_77 fkX6_9 in0_3 sh0_3 rfl (z_aload dX6_read_80 rfl (z_getI dX6_read_81 fkX6_15 in0_3 sh0_3 rfl (z_callV dX6_read_84 (tX7_byteAt l8) (Nat.le_of_ble_eq_true rfl) cdX7_byteAt naX7_byteAt lkX6_37 imX7_byteAt seX7_byteAt in0_1 sh0_1 rfl rfl rfl (Nat.le_of_ble_eq_true rfl) (z_const dX6_read_87 (z_icmp_eq dX6_read_89 (fun c10 => ?_) (fun c10 => ?_)))))))
          · have h := ziT h (c10)
            obtain ⟨y12, l11, h⟩ := zbd_some h
            exact z_aload dX6_read_97 rfl (z_dup dX6_read_98 rfl (z_getI dX6_read_99 fkX6_15 in0_3 sh0_3 rfl (z_const dX6_read_102 (z_iadd dX6_read_103 (z_putI dX6_read_104 fkX6_15 in0_3 sh0_3 rfl (fun _ _ _ h => by cases h; rfl) ⟨_, rfl, rfl, rfl⟩ (z_aload dX6_read_107 rfl (z_callV dX6_read_108 (tX6_skipBlanks l11) (Nat.le_of_ble_eq_true rfl) cdX6_skipBlanks naX6_skipBlanks lkX6_25 imX6_skipBlanks seX6_skipBlanks in0_3 sh0_3 rfl rfl rfl (Nat.le_of_ble_eq_true rfl) (z_iinc dX6_read_111 (Nat.le_of_ble_eq_true rfl) rfl (z_goto dX6_read_114 (z_mask [true, true, true] (hK37 h)))))))))))
          · have h := ziF h (c10)
            exact z_aload dX6_read_92 rfl (z_getI dX6_read_93 fkX6_15 in0_3 sh0_3 rfl (z_iretQ dX6_read_96 rfl (by cases h; rfl)))
        · have h := ziF h (c7)
          exact z_const dX6_read_74 (z_iretQ dX6_read_75 rfl (by cases h; rfl))
      · have h := ziT h (c4)
        exact z_aload dX6_read_51 rfl (z_focus 0 (z_getI dX6_read_52 fkX6_22 in0_3 sh0_3 rfl (z_iretQ dX6_read_55 rfl (by cases h; rfl))))
def eX6_read (F : Nat) (μ : zM) : Option (Int32 × zM) := zlet (zg μ 0 (zw (zw (zw (μ 0) 3 1 (nI 0)) 3 2 (nI 0)) 3 3 (-1))) fun m1 => zbd (eX6_skipBlanks F (m1 0)) fun y3 => if (y3 3 1) < (y3 1 1) then hX6_read_37 F F (nI 0) (zg m1 0 y3) else some ((-1), zg m1 0 y3)
set_option maxRecDepth 20000 in
set_option maxHeartbeats 4000000 in
theorem tX6_read {F : Nat} {μ : zM} {ρ : Int32 × zM} (h : eX6_read F μ = some ρ) : LM mX6_read 10 [zq 0 3, zq 6 0] μ (some (zi ρ.1)) ρ.2 := by
  unfold eX6_read at h
  refine LM.of (by decide +kernel) rfl (Nat.le_of_ble_eq_true rfl) ?_
  show zJ mX6_read 10 (0, 0) (0, 0) _ 0 [some (zq 0 3), some (zq 6 0), none] [] _
  have h := zlet_h h
  obtain ⟨y3, l2, h⟩ := zbd_some h
  refine z_aload dX6_read_0 rfl (z_const dX6_read_1 (z_focus 0 (z_putI dX6_read_2 fkX6_15 in0_3 sh0_3 rfl (fun _ _ _ h => by cases h; rfl) ⟨_, rfl, rfl, rfl⟩ (z_aload dX6_read_5 rfl (z_const dX6_read_6 (z_putI dX6_read_7 fkX6_19 in0_3 sh0_3 rfl (fun _ _ _ h => by cases h; rfl) ⟨_, rfl, rfl, rfl⟩ (z_aload dX6_read_10 rfl (z_const dX6_read_11 (z_putI dX6_read_12 fkX6_22 in0_3 sh0_3 rfl (fun _ _ _ h => by cases h; rfl) ⟨_, rfl, rfl, rfl⟩ (z_aload dX6_read_15 rfl (z_focus 0 (z_callV dX6_read_16 (tX6_skipBlanks l2) (Nat.le_of_ble_eq_true rfl) cdX6_skipBlanks naX6_skipBlanks lkX6_25 imX6_skipBlanks seX6_skipBlanks in0_3 sh0_3 rfl rfl rfl (Nat.le_of_ble_eq_true rfl) ?_))))))))))))
  refine z_aload dX6_read_19 rfl (z_getI dX6_read_20 fkX6_15 in0_3 sh0_3 rfl (z_aload dX6_read_23 rfl (z_getR dX6_read_24 fkX6_9 in0_3 sh0_3 rfl (z_getI dX6_read_27 fkX6_28 in0_1 sh0_1 rfl (z_icmp_lt dX6_read_30 (fun c4 => ?_) (fun c4 => ?_))))))
  · have h := ziT h (c4)
    exact z_const dX6_read_35 (z_istore dX6_read_36 (Nat.le_of_ble_eq_true rfl) (z_mask [true, true, true] (sX6_read_37 h)))
  · have h := ziF h (c4)
    exact z_const dX6_read_33 (z_iretQ dX6_read_34 rfl (by cases h; rfl))
