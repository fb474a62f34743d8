-- X12_back
def hX12_back_16 (F : Nat) : Nat → Int32 → zX → Option (Int32 × zX)
  | 0, _, _ => none
  | n + 1, a1, X => if (nI 2422) ≤ a1 then some ((nI 1), X) else zchk (zin a1 2422) (zchk (zin a1 2422) ((hX12_back_16 F n) (a1 + (nI 1)) (zw X 1 (zn a1) (X 2 (zn a1)))))
set_option maxRecDepth 20000 in
set_option maxHeartbeats 4000000 in
theorem sX12_back_16 {μ : zM} {F : Nat} : ∀ {n : Nat} {a1 : Int32} {X : zX} {ρ : Int32 × zX}, hX12_back_16 F n a1 X = some ρ → zJ mX12_back 1 (0, 0) (0, 0) (zQ (some (zi ρ.1)) (zg μ 1 ρ.2)) 16 [some (zq 1 0), some (zi a1)] [] (zg μ 1 X) := by
  intro n
  induction n with
  | zero => intro a1 X ρ h; exact nomatch (show (none : Option _) = some ρ from h)
  | succ n ih =>
    intro a1 X ρ h
    have hK16 := @ih
    rw [hX12_back_16] at h
    refine z_iload dX12_back_16 rfl (z_const dX12_back_17 (z_icmp_ge dX12_back_20 (fun c1 => ?_) (fun c1 => ?_)))
    · have h := ziT h (c1)
      exact z_const dX12_back_41 (z_zretQ dX12_back_42 rfl rfl (by cases h; rfl))
    · have h := ziF h (c1)
      obtain ⟨s2, h⟩ := zchk_some h
      obtain ⟨s3, h⟩ := zchk_some h
      exact z_aload dX12_back_23 rfl (z_getR dX12_back_24 fkX12_13 in1_0 sh1_0 rfl (z_iload dX12_back_27 rfl (z_aload dX12_back_28 rfl (z_getR dX12_back_29 fkX12_17 in1_0 sh1_0 rfl (z_iload dX12_back_32 rfl (z_iald dX12_back_33 in1_2 sh1_2 (zin_vp s2) (z_iast dX12_back_34 in1_1 sh1_1 (zin_vp s3) (z_iinc dX12_back_35 (Nat.le_of_ble_eq_true rfl) rfl (z_goto dX12_back_38 (z_mask [true, true] (hK16 h)))))))))))
def eX12_back (F : Nat) (X : zX) : Option (Int32 × zX) := if ((zw X 0 0 (nI 0)) 0 5) = 0 then some ((nI 0), zw X 0 0 (nI 0)) else hX12_back_16 F F (nI 0) (zw X 0 0 (nI 0))
set_option maxRecDepth 20000 in
set_option maxHeartbeats 4000000 in
theorem tX12_back {μ : zM} {F : Nat} {X : zX} {ρ : Int32 × zX} (h : eX12_back F X = some ρ) : LM mX12_back 1 [zq 1 0] (zg μ 1 X) (some (zi ρ.1)) (zg μ 1 ρ.2) := by
  unfold eX12_back at h
  refine LM.of (by decide +kernel) rfl (Nat.le_of_ble_eq_true rfl) ?_
  show zJ mX12_back 1 (0, 0) (0, 0) _ 0 [some (zq 1 0), none] [] _
  refine z_aload dX12_back_0 rfl (z_const dX12_back_1 (z_putI dX12_back_2 fkX12_3 in1_0 sh1_0 rfl (fun _ _ _ h => by cases h; rfl) ⟨_, rfl, rfl, rfl⟩ (z_aload dX12_back_5 rfl (z_getI dX12_back_6 fkX12_52 in1_0 sh1_0 rfl (z_if_ne dX12_back_9 (fun c1 => ?_) (fun c1 => ?_))))))
  · have h := ziF h (c1)
    exact z_const dX12_back_14 (z_istore dX12_back_15 (Nat.le_of_ble_eq_true rfl) (z_mask [true, true] (sX12_back_16 h)))
  · have h := ziT h (c1)
    exact z_const dX12_back_12 (z_zretQ dX12_back_13 rfl rfl (by cases h; rfl))
-- X12_bringsBack
def hX12_bringsBack_2 (F : Nat) : Nat → Int32 → zX → Option (zX)
  | 0, _, _ => none
  | n + 1, a1, X => if (nI 2422) ≤ a1 then some X else zchk (zin a1 2422) (zchk (zin a1 2422) ((hX12_bringsBack_2 F n) (a1 + (nI 1)) (zw X 1 (zn a1) (X 4 (zn a1)))))
set_option maxRecDepth 20000 in
set_option maxHeartbeats 4000000 in
theorem sX12_bringsBack_2 {μ : zM} {F : Nat} : ∀ {n : Nat} {a1 : Int32} {X : zX} {ρ : zX}, hX12_bringsBack_2 F n a1 X = some ρ → zJ mX12_bringsBack 1 (0, 0) (0, 0) (zQ none (zg μ 1 ρ)) 2 [some (zq 1 0), some (zi a1)] [] (zg μ 1 X) := by
  intro n
  induction n with
  | zero => intro a1 X ρ h; exact nomatch (show (none : Option _) = some ρ from h)
  | succ n ih =>
    intro a1 X ρ h
    have hK2 := @ih
    rw [hX12_bringsBack_2] at h
    refine z_iload dX12_bringsBack_2 rfl (z_const dX12_bringsBack_3 (z_icmp_ge dX12_bringsBack_6 (fun c1 => ?_) (fun c1 => ?_)))
    · have h := ziT h (c1)
      exact z_vretQ dX12_bringsBack_27 rfl (by cases h; rfl)
    · have h := ziF h (c1)
      obtain ⟨s2, h⟩ := zchk_some h
      obtain ⟨s3, h⟩ := zchk_some h
      exact z_aload dX12_bringsBack_9 rfl (z_getR dX12_bringsBack_10 fkX12_13 in1_0 sh1_0 rfl (z_iload dX12_bringsBack_13 rfl (z_aload dX12_bringsBack_14 rfl (z_getR dX12_bringsBack_15 fkX12_23 in1_0 sh1_0 rfl (z_iload dX12_bringsBack_18 rfl (z_iald dX12_bringsBack_19 in1_4 sh1_4 (zin_vp s2) (z_iast dX12_bringsBack_20 in1_1 sh1_1 (zin_vp s3) (z_iinc dX12_bringsBack_21 (Nat.le_of_ble_eq_true rfl) rfl (z_goto dX12_bringsBack_24 (z_mask [true, true] (hK2 h)))))))))))
def eX12_bringsBack (F : Nat) (X : zX) : Option (zX) := hX12_bringsBack_2 F F (nI 0) X
set_option maxRecDepth 20000 in
set_option maxHeartbeats 4000000 in
theorem tX12_bringsBack {μ : zM} {F : Nat} {X : zX} {ρ : zX} (h : eX12_bringsBack F X = some ρ) : LM mX12_bringsBack 1 [zq 1 0] (zg μ 1 X) none (zg μ 1 ρ) := by
  unfold eX12_bringsBack at h
  refine LM.of (by decide +kernel) rfl (Nat.le_of_ble_eq_true rfl) ?_
  show zJ mX12_bringsBack 1 (0, 0) (0, 0) _ 0 [some (zq 1 0), none] [] _
  exact z_const dX12_bringsBack_0 (z_istore dX12_bringsBack_1 (Nat.le_of_ble_eq_true rfl) (z_mask [true, true] (sX12_bringsBack_2 h)))
-- X12_drawn
def eX12_drawn (x0 : Int32) (X : zX) : Option (Int32 × zX) := zchk (znz x0) (some ((zrem ((((zw X 1 17 ((1103515245 * (X 1 17)) + (nI 12345))) 1 17) >>> ((nI 16) &&& 31)) &&& (nI 32767)) x0), zw X 1 17 ((1103515245 * (X 1 17)) + (nI 12345))))
set_option maxRecDepth 20000 in
set_option maxHeartbeats 4000000 in
theorem tX12_drawn {μ : zM} {x0 : Int32} {X : zX} {ρ : Int32 × zX} (h : eX12_drawn x0 X = some ρ) : LM mX12_drawn 1 [zq 1 0, zi x0] (zg μ 1 X) (some (zi ρ.1)) (zg μ 1 ρ.2) := by
  unfold eX12_drawn at h
  refine LM.of (by decide +kernel) rfl (Nat.le_of_ble_eq_true rfl) ?_
  show zJ mX12_drawn 1 (0, 0) (0, 0) _ 0 [some (zq 1 0), some (zi x0)] [] _
  refine z_aload dX12_drawn_0 rfl (z_getR dX12_drawn_1 fkX12_13 in1_0 sh1_0 rfl (z_const dX12_drawn_4 (z_ldc dX12_drawn_6 ckX12_85 (z_aload dX12_drawn_8 rfl (z_getR dX12_drawn_9 fkX12_13 in1_0 sh1_0 rfl (z_const dX12_drawn_12 (z_ialdN dX12_drawn_14 in1_1 sh1_1 (Nat.le_of_ble_eq_true rfl) (Nat.le_of_ble_eq_true rfl) (z_imul dX12_drawn_15 (z_const dX12_drawn_16 (z_iadd dX12_drawn_19 (z_iastN dX12_drawn_20 in1_1 sh1_1 (Nat.le_of_ble_eq_true rfl) (Nat.le_of_ble_eq_true rfl) ?_)))))))))))
  obtain ⟨s1, h⟩ := zchk_some h
  exact z_aload dX12_drawn_21 rfl (z_getR dX12_drawn_22 fkX12_13 in1_0 sh1_0 rfl (z_const dX12_drawn_25 (z_ialdN dX12_drawn_27 in1_1 sh1_1 (Nat.le_of_ble_eq_true rfl) (Nat.le_of_ble_eq_true rfl) (z_const dX12_drawn_28 (z_ishr dX12_drawn_30 (z_const dX12_drawn_31 (z_iand dX12_drawn_34 (z_iload dX12_drawn_35 rfl (z_irem dX12_drawn_36 (znz_ne s1) (z_iretQ dX12_drawn_37 rfl (by cases h; rfl)))))))))))
-- X12_end
def eX12_end (x0 : Int32) (X : zX) : Option (Int32 × zX) := if x0 < 0 then some ((nI 0), zw X 0 0 (nI 0)) else if x0 ≤ ((zw X 0 0 (nI 0)) 0 7) then some ((nI 1), zw (zw X 0 0 (nI 0)) 0 7 x0) else some ((nI 0), zw X 0 0 (nI 0))
set_option maxRecDepth 20000 in
set_option maxHeartbeats 4000000 in
theorem tX12_end {μ : zM} {x0 : Int32} {X : zX} {ρ : Int32 × zX} (h : eX12_end x0 X = some ρ) : LM mX12_end 1 [zq 1 0, zi x0] (zg μ 1 X) (some (zi ρ.1)) (zg μ 1 ρ.2) := by
  unfold eX12_end at h
  refine LM.of (by decide +kernel) rfl (Nat.le_of_ble_eq_true rfl) ?_
  show zJ mX12_end 1 (0, 0) (0, 0) _ 0 [some (zq 1 0), some (zi x0)] [] _
  refine z_aload dX12_end_0 rfl (z_const dX12_end_1 (z_putI dX12_end_2 fkX12_3 in1_0 sh1_0 rfl (fun _ _ _ h => by cases h; rfl) ⟨_, rfl, rfl, rfl⟩ (z_iload dX12_end_5 rfl (z_if_lt dX12_end_6 (fun c1 => ?_) (fun c1 => ?_)))))
  · have h := ziT h (c1)
    exact z_const dX12_end_17 (z_zretQ dX12_end_18 rfl rfl (by cases h; rfl))
  · have h := ziF h (c1)
    refine z_iload dX12_end_9 rfl (z_aload dX12_end_10 rfl (z_getI dX12_end_11 fkX12_86 in1_0 sh1_0 rfl (z_icmp_le dX12_end_14 (fun c2 => ?_) (fun c2 => ?_))))
    · have h := ziT h (c2)
      exact z_aload dX12_end_19 rfl (z_iload dX12_end_20 rfl (z_putI dX12_end_21 fkX12_86 in1_0 sh1_0 rfl (fun _ _ _ h => by cases h; rfl) ⟨_, rfl, rfl, rfl⟩ (z_const dX12_end_24 (z_zretQ dX12_end_25 rfl rfl (by cases h; rfl)))))
    · have h := ziF h (c2)
      exact z_const dX12_end_17 (z_zretQ dX12_end_18 rfl rfl (by cases h; rfl))
-- X12_fault
def eX12_fault (X : zX) : Option (Int32 × zX) := some (((zw X 0 0 (nI 0)) 0 11), zw X 0 0 (nI 0))
set_option maxRecDepth 20000 in
set_option maxHeartbeats 4000000 in
theorem tX12_fault {μ : zM} {X : zX} {ρ : Int32 × zX} (h : eX12_fault X = some ρ) : LM mX12_fault 1 [zq 1 0] (zg μ 1 X) (some (zi ρ.1)) (zg μ 1 ρ.2) := by
  unfold eX12_fault at h
  refine LM.of (by decide +kernel) rfl (Nat.le_of_ble_eq_true rfl) ?_
  show zJ mX12_fault 1 (0, 0) (0, 0) _ 0 [some (zq 1 0)] [] _
  exact z_aload dX12_fault_0 rfl (z_const dX12_fault_1 (z_putI dX12_fault_2 fkX12_3 in1_0 sh1_0 rfl (fun _ _ _ h => by cases h; rfl) ⟨_, rfl, rfl, rfl⟩ (z_aload dX12_fault_5 rfl (z_getI dX12_fault_6 fkX12_30 in1_0 sh1_0 rfl (z_iretQ dX12_fault_9 rfl (by cases h; rfl))))))
-- X12_feed
def hX12_feed_60 (F : Nat) : Nat → Int32 → zX → Option (Int32 × zX)
  | 0, _, _ => none
  | n + 1, a6, X => if (nI 20) ≤ a6 then some (((zw X 0 7 ((X 0 7) + (nI 20))) 0 7), zw X 0 7 ((X 0 7) + (nI 20))) else zchk (zin (a6 / (nI 4)) 5) (zchk (zin ((X 0 7) + a6) 400) (zlet (zw X 5 (zn ((X 0 7) + a6)) (vp_nar .byte (((X 6 (zn (a6 / (nI 4)))) >>> (((nI 24) - ((nI 8) * (zrem a6 (nI 4)))) &&& 31)).toInt8.toInt32))) fun X4 => (hX12_feed_60 F n) (a6 + (nI 1)) X4))
set_option maxRecDepth 20000 in
set_option maxHeartbeats 4000000 in
theorem sX12_feed_60 {μ : zM} {F : Nat} : ∀ {n : Nat} {a6 : Int32} {X : zX} {ρ : Int32 × zX}, hX12_feed_60 F n a6 X = some ρ → zJ mX12_feed 1 (0, 0) (0, 0) (zQ (some (zi ρ.1)) (zg μ 1 ρ.2)) 60 [some (zq 1 0), none, none, none, none, none, some (zi a6)] [] (zg μ 1 X) := by
  intro n
  induction n with
  | zero => intro a6 X ρ h; exact nomatch (show (none : Option _) = some ρ from h)
  | succ n ih =>
    intro a6 X ρ h
    have hK60 := @ih
    rw [hX12_feed_60] at h
    refine z_iload dX12_feed_60 rfl (z_const dX12_feed_62 (z_icmp_ge dX12_feed_64 (fun c1 => ?_) (fun c1 => ?_)))
    · have h := ziT h (c1)
      exact z_aload dX12_feed_106 rfl (z_dup dX12_feed_107 rfl (z_getI dX12_feed_108 fkX12_86 in1_0 sh1_0 rfl (z_const dX12_feed_111 (z_iadd dX12_feed_113 (z_putI dX12_feed_114 fkX12_86 in1_0 sh1_0 rfl (fun _ _ _ h => by cases h; rfl) ⟨_, rfl, rfl, rfl⟩ (z_aload dX12_feed_117 rfl (z_getI dX12_feed_118 fkX12_86 in1_0 sh1_0 rfl (z_iretQ dX12_feed_121 rfl (by cases h; rfl)))))))))
    · have h := ziF h (c1)
      obtain ⟨s2, h⟩ := zchk_some h
      refine z_aload dX12_feed_67 rfl (z_getR dX12_feed_68 fkX12_26 in1_0 sh1_0 rfl (z_aload dX12_feed_71 rfl (z_getI dX12_feed_72 fkX12_86 in1_0 sh1_0 rfl (z_iload dX12_feed_75 rfl (z_iadd dX12_feed_77 (z_aload dX12_feed_78 rfl (z_getR dX12_feed_79 fkX12_33 in1_0 sh1_0 rfl (z_iload dX12_feed_82 rfl (z_const dX12_feed_84 (z_idiv dX12_feed_85 (by decide) (z_iald dX12_feed_86 in1_6 sh1_6 (zin_vp s2) ?_)))))))))))
      obtain ⟨s3, h⟩ := zchk_some h
      have h := zlet_h h
      refine z_const dX12_feed_87 (z_const dX12_feed_89 (z_iload dX12_feed_91 rfl (z_const dX12_feed_93 (z_irem dX12_feed_94 (by decide) (z_imul dX12_feed_95 (z_isub dX12_feed_96 (z_ishr dX12_feed_97 (z_i2b dX12_feed_98 (z_bast dX12_feed_99 in1_5 sh1_5 (zin_vp s3) (z_iinc dX12_feed_100 (Nat.le_of_ble_eq_true rfl) rfl (z_goto dX12_feed_103 ?_)))))))))))
      exact z_mask [true, false, false, false, false, false, true] (hK60 h)
def eX12_feed (F : Nat) (x0 x1 x2 x3 x4 : Int32) (X : zX) : Option (Int32 × zX) := if (((zw X 0 0 (nI 0)) 0 7) + (nI 20)) ≤ (nI 400) then zlet (zw (zw (zw (zw X 0 0 (nI 0)) 6 0 x0) 6 1 x1) 6 2 x2) fun X2 => hX12_feed_60 F F (nI 0) (zw (zw X2 6 3 x3) 6 4 x4) else some ((-1), zw X 0 0 (nI 0))
set_option maxRecDepth 20000 in
set_option maxHeartbeats 4000000 in
theorem tX12_feed {μ : zM} {F : Nat} {x0 x1 x2 x3 x4 : Int32} {X : zX} {ρ : Int32 × zX} (h : eX12_feed F x0 x1 x2 x3 x4 X = some ρ) : LM mX12_feed 1 [zq 1 0, zi x0, zi x1, zi x2, zi x3, zi x4] (zg μ 1 X) (some (zi ρ.1)) (zg μ 1 ρ.2) := by
  unfold eX12_feed at h
  refine LM.of (by decide +kernel) rfl (Nat.le_of_ble_eq_true rfl) ?_
  show zJ mX12_feed 1 (0, 0) (0, 0) _ 0 [some (zq 1 0), some (zi x0), some (zi x1), some (zi x2), some (zi x3), some (zi x4), none] [] _
  refine z_aload dX12_feed_0 rfl (z_const dX12_feed_1 (z_putI dX12_feed_2 fkX12_3 in1_0 sh1_0 rfl (fun _ _ _ h => by cases h; rfl) ⟨_, rfl, rfl, rfl⟩ (z_aload dX12_feed_5 rfl (z_getI dX12_feed_6 fkX12_86 in1_0 sh1_0 rfl (z_const dX12_feed_9 (z_iadd dX12_feed_11 (z_const dX12_feed_12 (z_icmp_le dX12_feed_15 (fun c1 => ?_) (fun c1 => ?_)))))))))
  · have h := ziT h (c1)
    refine z_aload dX12_feed_20 rfl (z_getR dX12_feed_21 fkX12_33 in1_0 sh1_0 rfl (z_const dX12_feed_24 (z_iload dX12_feed_25 rfl (z_iastN dX12_feed_26 in1_6 sh1_6 (Nat.le_of_ble_eq_true rfl) (Nat.le_of_ble_eq_true rfl) (z_aload dX12_feed_27 rfl (z_getR dX12_feed_28 fkX12_33 in1_0 sh1_0 rfl (z_const dX12_feed_31 (z_iload dX12_feed_32 rfl (z_iastN dX12_feed_33 in1_6 sh1_6 (Nat.le_of_ble_eq_true rfl) (Nat.le_of_ble_eq_true rfl) (z_aload dX12_feed_34 rfl (z_getR dX12_feed_35 fkX12_33 in1_0 sh1_0 rfl ?_)))))))))))
    have h := zlet_h h
    refine z_const dX12_feed_38 (z_iload dX12_feed_39 rfl (z_iastN dX12_feed_40 in1_6 sh1_6 (Nat.le_of_ble_eq_true rfl) (Nat.le_of_ble_eq_true rfl) (z_aload dX12_feed_41 rfl (z_getR dX12_feed_42 fkX12_33 in1_0 sh1_0 rfl (z_const dX12_feed_45 (z_iload dX12_feed_46 rfl (z_iastN dX12_feed_48 in1_6 sh1_6 (Nat.le_of_ble_eq_true rfl) (Nat.le_of_ble_eq_true rfl) (z_aload dX12_feed_49 rfl (z_getR dX12_feed_50 fkX12_33 in1_0 sh1_0 rfl (z_const dX12_feed_53 (z_iload dX12_feed_54 rfl ?_)))))))))))
    exact z_iastN dX12_feed_56 in1_6 sh1_6 (Nat.le_of_ble_eq_true rfl) (Nat.le_of_ble_eq_true rfl) (z_const dX12_feed_57 (z_istore dX12_feed_58 (Nat.le_of_ble_eq_true rfl) (z_mask [true, false, false, false, false, false, true] (sX12_feed_60 h))))
  · have h := ziF h (c1)
    exact z_const dX12_feed_18 (z_iretQ dX12_feed_19 rfl (by cases h; rfl))
-- X12_image
def hX12_image_7 (F : Nat) : Nat → Int32 → zX → Option (zX)
  | 0, _, _ => none
  | n + 1, a1, X => if (nI 2422) ≤ a1 then some (zw X 0 5 (nI 1)) else zchk (zin a1 2422) (zchk (zin a1 2422) ((hX12_image_7 F n) (a1 + (nI 1)) (zw X 2 (zn a1) (X 1 (zn a1)))))
set_option maxRecDepth 20000 in
set_option maxHeartbeats 4000000 in
theorem sX12_image_7 {μ : zM} {F : Nat} : ∀ {n : Nat} {a1 : Int32} {X : zX} {ρ : zX}, hX12_image_7 F n a1 X = some ρ → zJ mX12_image 1 (0, 0) (0, 0) (zQ none (zg μ 1 ρ)) 7 [some (zq 1 0), some (zi a1)] [] (zg μ 1 X) := by
  intro n
  induction n with
  | zero => intro a1 X ρ h; exact nomatch (show (none : Option _) = some ρ from h)
  | succ n ih =>
    intro a1 X ρ h
    have hK7 := @ih
    rw [hX12_image_7] at h
    refine z_iload dX12_image_7 rfl (z_const dX12_image_8 (z_icmp_ge dX12_image_11 (fun c1 => ?_) (fun c1 => ?_)))
    · have h := ziT h (c1)
      exact z_aload dX12_image_32 rfl (z_const dX12_image_33 (z_putI dX12_image_34 fkX12_52 in1_0 sh1_0 rfl (fun _ _ _ h => by cases h; rfl) ⟨_, rfl, by decide, by decide⟩ (z_vretQ dX12_image_37 rfl (by cases h; rfl))))
    · have h := ziF h (c1)
      obtain ⟨s2, h⟩ := zchk_some h
      obtain ⟨s3, h⟩ := zchk_some h
      exact z_aload dX12_image_14 rfl (z_getR dX12_image_15 fkX12_17 in1_0 sh1_0 rfl (z_iload dX12_image_18 rfl (z_aload dX12_image_19 rfl (z_getR dX12_image_20 fkX12_13 in1_0 sh1_0 rfl (z_iload dX12_image_23 rfl (z_iald dX12_image_24 in1_1 sh1_1 (zin_vp s2) (z_iast dX12_image_25 in1_2 sh1_2 (zin_vp s3) (z_iinc dX12_image_26 (Nat.le_of_ble_eq_true rfl) rfl (z_goto dX12_image_29 (z_mask [true, true] (hK7 h)))))))))))
def eX12_image (F : Nat) (X : zX) : Option (zX) := hX12_image_7 F F (nI 0) (zw X 0 0 (nI 0))
set_option maxRecDepth 20000 in
set_option maxHeartbeats 4000000 in
theorem tX12_image {μ : zM} {F : Nat} {X : zX} {ρ : zX} (h : eX12_image F X = some ρ) : LM mX12_image 1 [zq 1 0] (zg μ 1 X) none (zg μ 1 ρ) := by
  unfold eX12_image at h
  refine LM.of (by decide +kernel) rfl (Nat.le_of_ble_eq_true rfl) ?_
  show zJ mX12_image 1 (0, 0) (0, 0) _ 0 [some (zq 1 0), none] [] _
  exact z_aload dX12_image_0 rfl (z_const dX12_image_1 (z_putI dX12_image_2 fkX12_3 in1_0 sh1_0 rfl (fun _ _ _ h => by cases h; rfl) ⟨_, rfl, rfl, rfl⟩ (z_const dX12_image_5 (z_istore dX12_image_6 (Nat.le_of_ble_eq_true rfl) (z_mask [true, true] (sX12_image_7 h))))))
-- X12_isAt
def eX12_isAt (x0 x1 : Int32) (X : zX) : Option (Int32) := if (X 0 9) ≤ (X 0 8) then some (nI 0) else zchk (zin (X 0 8) 400) (if (X 5 (zn (X 0 8))) < x0 then some (nI 0) else zchk (zin (X 0 8) 400) (if x1 < (X 5 (zn (X 0 8))) then some (nI 0) else some (nI 1)))
set_option maxRecDepth 20000 in
set_option maxHeartbeats 4000000 in
theorem tX12_isAt {μ : zM} {x0 x1 : Int32} {X : zX} {ρ : Int32} (h : eX12_isAt x0 x1 X = some ρ) : LM mX12_isAt 1 [zq 1 0, zi x0, zi x1] (zg μ 1 X) (some (zi ρ)) (zg μ 1 X) := by
  unfold eX12_isAt at h
  refine LM.of (by decide +kernel) rfl (Nat.le_of_ble_eq_true rfl) ?_
  show zJ mX12_isAt 1 (0, 0) (0, 0) _ 0 [some (zq 1 0), some (zi x0), some (zi x1)] [] _
  refine z_aload dX12_isAt_0 rfl (z_getI dX12_isAt_1 fkX12_89 in1_0 sh1_0 rfl (z_aload dX12_isAt_4 rfl (z_getI dX12_isAt_5 fkX12_92 in1_0 sh1_0 rfl (z_icmp_ge dX12_isAt_8 (fun c1 => ?_) (fun c1 => ?_)))))
  · have h := ziT h (c1)
    exact z_const dX12_isAt_41 (z_zretQ dX12_isAt_42 rfl rfl (by cases h; rfl))
  · have h := ziF h (c1)
    obtain ⟨s2, h⟩ := zchk_some h
    refine z_aload dX12_isAt_11 rfl (z_getR dX12_isAt_12 fkX12_26 in1_0 sh1_0 rfl (z_aload dX12_isAt_15 rfl (z_getI dX12_isAt_16 fkX12_89 in1_0 sh1_0 rfl (z_bald dX12_isAt_19 in1_5 sh1_5 (zin_vp s2) (z_iload dX12_isAt_20 rfl (z_icmp_lt dX12_isAt_21 (fun c3 => ?_) (fun c3 => ?_)))))))
    · have h := ziT h (c3)
      exact z_const dX12_isAt_41 (z_zretQ dX12_isAt_42 rfl rfl (by cases h; rfl))
    · have h := ziF h (c3)
      obtain ⟨s4, h⟩ := zchk_some h
      refine z_aload dX12_isAt_24 rfl (z_getR dX12_isAt_25 fkX12_26 in1_0 sh1_0 rfl (z_aload dX12_isAt_28 rfl (z_getI dX12_isAt_29 fkX12_89 in1_0 sh1_0 rfl (z_bald dX12_isAt_32 in1_5 sh1_5 (zin_vp s4) (z_iload dX12_isAt_33 rfl (z_icmp_gt dX12_isAt_34 (fun c5 => ?_) (fun c5 => ?_)))))))
      · have h := ziT h (c5)
        exact z_const dX12_isAt_41 (z_zretQ dX12_isAt_42 rfl rfl (by cases h; rfl))
      · have h := ziF h (c5)
        exact z_const dX12_isAt_37 (z_goto dX12_isAt_38 (z_zretQ dX12_isAt_42 rfl rfl (by cases h; rfl)))
-- X12_isTold
def hX12_isTold_5 (F : Nat) : Nat → Int32 → Int32 → Int32 → Int32 → zX → Option (zX)
  | 0, _, _, _, _, _ => none
  | n + 1, a1, a2, a3, a4, X => if a4 < (nI 4) then zlet (zw (zw (zw (zw X 1 2182 (X 1 14)) 1 2183 a1) 1 2184 a2) 1 2185 a3) fun X2 => some (zw X2 1 15 (zmn (nI 60) ((X2 1 15) + (nI 1)))) else zchk (zin (((nI 2182) + a4) - (nI 4)) 2422) (zchk (zin ((nI 2182) + a4) 2422) (zlet (zw X 1 (zn ((nI 2182) + a4)) (X 1 (zn (((nI 2182) + a4) - (nI 4))))) fun X5 => (hX12_isTold_5 F n) a1 a2 a3 (a4 + (-1)) X5))
set_option maxRecDepth 20000 in
set_option maxHeartbeats 4000000 in
theorem sX12_isTold_5 {μ : zM} {F : Nat} : ∀ {n : Nat} {a1 a2 a3 a4 : Int32} {X : zX} {ρ : zX}, hX12_isTold_5 F n a1 a2 a3 a4 X = some ρ → zJ mX12_isTold 1 (0, 0) (0, 0) (zQ none (zg μ 1 ρ)) 5 [some (zq 1 0), some (zi a1), some (zi a2), some (zi a3), some (zi a4)] [] (zg μ 1 X) := by
  intro n
  induction n with
  | zero => intro a1 a2 a3 a4 X ρ h; exact nomatch (show (none : Option _) = some ρ from h)
  | succ n ih =>
    intro a1 a2 a3 a4 X ρ h
    have hK5 := @ih
    rw [hX12_isTold_5] at h
    refine z_iload dX12_isTold_5 rfl (z_const dX12_isTold_7 (z_icmp_lt dX12_isTold_8 (fun c1 => ?_) (fun c1 => ?_)))
    · have h := ziT h (c1)
      refine z_aload dX12_isTold_41 rfl (z_getR dX12_isTold_42 fkX12_13 in1_0 sh1_0 rfl (z_const dX12_isTold_45 (z_aload dX12_isTold_48 rfl (z_getR dX12_isTold_49 fkX12_13 in1_0 sh1_0 rfl (z_const dX12_isTold_52 (z_ialdN dX12_isTold_54 in1_1 sh1_1 (Nat.le_of_ble_eq_true rfl) (Nat.le_of_ble_eq_true rfl) (z_iastN dX12_isTold_55 in1_1 sh1_1 (Nat.le_of_ble_eq_true rfl) (Nat.le_of_ble_eq_true rfl) (z_aload dX12_isTold_56 rfl (z_getR dX12_isTold_57 fkX12_13 in1_0 sh1_0 rfl (z_const dX12_isTold_60 (z_iload dX12_isTold_63 rfl ?_)))))))))))
      have h := zlet_h h
      refine z_iastN dX12_isTold_64 in1_1 sh1_1 (Nat.le_of_ble_eq_true rfl) (Nat.le_of_ble_eq_true rfl) (z_aload dX12_isTold_65 rfl (z_getR dX12_isTold_66 fkX12_13 in1_0 sh1_0 rfl (z_const dX12_isTold_69 (z_iload dX12_isTold_72 rfl (z_iastN dX12_isTold_73 in1_1 sh1_1 (Nat.le_of_ble_eq_true rfl) (Nat.le_of_ble_eq_true rfl) (z_aload dX12_isTold_74 rfl (z_getR dX12_isTold_75 fkX12_13 in1_0 sh1_0 rfl (z_const dX12_isTold_78 (z_iload dX12_isTold_81 rfl (z_iastN dX12_isTold_82 in1_1 sh1_1 (Nat.le_of_ble_eq_true rfl) (Nat.le_of_ble_eq_true rfl) (z_aload dX12_isTold_83 rfl ?_)))))))))))
      exact z_getR dX12_isTold_84 fkX12_13 in1_0 sh1_0 rfl (z_const dX12_isTold_87 (z_const dX12_isTold_89 (z_aload dX12_isTold_91 rfl (z_getR dX12_isTold_92 fkX12_13 in1_0 sh1_0 rfl (z_const dX12_isTold_95 (z_ialdN dX12_isTold_97 in1_1 sh1_1 (Nat.le_of_ble_eq_true rfl) (Nat.le_of_ble_eq_true rfl) (z_const dX12_isTold_98 (z_iadd dX12_isTold_99 (z_min dX12_isTold_100 lkX12_199 (Nat.le_of_ble_eq_true rfl) (Nat.le_of_ble_eq_true rfl) (z_iastN dX12_isTold_103 in1_1 sh1_1 (Nat.le_of_ble_eq_true rfl) (Nat.le_of_ble_eq_true rfl) (z_vretQ dX12_isTold_104 rfl (by cases h; rfl))))))))))))
    · have h := ziF h (c1)
      refine z_aload dX12_isTold_11 rfl (z_getR dX12_isTold_12 fkX12_13 in1_0 sh1_0 rfl (z_const dX12_isTold_15 (z_iload dX12_isTold_18 rfl (z_iadd dX12_isTold_20 (z_aload dX12_isTold_21 rfl (z_getR dX12_isTold_22 fkX12_13 in1_0 sh1_0 rfl (z_const dX12_isTold_25 (z_iload dX12_isTold_28 rfl (z_iadd dX12_isTold_30 (z_const dX12_isTold_31 (z_isub dX12_isTold_32 ?_)))))))))))
      obtain ⟨s3, h⟩ := zchk_some h
      obtain ⟨s4, h⟩ := zchk_some h
      have h := zlet_h h
      exact z_iald dX12_isTold_33 in1_1 sh1_1 (zin_vp s3) (z_iast dX12_isTold_34 in1_1 sh1_1 (zin_vp s4) (z_iinc dX12_isTold_35 (Nat.le_of_ble_eq_true rfl) rfl (z_goto dX12_isTold_38 (z_mask [true, true, true, true, true] (hK5 h)))))
def eX12_isTold (F : Nat) (x0 x1 x2 : Int32) (X : zX) : Option (zX) := hX12_isTold_5 F F x0 x1 x2 (nI 239) X
set_option maxRecDepth 20000 in
set_option maxHeartbeats 4000000 in
theorem tX12_isTold {μ : zM} {F : Nat} {x0 x1 x2 : Int32} {X : zX} {ρ : zX} (h : eX12_isTold F x0 x1 x2 X = some ρ) : LM mX12_isTold 1 [zq 1 0, zi x0, zi x1, zi x2] (zg μ 1 X) none (zg μ 1 ρ) := by
  unfold eX12_isTold at h
  refine LM.of (by decide +kernel) rfl (Nat.le_of_ble_eq_true rfl) ?_
  show zJ mX12_isTold 1 (0, 0) (0, 0) _ 0 [some (zq 1 0), some (zi x0), some (zi x1), some (zi x2), none] [] _
  exact z_const dX12_isTold_0 (z_istore dX12_isTold_3 (Nat.le_of_ble_eq_true rfl) (z_mask [true, true, true, true, true] (sX12_isTold_5 h)))
-- X12_keepsAll
def hX12_keepsAll_2 (F : Nat) : Nat → Int32 → zX → Option (zX)
  | 0, _, _ => none
  | n + 1, a1, X => if (nI 2422) ≤ a1 then some X else zchk (zin a1 2422) (zchk (zin a1 2422) ((hX12_keepsAll_2 F n) (a1 + (nI 1)) (zw X 4 (zn a1) (X 1 (zn a1)))))
set_option maxRecDepth 20000 in
set_option maxHeartbeats 4000000 in
theorem sX12_keepsAll_2 {μ : zM} {F : Nat} : ∀ {n : Nat} {a1 : Int32} {X : zX} {ρ : zX}, hX12_keepsAll_2 F n a1 X = some ρ → zJ mX12_keepsAll 1 (0, 0) (0, 0) (zQ none (zg μ 1 ρ)) 2 [some (zq 1 0), some (zi a1)] [] (zg μ 1 X) := by
  intro n
  induction n with
  | zero => intro a1 X ρ h; exact nomatch (show (none : Option _) = some ρ from h)
  | succ n ih =>
    intro a1 X ρ h
    have hK2 := @ih
    rw [hX12_keepsAll_2] at h
    refine z_iload dX12_keepsAll_2 rfl (z_const dX12_keepsAll_3 (z_icmp_ge dX12_keepsAll_6 (fun c1 => ?_) (fun c1 => ?_)))
    · have h := ziT h (c1)
      exact z_vretQ dX12_keepsAll_27 rfl (by cases h; rfl)
    · have h := ziF h (c1)
      obtain ⟨s2, h⟩ := zchk_some h
      obtain ⟨s3, h⟩ := zchk_some h
      exact z_aload dX12_keepsAll_9 rfl (z_getR dX12_keepsAll_10 fkX12_23 in1_0 sh1_0 rfl (z_iload dX12_keepsAll_13 rfl (z_aload dX12_keepsAll_14 rfl (z_getR dX12_keepsAll_15 fkX12_13 in1_0 sh1_0 rfl (z_iload dX12_keepsAll_18 rfl (z_iald dX12_keepsAll_19 in1_1 sh1_1 (zin_vp s2) (z_iast dX12_keepsAll_20 in1_4 sh1_4 (zin_vp s3) (z_iinc dX12_keepsAll_21 (Nat.le_of_ble_eq_true rfl) rfl (z_goto dX12_keepsAll_24 (z_mask [true, true] (hK2 h)))))))))))
def eX12_keepsAll (F : Nat) (X : zX) : Option (zX) := hX12_keepsAll_2 F F (nI 0) X
set_option maxRecDepth 20000 in
set_option maxHeartbeats 4000000 in
theorem tX12_keepsAll {μ : zM} {F : Nat} {X : zX} {ρ : zX} (h : eX12_keepsAll F X = some ρ) : LM mX12_keepsAll 1 [zq 1 0] (zg μ 1 X) none (zg μ 1 ρ) := by
  unfold eX12_keepsAll at h
  refine LM.of (by decide +kernel) rfl (Nat.le_of_ble_eq_true rfl) ?_
  show zJ mX12_keepsAll 1 (0, 0) (0, 0) _ 0 [some (zq 1 0), none] [] _
  exact z_const dX12_keepsAll_0 (z_istore dX12_keepsAll_1 (Nat.le_of_ble_eq_true rfl) (z_mask [true, true] (sX12_keepsAll_2 h)))
-- X12_links
set_option maxRecDepth 20000 in
set_option maxHeartbeats 4000000 in
theorem tX12_links {μ : zM} {X : zX} : LM mX12_links 1 [zq 1 0] (zg μ 1 X) (some (zi (X 1 1))) (zg μ 1 X) := by
  have h : (X 1 1) = (X 1 1) ∧ X = X := ⟨rfl, rfl⟩
  refine LM.of (by decide +kernel) rfl (Nat.le_of_ble_eq_true rfl) ?_
  show zJ mX12_links 1 (0, 0) (0, 0) _ 0 [some (zq 1 0)] [] _
  exact z_aload dX12_links_0 rfl (z_getR dX12_links_1 fkX12_13 in1_0 sh1_0 rfl (z_const dX12_links_4 (z_ialdN dX12_links_5 in1_1 sh1_1 (Nat.le_of_ble_eq_true rfl) (Nat.le_of_ble_eq_true rfl) (z_iret1 dX12_links_6 rfl h.1 h.2))))
-- X12_nodes
set_option maxRecDepth 20000 in
set_option maxHeartbeats 4000000 in
theorem tX12_nodes {μ : zM} {X : zX} : LM mX12_nodes 1 [zq 1 0] (zg μ 1 X) (some (zi (X 1 0))) (zg μ 1 X) := by
  have h : (X 1 0) = (X 1 0) ∧ X = X := ⟨rfl, rfl⟩
  refine LM.of (by decide +kernel) rfl (Nat.le_of_ble_eq_true rfl) ?_
  show zJ mX12_nodes 1 (0, 0) (0, 0) _ 0 [some (zq 1 0)] [] _
  exact z_aload dX12_nodes_0 rfl (z_getR dX12_nodes_1 fkX12_13 in1_0 sh1_0 rfl (z_const dX12_nodes_4 (z_ialdN dX12_nodes_5 in1_1 sh1_1 (Nat.le_of_ble_eq_true rfl) (Nat.le_of_ble_eq_true rfl) (z_iret1 dX12_nodes_6 rfl h.1 h.2))))
-- X12_seed
def eX12_seed (x0 : Int32) (X : zX) : Option (Int32 × zX) := some ((X 1 17), zw (zw X 0 0 (nI 0)) 1 17 x0)
set_option maxRecDepth 20000 in
set_option maxHeartbeats 4000000 in
theorem tX12_seed {μ : zM} {x0 : Int32} {X : zX} {ρ : Int32 × zX} (h : eX12_seed x0 X = some ρ) : LM mX12_seed 1 [zq 1 0, zi x0] (zg μ 1 X) (some (zi ρ.1)) (zg μ 1 ρ.2) := by
  unfold eX12_seed at h
  refine LM.of (by decide +kernel) rfl (Nat.le_of_ble_eq_true rfl) ?_
  show zJ mX12_seed 1 (0, 0) (0, 0) _ 0 [some (zq 1 0), some (zi x0), none] [] _
  refine z_aload dX12_seed_0 rfl (z_const dX12_seed_1 (z_putI dX12_seed_2 fkX12_3 in1_0 sh1_0 rfl (fun _ _ _ h => by cases h; rfl) ⟨_, rfl, rfl, rfl⟩ (z_aload dX12_seed_5 rfl (z_getR dX12_seed_6 fkX12_13 in1_0 sh1_0 rfl (z_const dX12_seed_9 (z_ialdN dX12_seed_11 in1_1 sh1_1 (Nat.le_of_ble_eq_true rfl) (Nat.le_of_ble_eq_true rfl) (z_istore dX12_seed_12 (Nat.le_of_ble_eq_true rfl) (z_aload dX12_seed_13 rfl (z_getR dX12_seed_14 fkX12_13 in1_0 sh1_0 rfl (z_const dX12_seed_17 (z_iload dX12_seed_19 rfl ?_)))))))))))
  exact z_iastN dX12_seed_20 in1_1 sh1_1 (Nat.le_of_ble_eq_true rfl) (Nat.le_of_ble_eq_true rfl) (z_iload dX12_seed_21 rfl (z_iretQ dX12_seed_22 rfl (by cases h; rfl)))
-- X12_thrown
set_option maxRecDepth 20000 in
set_option maxHeartbeats 4000000 in
theorem tX12_thrown {μ : zM} {X : zX} : LM mX12_thrown 1 [zq 1 0] (zg μ 1 X) (some (zi (X 0 0))) (zg μ 1 X) := by
  have h : (X 0 0) = (X 0 0) ∧ X = X := ⟨rfl, rfl⟩
  refine LM.of (by decide +kernel) rfl (Nat.le_of_ble_eq_true rfl) ?_
  show zJ mX12_thrown 1 (0, 0) (0, 0) _ 0 [some (zq 1 0)] [] _
  exact z_aload dX12_thrown_0 rfl (z_getI dX12_thrown_1 fkX12_3 in1_0 sh1_0 rfl (z_iret1 dX12_thrown_4 rfl h.1 h.2))
-- X12_throwsIf
def eX12_throwsIf (x0 x1 : Int32) (X : zX) : Option (Int32 × zX) := if x0 = 0 then zchk (zbl x0) (some (x0, X)) else zchk (zbl x0) (some (x0, zw X 0 0 x1))
set_option maxRecDepth 20000 in
set_option maxHeartbeats 4000000 in
theorem tX12_throwsIf {μ : zM} {x0 x1 : Int32} {X : zX} {ρ : Int32 × zX} (h : eX12_throwsIf x0 x1 X = some ρ) : LM mX12_throwsIf 1 [zq 1 0, zi x0, zi x1] (zg μ 1 X) (some (zi ρ.1)) (zg μ 1 ρ.2) := by
  unfold eX12_throwsIf at h
  refine LM.of (by decide +kernel) rfl (Nat.le_of_ble_eq_true rfl) ?_
  show zJ mX12_throwsIf 1 (0, 0) (0, 0) _ 0 [some (zq 1 0), some (zi x0), some (zi x1)] [] _
  refine z_iload dX12_throwsIf_0 rfl (z_if_eq dX12_throwsIf_1 (fun c1 => ?_) (fun c1 => ?_))
  · have h := ziT h (c1)
    obtain ⟨s2, h⟩ := zchk_some h
    exact z_iload dX12_throwsIf_9 rfl (z_zretQ dX12_throwsIf_10 rfl (zbl_n (id s2)) (by cases h; rfl))
  · have h := ziF h (c1)
    obtain ⟨s3, h⟩ := zchk_some h
    exact z_aload dX12_throwsIf_4 rfl (z_iload dX12_throwsIf_5 rfl (z_putI dX12_throwsIf_6 fkX12_3 in1_0 sh1_0 rfl (fun _ _ _ h => by cases h; rfl) ⟨_, rfl, rfl, rfl⟩ (z_iload dX12_throwsIf_9 rfl (z_zretQ dX12_throwsIf_10 rfl (zbl_n (id s3)) (by cases h; rfl)))))
-- X12_blanks
def hX12_blanks_0 (F : Nat) : Nat → zX → Option (zX)
  | 0, _ => none
  | n + 1, X => zbd (eX12_isAt (nI 32) (nI 32) X) fun r2 => if r2 = 0 then some (zw X 0 10 (X 0 8)) else (hX12_blanks_0 F n)  (zw X 0 8 ((X 0 8) + (nI 1)))
set_option maxRecDepth 20000 in
set_option maxHeartbeats 4000000 in
theorem sX12_blanks_0 {μ : zM} {F : Nat} : ∀ {n : Nat} {X : zX} {ρ : zX}, hX12_blanks_0 F n  X = some ρ → zJ mX12_blanks 2 (0, 0) (0, 0) (zQ none (zg μ 1 ρ)) 0 [some (zq 1 0)] [] (zg μ 1 X) := by
  intro n
  induction n with
  | zero => intro  X ρ h; exact nomatch (show (none : Option _) = some ρ from h)
  | succ n ih =>
    intro  X ρ h
    have hK0 := @ih
    rw [hX12_blanks_0] at h
    obtain ⟨r2, l1, h⟩ := zbd_some h
    refine z_aload dX12_blanks_0 rfl (z_const dX12_blanks_1 (z_const dX12_blanks_3 (z_callV dX12_blanks_5 (tX12_isAt l1) (Nat.le_of_ble_eq_true rfl) cdX12_isAt naX12_isAt lkX12_95 imX12_isAt seX12_isAt in1_0 sh1_0 rfl rfl rfl (Nat.le_of_ble_eq_true rfl) (z_if_eq dX12_blanks_8 (fun c3 => ?_) (fun c3 => ?_)))))
    · have h := ziT h (c3)
      exact z_aload dX12_blanks_24 rfl (z_aload dX12_blanks_25 rfl (z_getI dX12_blanks_26 fkX12_89 in1_0 sh1_0 rfl (z_putI dX12_blanks_29 fkX12_98 in1_0 sh1_0 rfl (fun _ _ _ h => by cases h; rfl) ⟨_, rfl, rfl, rfl⟩ (z_vretQ dX12_blanks_32 rfl (by cases h; rfl)))))
    · have h := ziF h (c3)
      exact z_aload dX12_blanks_11 rfl (z_dup dX12_blanks_12 rfl (z_getI dX12_blanks_13 fkX12_89 in1_0 sh1_0 rfl (z_const dX12_blanks_16 (z_iadd dX12_blanks_17 (z_putI dX12_blanks_18 fkX12_89 in1_0 sh1_0 rfl (fun _ _ _ h => by cases h; rfl) ⟨_, rfl, rfl, rfl⟩ (z_goto dX12_blanks_21 (z_mask [true] (hK0 h))))))))
def eX12_blanks (F : Nat) (X : zX) : Option (zX) := hX12_blanks_0 F F X
set_option maxRecDepth 20000 in
set_option maxHeartbeats 4000000 in
theorem tX12_blanks {μ : zM} {F : Nat} {X : zX} {ρ : zX} (h : eX12_blanks F X = some ρ) : LM mX12_blanks 2 [zq 1 0] (zg μ 1 X) none (zg μ 1 ρ) := by
  unfold eX12_blanks at h
  refine LM.of (by decide +kernel) rfl (Nat.le_of_ble_eq_true rfl) ?_
  show zJ mX12_blanks 2 (0, 0) (0, 0) _ 0 [some (zq 1 0)] [] _
  exact z_mask [true] (sX12_blanks_0 h)
-- X12_comesBehind
def eX12_comesBehind (x0 x1 x2 : Int32) (X : zX) : Option (Int32) := zchk (zin (((nI 6) * x0) + x1) 36) (zchk (zin (((nI 6) * x0) + x2) 36) (if (X 7 (zn (((nI 6) * x0) + x2))) < (X 7 (zn (((nI 6) * x0) + x1))) then some (nI 1) else if (X 7 (zn (((nI 6) * x0) + x1))) = (X 7 (zn (((nI 6) * x0) + x2))) then if x1 ≤ x2 then some (nI 0) else some (nI 1) else some (nI 0)))
set_option maxRecDepth 20000 in
set_option maxHeartbeats 4000000 in
theorem tX12_comesBehind {μ : zM} {x0 x1 x2 : Int32} {X : zX} {ρ : Int32} (h : eX12_comesBehind x0 x1 x2 X = some ρ) : LM mX12_comesBehind 2 [zq 1 0, zi x0, zi x1, zi x2] (zg μ 1 X) (some (zi ρ)) (zg μ 1 X) := by
  unfold eX12_comesBehind at h
  refine LM.of (by decide +kernel) rfl (Nat.le_of_ble_eq_true rfl) ?_
  show zJ mX12_comesBehind 2 (0, 0) (0, 0) _ 0 [some (zq 1 0), some (zi x0), some (zi x1), some (zi x2), none, none] [] _
  obtain ⟨s1, h⟩ := zchk_some h
  refine z_aload dX12_comesBehind_0 rfl (z_getR dX12_comesBehind_1 fkX12_36 in1_0 sh1_0 rfl (z_iload dX12_comesBehind_4 rfl (z_iload dX12_comesBehind_5 rfl (z_callS dX12_comesBehind_6 (tX12_at) (Nat.le_of_ble_eq_true rfl) cdX12_at naX12_at lkX12_193 stX12_at rfl rfl (Nat.le_of_ble_eq_true rfl) (z_iald dX12_comesBehind_9 in1_7 sh1_7 (zin_vp s1) (z_istore dX12_comesBehind_10 (Nat.le_of_ble_eq_true rfl) (z_aload dX12_comesBehind_12 rfl (z_getR dX12_comesBehind_13 fkX12_36 in1_0 sh1_0 rfl (z_iload dX12_comesBehind_16 rfl (z_iload dX12_comesBehind_17 rfl (z_callS dX12_comesBehind_18 (tX12_at) (Nat.le_of_ble_eq_true rfl) cdX12_at naX12_at lkX12_193 stX12_at rfl rfl (Nat.le_of_ble_eq_true rfl) ?_)))))))))))
  obtain ⟨s2, h⟩ := zchk_some h
  refine z_iald dX12_comesBehind_21 in1_7 sh1_7 (zin_vp s2) (z_istore dX12_comesBehind_22 (Nat.le_of_ble_eq_true rfl) (z_iload dX12_comesBehind_24 rfl (z_iload dX12_comesBehind_26 rfl (z_icmp_gt dX12_comesBehind_28 (fun c3 => ?_) (fun c3 => ?_)))))
  · have h := ziT h (c3)
    exact z_const dX12_comesBehind_43 (z_goto dX12_comesBehind_44 (z_zretQ dX12_comesBehind_48 rfl rfl (by cases h; rfl)))
  · have h := ziF h (c3)
    refine z_iload dX12_comesBehind_31 rfl (z_iload dX12_comesBehind_33 rfl (z_icmp_ne dX12_comesBehind_35 (fun c4 => ?_) (fun c4 => ?_)))
    · have h := ziF h (c4)
      exact z_const dX12_comesBehind_47 (z_zretQ dX12_comesBehind_48 rfl rfl (by cases h; rfl))
    · have h := ziT h (c4)
      refine z_iload dX12_comesBehind_38 rfl (z_iload dX12_comesBehind_39 rfl (z_icmp_le dX12_comesBehind_40 (fun c5 => ?_) (fun c5 => ?_)))
      · have h := ziT h (c5)
        exact z_const dX12_comesBehind_47 (z_zretQ dX12_comesBehind_48 rfl rfl (by cases h; rfl))
      · have h := ziF h (c5)
        exact z_const dX12_comesBehind_43 (z_goto dX12_comesBehind_44 (z_zretQ dX12_comesBehind_48 rfl rfl (by cases h; rfl)))
-- X12_count
def eX12_count (x0 : Int32) (X : zX) : Option (Int32 × zX) := if (¬ (x0 < (nI 0))) ∧ (¬ ((nI 16) < x0)) then zchk (zin x0 2422) (some ((X 1 (zn x0)), zw X 0 0 (nI 0))) else some ((-1), zw X 0 0 (nI 0))
set_option maxRecDepth 20000 in
set_option maxHeartbeats 4000000 in
theorem tX12_count {μ : zM} {x0 : Int32} {X : zX} {ρ : Int32 × zX} (h : eX12_count x0 X = some ρ) : LM mX12_count 2 [zq 1 0, zi x0] (zg μ 1 X) (some (zi ρ.1)) (zg μ 1 ρ.2) := by
  unfold eX12_count at h
  refine LM.of (by decide +kernel) rfl (Nat.le_of_ble_eq_true rfl) ?_
  show zJ mX12_count 2 (0, 0) (0, 0) _ 0 [some (zq 1 0), some (zi x0)] [] _
  refine z_aload dX12_count_0 rfl (z_const dX12_count_1 (z_putI dX12_count_2 fkX12_3 in1_0 sh1_0 rfl (fun _ _ _ h => by cases h; rfl) ⟨_, rfl, rfl, rfl⟩ (z_iload dX12_count_5 rfl (z_const dX12_count_6 (z_const dX12_count_7 (z_callS dX12_count_9 (tX12_in) (Nat.le_of_ble_eq_true rfl) cdX12_in naX12_in lkX12_71 stX12_in rfl rfl (Nat.le_of_ble_eq_true rfl) (z_if_eq dX12_count_12 (fun c1 => ?_) (fun c1 => ?_))))))))
  · have h := ziF h (zB_0.mp c1)
    exact z_const dX12_count_24 (z_iretQ dX12_count_25 rfl (by cases h; rfl))
  · have h := ziT h (zB_n0.mp c1)
    obtain ⟨s2, h⟩ := zchk_some h
    exact z_aload dX12_count_15 rfl (z_getR dX12_count_16 fkX12_13 in1_0 sh1_0 rfl (z_iload dX12_count_19 rfl (z_iald dX12_count_20 in1_1 sh1_1 (zin_vp s2) (z_goto dX12_count_21 (z_iretQ dX12_count_25 rfl (by cases h; rfl))))))
-- X12_flight
def jX12_flight_50 (a1 a2 b0 : Int32) (X : zX) : Option (Int32 × zX) := zbd (eX12_throwsIf b0 (nI 2) X) fun y2 => if y2.1 = 0 then if a2 = (nI 0) then zchk (zin (((nI 1542) + ((nI 10) * a1)) + (nI 0)) 2422) (some ((y2.2 1 (zn (((nI 1542) + ((nI 10) * a1)) + (nI 0)))), y2.2)) else if a2 = (nI 1) then zchk (zin (((nI 1542) + ((nI 10) * a1)) + (nI 1)) 2422) (some ((y2.2 1 (zn (((nI 1542) + ((nI 10) * a1)) + (nI 1)))), y2.2)) else if a2 = (nI 2) then zchk (zin (((nI 1542) + ((nI 10) * a1)) + (nI 2)) 2422) (some ((y2.2 1 (zn (((nI 1542) + ((nI 10) * a1)) + (nI 2)))), y2.2)) else if a2 = (nI 3) then zchk (zin (((nI 1542) + ((nI 10) * a1)) + (nI 3)) 2422) (some ((y2.2 1 (zn (((nI 1542) + ((nI 10) * a1)) + (nI 3)))), y2.2)) else if a2 = (nI 4) then zchk (zin (((nI 1542) + ((nI 10) * a1)) + (nI 4)) 2422) (some ((y2.2 1 (zn (((nI 1542) + ((nI 10) * a1)) + (nI 4)))), y2.2)) else zchk (zin (((nI 1542) + ((nI 10) * a1)) + (nI 5)) 2422) (some ((y2.2 1 (zn (((nI 1542) + ((nI 10) * a1)) + (nI 5)))), y2.2)) else some ((nI 0), y2.2)
set_option maxRecDepth 20000 in
set_option maxHeartbeats 4000000 in
theorem sX12_flight_50 {μ : zM} {a1 a2 b0 : Int32} {X : zX} {ρ : Int32 × zX} (h : jX12_flight_50 a1 a2 b0 X = some ρ) : zJ mX12_flight 2 (0, 0) (0, 0) (zQ (some (zi ρ.1)) (zg μ 1 ρ.2)) 50 [some (zq 1 0), some (zi a1), some (zi a2)] [zi b0, zq 1 0] (zg μ 1 X) := by
  unfold jX12_flight_50 at h
  obtain ⟨y2, l1, h⟩ := zbd_some h
  refine z_const dX12_flight_50 (z_callV dX12_flight_51 (tX12_throwsIf l1) (Nat.le_of_ble_eq_true rfl) cdX12_throwsIf naX12_throwsIf lkX12_188 imX12_throwsIf seX12_throwsIf in1_0 sh1_0 rfl rfl rfl (Nat.le_of_ble_eq_true rfl) (z_if_eq dX12_flight_54 (fun c3 => ?_) (fun c3 => ?_)))
  · have h := ziT h (c3)
    refine z_iload dX12_flight_59 rfl ?_
    by_cases c4 : a2 = (nI 0)
    · have h := ziT h c4
      refine z_tabIn (off := 36) (tgt := 96) dX12_flight_60 (by rw [c4]; decide) (by rw [c4]; decide) (by rw [c4]; decide) (by decide) ?_
      obtain ⟨s5, h⟩ := zchk_some h
      exact z_aload dX12_flight_96 rfl (z_getR dX12_flight_97 fkX12_13 in1_0 sh1_0 rfl (z_iload dX12_flight_100 rfl (z_const dX12_flight_101 (z_callS dX12_flight_102 (tX12_messageAt) (Nat.le_of_ble_eq_true rfl) cdX12_messageAt naX12_messageAt lkX12_227 stX12_messageAt rfl rfl (Nat.le_of_ble_eq_true rfl) (z_iald dX12_flight_105 in1_1 sh1_1 (zin_vp s5) (z_iretQ dX12_flight_106 rfl (by cases h; rfl)))))))
    have h := ziF h c4
    by_cases c6 : a2 = (nI 1)
    · have h := ziT h c6
      refine z_tabIn (off := 47) (tgt := 107) dX12_flight_60 (by rw [c6]; decide) (by rw [c6]; decide) (by rw [c6]; decide) (by decide) ?_
      obtain ⟨s7, h⟩ := zchk_some h
      exact z_aload dX12_flight_107 rfl (z_getR dX12_flight_108 fkX12_13 in1_0 sh1_0 rfl (z_iload dX12_flight_111 rfl (z_const dX12_flight_112 (z_callS dX12_flight_113 (tX12_messageAt) (Nat.le_of_ble_eq_true rfl) cdX12_messageAt naX12_messageAt lkX12_227 stX12_messageAt rfl rfl (Nat.le_of_ble_eq_true rfl) (z_iald dX12_flight_116 in1_1 sh1_1 (zin_vp s7) (z_iretQ dX12_flight_117 rfl (by cases h; rfl)))))))
    have h := ziF h c6
    by_cases c8 : a2 = (nI 2)
    · have h := ziT h c8
      refine z_tabIn (off := 58) (tgt := 118) dX12_flight_60 (by rw [c8]; decide) (by rw [c8]; decide) (by rw [c8]; decide) (by decide) ?_
      obtain ⟨s9, h⟩ := zchk_some h
      exact z_aload dX12_flight_118 rfl (z_getR dX12_flight_119 fkX12_13 in1_0 sh1_0 rfl (z_iload dX12_flight_122 rfl (z_const dX12_flight_123 (z_callS dX12_flight_124 (tX12_messageAt) (Nat.le_of_ble_eq_true rfl) cdX12_messageAt naX12_messageAt lkX12_227 stX12_messageAt rfl rfl (Nat.le_of_ble_eq_true rfl) (z_iald dX12_flight_127 in1_1 sh1_1 (zin_vp s9) (z_iretQ dX12_flight_128 rfl (by cases h; rfl)))))))
    have h := ziF h c8
    by_cases c10 : a2 = (nI 3)
    · have h := ziT h c10
      refine z_tabIn (off := 69) (tgt := 129) dX12_flight_60 (by rw [c10]; decide) (by rw [c10]; decide) (by rw [c10]; decide) (by decide) ?_
      obtain ⟨s11, h⟩ := zchk_some h
      exact z_aload dX12_flight_129 rfl (z_getR dX12_flight_130 fkX12_13 in1_0 sh1_0 rfl (z_iload dX12_flight_133 rfl (z_const dX12_flight_134 (z_callS dX12_flight_135 (tX12_messageAt) (Nat.le_of_ble_eq_true rfl) cdX12_messageAt naX12_messageAt lkX12_227 stX12_messageAt rfl rfl (Nat.le_of_ble_eq_true rfl) (z_iald dX12_flight_138 in1_1 sh1_1 (zin_vp s11) (z_iretQ dX12_flight_139 rfl (by cases h; rfl)))))))
    have h := ziF h c10
    by_cases c12 : a2 = (nI 4)
    · have h := ziT h c12
      refine z_tabIn (off := 80) (tgt := 140) dX12_flight_60 (by rw [c12]; decide) (by rw [c12]; decide) (by rw [c12]; decide) (by decide) ?_
      obtain ⟨s13, h⟩ := zchk_some h
      exact z_aload dX12_flight_140 rfl (z_getR dX12_flight_141 fkX12_13 in1_0 sh1_0 rfl (z_iload dX12_flight_144 rfl (z_const dX12_flight_145 (z_callS dX12_flight_146 (tX12_messageAt) (Nat.le_of_ble_eq_true rfl) cdX12_messageAt naX12_messageAt lkX12_227 stX12_messageAt rfl rfl (Nat.le_of_ble_eq_true rfl) (z_iald dX12_flight_149 in1_1 sh1_1 (zin_vp s13) (z_iretQ dX12_flight_150 rfl (by cases h; rfl)))))))
    have h := ziF h c12
    refine z_tabOut (tgt := 151) dX12_flight_60 (by decide) (zsw_out (zsw_s (zsw_s (zsw_s (zsw_s (zsw_s zsw_0 c4) c6) c8) c10) c12) (by decide)) ?_
    obtain ⟨s15, h⟩ := zchk_some h
    exact z_aload dX12_flight_151 rfl (z_getR dX12_flight_152 fkX12_13 in1_0 sh1_0 rfl (z_iload dX12_flight_155 rfl (z_const dX12_flight_156 (z_callS dX12_flight_157 (tX12_messageAt) (Nat.le_of_ble_eq_true rfl) cdX12_messageAt naX12_messageAt lkX12_227 stX12_messageAt rfl rfl (Nat.le_of_ble_eq_true rfl) (z_iald dX12_flight_160 in1_1 sh1_1 (zin_vp s15) (z_iretQ dX12_flight_161 rfl (by cases h; rfl)))))))
  · have h := ziF h (c3)
    exact z_const dX12_flight_57 (z_iretQ dX12_flight_58 rfl (by cases h; rfl))
def jX12_flight_28 (a1 a2 b0 : Int32) (X : zX) : Option (Int32 × zX) := zbd (eX12_throwsIf b0 (nI 1) X) fun y2 => if y2.1 = 0 then if (¬ (a2 < (nI 0))) ∧ (¬ ((nI 5) < a2)) then jX12_flight_50 a1 a2 (nI 0) y2.2 else jX12_flight_50 a1 a2 (nI 1) y2.2 else some ((nI 0), y2.2)
set_option maxRecDepth 20000 in
set_option maxHeartbeats 4000000 in
theorem sX12_flight_28 {μ : zM} {a1 a2 b0 : Int32} {X : zX} {ρ : Int32 × zX} (h : jX12_flight_28 a1 a2 b0 X = some ρ) : zJ mX12_flight 2 (0, 0) (0, 0) (zQ (some (zi ρ.1)) (zg μ 1 ρ.2)) 28 [some (zq 1 0), some (zi a1), some (zi a2)] [zi b0, zq 1 0] (zg μ 1 X) := by
  unfold jX12_flight_28 at h
  obtain ⟨y2, l1, h⟩ := zbd_some h
  refine z_const dX12_flight_28 (z_callV dX12_flight_29 (tX12_throwsIf l1) (Nat.le_of_ble_eq_true rfl) cdX12_throwsIf naX12_throwsIf lkX12_188 imX12_throwsIf seX12_throwsIf in1_0 sh1_0 rfl rfl rfl (Nat.le_of_ble_eq_true rfl) (z_if_ne dX12_flight_32 (fun c3 => ?_) (fun c3 => ?_)))
  · have h := ziF h (c3)
    exact z_const dX12_flight_57 (z_iretQ dX12_flight_58 rfl (by cases h; rfl))
  · have h := ziT h (c3)
    refine z_aload dX12_flight_35 rfl (z_iload dX12_flight_36 rfl (z_const dX12_flight_37 (z_const dX12_flight_38 (z_callS dX12_flight_39 (tX12_in) (Nat.le_of_ble_eq_true rfl) cdX12_in naX12_in lkX12_71 stX12_in rfl rfl (Nat.le_of_ble_eq_true rfl) (z_if_ne dX12_flight_42 (fun c4 => ?_) (fun c4 => ?_))))))
    · have h := ziT h (zB_n0.mp c4)
      exact z_const dX12_flight_49 (z_mask [true, true, true] (sX12_flight_50 h))
    · have h := ziF h (zB_0.mp c4)
      exact z_const dX12_flight_45 (z_goto dX12_flight_46 (z_mask [true, true, true] (sX12_flight_50 h)))
def eX12_flight (x0 x1 : Int32) (X : zX) : Option (Int32 × zX) := if (¬ (x0 < (nI 0))) ∧ (¬ (((X 1 12) - (nI 1)) < x0)) then jX12_flight_28 x0 x1 (nI 0) (zw X 0 0 (nI 0)) else jX12_flight_28 x0 x1 (nI 1) (zw X 0 0 (nI 0))
set_option maxRecDepth 20000 in
set_option maxHeartbeats 4000000 in
theorem tX12_flight {μ : zM} {x0 x1 : Int32} {X : zX} {ρ : Int32 × zX} (h : eX12_flight x0 x1 X = some ρ) : LM mX12_flight 2 [zq 1 0, zi x0, zi x1] (zg μ 1 X) (some (zi ρ.1)) (zg μ 1 ρ.2) := by
  unfold eX12_flight at h
  refine LM.of (by decide +kernel) rfl (Nat.le_of_ble_eq_true rfl) ?_
  show zJ mX12_flight 2 (0, 0) (0, 0) _ 0 [some (zq 1 0), some (zi x0), some (zi x1)] [] _
  refine z_aload dX12_flight_0 rfl (z_const dX12_flight_1 (z_putI dX12_flight_2 fkX12_3 in1_0 sh1_0 rfl (fun _ _ _ h => by cases h; rfl) ⟨_, rfl, rfl, rfl⟩ (z_aload dX12_flight_5 rfl (z_iload dX12_flight_6 rfl (z_const dX12_flight_7 (z_aload dX12_flight_8 rfl (z_getR dX12_flight_9 fkX12_13 in1_0 sh1_0 rfl (z_const dX12_flight_12 (z_ialdN dX12_flight_14 in1_1 sh1_1 (Nat.le_of_ble_eq_true rfl) (Nat.le_of_ble_eq_true rfl) (z_const dX12_flight_15 (z_isub dX12_flight_16 ?_)))))))))))
  refine z_callS dX12_flight_17 (tX12_in) (Nat.le_of_ble_eq_true rfl) cdX12_in naX12_in lkX12_71 stX12_in rfl rfl (Nat.le_of_ble_eq_true rfl) (z_if_ne dX12_flight_20 (fun c1 => ?_) (fun c1 => ?_))
  · have h := ziT h (zB_n0.mp c1)
    exact z_const dX12_flight_27 (z_mask [true, true, true] (sX12_flight_28 h))
  · have h := ziF h (zB_0.mp c1)
    exact z_const dX12_flight_23 (z_goto dX12_flight_24 (z_mask [true, true, true] (sX12_flight_28 h)))
-- X12_half
def eX12_half (x0 x1 : Int32) : Option (Int32) := zbd (eJ9_floorDiv_7cf53 x0 x1) fun r2 => some r2
set_option maxRecDepth 20000 in
set_option maxHeartbeats 4000000 in
theorem tX12_half {μ : zM} {x0 x1 : Int32} {ρ : Int32} (h : eX12_half x0 x1 = some ρ) : LM mX12_half 2 [zi x0, zi x1] μ (some (zi ρ)) μ := by
  unfold eX12_half at h
  refine LM.of (by decide +kernel) rfl (Nat.le_of_ble_eq_true rfl) ?_
  show zJ mX12_half 2 (0, 0) (0, 0) _ 0 [some (zi x0), some (zi x1)] [] _
  obtain ⟨r2, l1, h⟩ := zbd_some h
  exact z_iload dX12_half_0 rfl (z_iload dX12_half_1 rfl (z_callS dX12_half_2 (tJ9_floorDiv_7cf53 l1) (Nat.le_of_ble_eq_true rfl) cdJ9_floorDiv_7cf53 naJ9_floorDiv_7cf53 lkX12_266 stJ9_floorDiv_7cf53 rfl rfl (Nat.le_of_ble_eq_true rfl) (z_iretQ dX12_half_5 rfl (by cases h; rfl))))
-- X12_hopsOf
def hX12_hopsOf_5 (F : Nat) : Nat → Int32 → Int32 → Int32 → zX → Option (Int32)
  | 0, _, _, _, _ => none
  | n + 1, a1, a3, a4, X => if a4 = a1 then some a3 else zchk (zin (((nI 6) * a1) + a4) 36) ((hX12_hopsOf_5 F n) a1 (a3 + (nI 1)) (X 8 (zn (((nI 6) * a1) + a4))) X)
set_option maxRecDepth 20000 in
set_option maxHeartbeats 4000000 in
theorem sX12_hopsOf_5 {μ : zM} {F : Nat} : ∀ {n : Nat} {a1 a3 a4 : Int32} {X : zX} {ρ : Int32}, hX12_hopsOf_5 F n a1 a3 a4 X = some ρ → zJ mX12_hopsOf 2 (0, 0) (0, 0) (zQ (some (zi ρ)) (zg μ 1 X)) 5 [some (zq 1 0), some (zi a1), none, some (zi a3), some (zi a4)] [] (zg μ 1 X) := by
  intro n
  induction n with
  | zero => intro a1 a3 a4 X ρ h; exact nomatch (show (none : Option _) = some ρ from h)
  | succ n ih =>
    intro a1 a3 a4 X ρ h
    have hK5 := @ih
    rw [hX12_hopsOf_5] at h
    refine z_iload dX12_hopsOf_5 rfl (z_iload dX12_hopsOf_7 rfl (z_icmp_eq dX12_hopsOf_8 (fun c1 => ?_) (fun c1 => ?_)))
    · have h := ziT h (c1)
      exact z_iload dX12_hopsOf_30 rfl (z_iretQ dX12_hopsOf_31 rfl (by cases h; rfl))
    · have h := ziF h (c1)
      obtain ⟨s2, h⟩ := zchk_some h
      exact z_iinc dX12_hopsOf_11 (Nat.le_of_ble_eq_true rfl) rfl (z_aload dX12_hopsOf_14 rfl (z_getR dX12_hopsOf_15 fkX12_39 in1_0 sh1_0 rfl (z_iload dX12_hopsOf_18 rfl (z_iload dX12_hopsOf_19 rfl (z_callS dX12_hopsOf_21 (tX12_at) (Nat.le_of_ble_eq_true rfl) cdX12_at naX12_at lkX12_193 stX12_at rfl rfl (Nat.le_of_ble_eq_true rfl) (z_iald dX12_hopsOf_24 in1_8 sh1_8 (zin_vp s2) (z_istore dX12_hopsOf_25 (Nat.le_of_ble_eq_true rfl) (z_goto dX12_hopsOf_27 (z_mask [true, true, false, true, true] (hK5 h))))))))))
def eX12_hopsOf (F : Nat) (x0 x1 : Int32) (X : zX) : Option (Int32) := hX12_hopsOf_5 F F x0 (nI 0) x1 X
set_option maxRecDepth 20000 in
set_option maxHeartbeats 4000000 in
theorem tX12_hopsOf {μ : zM} {F : Nat} {x0 x1 : Int32} {X : zX} {ρ : Int32} (h : eX12_hopsOf F x0 x1 X = some ρ) : LM mX12_hopsOf 2 [zq 1 0, zi x0, zi x1] (zg μ 1 X) (some (zi ρ)) (zg μ 1 X) := by
  unfold eX12_hopsOf at h
  refine LM.of (by decide +kernel) rfl (Nat.le_of_ble_eq_true rfl) ?_
  show zJ mX12_hopsOf 2 (0, 0) (0, 0) _ 0 [some (zq 1 0), some (zi x0), some (zi x1), none, none] [] _
  exact z_const dX12_hopsOf_0 (z_istore dX12_hopsOf_1 (Nat.le_of_ble_eq_true rfl) (z_iload dX12_hopsOf_2 rfl (z_istore dX12_hopsOf_3 (Nat.le_of_ble_eq_true rfl) (z_mask [true, true, false, true, true] (sX12_hopsOf_5 h)))))
-- X12_isCut
def jX12_isCut_32 (F : Nat) (K2 : Int32 → Int32 → zX → Option (zX)) (a1 a2 b0 b1 : Int32) (X : zX) : Option (zX) := zchk (zin b1 2422) (K2 a1 (a2 + (nI 1)) (zw X 1 (zn b1) b0))
set_option maxRecDepth 20000 in
set_option maxHeartbeats 4000000 in
theorem sX12_isCut_32 {μ : zM} {F : Nat} {K2 : Int32 → Int32 → zX → Option (zX)} (hK2 : ∀ {xa1 xa2 : Int32} {xX : zX} {ρ : zX}, K2 xa1 xa2 xX = some ρ → zJ mX12_isCut 2 (0, 0) (0, 0) (zQ none (zg μ 1 ρ)) 2 [some (zq 1 0), some (zi xa1), some (zi xa2)] [] (zg μ 1 xX)) {a1 a2 b0 b1 : Int32} {X : zX} {ρ : zX} (h : jX12_isCut_32 F K2 a1 a2 b0 b1 X = some ρ) : zJ mX12_isCut 2 (0, 0) (0, 0) (zQ none (zg μ 1 ρ)) 32 [some (zq 1 0), some (zi a1), some (zi a2)] [zi b0, zi b1, zq 1 1] (zg μ 1 X) := by
  unfold jX12_isCut_32 at h
  obtain ⟨s1, h⟩ := zchk_some h
  exact z_iast dX12_isCut_32 in1_1 sh1_1 (zin_vp s1) (z_iinc dX12_isCut_33 (Nat.le_of_ble_eq_true rfl) rfl (z_goto dX12_isCut_36 (z_mask [true, true, true] (hK2 h))))
def hX12_isCut_2 (F : Nat) : Nat → Int32 → Int32 → zX → Option (zX)
  | 0, _, _, _ => none
  | n + 1, a1, a2, X => if (X 1 1) ≤ a2 then some X else if ((a1 >>> (a2 &&& 31)) &&& (nI 1)) = (nI 1) then jX12_isCut_32 F (hX12_isCut_2 F n) a1 a2 (nI 1) (((nI 1482) + ((nI 6) * a2)) + (nI 4)) X else jX12_isCut_32 F (hX12_isCut_2 F n) a1 a2 (nI 0) (((nI 1482) + ((nI 6) * a2)) + (nI 4)) X
set_option maxRecDepth 20000 in
set_option maxHeartbeats 4000000 in
theorem sX12_isCut_2 {μ : zM} {F : Nat} : ∀ {n : Nat} {a1 a2 : Int32} {X : zX} {ρ : zX}, hX12_isCut_2 F n a1 a2 X = some ρ → zJ mX12_isCut 2 (0, 0) (0, 0) (zQ none (zg μ 1 ρ)) 2 [some (zq 1 0), some (zi a1), some (zi a2)] [] (zg μ 1 X) := by
  intro n
  induction n with
  | zero => intro a1 a2 X ρ h; exact nomatch (show (none : Option _) = some ρ from h)
  | succ n ih =>
    intro a1 a2 X ρ h
    have hK2 := @ih
    rw [hX12_isCut_2] at h
    refine z_iload dX12_isCut_2 rfl (z_aload dX12_isCut_3 rfl (z_callV dX12_isCut_4 (tX12_links) (Nat.le_of_ble_eq_true rfl) cdX12_links naX12_links lkX12_75 imX12_links seX12_links in1_0 sh1_0 rfl rfl rfl (Nat.le_of_ble_eq_true rfl) (z_icmp_ge dX12_isCut_7 (fun c1 => ?_) (fun c1 => ?_))))
    · have h := ziT h (c1)
      exact z_vretQ dX12_isCut_39 rfl (by cases h; rfl)
    · have h := ziF h (c1)
      refine z_aload dX12_isCut_10 rfl (z_getR dX12_isCut_11 fkX12_13 in1_0 sh1_0 rfl (z_iload dX12_isCut_14 rfl (z_const dX12_isCut_15 (z_callS dX12_isCut_16 (tX12_linkAt) (Nat.le_of_ble_eq_true rfl) cdX12_linkAt naX12_linkAt lkX12_64 stX12_linkAt rfl rfl (Nat.le_of_ble_eq_true rfl) (z_iload dX12_isCut_19 rfl (z_iload dX12_isCut_20 rfl (z_callS dX12_isCut_21 (tX12_has) (Nat.le_of_ble_eq_true rfl) cdX12_has naX12_has lkX12_81 stX12_has rfl rfl (Nat.le_of_ble_eq_true rfl) (z_if_eq dX12_isCut_24 (fun c2 => ?_) (fun c2 => ?_)))))))))
      · have h := ziF h (zB_0.mp c2)
        exact z_const dX12_isCut_31 (z_mask [true, true, true] (sX12_isCut_32 hK2 h))
      · have h := ziT h (zB_n0.mp c2)
        exact z_const dX12_isCut_27 (z_goto dX12_isCut_28 (z_mask [true, true, true] (sX12_isCut_32 hK2 h)))
def eX12_isCut (F : Nat) (x0 : Int32) (X : zX) : Option (zX) := hX12_isCut_2 F F x0 (nI 0) X
set_option maxRecDepth 20000 in
set_option maxHeartbeats 4000000 in
theorem tX12_isCut {μ : zM} {F : Nat} {x0 : Int32} {X : zX} {ρ : zX} (h : eX12_isCut F x0 X = some ρ) : LM mX12_isCut 2 [zq 1 0, zi x0] (zg μ 1 X) none (zg μ 1 ρ) := by
  unfold eX12_isCut at h
  refine LM.of (by decide +kernel) rfl (Nat.le_of_ble_eq_true rfl) ?_
  show zJ mX12_isCut 2 (0, 0) (0, 0) _ 0 [some (zq 1 0), some (zi x0), none] [] _
  exact z_const dX12_isCut_0 (z_istore dX12_isCut_1 (Nat.le_of_ble_eq_true rfl) (z_mask [true, true, true] (sX12_isCut_2 h)))
-- X12_isWay
def eX12_isWay (x0 x1 : Int32) (X : zX) : Option (Int32) := if x0 = x1 then some (nI 0) else zchk (zin (((nI 6) * x0) + x1) 36) (if 1000000 ≤ (X 7 (zn (((nI 6) * x0) + x1))) then some (nI 0) else some (nI 1))
set_option maxRecDepth 20000 in
set_option maxHeartbeats 4000000 in
theorem tX12_isWay {μ : zM} {x0 x1 : Int32} {X : zX} {ρ : Int32} (h : eX12_isWay x0 x1 X = some ρ) : LM mX12_isWay 2 [zq 1 0, zi x0, zi x1] (zg μ 1 X) (some (zi ρ)) (zg μ 1 X) := by
  unfold eX12_isWay at h
  refine LM.of (by decide +kernel) rfl (Nat.le_of_ble_eq_true rfl) ?_
  show zJ mX12_isWay 2 (0, 0) (0, 0) _ 0 [some (zq 1 0), some (zi x0), some (zi x1)] [] _
  refine z_iload dX12_isWay_0 rfl (z_iload dX12_isWay_1 rfl (z_icmp_eq dX12_isWay_2 (fun c1 => ?_) (fun c1 => ?_)))
  · have h := ziT h (c1)
    exact z_const dX12_isWay_24 (z_zretQ dX12_isWay_25 rfl rfl (by cases h; rfl))
  · have h := ziF h (c1)
    obtain ⟨s2, h⟩ := zchk_some h
    refine z_aload dX12_isWay_5 rfl (z_getR dX12_isWay_6 fkX12_36 in1_0 sh1_0 rfl (z_iload dX12_isWay_9 rfl (z_iload dX12_isWay_10 rfl (z_callS dX12_isWay_11 (tX12_at) (Nat.le_of_ble_eq_true rfl) cdX12_at naX12_at lkX12_193 stX12_at rfl rfl (Nat.le_of_ble_eq_true rfl) (z_iald dX12_isWay_14 in1_7 sh1_7 (zin_vp s2) (z_ldc dX12_isWay_15 ckX12_192 (z_icmp_ge dX12_isWay_17 (fun c3 => ?_) (fun c3 => ?_))))))))
    · have h := ziT h (c3)
      exact z_const dX12_isWay_24 (z_zretQ dX12_isWay_25 rfl rfl (by cases h; rfl))
    · have h := ziF h (c3)
      exact z_const dX12_isWay_20 (z_goto dX12_isWay_21 (z_zretQ dX12_isWay_25 rfl rfl (by cases h; rfl)))
-- X12_log
def jX12_log_20 (a1 a2 b0 : Int32) (X : zX) : Option (Int32 × zX) := zbd (eX12_throwsIf b0 (nI 1) X) fun y2 => if y2.1 = 0 then if (¬ (a1 < (nI 0))) ∧ (¬ (((y2.2 1 15) - (nI 1)) < a1)) then zchk (zin (((nI 2182) + ((nI 4) * a1)) + a2) 2422) (some ((y2.2 1 (zn (((nI 2182) + ((nI 4) * a1)) + a2))), y2.2)) else some ((-1), y2.2) else some ((nI 0), y2.2)
set_option maxRecDepth 20000 in
set_option maxHeartbeats 4000000 in
theorem sX12_log_20 {μ : zM} {a1 a2 b0 : Int32} {X : zX} {ρ : Int32 × zX} (h : jX12_log_20 a1 a2 b0 X = some ρ) : zJ mX12_log 2 (0, 0) (0, 0) (zQ (some (zi ρ.1)) (zg μ 1 ρ.2)) 20 [some (zq 1 0), some (zi a1), some (zi a2)] [zi b0, zq 1 0] (zg μ 1 X) := by
  unfold jX12_log_20 at h
  obtain ⟨y2, l1, h⟩ := zbd_some h
  refine z_const dX12_log_20 (z_callV dX12_log_21 (tX12_throwsIf l1) (Nat.le_of_ble_eq_true rfl) cdX12_throwsIf naX12_throwsIf lkX12_188 imX12_throwsIf seX12_throwsIf in1_0 sh1_0 rfl rfl rfl (Nat.le_of_ble_eq_true rfl) (z_if_eq dX12_log_24 (fun c3 => ?_) (fun c3 => ?_)))
  · have h := ziT h (c3)
    refine z_iload dX12_log_29 rfl (z_const dX12_log_30 (z_aload dX12_log_31 rfl (z_getR dX12_log_32 fkX12_13 in1_0 sh1_0 rfl (z_const dX12_log_35 (z_ialdN dX12_log_37 in1_1 sh1_1 (Nat.le_of_ble_eq_true rfl) (Nat.le_of_ble_eq_true rfl) (z_const dX12_log_38 (z_isub dX12_log_39 (z_callS dX12_log_40 (tX12_in) (Nat.le_of_ble_eq_true rfl) cdX12_in naX12_in lkX12_71 stX12_in rfl rfl (Nat.le_of_ble_eq_true rfl) (z_if_eq dX12_log_43 (fun c4 => ?_) (fun c4 => ?_))))))))))
    · have h := ziF h (zB_0.mp c4)
      exact z_const dX12_log_63 (z_iretQ dX12_log_64 rfl (by cases h; rfl))
    · have h := ziT h (zB_n0.mp c4)
      obtain ⟨s5, h⟩ := zchk_some h
      exact z_aload dX12_log_46 rfl (z_getR dX12_log_47 fkX12_13 in1_0 sh1_0 rfl (z_const dX12_log_50 (z_const dX12_log_53 (z_iload dX12_log_54 rfl (z_imul dX12_log_55 (z_iadd dX12_log_56 (z_iload dX12_log_57 rfl (z_iadd dX12_log_58 (z_iald dX12_log_59 in1_1 sh1_1 (zin_vp s5) (z_goto dX12_log_60 (z_iretQ dX12_log_64 rfl (by cases h; rfl))))))))))))
  · have h := ziF h (c3)
    exact z_const dX12_log_27 (z_iretQ dX12_log_28 rfl (by cases h; rfl))
def eX12_log (x0 x1 : Int32) (X : zX) : Option (Int32 × zX) := if (¬ (x1 < (nI 0))) ∧ (¬ ((nI 3) < x1)) then jX12_log_20 x0 x1 (nI 0) (zw X 0 0 (nI 0)) else jX12_log_20 x0 x1 (nI 1) (zw X 0 0 (nI 0))
set_option maxRecDepth 20000 in
set_option maxHeartbeats 4000000 in
theorem tX12_log {μ : zM} {x0 x1 : Int32} {X : zX} {ρ : Int32 × zX} (h : eX12_log x0 x1 X = some ρ) : LM mX12_log 2 [zq 1 0, zi x0, zi x1] (zg μ 1 X) (some (zi ρ.1)) (zg μ 1 ρ.2) := by
  unfold eX12_log at h
  refine LM.of (by decide +kernel) rfl (Nat.le_of_ble_eq_true rfl) ?_
  show zJ mX12_log 2 (0, 0) (0, 0) _ 0 [some (zq 1 0), some (zi x0), some (zi x1)] [] _
  refine z_aload dX12_log_0 rfl (z_const dX12_log_1 (z_putI dX12_log_2 fkX12_3 in1_0 sh1_0 rfl (fun _ _ _ h => by cases h; rfl) ⟨_, rfl, rfl, rfl⟩ (z_aload dX12_log_5 rfl (z_iload dX12_log_6 rfl (z_const dX12_log_7 (z_const dX12_log_8 (z_callS dX12_log_9 (tX12_in) (Nat.le_of_ble_eq_true rfl) cdX12_in naX12_in lkX12_71 stX12_in rfl rfl (Nat.le_of_ble_eq_true rfl) (z_if_ne dX12_log_12 (fun c1 => ?_) (fun c1 => ?_)))))))))
  · have h := ziT h (zB_n0.mp c1)
    exact z_const dX12_log_19 (z_mask [true, true, true] (sX12_log_20 h))
  · have h := ziF h (zB_0.mp c1)
    exact z_const dX12_log_15 (z_goto dX12_log_16 (z_mask [true, true, true] (sX12_log_20 h)))
-- X12_more
def eX12_more (x0 x1 : Int32) (X : zX) : Option (zX) := zchk (zin (((nI 18) + ((nI 244) * x0)) + x1) 2422) (zchk (zin (((nI 18) + ((nI 244) * x0)) + x1) 2422) (zlet (zw X 1 (zn (((nI 18) + ((nI 244) * x0)) + x1)) ((X 1 (zn (((nI 18) + ((nI 244) * x0)) + x1))) + (nI 1))) fun X3 => some X3))
set_option maxRecDepth 20000 in
set_option maxHeartbeats 4000000 in
theorem tX12_more {μ : zM} {x0 x1 : Int32} {X : zX} {ρ : zX} (h : eX12_more x0 x1 X = some ρ) : LM mX12_more 2 [zq 1 0, zi x0, zi x1] (zg μ 1 X) none (zg μ 1 ρ) := by
  unfold eX12_more at h
  refine LM.of (by decide +kernel) rfl (Nat.le_of_ble_eq_true rfl) ?_
  show zJ mX12_more 2 (0, 0) (0, 0) _ 0 [some (zq 1 0), some (zi x0), some (zi x1)] [] _
  obtain ⟨s1, h⟩ := zchk_some h
  obtain ⟨s2, h⟩ := zchk_some h
  have h := zlet_h h
  exact z_aload dX12_more_0 rfl (z_getR dX12_more_1 fkX12_13 in1_0 sh1_0 rfl (z_iload dX12_more_4 rfl (z_iload dX12_more_5 rfl (z_callS dX12_more_6 (tX12_nodeAt) (Nat.le_of_ble_eq_true rfl) cdX12_nodeAt naX12_nodeAt lkX12_56 stX12_nodeAt rfl rfl (Nat.le_of_ble_eq_true rfl) (z_dup2 dX12_more_9 rfl rfl (z_iald dX12_more_10 in1_1 sh1_1 (zin_vp s1) (z_const dX12_more_11 (z_iadd dX12_more_12 (z_iast dX12_more_13 in1_1 sh1_1 (zin_vp s2) (z_vretQ dX12_more_14 rfl (by cases h; rfl)))))))))))
-- X12_noLink
def eX12_noLink (x0 : Int32) (X : zX) : Option (Int32) := if (¬ (x0 < (nI 0))) ∧ (¬ (((X 1 1) - (nI 1)) < x0)) then some (nI 0) else some (nI 1)
set_option maxRecDepth 20000 in
set_option maxHeartbeats 4000000 in
theorem tX12_noLink {μ : zM} {x0 : Int32} {X : zX} {ρ : Int32} (h : eX12_noLink x0 X = some ρ) : LM mX12_noLink 2 [zq 1 0, zi x0] (zg μ 1 X) (some (zi ρ)) (zg μ 1 X) := by
  unfold eX12_noLink at h
  refine LM.of (by decide +kernel) rfl (Nat.le_of_ble_eq_true rfl) ?_
  show zJ mX12_noLink 2 (0, 0) (0, 0) _ 0 [some (zq 1 0), some (zi x0)] [] _
  refine z_iload dX12_noLink_0 rfl (z_const dX12_noLink_1 (z_aload dX12_noLink_2 rfl (z_callV dX12_noLink_3 (tX12_links) (Nat.le_of_ble_eq_true rfl) cdX12_links naX12_links lkX12_75 imX12_links seX12_links in1_0 sh1_0 rfl rfl rfl (Nat.le_of_ble_eq_true rfl) (z_const dX12_noLink_6 (z_isub dX12_noLink_7 (z_callS dX12_noLink_8 (tX12_in) (Nat.le_of_ble_eq_true rfl) cdX12_in naX12_in lkX12_71 stX12_in rfl rfl (Nat.le_of_ble_eq_true rfl) (z_if_ne dX12_noLink_11 (fun c1 => ?_) (fun c1 => ?_))))))))
  · have h := ziT h (zB_n0.mp c1)
    exact z_const dX12_noLink_18 (z_zretQ dX12_noLink_19 rfl rfl (by cases h; rfl))
  · have h := ziF h (zB_0.mp c1)
    exact z_const dX12_noLink_14 (z_goto dX12_noLink_15 (z_zretQ dX12_noLink_19 rfl rfl (by cases h; rfl)))
-- X12_noNode
def eX12_noNode (x0 : Int32) (X : zX) : Option (Int32) := if (¬ (x0 < (nI 0))) ∧ (¬ (((X 1 0) - (nI 1)) < x0)) then some (nI 0) else some (nI 1)
set_option maxRecDepth 20000 in
set_option maxHeartbeats 4000000 in
theorem tX12_noNode {μ : zM} {x0 : Int32} {X : zX} {ρ : Int32} (h : eX12_noNode x0 X = some ρ) : LM mX12_noNode 2 [zq 1 0, zi x0] (zg μ 1 X) (some (zi ρ)) (zg μ 1 X) := by
  unfold eX12_noNode at h
  refine LM.of (by decide +kernel) rfl (Nat.le_of_ble_eq_true rfl) ?_
  show zJ mX12_noNode 2 (0, 0) (0, 0) _ 0 [some (zq 1 0), some (zi x0)] [] _
  refine z_iload dX12_noNode_0 rfl (z_const dX12_noNode_1 (z_aload dX12_noNode_2 rfl (z_callV dX12_noNode_3 (tX12_nodes) (Nat.le_of_ble_eq_true rfl) cdX12_nodes naX12_nodes lkX12_67 imX12_nodes seX12_nodes in1_0 sh1_0 rfl rfl rfl (Nat.le_of_ble_eq_true rfl) (z_const dX12_noNode_6 (z_isub dX12_noNode_7 (z_callS dX12_noNode_8 (tX12_in) (Nat.le_of_ble_eq_true rfl) cdX12_in naX12_in lkX12_71 stX12_in rfl rfl (Nat.le_of_ble_eq_true rfl) (z_if_ne dX12_noNode_11 (fun c1 => ?_) (fun c1 => ?_))))))))
  · have h := ziT h (zB_n0.mp c1)
    exact z_const dX12_noNode_18 (z_zretQ dX12_noNode_19 rfl rfl (by cases h; rfl))
  · have h := ziF h (zB_0.mp c1)
    exact z_const dX12_noNode_14 (z_goto dX12_noNode_15 (z_zretQ dX12_noNode_19 rfl rfl (by cases h; rfl)))
-- X12_of
def eX12_of (x0 x1 : Int32) (X : zX) : Option (Int32) := zchk (zin (((nI 18) + ((nI 244) * x0)) + x1) 2422) (some (X 1 (zn (((nI 18) + ((nI 244) * x0)) + x1))))
set_option maxRecDepth 20000 in
set_option maxHeartbeats 4000000 in
theorem tX12_of {μ : zM} {x0 x1 : Int32} {X : zX} {ρ : Int32} (h : eX12_of x0 x1 X = some ρ) : LM mX12_of 2 [zq 1 0, zi x0, zi x1] (zg μ 1 X) (some (zi ρ)) (zg μ 1 X) := by
  unfold eX12_of at h
  refine LM.of (by decide +kernel) rfl (Nat.le_of_ble_eq_true rfl) ?_
  show zJ mX12_of 2 (0, 0) (0, 0) _ 0 [some (zq 1 0), some (zi x0), some (zi x1)] [] _
  obtain ⟨s1, h⟩ := zchk_some h
  exact z_aload dX12_of_0 rfl (z_getR dX12_of_1 fkX12_13 in1_0 sh1_0 rfl (z_iload dX12_of_4 rfl (z_iload dX12_of_5 rfl (z_callS dX12_of_6 (tX12_nodeAt) (Nat.le_of_ble_eq_true rfl) cdX12_nodeAt naX12_nodeAt lkX12_56 stX12_nodeAt rfl rfl (Nat.le_of_ble_eq_true rfl) (z_iald dX12_of_9 in1_1 sh1_1 (zin_vp s1) (z_iretQ dX12_of_10 rfl (by cases h; rfl)))))))
-- X12_ofLink
def eX12_ofLink (x0 x1 : Int32) (X : zX) : Option (Int32) := zchk (zin (((nI 1482) + ((nI 6) * x0)) + x1) 2422) (some (X 1 (zn (((nI 1482) + ((nI 6) * x0)) + x1))))
set_option maxRecDepth 20000 in
set_option maxHeartbeats 4000000 in
theorem tX12_ofLink {μ : zM} {x0 x1 : Int32} {X : zX} {ρ : Int32} (h : eX12_ofLink x0 x1 X = some ρ) : LM mX12_ofLink 2 [zq 1 0, zi x0, zi x1] (zg μ 1 X) (some (zi ρ)) (zg μ 1 X) := by
  unfold eX12_ofLink at h
  refine LM.of (by decide +kernel) rfl (Nat.le_of_ble_eq_true rfl) ?_
  show zJ mX12_ofLink 2 (0, 0) (0, 0) _ 0 [some (zq 1 0), some (zi x0), some (zi x1)] [] _
  obtain ⟨s1, h⟩ := zchk_some h
  exact z_aload dX12_ofLink_0 rfl (z_getR dX12_ofLink_1 fkX12_13 in1_0 sh1_0 rfl (z_iload dX12_ofLink_4 rfl (z_iload dX12_ofLink_5 rfl (z_callS dX12_ofLink_6 (tX12_linkAt) (Nat.le_of_ble_eq_true rfl) cdX12_linkAt naX12_linkAt lkX12_64 stX12_linkAt rfl rfl (Nat.le_of_ble_eq_true rfl) (z_iald dX12_ofLink_9 in1_1 sh1_1 (zin_vp s1) (z_iretQ dX12_ofLink_10 rfl (by cases h; rfl)))))))
-- X12_timeBy
def jX12_timeBy_39 (a1 a3 a4 b0 : Int32) (X : zX) : Option (Int32 × zX) := some (((X 1 14) + (zmx (nI 1) ((((a1 * a3) / (nI 4)) + b0) <<< (a4 &&& 31)))), X)
set_option maxRecDepth 20000 in
set_option maxHeartbeats 4000000 in
theorem sX12_timeBy_39 {μ : zM} {a1 a3 a4 b0 : Int32} {X : zX} {ρ : Int32 × zX} (h : jX12_timeBy_39 a1 a3 a4 b0 X = some ρ) : zJ mX12_timeBy 2 (0, 0) (0, 0) (zQ (some (zi ρ.1)) (zg μ 1 ρ.2)) 39 [some (zq 1 0), some (zi a1), none, some (zi a3), some (zi a4), none, none] [zi b0] (zg μ 1 X) := by
  unfold jX12_timeBy_39 at h
  refine z_istore dX12_timeBy_39 (Nat.le_of_ble_eq_true rfl) (z_aload dX12_timeBy_41 rfl (z_getR dX12_timeBy_42 fkX12_13 in1_0 sh1_0 rfl (z_const dX12_timeBy_45 (z_ialdN dX12_timeBy_47 in1_1 sh1_1 (Nat.le_of_ble_eq_true rfl) (Nat.le_of_ble_eq_true rfl) (z_const dX12_timeBy_48 (z_iload dX12_timeBy_49 rfl (z_iload dX12_timeBy_50 rfl (z_imul dX12_timeBy_51 (z_const dX12_timeBy_52 (z_idiv dX12_timeBy_53 (by decide) (z_iload dX12_timeBy_54 rfl ?_)))))))))))
  exact z_iadd dX12_timeBy_56 (z_iload dX12_timeBy_57 rfl (z_ishl dX12_timeBy_59 (z_max dX12_timeBy_60 lkX12_253 (Nat.le_of_ble_eq_true rfl) (Nat.le_of_ble_eq_true rfl) (z_iadd dX12_timeBy_63 (z_iretQ dX12_timeBy_64 rfl (by cases h; rfl))))))
def eX12_timeBy (x0 x1 x2 x3 : Int32) (X : zX) : Option (Int32 × zX) := if (X 0 16) = 0 then zbd (eX12_drawn (((x1 * x2) / (nI 4)) + (nI 1)) X) fun y4 => jX12_timeBy_39 x0 x2 x3 y4.1 y4.2 else if (X 0 16) = (nI 2) then jX12_timeBy_39 x0 x2 x3 ((x1 * x2) / (nI 4)) X else jX12_timeBy_39 x0 x2 x3 (nI 0) X
set_option maxRecDepth 20000 in
set_option maxHeartbeats 4000000 in
theorem tX12_timeBy {μ : zM} {x0 x1 x2 x3 : Int32} {X : zX} {ρ : Int32 × zX} (h : eX12_timeBy x0 x1 x2 x3 X = some ρ) : LM mX12_timeBy 2 [zq 1 0, zi x0, zi x1, zi x2, zi x3] (zg μ 1 X) (some (zi ρ.1)) (zg μ 1 ρ.2) := by
  unfold eX12_timeBy at h
  refine LM.of (by decide +kernel) rfl (Nat.le_of_ble_eq_true rfl) ?_
  show zJ mX12_timeBy 2 (0, 0) (0, 0) _ 0 [some (zq 1 0), some (zi x0), some (zi x1), some (zi x2), some (zi x3), none, none] [] _
  refine z_iload dX12_timeBy_0 rfl (z_iload dX12_timeBy_1 rfl (z_imul dX12_timeBy_2 (z_const dX12_timeBy_3 (z_idiv dX12_timeBy_4 (by decide) (z_istore dX12_timeBy_5 (Nat.le_of_ble_eq_true rfl) (z_aload dX12_timeBy_7 rfl (z_getI dX12_timeBy_8 fkX12_220 in1_0 sh1_0 rfl (z_if_ne dX12_timeBy_11 (fun c1 => ?_) (fun c1 => ?_)))))))))
  · have h := ziF h (c1)
    refine z_aload dX12_timeBy_25 rfl (z_getI dX12_timeBy_26 fkX12_220 in1_0 sh1_0 rfl (z_const dX12_timeBy_29 (z_icmp_ne dX12_timeBy_30 (fun c2 => ?_) (fun c2 => ?_))))
    · have h := ziF h (c2)
      exact z_const dX12_timeBy_38 (z_mask [true, true, false, true, true, false, false] (sX12_timeBy_39 h))
    · have h := ziT h (c2)
      exact z_iload dX12_timeBy_33 rfl (z_goto dX12_timeBy_35 (z_mask [true, true, false, true, true, false, false] (sX12_timeBy_39 h)))
  · have h := ziT h (c1)
    obtain ⟨y4, l3, h⟩ := zbd_some h
    exact z_aload dX12_timeBy_14 rfl (z_iload dX12_timeBy_15 rfl (z_const dX12_timeBy_17 (z_iadd dX12_timeBy_18 (z_callV dX12_timeBy_19 (tX12_drawn l3) (Nat.le_of_ble_eq_true rfl) cdX12_drawn naX12_drawn lkX12_223 imX12_drawn seX12_drawn in1_0 sh1_0 rfl rfl rfl (Nat.le_of_ble_eq_true rfl) (z_goto dX12_timeBy_22 (z_mask [true, true, false, true, true, false, false] (sX12_timeBy_39 h)))))))
-- X12_adapts
def eX12_adapts (x0 x1 : Int32) (X : zX) : Option (zX) := zbd (eX12_of x0 (nI 5) X) fun r2 => zbd (eX12_of x0 (nI 5) X) fun r4 => zbd (eX12_half (((nI 16) * x1) - r4) (nI 4)) fun r6 => zchk (zin (((nI 18) + ((nI 244) * x0)) + (nI 5)) 2422) (zlet (zw X 1 (zn (((nI 18) + ((nI 244) * x0)) + (nI 5))) (r2 + r6)) fun X8 => if (r2 + r6) ≤ (nI 32) then if (nI 20) ≤ (r2 + r6) then some X8 else zbd (eX12_of x0 (nI 3) X8) fun r12 => zchk (zin (((nI 18) + ((nI 244) * x0)) + (nI 3)) 2422) (zlet (zw X8 1 (zn (((nI 18) + ((nI 244) * x0)) + (nI 3))) (zmx (nI 1) (r12 - (nI 1)))) fun X14 => zbd (eX12_of x0 (nI 4) X14) fun r16 => zchk (zin (((nI 18) + ((nI 244) * x0)) + (nI 4)) 2422) (zlet (zw X14 1 (zn (((nI 18) + ((nI 244) * x0)) + (nI 4))) (zmx (nI 2) (r16 - (nI 1)))) fun X18 => some X18)) else zbd (eX12_of x0 (nI 3) X8) fun r20 => zchk (zin (((nI 18) + ((nI 244) * x0)) + (nI 3)) 2422) (zlet (zw X8 1 (zn (((nI 18) + ((nI 244) * x0)) + (nI 3))) (zmn (nI 32) (r20 + (nI 1)))) fun X22 => zbd (eX12_of x0 (nI 4) X22) fun r24 => zchk (zin (((nI 18) + ((nI 244) * x0)) + (nI 4)) 2422) (zlet (zw X22 1 (zn (((nI 18) + ((nI 244) * x0)) + (nI 4))) (zmn (nI 32) (r24 + (nI 2)))) fun X26 => some X26)))
set_option maxRecDepth 20000 in
set_option maxHeartbeats 4000000 in
theorem tX12_adapts {μ : zM} {x0 x1 : Int32} {X : zX} {ρ : zX} (h : eX12_adapts x0 x1 X = some ρ) : LM mX12_adapts 3 [zq 1 0, zi x0, zi x1] (zg μ 1 X) none (zg μ 1 ρ) := by
  unfold eX12_adapts at h
  refine LM.of (by decide +kernel) rfl (Nat.le_of_ble_eq_true rfl) ?_
  show zJ mX12_adapts 3 (0, 0) (0, 0) _ 0 [some (zq 1 0), some (zi x0), some (zi x1), none] [] _
  obtain ⟨r2, l1, h⟩ := zbd_some h
  obtain ⟨r4, l3, h⟩ := zbd_some h
  refine z_aload dX12_adapts_0 rfl (z_iload dX12_adapts_1 rfl (z_const dX12_adapts_2 (z_callV dX12_adapts_3 (tX12_of l1) (Nat.le_of_ble_eq_true rfl) cdX12_of naX12_of lkX12_78 imX12_of seX12_of in1_0 sh1_0 rfl rfl rfl (Nat.le_of_ble_eq_true rfl) (z_const dX12_adapts_6 (z_iload dX12_adapts_8 rfl (z_imul dX12_adapts_9 (z_aload dX12_adapts_10 rfl (z_iload dX12_adapts_11 rfl (z_const dX12_adapts_12 (z_callV dX12_adapts_13 (tX12_of l3) (Nat.le_of_ble_eq_true rfl) cdX12_of naX12_of lkX12_78 imX12_of seX12_of in1_0 sh1_0 rfl rfl rfl (Nat.le_of_ble_eq_true rfl) (z_isub dX12_adapts_16 ?_)))))))))))
  obtain ⟨r6, l5, h⟩ := zbd_some h
  obtain ⟨s7, h⟩ := zchk_some h
  have h := zlet_h h
  refine z_const dX12_adapts_17 (z_callS dX12_adapts_18 (tX12_half l5) (Nat.le_of_ble_eq_true rfl) cdX12_half naX12_half lkX12_269 stX12_half rfl rfl (Nat.le_of_ble_eq_true rfl) (z_iadd dX12_adapts_21 (z_istore dX12_adapts_22 (Nat.le_of_ble_eq_true rfl) (z_aload dX12_adapts_23 rfl (z_getR dX12_adapts_24 fkX12_13 in1_0 sh1_0 rfl (z_iload dX12_adapts_27 rfl (z_const dX12_adapts_28 (z_callS dX12_adapts_29 (tX12_nodeAt) (Nat.le_of_ble_eq_true rfl) cdX12_nodeAt naX12_nodeAt lkX12_56 stX12_nodeAt rfl rfl (Nat.le_of_ble_eq_true rfl) (z_iload dX12_adapts_32 rfl (z_iast dX12_adapts_33 in1_1 sh1_1 (zin_vp s7) (z_iload dX12_adapts_34 rfl ?_)))))))))))
  refine z_const dX12_adapts_35 (z_icmp_le dX12_adapts_37 (fun c9 => ?_) (fun c9 => ?_))
  · have h := ziT h (c9)
    refine z_iload dX12_adapts_89 rfl (z_const dX12_adapts_90 (z_icmp_ge dX12_adapts_92 (fun c10 => ?_) (fun c10 => ?_)))
    · have h := ziT h (c10)
      exact z_vretQ dX12_adapts_139 rfl (by cases h; rfl)
    · have h := ziF h (c10)
      obtain ⟨r12, l11, h⟩ := zbd_some h
      refine z_aload dX12_adapts_95 rfl (z_getR dX12_adapts_96 fkX12_13 in1_0 sh1_0 rfl (z_iload dX12_adapts_99 rfl (z_const dX12_adapts_100 (z_callS dX12_adapts_101 (tX12_nodeAt) (Nat.le_of_ble_eq_true rfl) cdX12_nodeAt naX12_nodeAt lkX12_56 stX12_nodeAt rfl rfl (Nat.le_of_ble_eq_true rfl) (z_const dX12_adapts_104 (z_aload dX12_adapts_105 rfl (z_iload dX12_adapts_106 rfl (z_const dX12_adapts_107 (z_callV dX12_adapts_108 (tX12_of l11) (Nat.le_of_ble_eq_true rfl) cdX12_of naX12_of lkX12_78 imX12_of seX12_of in1_0 sh1_0 rfl rfl rfl (Nat.le_of_ble_eq_true rfl) (z_const dX12_adapts_111 (z_isub dX12_adapts_112 ?_)))))))))))
      obtain ⟨s13, h⟩ := zchk_some h
      have h := zlet_h h
      obtain ⟨r16, l15, h⟩ := zbd_some h
      refine z_max dX12_adapts_113 lkX12_253 (Nat.le_of_ble_eq_true rfl) (Nat.le_of_ble_eq_true rfl) (z_iast dX12_adapts_116 in1_1 sh1_1 (zin_vp s13) (z_aload dX12_adapts_117 rfl (z_getR dX12_adapts_118 fkX12_13 in1_0 sh1_0 rfl (z_iload dX12_adapts_121 rfl (z_const dX12_adapts_122 (z_callS dX12_adapts_123 (tX12_nodeAt) (Nat.le_of_ble_eq_true rfl) cdX12_nodeAt naX12_nodeAt lkX12_56 stX12_nodeAt rfl rfl (Nat.le_of_ble_eq_true rfl) (z_const dX12_adapts_126 (z_aload dX12_adapts_127 rfl (z_iload dX12_adapts_128 rfl (z_const dX12_adapts_129 (z_callV dX12_adapts_130 (tX12_of l15) (Nat.le_of_ble_eq_true rfl) cdX12_of naX12_of lkX12_78 imX12_of seX12_of in1_0 sh1_0 rfl rfl rfl (Nat.le_of_ble_eq_true rfl) ?_)))))))))))
      obtain ⟨s17, h⟩ := zchk_some h
      have h := zlet_h h
      exact z_const dX12_adapts_133 (z_isub dX12_adapts_134 (z_max dX12_adapts_135 lkX12_253 (Nat.le_of_ble_eq_true rfl) (Nat.le_of_ble_eq_true rfl) (z_iast dX12_adapts_138 in1_1 sh1_1 (zin_vp s17) (z_vretQ dX12_adapts_139 rfl (by cases h; rfl)))))
  · have h := ziF h (c9)
    obtain ⟨r20, l19, h⟩ := zbd_some h
    refine z_aload dX12_adapts_40 rfl (z_getR dX12_adapts_41 fkX12_13 in1_0 sh1_0 rfl (z_iload dX12_adapts_44 rfl (z_const dX12_adapts_45 (z_callS dX12_adapts_46 (tX12_nodeAt) (Nat.le_of_ble_eq_true rfl) cdX12_nodeAt naX12_nodeAt lkX12_56 stX12_nodeAt rfl rfl (Nat.le_of_ble_eq_true rfl) (z_const dX12_adapts_49 (z_aload dX12_adapts_51 rfl (z_iload dX12_adapts_52 rfl (z_const dX12_adapts_53 (z_callV dX12_adapts_54 (tX12_of l19) (Nat.le_of_ble_eq_true rfl) cdX12_of naX12_of lkX12_78 imX12_of seX12_of in1_0 sh1_0 rfl rfl rfl (Nat.le_of_ble_eq_true rfl) (z_const dX12_adapts_57 (z_iadd dX12_adapts_58 ?_)))))))))))
    obtain ⟨s21, h⟩ := zchk_some h
    have h := zlet_h h
    obtain ⟨r24, l23, h⟩ := zbd_some h
    refine z_min dX12_adapts_59 lkX12_199 (Nat.le_of_ble_eq_true rfl) (Nat.le_of_ble_eq_true rfl) (z_iast dX12_adapts_62 in1_1 sh1_1 (zin_vp s21) (z_aload dX12_adapts_63 rfl (z_getR dX12_adapts_64 fkX12_13 in1_0 sh1_0 rfl (z_iload dX12_adapts_67 rfl (z_const dX12_adapts_68 (z_callS dX12_adapts_69 (tX12_nodeAt) (Nat.le_of_ble_eq_true rfl) cdX12_nodeAt naX12_nodeAt lkX12_56 stX12_nodeAt rfl rfl (Nat.le_of_ble_eq_true rfl) (z_const dX12_adapts_72 (z_aload dX12_adapts_74 rfl (z_iload dX12_adapts_75 rfl (z_const dX12_adapts_76 (z_callV dX12_adapts_77 (tX12_of l23) (Nat.le_of_ble_eq_true rfl) cdX12_of naX12_of lkX12_78 imX12_of seX12_of in1_0 sh1_0 rfl rfl rfl (Nat.le_of_ble_eq_true rfl) ?_)))))))))))
    obtain ⟨s25, h⟩ := zchk_some h
    have h := zlet_h h
    exact z_const dX12_adapts_80 (z_iadd dX12_adapts_81 (z_min dX12_adapts_82 lkX12_199 (Nat.le_of_ble_eq_true rfl) (Nat.le_of_ble_eq_true rfl) (z_iast dX12_adapts_85 in1_1 sh1_1 (zin_vp s25) (z_goto dX12_adapts_86 (z_vretQ dX12_adapts_139 rfl (by cases h; rfl))))))
-- X12_behindIn
def jX12_behindIn_59 (F : Nat) (K5 : Int32 → Int32 → Int32 → Int32 → zX → Option (Int32)) (a1 a2 a4 : Int32) (X : zX) : Option (Int32) := K5 a1 a2 a4 (a4 + (nI 1)) X
set_option maxRecDepth 20000 in
set_option maxHeartbeats 4000000 in
theorem sX12_behindIn_59 {μ : zM} {F : Nat} {K5 : Int32 → Int32 → Int32 → Int32 → zX → Option (Int32)} (hK5 : ∀ {xa1 xa2 xa3 xa4 : Int32} {xX : zX} {ρ : Int32}, K5 xa1 xa2 xa3 xa4 xX = some ρ → zJ mX12_behindIn 3 (0, 0) (0, 0) (zQ (some (zi ρ)) (zg μ 1 xX)) 5 [some (zq 1 0), some (zi xa1), some (zi xa2), some (zi xa3), some (zi xa4)] [] (zg μ 1 xX)) {a1 a2 a4 : Int32} {X : zX} {ρ : Int32} (h : jX12_behindIn_59 F K5 a1 a2 a4 X = some ρ) : zJ mX12_behindIn 3 (0, 0) (0, 0) (zQ (some (zi ρ)) (zg μ 1 X)) 59 [some (zq 1 0), some (zi a1), some (zi a2), none, some (zi a4)] [] (zg μ 1 X) := by
  unfold jX12_behindIn_59 at h
  exact z_iload dX12_behindIn_59 rfl (z_goto dX12_behindIn_61 (z_istore dX12_behindIn_65 (Nat.le_of_ble_eq_true rfl) (z_iinc dX12_behindIn_66 (Nat.le_of_ble_eq_true rfl) rfl (z_goto dX12_behindIn_69 (z_mask [true, true, true, true, true] (hK5 h))))))
def jX12_behindIn_43 (F : Nat) (K5 : Int32 → Int32 → Int32 → Int32 → zX → Option (Int32)) (a1 a2 a3 a4 : Int32) (X : zX) : Option (Int32) := if a3 = (-1) then jX12_behindIn_59 F K5 a1 a2 a4 X else zbd (eX12_comesBehind a1 a3 a4 X) fun r3 => if r3 = 0 then K5 a1 a2 a3 (a4 + (nI 1)) X else jX12_behindIn_59 F K5 a1 a2 a4 X
set_option maxRecDepth 20000 in
set_option maxHeartbeats 4000000 in
theorem sX12_behindIn_43 {μ : zM} {F : Nat} {K5 : Int32 → Int32 → Int32 → Int32 → zX → Option (Int32)} (hK5 : ∀ {xa1 xa2 xa3 xa4 : Int32} {xX : zX} {ρ : Int32}, K5 xa1 xa2 xa3 xa4 xX = some ρ → zJ mX12_behindIn 3 (0, 0) (0, 0) (zQ (some (zi ρ)) (zg μ 1 xX)) 5 [some (zq 1 0), some (zi xa1), some (zi xa2), some (zi xa3), some (zi xa4)] [] (zg μ 1 xX)) {a1 a2 a3 a4 : Int32} {X : zX} {ρ : Int32} (h : jX12_behindIn_43 F K5 a1 a2 a3 a4 X = some ρ) : zJ mX12_behindIn 3 (0, 0) (0, 0) (zQ (some (zi ρ)) (zg μ 1 X)) 43 [some (zq 1 0), some (zi a1), some (zi a2), some (zi a3), some (zi a4)] [] (zg μ 1 X) := by
  unfold jX12_behindIn_43 at h
  refine z_iload dX12_behindIn_43 rfl (z_const dX12_behindIn_44 (z_icmp_eq dX12_behindIn_45 (fun c1 => ?_) (fun c1 => ?_)))
  · have h := ziT h (c1)
    exact z_mask [true, true, true, false, true] (sX12_behindIn_59 hK5 h)
  · have h := ziF h (c1)
    obtain ⟨r3, l2, h⟩ := zbd_some h
    refine z_aload dX12_behindIn_48 rfl (z_iload dX12_behindIn_49 rfl (z_iload dX12_behindIn_50 rfl (z_iload dX12_behindIn_51 rfl (z_callV dX12_behindIn_53 (tX12_comesBehind l2) (Nat.le_of_ble_eq_true rfl) cdX12_comesBehind naX12_comesBehind lkX12_230 imX12_comesBehind seX12_comesBehind in1_0 sh1_0 rfl rfl rfl (Nat.le_of_ble_eq_true rfl) (z_if_eq dX12_behindIn_56 (fun c4 => ?_) (fun c4 => ?_))))))
    · have h := ziT h (c4)
      exact z_iload dX12_behindIn_64 rfl (z_istore dX12_behindIn_65 (Nat.le_of_ble_eq_true rfl) (z_iinc dX12_behindIn_66 (Nat.le_of_ble_eq_true rfl) rfl (z_goto dX12_behindIn_69 (z_mask [true, true, true, true, true] (hK5 h)))))
    · have h := ziF h (c4)
      exact z_mask [true, true, true, false, true] (sX12_behindIn_59 hK5 h)
def hX12_behindIn_5 (F : Nat) : Nat → Int32 → Int32 → Int32 → Int32 → zX → Option (Int32)
  | 0, _, _, _, _, _ => none
  | n + 1, a1, a2, a3, a4, X => if (X 1 0) ≤ a4 then some a3 else zbd (eX12_isWay a1 a4 X) fun r3 => if r3 = 0 then (hX12_behindIn_5 F n) a1 a2 a3 (a4 + (nI 1)) X else if a2 = (-1) then jX12_behindIn_43 F (hX12_behindIn_5 F n) a1 a2 a3 a4 X else zbd (eX12_comesBehind a1 a4 a2 X) fun r7 => if r7 = 0 then (hX12_behindIn_5 F n) a1 a2 a3 (a4 + (nI 1)) X else jX12_behindIn_43 F (hX12_behindIn_5 F n) a1 a2 a3 a4 X
set_option maxRecDepth 20000 in
set_option maxHeartbeats 4000000 in
theorem sX12_behindIn_5 {μ : zM} {F : Nat} : ∀ {n : Nat} {a1 a2 a3 a4 : Int32} {X : zX} {ρ : Int32}, hX12_behindIn_5 F n a1 a2 a3 a4 X = some ρ → zJ mX12_behindIn 3 (0, 0) (0, 0) (zQ (some (zi ρ)) (zg μ 1 X)) 5 [some (zq 1 0), some (zi a1), some (zi a2), some (zi a3), some (zi a4)] [] (zg μ 1 X) := by
  intro n
  induction n with
  | zero => intro a1 a2 a3 a4 X ρ h; exact nomatch (show (none : Option _) = some ρ from h)
  | succ n ih =>
    intro a1 a2 a3 a4 X ρ h
    have hK5 := @ih
    rw [hX12_behindIn_5] at h
    refine z_iload dX12_behindIn_5 rfl (z_aload dX12_behindIn_7 rfl (z_callV dX12_behindIn_8 (tX12_nodes) (Nat.le_of_ble_eq_true rfl) cdX12_nodes naX12_nodes lkX12_67 imX12_nodes seX12_nodes in1_0 sh1_0 rfl rfl rfl (Nat.le_of_ble_eq_true rfl) (z_icmp_ge dX12_behindIn_11 (fun c1 => ?_) (fun c1 => ?_))))
    · have h := ziT h (c1)
      exact z_iload dX12_behindIn_72 rfl (z_iretQ dX12_behindIn_73 rfl (by cases h; rfl))
    · have h := ziF h (c1)
      obtain ⟨r3, l2, h⟩ := zbd_some h
      refine z_aload dX12_behindIn_14 rfl (z_iload dX12_behindIn_15 rfl (z_iload dX12_behindIn_16 rfl (z_callV dX12_behindIn_18 (tX12_isWay l2) (Nat.le_of_ble_eq_true rfl) cdX12_isWay naX12_isWay lkX12_204 imX12_isWay seX12_isWay in1_0 sh1_0 rfl rfl rfl (Nat.le_of_ble_eq_true rfl) (z_if_eq dX12_behindIn_21 (fun c4 => ?_) (fun c4 => ?_)))))
      · have h := ziT h (c4)
        exact z_iinc dX12_behindIn_66 (Nat.le_of_ble_eq_true rfl) rfl (z_goto dX12_behindIn_69 (z_mask [true, true, true, true, true] (hK5 h)))
      · have h := ziF h (c4)
        refine z_iload dX12_behindIn_24 rfl (z_const dX12_behindIn_25 (z_icmp_eq dX12_behindIn_26 (fun c5 => ?_) (fun c5 => ?_)))
        · have h := ziT h (c5)
          exact z_mask [true, true, true, true, true] (sX12_behindIn_43 hK5 h)
        · have h := ziF h (c5)
          obtain ⟨r7, l6, h⟩ := zbd_some h
          refine z_aload dX12_behindIn_29 rfl (z_iload dX12_behindIn_30 rfl (z_iload dX12_behindIn_31 rfl (z_iload dX12_behindIn_33 rfl (z_callV dX12_behindIn_34 (tX12_comesBehind l6) (Nat.le_of_ble_eq_true rfl) cdX12_comesBehind naX12_comesBehind lkX12_230 imX12_comesBehind seX12_comesBehind in1_0 sh1_0 rfl rfl rfl (Nat.le_of_ble_eq_true rfl) (z_if_ne dX12_behindIn_37 (fun c8 => ?_) (fun c8 => ?_))))))
          · have h := ziF h (c8)
            exact z_mask [true, true, true, true, true] (sX12_behindIn_43 hK5 h)
          · have h := ziT h (c8)
            exact z_goto dX12_behindIn_40 (z_iinc dX12_behindIn_66 (Nat.le_of_ble_eq_true rfl) rfl (z_goto dX12_behindIn_69 (z_mask [true, true, true, true, true] (hK5 h))))
def eX12_behindIn (F : Nat) (x0 x1 : Int32) (X : zX) : Option (Int32) := hX12_behindIn_5 F F x0 x1 (-1) (nI 0) X
set_option maxRecDepth 20000 in
set_option maxHeartbeats 4000000 in
theorem tX12_behindIn {μ : zM} {F : Nat} {x0 x1 : Int32} {X : zX} {ρ : Int32} (h : eX12_behindIn F x0 x1 X = some ρ) : LM mX12_behindIn 3 [zq 1 0, zi x0, zi x1] (zg μ 1 X) (some (zi ρ)) (zg μ 1 X) := by
  unfold eX12_behindIn at h
  refine LM.of (by decide +kernel) rfl (Nat.le_of_ble_eq_true rfl) ?_
  show zJ mX12_behindIn 3 (0, 0) (0, 0) _ 0 [some (zq 1 0), some (zi x0), some (zi x1), none, none] [] _
  exact z_const dX12_behindIn_0 (z_istore dX12_behindIn_1 (Nat.le_of_ble_eq_true rfl) (z_const dX12_behindIn_2 (z_istore dX12_behindIn_3 (Nat.le_of_ble_eq_true rfl) (z_mask [true, true, true, true, true] (sX12_behindIn_5 h)))))
-- X12_between
def jX12_between_56 (F : Nat) (a3 : Int32) (X : zX) : Option (Int32) := if (X 1 1) ≤ a3 then some (-1) else some a3
set_option maxRecDepth 20000 in
set_option maxHeartbeats 4000000 in
theorem sX12_between_56 {μ : zM} {F : Nat} {a3 : Int32} {X : zX} {ρ : Int32} (h : jX12_between_56 F a3 X = some ρ) : zJ mX12_between 3 (0, 0) (0, 0) (zQ (some (zi ρ)) (zg μ 1 X)) 56 [some (zq 1 0), none, none, some (zi a3)] [] (zg μ 1 X) := by
  unfold jX12_between_56 at h
  refine z_iload dX12_between_56 rfl (z_aload dX12_between_57 rfl (z_callV dX12_between_58 (tX12_links) (Nat.le_of_ble_eq_true rfl) cdX12_links naX12_links lkX12_75 imX12_links seX12_links in1_0 sh1_0 rfl rfl rfl (Nat.le_of_ble_eq_true rfl) (z_icmp_ge dX12_between_61 (fun c1 => ?_) (fun c1 => ?_))))
  · have h := ziT h (c1)
    exact z_const dX12_between_68 (z_iretQ dX12_between_69 rfl (by cases h; rfl))
  · have h := ziF h (c1)
    exact z_iload dX12_between_64 rfl (z_goto dX12_between_65 (z_iretQ dX12_between_69 rfl (by cases h; rfl)))
def jX12_between_30 (F : Nat) (K2 : Int32 → Int32 → Int32 → zX → Option (Int32)) (a1 a2 a3 : Int32) (X : zX) : Option (Int32) := zbd (eX12_ofLink a3 (nI 0) X) fun r2 => if r2 = a2 then zbd (eX12_ofLink a3 (nI 1) X) fun r5 => if r5 = a1 then jX12_between_56 F a3 X else K2 a1 a2 (a3 + (nI 1)) X else K2 a1 a2 (a3 + (nI 1)) X
set_option maxRecDepth 20000 in
set_option maxHeartbeats 4000000 in
theorem sX12_between_30 {μ : zM} {F : Nat} {K2 : Int32 → Int32 → Int32 → zX → Option (Int32)} (hK2 : ∀ {xa1 xa2 xa3 : Int32} {xX : zX} {ρ : Int32}, K2 xa1 xa2 xa3 xX = some ρ → zJ mX12_between 3 (0, 0) (0, 0) (zQ (some (zi ρ)) (zg μ 1 xX)) 2 [some (zq 1 0), some (zi xa1), some (zi xa2), some (zi xa3)] [] (zg μ 1 xX)) {a1 a2 a3 : Int32} {X : zX} {ρ : Int32} (h : jX12_between_30 F K2 a1 a2 a3 X = some ρ) : zJ mX12_between 3 (0, 0) (0, 0) (zQ (some (zi ρ)) (zg μ 1 X)) 30 [some (zq 1 0), some (zi a1), some (zi a2), some (zi a3)] [] (zg μ 1 X) := by
  unfold jX12_between_30 at h
  obtain ⟨r2, l1, h⟩ := zbd_some h
  refine z_aload dX12_between_30 rfl (z_iload dX12_between_31 rfl (z_const dX12_between_32 (z_callV dX12_between_33 (tX12_ofLink l1) (Nat.le_of_ble_eq_true rfl) cdX12_ofLink naX12_ofLink lkX12_139 imX12_ofLink seX12_ofLink in1_0 sh1_0 rfl rfl rfl (Nat.le_of_ble_eq_true rfl) (z_iload dX12_between_36 rfl (z_icmp_ne dX12_between_37 (fun c3 => ?_) (fun c3 => ?_))))))
  · have h := ziF h (c3)
    exact z_iinc dX12_between_50 (Nat.le_of_ble_eq_true rfl) rfl (z_goto dX12_between_53 (z_mask [true, true, true, true] (hK2 h)))
  · have h := ziT h (c3)
    obtain ⟨r5, l4, h⟩ := zbd_some h
    refine z_aload dX12_between_40 rfl (z_iload dX12_between_41 rfl (z_const dX12_between_42 (z_callV dX12_between_43 (tX12_ofLink l4) (Nat.le_of_ble_eq_true rfl) cdX12_ofLink naX12_ofLink lkX12_139 imX12_ofLink seX12_ofLink in1_0 sh1_0 rfl rfl rfl (Nat.le_of_ble_eq_true rfl) (z_iload dX12_between_46 rfl (z_icmp_eq dX12_between_47 (fun c6 => ?_) (fun c6 => ?_))))))
    · have h := ziT h (c6)
      exact z_mask [true, false, false, true] (sX12_between_56 h)
    · have h := ziF h (c6)
      exact z_iinc dX12_between_50 (Nat.le_of_ble_eq_true rfl) rfl (z_goto dX12_between_53 (z_mask [true, true, true, true] (hK2 h)))
def hX12_between_2 (F : Nat) : Nat → Int32 → Int32 → Int32 → zX → Option (Int32)
  | 0, _, _, _, _ => none
  | n + 1, a1, a2, a3, X => if (X 1 1) ≤ a3 then jX12_between_56 F a3 X else zbd (eX12_ofLink a3 (nI 0) X) fun r3 => if r3 = a1 then zbd (eX12_ofLink a3 (nI 1) X) fun r6 => if r6 = a2 then jX12_between_56 F a3 X else jX12_between_30 F (hX12_between_2 F n) a1 a2 a3 X else jX12_between_30 F (hX12_between_2 F n) a1 a2 a3 X
set_option maxRecDepth 20000 in
set_option maxHeartbeats 4000000 in
theorem sX12_between_2 {μ : zM} {F : Nat} : ∀ {n : Nat} {a1 a2 a3 : Int32} {X : zX} {ρ : Int32}, hX12_between_2 F n a1 a2 a3 X = some ρ → zJ mX12_between 3 (0, 0) (0, 0) (zQ (some (zi ρ)) (zg μ 1 X)) 2 [some (zq 1 0), some (zi a1), some (zi a2), some (zi a3)] [] (zg μ 1 X) := by
  intro n
  induction n with
  | zero => intro a1 a2 a3 X ρ h; exact nomatch (show (none : Option _) = some ρ from h)
  | succ n ih =>
    intro a1 a2 a3 X ρ h
    have hK2 := @ih
    rw [hX12_between_2] at h
    refine z_iload dX12_between_2 rfl (z_aload dX12_between_3 rfl (z_callV dX12_between_4 (tX12_links) (Nat.le_of_ble_eq_true rfl) cdX12_links naX12_links lkX12_75 imX12_links seX12_links in1_0 sh1_0 rfl rfl rfl (Nat.le_of_ble_eq_true rfl) (z_icmp_ge dX12_between_7 (fun c1 => ?_) (fun c1 => ?_))))
    · have h := ziT h (c1)
      exact z_mask [true, false, false, true] (sX12_between_56 h)
    · have h := ziF h (c1)
      obtain ⟨r3, l2, h⟩ := zbd_some h
      refine z_aload dX12_between_10 rfl (z_iload dX12_between_11 rfl (z_const dX12_between_12 (z_callV dX12_between_13 (tX12_ofLink l2) (Nat.le_of_ble_eq_true rfl) cdX12_ofLink naX12_ofLink lkX12_139 imX12_ofLink seX12_ofLink in1_0 sh1_0 rfl rfl rfl (Nat.le_of_ble_eq_true rfl) (z_iload dX12_between_16 rfl (z_icmp_ne dX12_between_17 (fun c4 => ?_) (fun c4 => ?_))))))
      · have h := ziF h (c4)
        exact z_mask [true, true, true, true] (sX12_between_30 hK2 h)
      · have h := ziT h (c4)
        obtain ⟨r6, l5, h⟩ := zbd_some h
        refine z_aload dX12_between_20 rfl (z_iload dX12_between_21 rfl (z_const dX12_between_22 (z_callV dX12_between_23 (tX12_ofLink l5) (Nat.le_of_ble_eq_true rfl) cdX12_ofLink naX12_ofLink lkX12_139 imX12_ofLink seX12_ofLink in1_0 sh1_0 rfl rfl rfl (Nat.le_of_ble_eq_true rfl) (z_iload dX12_between_26 rfl (z_icmp_eq dX12_between_27 (fun c7 => ?_) (fun c7 => ?_))))))
        · have h := ziT h (c7)
          exact z_mask [true, false, false, true] (sX12_between_56 h)
        · have h := ziF h (c7)
          exact z_mask [true, true, true, true] (sX12_between_30 hK2 h)
def eX12_between (F : Nat) (x0 x1 : Int32) (X : zX) : Option (Int32) := hX12_between_2 F F x0 x1 (nI 0) X
set_option maxRecDepth 20000 in
set_option maxHeartbeats 4000000 in
theorem tX12_between {μ : zM} {F : Nat} {x0 x1 : Int32} {X : zX} {ρ : Int32} (h : eX12_between F x0 x1 X = some ρ) : LM mX12_between 3 [zq 1 0, zi x0, zi x1] (zg μ 1 X) (some (zi ρ)) (zg μ 1 X) := by
  unfold eX12_between at h
  refine LM.of (by decide +kernel) rfl (Nat.le_of_ble_eq_true rfl) ?_
  show zJ mX12_between 3 (0, 0) (0, 0) _ 0 [some (zq 1 0), some (zi x0), some (zi x1), none] [] _
  exact z_const dX12_between_0 (z_istore dX12_between_1 (Nat.le_of_ble_eq_true rfl) (z_mask [true, true, true, true] (sX12_between_2 h)))
-- X12_cut
def jX12_cut_54 (a2 a3 b0 b1 : Int32) (X : zX) : Option (Int32 × zX) := zchk (zin b1 2422) (if a3 = a2 then some ((nI 0), zw X 1 (zn b1) b0) else some ((nI 1), zw X 1 (zn b1) b0))
set_option maxRecDepth 20000 in
set_option maxHeartbeats 4000000 in
theorem sX12_cut_54 {μ : zM} {a2 a3 b0 b1 : Int32} {X : zX} {ρ : Int32 × zX} (h : jX12_cut_54 a2 a3 b0 b1 X = some ρ) : zJ mX12_cut 3 (0, 0) (0, 0) (zQ (some (zi ρ.1)) (zg μ 1 ρ.2)) 54 [none, none, some (zi a2), some (zi a3)] [zi b0, zi b1, zq 1 1] (zg μ 1 X) := by
  unfold jX12_cut_54 at h
  obtain ⟨s1, h⟩ := zchk_some h
  refine z_iast dX12_cut_54 in1_1 sh1_1 (zin_vp s1) (z_iload dX12_cut_55 rfl (z_iload dX12_cut_56 rfl (z_icmp_eq dX12_cut_57 (fun c2 => ?_) (fun c2 => ?_))))
  · have h := ziT h (c2)
    exact z_const dX12_cut_64 (z_zretQ dX12_cut_65 rfl rfl (by cases h; rfl))
  · have h := ziF h (c2)
    exact z_const dX12_cut_60 (z_goto dX12_cut_61 (z_zretQ dX12_cut_65 rfl rfl (by cases h; rfl)))
def jX12_cut_35 (a1 a2 b0 : Int32) (X : zX) : Option (Int32 × zX) := if a2 = 0 then jX12_cut_54 a2 b0 (nI 0) (((nI 1482) + ((nI 6) * a1)) + (nI 4)) X else jX12_cut_54 a2 b0 (nI 1) (((nI 1482) + ((nI 6) * a1)) + (nI 4)) X
set_option maxRecDepth 20000 in
set_option maxHeartbeats 4000000 in
theorem sX12_cut_35 {μ : zM} {a1 a2 b0 : Int32} {X : zX} {ρ : Int32 × zX} (h : jX12_cut_35 a1 a2 b0 X = some ρ) : zJ mX12_cut 3 (0, 0) (0, 0) (zQ (some (zi ρ.1)) (zg μ 1 ρ.2)) 35 [some (zq 1 0), some (zi a1), some (zi a2), none] [zi b0] (zg μ 1 X) := by
  unfold jX12_cut_35 at h
  refine z_istore dX12_cut_35 (Nat.le_of_ble_eq_true rfl) (z_aload dX12_cut_36 rfl (z_getR dX12_cut_37 fkX12_13 in1_0 sh1_0 rfl (z_iload dX12_cut_40 rfl (z_const dX12_cut_41 (z_callS dX12_cut_42 (tX12_linkAt) (Nat.le_of_ble_eq_true rfl) cdX12_linkAt naX12_linkAt lkX12_64 stX12_linkAt rfl rfl (Nat.le_of_ble_eq_true rfl) (z_iload dX12_cut_45 rfl (z_if_eq dX12_cut_46 (fun c1 => ?_) (fun c1 => ?_))))))))
  · have h := ziT h (c1)
    exact z_const dX12_cut_53 (z_mask [false, false, true, true] (sX12_cut_54 h))
  · have h := ziF h (c1)
    exact z_const dX12_cut_49 (z_goto dX12_cut_50 (z_mask [false, false, true, true] (sX12_cut_54 h)))
def eX12_cut (x0 x1 : Int32) (X : zX) : Option (Int32 × zX) := zbd (eX12_noLink x0 (zw X 0 0 (nI 0))) fun r2 => zbd (eX12_throwsIf r2 (nI 1) (zw X 0 0 (nI 0))) fun y4 => if y4.1 = 0 then zbd (eX12_ofLink x0 (nI 4) y4.2) fun r7 => if r7 = (nI 1) then jX12_cut_35 x0 x1 (nI 1) y4.2 else jX12_cut_35 x0 x1 (nI 0) y4.2 else some ((nI 0), y4.2)
set_option maxRecDepth 20000 in
set_option maxHeartbeats 4000000 in
theorem tX12_cut {μ : zM} {x0 x1 : Int32} {X : zX} {ρ : Int32 × zX} (h : eX12_cut x0 x1 X = some ρ) : LM mX12_cut 3 [zq 1 0, zi x0, zi x1] (zg μ 1 X) (some (zi ρ.1)) (zg μ 1 ρ.2) := by
  unfold eX12_cut at h
  refine LM.of (by decide +kernel) rfl (Nat.le_of_ble_eq_true rfl) ?_
  show zJ mX12_cut 3 (0, 0) (0, 0) _ 0 [some (zq 1 0), some (zi x0), some (zi x1), none] [] _
  obtain ⟨r2, l1, h⟩ := zbd_some h
  obtain ⟨y4, l3, h⟩ := zbd_some h
  refine z_aload dX12_cut_0 rfl (z_const dX12_cut_1 (z_putI dX12_cut_2 fkX12_3 in1_0 sh1_0 rfl (fun _ _ _ h => by cases h; rfl) ⟨_, rfl, rfl, rfl⟩ (z_aload dX12_cut_5 rfl (z_aload dX12_cut_6 rfl (z_iload dX12_cut_7 rfl (z_callV dX12_cut_8 (tX12_noLink l1) (Nat.le_of_ble_eq_true rfl) cdX12_noLink naX12_noLink lkX12_333 imX12_noLink seX12_noLink in1_0 sh1_0 rfl rfl rfl (Nat.le_of_ble_eq_true rfl) (z_const dX12_cut_11 (z_callV dX12_cut_12 (tX12_throwsIf l3) (Nat.le_of_ble_eq_true rfl) cdX12_throwsIf naX12_throwsIf lkX12_188 imX12_throwsIf seX12_throwsIf in1_0 sh1_0 rfl rfl rfl (Nat.le_of_ble_eq_true rfl) (z_if_eq dX12_cut_15 (fun c5 => ?_) (fun c5 => ?_))))))))))
  · have h := ziT h (c5)
    obtain ⟨r7, l6, h⟩ := zbd_some h
    refine z_aload dX12_cut_20 rfl (z_iload dX12_cut_21 rfl (z_const dX12_cut_22 (z_callV dX12_cut_23 (tX12_ofLink l6) (Nat.le_of_ble_eq_true rfl) cdX12_ofLink naX12_ofLink lkX12_139 imX12_ofLink seX12_ofLink in1_0 sh1_0 rfl rfl rfl (Nat.le_of_ble_eq_true rfl) (z_const dX12_cut_26 (z_icmp_ne dX12_cut_27 (fun c8 => ?_) (fun c8 => ?_))))))
    · have h := ziF h (c8)
      exact z_const dX12_cut_34 (z_mask [true, true, true, false] (sX12_cut_35 h))
    · have h := ziT h (c8)
      exact z_const dX12_cut_30 (z_goto dX12_cut_31 (z_mask [true, true, true, false] (sX12_cut_35 h)))
  · have h := ziF h (c5)
    exact z_const dX12_cut_18 (z_zretQ dX12_cut_19 rfl rfl (by cases h; rfl))
-- X12_cuts
def jX12_cuts_30 (F : Nat) (K4 : Int32 → Int32 → zX → Option (Int32)) (a2 b0 b1 : Int32) (X : zX) : Option (Int32) := K4 (b1 ||| b0) (a2 + (nI 1)) X
set_option maxRecDepth 20000 in
set_option maxHeartbeats 4000000 in
theorem sX12_cuts_30 {μ : zM} {F : Nat} {K4 : Int32 → Int32 → zX → Option (Int32)} (hK4 : ∀ {xa1 xa2 : Int32} {xX : zX} {ρ : Int32}, K4 xa1 xa2 xX = some ρ → zJ mX12_cuts 3 (0, 0) (0, 0) (zQ (some (zi ρ)) (zg μ 1 xX)) 4 [some (zq 1 0), some (zi xa1), some (zi xa2)] [] (zg μ 1 xX)) {a2 b0 b1 : Int32} {X : zX} {ρ : Int32} (h : jX12_cuts_30 F K4 a2 b0 b1 X = some ρ) : zJ mX12_cuts 3 (0, 0) (0, 0) (zQ (some (zi ρ)) (zg μ 1 X)) 30 [some (zq 1 0), none, some (zi a2)] [zi b0, zi b1] (zg μ 1 X) := by
  unfold jX12_cuts_30 at h
  exact z_ior dX12_cuts_30 (z_istore dX12_cuts_31 (Nat.le_of_ble_eq_true rfl) (z_iinc dX12_cuts_32 (Nat.le_of_ble_eq_true rfl) rfl (z_goto dX12_cuts_35 (z_mask [true, true, true] (hK4 h)))))
def hX12_cuts_4 (F : Nat) : Nat → Int32 → Int32 → zX → Option (Int32)
  | 0, _, _, _ => none
  | n + 1, a1, a2, X => if (X 1 1) ≤ a2 then some a1 else zbd (eX12_ofLink a2 (nI 4) X) fun r3 => if r3 = (nI 1) then jX12_cuts_30 F (hX12_cuts_4 F n) a2 ((nI 1) <<< (a2 &&& 31)) a1 X else jX12_cuts_30 F (hX12_cuts_4 F n) a2 (nI 0) a1 X
set_option maxRecDepth 20000 in
set_option maxHeartbeats 4000000 in
theorem sX12_cuts_4 {μ : zM} {F : Nat} : ∀ {n : Nat} {a1 a2 : Int32} {X : zX} {ρ : Int32}, hX12_cuts_4 F n a1 a2 X = some ρ → zJ mX12_cuts 3 (0, 0) (0, 0) (zQ (some (zi ρ)) (zg μ 1 X)) 4 [some (zq 1 0), some (zi a1), some (zi a2)] [] (zg μ 1 X) := by
  intro n
  induction n with
  | zero => intro a1 a2 X ρ h; exact nomatch (show (none : Option _) = some ρ from h)
  | succ n ih =>
    intro a1 a2 X ρ h
    have hK4 := @ih
    rw [hX12_cuts_4] at h
    refine z_iload dX12_cuts_4 rfl (z_aload dX12_cuts_5 rfl (z_callV dX12_cuts_6 (tX12_links) (Nat.le_of_ble_eq_true rfl) cdX12_links naX12_links lkX12_75 imX12_links seX12_links in1_0 sh1_0 rfl rfl rfl (Nat.le_of_ble_eq_true rfl) (z_icmp_ge dX12_cuts_9 (fun c1 => ?_) (fun c1 => ?_))))
    · have h := ziT h (c1)
      exact z_iload dX12_cuts_38 rfl (z_iretQ dX12_cuts_39 rfl (by cases h; rfl))
    · have h := ziF h (c1)
      obtain ⟨r3, l2, h⟩ := zbd_some h
      refine z_iload dX12_cuts_12 rfl (z_aload dX12_cuts_13 rfl (z_iload dX12_cuts_14 rfl (z_const dX12_cuts_15 (z_callV dX12_cuts_16 (tX12_ofLink l2) (Nat.le_of_ble_eq_true rfl) cdX12_ofLink naX12_ofLink lkX12_139 imX12_ofLink seX12_ofLink in1_0 sh1_0 rfl rfl rfl (Nat.le_of_ble_eq_true rfl) (z_const dX12_cuts_19 (z_icmp_ne dX12_cuts_20 (fun c4 => ?_) (fun c4 => ?_)))))))
      · have h := ziF h (c4)
        exact z_const dX12_cuts_29 (z_mask [true, false, true] (sX12_cuts_30 hK4 h))
      · have h := ziT h (c4)
        exact z_const dX12_cuts_23 (z_iload dX12_cuts_24 rfl (z_ishl dX12_cuts_25 (z_goto dX12_cuts_26 (z_mask [true, false, true] (sX12_cuts_30 hK4 h)))))
def eX12_cuts (F : Nat) (X : zX) : Option (Int32) := hX12_cuts_4 F F (nI 0) (nI 0) X
set_option maxRecDepth 20000 in
set_option maxHeartbeats 4000000 in
theorem tX12_cuts {μ : zM} {F : Nat} {X : zX} {ρ : Int32} (h : eX12_cuts F X = some ρ) : LM mX12_cuts 3 [zq 1 0] (zg μ 1 X) (some (zi ρ)) (zg μ 1 X) := by
  unfold eX12_cuts at h
  refine LM.of (by decide +kernel) rfl (Nat.le_of_ble_eq_true rfl) ?_
  show zJ mX12_cuts 3 (0, 0) (0, 0) _ 0 [some (zq 1 0), none, none] [] _
  exact z_const dX12_cuts_0 (z_istore dX12_cuts_1 (Nat.le_of_ble_eq_true rfl) (z_const dX12_cuts_2 (z_istore dX12_cuts_3 (Nat.le_of_ble_eq_true rfl) (z_mask [true, true, true] (sX12_cuts_4 h)))))
-- X12_estOf
def eX12_estOf (x0 x1 : Int32) (X : zX) : Option (Int32) := if x0 = x1 then some (nI 1) else zchk (zin (((nI 18) + ((nI 244) * x0)) + (((nI 10) + ((nI 3) * x1)) + (nI 0))) 2422) (some (X 1 (zn (((nI 18) + ((nI 244) * x0)) + (((nI 10) + ((nI 3) * x1)) + (nI 0))))))
set_option maxRecDepth 20000 in
set_option maxHeartbeats 4000000 in
theorem tX12_estOf {μ : zM} {x0 x1 : Int32} {X : zX} {ρ : Int32} (h : eX12_estOf x0 x1 X = some ρ) : LM mX12_estOf 3 [zq 1 0, zi x0, zi x1] (zg μ 1 X) (some (zi ρ)) (zg μ 1 X) := by
  unfold eX12_estOf at h
  refine LM.of (by decide +kernel) rfl (Nat.le_of_ble_eq_true rfl) ?_
  show zJ mX12_estOf 3 (0, 0) (0, 0) _ 0 [some (zq 1 0), some (zi x0), some (zi x1)] [] _
  refine z_iload dX12_estOf_0 rfl (z_iload dX12_estOf_1 rfl (z_icmp_ne dX12_estOf_2 (fun c1 => ?_) (fun c1 => ?_)))
  · have h := ziF h (c1)
    obtain ⟨s2, h⟩ := zchk_some h
    exact z_aload dX12_estOf_9 rfl (z_getR dX12_estOf_10 fkX12_13 in1_0 sh1_0 rfl (z_iload dX12_estOf_13 rfl (z_iload dX12_estOf_14 rfl (z_const dX12_estOf_15 (z_callS dX12_estOf_16 (tX12_otherAt) (Nat.le_of_ble_eq_true rfl) cdX12_otherAt naX12_otherAt lkX12_136 stX12_otherAt rfl rfl (Nat.le_of_ble_eq_true rfl) (z_iald dX12_estOf_19 in1_1 sh1_1 (zin_vp s2) (z_iretQ dX12_estOf_20 rfl (by cases h; rfl))))))))
  · have h := ziT h (c1)
    exact z_const dX12_estOf_5 (z_goto dX12_estOf_6 (z_iretQ dX12_estOf_20 rfl (by cases h; rfl)))
-- X12_greatestWay
def hX12_greatestWay_4 (F : Nat) : Nat → Int32 → Int32 → Int32 → zX → Option (Int32)
  | 0, _, _, _, _ => none
  | n + 1, a1, a2, a3, X => if (X 1 0) ≤ a3 then some a2 else zbd (eX12_isWay a1 a3 X) fun r3 => if r3 = 0 then (hX12_greatestWay_4 F n) a1 a2 (a3 + (nI 1)) X else zchk (zin (((nI 6) * a1) + a3) 36) ((hX12_greatestWay_4 F n) a1 (zmx a2 (X 7 (zn (((nI 6) * a1) + a3)))) (a3 + (nI 1)) X)
set_option maxRecDepth 20000 in
set_option maxHeartbeats 4000000 in
theorem sX12_greatestWay_4 {μ : zM} {F : Nat} : ∀ {n : Nat} {a1 a2 a3 : Int32} {X : zX} {ρ : Int32}, hX12_greatestWay_4 F n a1 a2 a3 X = some ρ → zJ mX12_greatestWay 3 (0, 0) (0, 0) (zQ (some (zi ρ)) (zg μ 1 X)) 4 [some (zq 1 0), some (zi a1), some (zi a2), some (zi a3)] [] (zg μ 1 X) := by
  intro n
  induction n with
  | zero => intro a1 a2 a3 X ρ h; exact nomatch (show (none : Option _) = some ρ from h)
  | succ n ih =>
    intro a1 a2 a3 X ρ h
    have hK4 := @ih
    rw [hX12_greatestWay_4] at h
    refine z_iload dX12_greatestWay_4 rfl (z_aload dX12_greatestWay_5 rfl (z_callV dX12_greatestWay_6 (tX12_nodes) (Nat.le_of_ble_eq_true rfl) cdX12_nodes naX12_nodes lkX12_67 imX12_nodes seX12_nodes in1_0 sh1_0 rfl rfl rfl (Nat.le_of_ble_eq_true rfl) (z_icmp_ge dX12_greatestWay_9 (fun c1 => ?_) (fun c1 => ?_))))
    · have h := ziT h (c1)
      exact z_iload dX12_greatestWay_46 rfl (z_iretQ dX12_greatestWay_47 rfl (by cases h; rfl))
    · have h := ziF h (c1)
      obtain ⟨r3, l2, h⟩ := zbd_some h
      refine z_aload dX12_greatestWay_12 rfl (z_iload dX12_greatestWay_13 rfl (z_iload dX12_greatestWay_14 rfl (z_callV dX12_greatestWay_15 (tX12_isWay l2) (Nat.le_of_ble_eq_true rfl) cdX12_isWay naX12_isWay lkX12_204 imX12_isWay seX12_isWay in1_0 sh1_0 rfl rfl rfl (Nat.le_of_ble_eq_true rfl) (z_if_eq dX12_greatestWay_18 (fun c4 => ?_) (fun c4 => ?_)))))
      · have h := ziT h (c4)
        exact z_iload dX12_greatestWay_38 rfl (z_istore dX12_greatestWay_39 (Nat.le_of_ble_eq_true rfl) (z_iinc dX12_greatestWay_40 (Nat.le_of_ble_eq_true rfl) rfl (z_goto dX12_greatestWay_43 (z_mask [true, true, true, true] (hK4 h)))))
      · have h := ziF h (c4)
        obtain ⟨s5, h⟩ := zchk_some h
        refine z_iload dX12_greatestWay_21 rfl (z_aload dX12_greatestWay_22 rfl (z_getR dX12_greatestWay_23 fkX12_36 in1_0 sh1_0 rfl (z_iload dX12_greatestWay_26 rfl (z_iload dX12_greatestWay_27 rfl (z_callS dX12_greatestWay_28 (tX12_at) (Nat.le_of_ble_eq_true rfl) cdX12_at naX12_at lkX12_193 stX12_at rfl rfl (Nat.le_of_ble_eq_true rfl) (z_iald dX12_greatestWay_31 in1_7 sh1_7 (zin_vp s5) (z_max dX12_greatestWay_32 lkX12_253 (Nat.le_of_ble_eq_true rfl) (Nat.le_of_ble_eq_true rfl) (z_goto dX12_greatestWay_35 (z_istore dX12_greatestWay_39 (Nat.le_of_ble_eq_true rfl) (z_iinc dX12_greatestWay_40 (Nat.le_of_ble_eq_true rfl) rfl (z_goto dX12_greatestWay_43 ?_)))))))))))
        exact z_mask [true, true, true, true] (hK4 h)
def eX12_greatestWay (F : Nat) (x0 : Int32) (X : zX) : Option (Int32) := hX12_greatestWay_4 F F x0 (nI 0) (nI 0) X
set_option maxRecDepth 20000 in
set_option maxHeartbeats 4000000 in
theorem tX12_greatestWay {μ : zM} {F : Nat} {x0 : Int32} {X : zX} {ρ : Int32} (h : eX12_greatestWay F x0 X = some ρ) : LM mX12_greatestWay 3 [zq 1 0, zi x0] (zg μ 1 X) (some (zi ρ)) (zg μ 1 X) := by
  unfold eX12_greatestWay at h
  refine LM.of (by decide +kernel) rfl (Nat.le_of_ble_eq_true rfl) ?_
  show zJ mX12_greatestWay 3 (0, 0) (0, 0) _ 0 [some (zq 1 0), some (zi x0), none, none] [] _
  exact z_const dX12_greatestWay_0 (z_istore dX12_greatestWay_1 (Nat.le_of_ble_eq_true rfl) (z_const dX12_greatestWay_2 (z_istore dX12_greatestWay_3 (Nat.le_of_ble_eq_true rfl) (z_mask [true, true, true, true] (sX12_greatestWay_4 h)))))
-- X12_hasGap
def eX12_hasGap (x0 x1 x2 : Int32) (X : zX) : Option (zX) := zchk (zin (((nI 18) + ((nI 244) * x0)) + (((nI 28) + ((nI 18) * x1)) + (nI 11))) 2422) (zlet (zw X 1 (zn (((nI 18) + ((nI 244) * x0)) + (((nI 28) + ((nI 18) * x1)) + (nI 11)))) (nI 1)) fun X2 => zchk (zin (((nI 18) + ((nI 244) * x0)) + (((nI 28) + ((nI 18) * x1)) + (nI 12))) 2422) (zlet (zw X2 1 (zn (((nI 18) + ((nI 244) * x0)) + (((nI 28) + ((nI 18) * x1)) + (nI 12)))) x2) fun X4 => some X4))
set_option maxRecDepth 20000 in
set_option maxHeartbeats 4000000 in
theorem tX12_hasGap {μ : zM} {x0 x1 x2 : Int32} {X : zX} {ρ : zX} (h : eX12_hasGap x0 x1 x2 X = some ρ) : LM mX12_hasGap 3 [zq 1 0, zi x0, zi x1, zi x2] (zg μ 1 X) none (zg μ 1 ρ) := by
  unfold eX12_hasGap at h
  refine LM.of (by decide +kernel) rfl (Nat.le_of_ble_eq_true rfl) ?_
  show zJ mX12_hasGap 3 (0, 0) (0, 0) _ 0 [some (zq 1 0), some (zi x0), some (zi x1), some (zi x2)] [] _
  obtain ⟨s1, h⟩ := zchk_some h
  have h := zlet_h h
  refine z_aload dX12_hasGap_0 rfl (z_getR dX12_hasGap_1 fkX12_13 in1_0 sh1_0 rfl (z_iload dX12_hasGap_4 rfl (z_iload dX12_hasGap_5 rfl (z_const dX12_hasGap_6 (z_callS dX12_hasGap_8 (tX12_packetAt) (Nat.le_of_ble_eq_true rfl) cdX12_packetAt naX12_packetAt lkX12_60 stX12_packetAt rfl rfl (Nat.le_of_ble_eq_true rfl) (z_const dX12_hasGap_11 (z_iast dX12_hasGap_12 in1_1 sh1_1 (zin_vp s1) (z_aload dX12_hasGap_13 rfl (z_getR dX12_hasGap_14 fkX12_13 in1_0 sh1_0 rfl (z_iload dX12_hasGap_17 rfl (z_iload dX12_hasGap_18 rfl ?_)))))))))))
  obtain ⟨s3, h⟩ := zchk_some h
  have h := zlet_h h
  exact z_const dX12_hasGap_19 (z_callS dX12_hasGap_21 (tX12_packetAt) (Nat.le_of_ble_eq_true rfl) cdX12_packetAt naX12_packetAt lkX12_60 stX12_packetAt rfl rfl (Nat.le_of_ble_eq_true rfl) (z_iload dX12_hasGap_24 rfl (z_iast dX12_hasGap_25 in1_1 sh1_1 (zin_vp s3) (z_vretQ dX12_hasGap_26 rfl (by cases h; rfl)))))
-- X12_hasIt
def eX12_hasIt (x0 x1 : Int32) (X : zX) : Option (Int32) := zbd (eX12_of x0 (nI 1) X) fun r2 => some (zB (((r2 >>> (x1 &&& 31)) &&& (nI 1)) = (nI 1)))
set_option maxRecDepth 20000 in
set_option maxHeartbeats 4000000 in
theorem tX12_hasIt {μ : zM} {x0 x1 : Int32} {X : zX} {ρ : Int32} (h : eX12_hasIt x0 x1 X = some ρ) : LM mX12_hasIt 3 [zq 1 0, zi x0, zi x1] (zg μ 1 X) (some (zi ρ)) (zg μ 1 X) := by
  unfold eX12_hasIt at h
  refine LM.of (by decide +kernel) rfl (Nat.le_of_ble_eq_true rfl) ?_
  show zJ mX12_hasIt 3 (0, 0) (0, 0) _ 0 [some (zq 1 0), some (zi x0), some (zi x1)] [] _
  obtain ⟨r2, l1, h⟩ := zbd_some h
  exact z_aload dX12_hasIt_0 rfl (z_iload dX12_hasIt_1 rfl (z_const dX12_hasIt_2 (z_callV dX12_hasIt_3 (tX12_of l1) (Nat.le_of_ble_eq_true rfl) cdX12_of naX12_of lkX12_78 imX12_of seX12_of in1_0 sh1_0 rfl rfl rfl (Nat.le_of_ble_eq_true rfl) (z_iload dX12_hasIt_6 rfl (z_callS dX12_hasIt_7 (tX12_has) (Nat.le_of_ble_eq_true rfl) cdX12_has naX12_has lkX12_81 stX12_has rfl rfl (Nat.le_of_ble_eq_true rfl) (z_zretQ dX12_hasIt_10 rfl zB_nar (by cases h; rfl)))))))
-- X12_hasItFrom
def eX12_hasItFrom (x0 x1 x2 x3 : Int32) (X : zX) : Option (zX) := zchk (zin (((nI 18) + ((nI 244) * x0)) + (((nI 28) + ((nI 18) * x1)) + (nI 9))) 2422) (zlet (zw X 1 (zn (((nI 18) + ((nI 244) * x0)) + (((nI 28) + ((nI 18) * x1)) + (nI 9)))) x2) fun X2 => zchk (zin (((nI 18) + ((nI 244) * x0)) + (((nI 28) + ((nI 18) * x1)) + (nI 10))) 2422) (zlet (zw X2 1 (zn (((nI 18) + ((nI 244) * x0)) + (((nI 28) + ((nI 18) * x1)) + (nI 10)))) x3) fun X4 => some X4))
set_option maxRecDepth 20000 in
set_option maxHeartbeats 4000000 in
theorem tX12_hasItFrom {μ : zM} {x0 x1 x2 x3 : Int32} {X : zX} {ρ : zX} (h : eX12_hasItFrom x0 x1 x2 x3 X = some ρ) : LM mX12_hasItFrom 3 [zq 1 0, zi x0, zi x1, zi x2, zi x3] (zg μ 1 X) none (zg μ 1 ρ) := by
  unfold eX12_hasItFrom at h
  refine LM.of (by decide +kernel) rfl (Nat.le_of_ble_eq_true rfl) ?_
  show zJ mX12_hasItFrom 3 (0, 0) (0, 0) _ 0 [some (zq 1 0), some (zi x0), some (zi x1), some (zi x2), some (zi x3)] [] _
  obtain ⟨s1, h⟩ := zchk_some h
  have h := zlet_h h
  refine z_aload dX12_hasItFrom_0 rfl (z_getR dX12_hasItFrom_1 fkX12_13 in1_0 sh1_0 rfl (z_iload dX12_hasItFrom_4 rfl (z_iload dX12_hasItFrom_5 rfl (z_const dX12_hasItFrom_6 (z_callS dX12_hasItFrom_8 (tX12_packetAt) (Nat.le_of_ble_eq_true rfl) cdX12_packetAt naX12_packetAt lkX12_60 stX12_packetAt rfl rfl (Nat.le_of_ble_eq_true rfl) (z_iload dX12_hasItFrom_11 rfl (z_iast dX12_hasItFrom_12 in1_1 sh1_1 (zin_vp s1) (z_aload dX12_hasItFrom_13 rfl (z_getR dX12_hasItFrom_14 fkX12_13 in1_0 sh1_0 rfl (z_iload dX12_hasItFrom_17 rfl (z_iload dX12_hasItFrom_18 rfl ?_)))))))))))
  obtain ⟨s3, h⟩ := zchk_some h
  have h := zlet_h h
  exact z_const dX12_hasItFrom_19 (z_callS dX12_hasItFrom_21 (tX12_packetAt) (Nat.le_of_ble_eq_true rfl) cdX12_packetAt naX12_packetAt lkX12_60 stX12_packetAt rfl rfl (Nat.le_of_ble_eq_true rfl) (z_iload dX12_hasItFrom_24 rfl (z_iast dX12_hasItFrom_26 in1_1 sh1_1 (zin_vp s3) (z_vretQ dX12_hasItFrom_27 rfl (by cases h; rfl)))))
-- X12_hearsReport
def eX12_hearsReport (x0 x1 : Int32) (X : zX) : Option (zX) := zchk (zin (((nI 1542) + ((nI 10) * x1)) + (nI 2)) 2422) (zlet (X 1 (zn (((nI 1542) + ((nI 10) * x1)) + (nI 2)))) fun v2 => zchk (zin (((nI 1542) + ((nI 10) * x1)) + (nI 7)) 2422) (zchk (zin (((nI 18) + ((nI 244) * x0)) + (((nI 10) + ((nI 3) * v2)) + (nI 1))) 2422) (zlet (zw X 1 (zn (((nI 18) + ((nI 244) * x0)) + (((nI 10) + ((nI 3) * v2)) + (nI 1)))) (X 1 (zn (((nI 1542) + ((nI 10) * x1)) + (nI 7))))) fun X5 => zchk (zin (((nI 18) + ((nI 244) * x0)) + (((nI 10) + ((nI 3) * v2)) + (nI 2))) 2422) (zlet (zw X5 1 (zn (((nI 18) + ((nI 244) * x0)) + (((nI 10) + ((nI 3) * v2)) + (nI 2)))) (X5 1 14)) fun X7 => zchk (zin (((nI 1542) + ((nI 10) * x1)) + (nI 8)) 2422) (zlet (X7 1 (zn (((nI 1542) + ((nI 10) * x1)) + (nI 8)))) fun v9 => if v9 = (-1) then some X7 else zchk (zin (((nI 1542) + ((nI 10) * x1)) + (nI 9)) 2422) (zbd (eX12_half (((X7 1 14) - v9) - (X7 1 (zn (((nI 1542) + ((nI 10) * x1)) + (nI 9))))) (nI 2)) fun r13 => zchk (zin (((nI 18) + ((nI 244) * x0)) + (((nI 10) + ((nI 3) * v2)) + (nI 0))) 2422) (zlet (zw X7 1 (zn (((nI 18) + ((nI 244) * x0)) + (((nI 10) + ((nI 3) * v2)) + (nI 0)))) (zmx (nI 1) r13)) fun X15 => some X15)))))))
set_option maxRecDepth 20000 in
set_option maxHeartbeats 4000000 in
theorem tX12_hearsReport {μ : zM} {x0 x1 : Int32} {X : zX} {ρ : zX} (h : eX12_hearsReport x0 x1 X = some ρ) : LM mX12_hearsReport 3 [zq 1 0, zi x0, zi x1] (zg μ 1 X) none (zg μ 1 ρ) := by
  unfold eX12_hearsReport at h
  refine LM.of (by decide +kernel) rfl (Nat.le_of_ble_eq_true rfl) ?_
  show zJ mX12_hearsReport 3 (0, 0) (0, 0) _ 0 [some (zq 1 0), some (zi x0), some (zi x1), none, none] [] _
  obtain ⟨s1, h⟩ := zchk_some h
  have h := zlet_h h
  refine z_aload dX12_hearsReport_0 rfl (z_getR dX12_hearsReport_1 fkX12_13 in1_0 sh1_0 rfl (z_iload dX12_hearsReport_4 rfl (z_const dX12_hearsReport_5 (z_callS dX12_hearsReport_6 (tX12_messageAt) (Nat.le_of_ble_eq_true rfl) cdX12_messageAt naX12_messageAt lkX12_227 stX12_messageAt rfl rfl (Nat.le_of_ble_eq_true rfl) (z_iald dX12_hearsReport_9 in1_1 sh1_1 (zin_vp s1) (z_istore dX12_hearsReport_10 (Nat.le_of_ble_eq_true rfl) (z_aload dX12_hearsReport_11 rfl (z_getR dX12_hearsReport_12 fkX12_13 in1_0 sh1_0 rfl (z_iload dX12_hearsReport_15 rfl (z_iload dX12_hearsReport_16 rfl (z_const dX12_hearsReport_17 ?_)))))))))))
  obtain ⟨s3, h⟩ := zchk_some h
  obtain ⟨s4, h⟩ := zchk_some h
  have h := zlet_h h
  refine z_callS dX12_hearsReport_18 (tX12_otherAt) (Nat.le_of_ble_eq_true rfl) cdX12_otherAt naX12_otherAt lkX12_136 stX12_otherAt rfl rfl (Nat.le_of_ble_eq_true rfl) (z_aload dX12_hearsReport_21 rfl (z_getR dX12_hearsReport_22 fkX12_13 in1_0 sh1_0 rfl (z_iload dX12_hearsReport_25 rfl (z_const dX12_hearsReport_26 (z_callS dX12_hearsReport_28 (tX12_messageAt) (Nat.le_of_ble_eq_true rfl) cdX12_messageAt naX12_messageAt lkX12_227 stX12_messageAt rfl rfl (Nat.le_of_ble_eq_true rfl) (z_iald dX12_hearsReport_31 in1_1 sh1_1 (zin_vp s3) (z_iast dX12_hearsReport_32 in1_1 sh1_1 (zin_vp s4) (z_aload dX12_hearsReport_33 rfl (z_getR dX12_hearsReport_34 fkX12_13 in1_0 sh1_0 rfl (z_iload dX12_hearsReport_37 rfl (z_iload dX12_hearsReport_38 rfl ?_)))))))))))
  obtain ⟨s6, h⟩ := zchk_some h
  have h := zlet_h h
  refine z_const dX12_hearsReport_39 (z_callS dX12_hearsReport_40 (tX12_otherAt) (Nat.le_of_ble_eq_true rfl) cdX12_otherAt naX12_otherAt lkX12_136 stX12_otherAt rfl rfl (Nat.le_of_ble_eq_true rfl) (z_aload dX12_hearsReport_43 rfl (z_getR dX12_hearsReport_44 fkX12_13 in1_0 sh1_0 rfl (z_const dX12_hearsReport_47 (z_ialdN dX12_hearsReport_49 in1_1 sh1_1 (Nat.le_of_ble_eq_true rfl) (Nat.le_of_ble_eq_true rfl) (z_iast dX12_hearsReport_50 in1_1 sh1_1 (zin_vp s6) (z_aload dX12_hearsReport_51 rfl (z_getR dX12_hearsReport_52 fkX12_13 in1_0 sh1_0 rfl (z_iload dX12_hearsReport_55 rfl (z_const dX12_hearsReport_56 (z_callS dX12_hearsReport_58 (tX12_messageAt) (Nat.le_of_ble_eq_true rfl) cdX12_messageAt naX12_messageAt lkX12_227 stX12_messageAt rfl rfl (Nat.le_of_ble_eq_true rfl) ?_)))))))))))
  obtain ⟨s8, h⟩ := zchk_some h
  have h := zlet_h h
  refine z_iald dX12_hearsReport_61 in1_1 sh1_1 (zin_vp s8) (z_istore dX12_hearsReport_62 (Nat.le_of_ble_eq_true rfl) (z_iload dX12_hearsReport_64 rfl (z_const dX12_hearsReport_66 (z_icmp_eq dX12_hearsReport_67 (fun c10 => ?_) (fun c10 => ?_)))))
  · have h := ziT h (c10)
    exact z_vretQ dX12_hearsReport_111 rfl (by cases h; rfl)
  · have h := ziF h (c10)
    refine z_aload dX12_hearsReport_70 rfl (z_getR dX12_hearsReport_71 fkX12_13 in1_0 sh1_0 rfl (z_iload dX12_hearsReport_74 rfl (z_iload dX12_hearsReport_75 rfl (z_const dX12_hearsReport_76 (z_callS dX12_hearsReport_77 (tX12_otherAt) (Nat.le_of_ble_eq_true rfl) cdX12_otherAt naX12_otherAt lkX12_136 stX12_otherAt rfl rfl (Nat.le_of_ble_eq_true rfl) (z_const dX12_hearsReport_80 (z_aload dX12_hearsReport_81 rfl (z_getR dX12_hearsReport_82 fkX12_13 in1_0 sh1_0 rfl (z_const dX12_hearsReport_85 (z_ialdN dX12_hearsReport_87 in1_1 sh1_1 (Nat.le_of_ble_eq_true rfl) (Nat.le_of_ble_eq_true rfl) (z_iload dX12_hearsReport_88 rfl ?_)))))))))))
    obtain ⟨s11, h⟩ := zchk_some h
    obtain ⟨r13, l12, h⟩ := zbd_some h
    obtain ⟨s14, h⟩ := zchk_some h
    have h := zlet_h h
    refine z_isub dX12_hearsReport_90 (z_aload dX12_hearsReport_91 rfl (z_getR dX12_hearsReport_92 fkX12_13 in1_0 sh1_0 rfl (z_iload dX12_hearsReport_95 rfl (z_const dX12_hearsReport_96 (z_callS dX12_hearsReport_98 (tX12_messageAt) (Nat.le_of_ble_eq_true rfl) cdX12_messageAt naX12_messageAt lkX12_227 stX12_messageAt rfl rfl (Nat.le_of_ble_eq_true rfl) (z_iald dX12_hearsReport_101 in1_1 sh1_1 (zin_vp s11) (z_isub dX12_hearsReport_102 (z_const dX12_hearsReport_103 (z_callS dX12_hearsReport_104 (tX12_half l12) (Nat.le_of_ble_eq_true rfl) cdX12_half naX12_half lkX12_269 stX12_half rfl rfl (Nat.le_of_ble_eq_true rfl) (z_max dX12_hearsReport_107 lkX12_253 (Nat.le_of_ble_eq_true rfl) (Nat.le_of_ble_eq_true rfl) (z_iast dX12_hearsReport_110 in1_1 sh1_1 (zin_vp s14) ?_)))))))))))
    exact z_vretQ dX12_hearsReport_111 rfl (by cases h; rfl)
-- X12_isLost
def eX12_isLost (x0 : Int32) (X : zX) : Option (Int32 × zX) := if (X 0 16) = 0 then zbd (eX12_ofLink x0 (nI 5) X) fun r3 => zchk (zin (((nI 1482) + ((nI 6) * x0)) + (nI 5)) 2422) (zlet (zw X 1 (zn (((nI 1482) + ((nI 6) * x0)) + (nI 5))) (zmn (nI 9999) (r3 + (nI 1)))) fun X5 => zbd (eX12_drawn (nI 100) X5) fun y7 => zbd (eX12_ofLink x0 (nI 3) y7.2) fun r9 => if r9 ≤ y7.1 then some ((nI 0), y7.2) else some ((nI 1), y7.2)) else some ((nI 0), X)
set_option maxRecDepth 20000 in
set_option maxHeartbeats 4000000 in
theorem tX12_isLost {μ : zM} {x0 : Int32} {X : zX} {ρ : Int32 × zX} (h : eX12_isLost x0 X = some ρ) : LM mX12_isLost 3 [zq 1 0, zi x0] (zg μ 1 X) (some (zi ρ.1)) (zg μ 1 ρ.2) := by
  unfold eX12_isLost at h
  refine LM.of (by decide +kernel) rfl (Nat.le_of_ble_eq_true rfl) ?_
  show zJ mX12_isLost 3 (0, 0) (0, 0) _ 0 [some (zq 1 0), some (zi x0)] [] _
  refine z_aload dX12_isLost_0 rfl (z_getI dX12_isLost_1 fkX12_220 in1_0 sh1_0 rfl (z_if_eq dX12_isLost_4 (fun c1 => ?_) (fun c1 => ?_)))
  · have h := ziT h (c1)
    obtain ⟨r3, l2, h⟩ := zbd_some h
    refine z_aload dX12_isLost_9 rfl (z_getR dX12_isLost_10 fkX12_13 in1_0 sh1_0 rfl (z_iload dX12_isLost_13 rfl (z_const dX12_isLost_14 (z_callS dX12_isLost_15 (tX12_linkAt) (Nat.le_of_ble_eq_true rfl) cdX12_linkAt naX12_linkAt lkX12_64 stX12_linkAt rfl rfl (Nat.le_of_ble_eq_true rfl) (z_const dX12_isLost_18 (z_aload dX12_isLost_21 rfl (z_iload dX12_isLost_22 rfl (z_const dX12_isLost_23 (z_callV dX12_isLost_24 (tX12_ofLink l2) (Nat.le_of_ble_eq_true rfl) cdX12_ofLink naX12_ofLink lkX12_139 imX12_ofLink seX12_ofLink in1_0 sh1_0 rfl rfl rfl (Nat.le_of_ble_eq_true rfl) (z_const dX12_isLost_27 (z_iadd dX12_isLost_28 ?_)))))))))))
    obtain ⟨s4, h⟩ := zchk_some h
    have h := zlet_h h
    obtain ⟨y7, l6, h⟩ := zbd_some h
    obtain ⟨r9, l8, h⟩ := zbd_some h
    refine z_min dX12_isLost_29 lkX12_199 (Nat.le_of_ble_eq_true rfl) (Nat.le_of_ble_eq_true rfl) (z_iast dX12_isLost_32 in1_1 sh1_1 (zin_vp s4) (z_aload dX12_isLost_33 rfl (z_const dX12_isLost_34 (z_callV dX12_isLost_36 (tX12_drawn l6) (Nat.le_of_ble_eq_true rfl) cdX12_drawn naX12_drawn lkX12_223 imX12_drawn seX12_drawn in1_0 sh1_0 rfl rfl rfl (Nat.le_of_ble_eq_true rfl) (z_aload dX12_isLost_39 rfl (z_iload dX12_isLost_40 rfl (z_const dX12_isLost_41 (z_callV dX12_isLost_42 (tX12_ofLink l8) (Nat.le_of_ble_eq_true rfl) cdX12_ofLink naX12_ofLink lkX12_139 imX12_ofLink seX12_ofLink in1_0 sh1_0 rfl rfl rfl (Nat.le_of_ble_eq_true rfl) (z_icmp_ge dX12_isLost_45 (fun c10 => ?_) (fun c10 => ?_))))))))))
    · have h := ziT h (c10)
      exact z_const dX12_isLost_52 (z_zretQ dX12_isLost_53 rfl rfl (by cases h; rfl))
    · have h := ziF h (c10)
      exact z_const dX12_isLost_48 (z_goto dX12_isLost_49 (z_zretQ dX12_isLost_53 rfl rfl (by cases h; rfl)))
  · have h := ziF h (c1)
    exact z_const dX12_isLost_7 (z_zretQ dX12_isLost_8 rfl rfl (by cases h; rfl))
-- X12_isOnWay
def jX12_isOnWay_214 (a6 b0 b1 : Int32) (X : zX) : Option (zX) := zchk (zin b1 2422) (some (zw (zw X 1 (zn b1) b0) 1 12 (a6 + (nI 1))))
set_option maxRecDepth 20000 in
set_option maxHeartbeats 4000000 in
theorem sX12_isOnWay_214 {μ : zM} {a6 b0 b1 : Int32} {X : zX} {ρ : zX} (h : jX12_isOnWay_214 a6 b0 b1 X = some ρ) : zJ mX12_isOnWay 3 (0, 0) (0, 0) (zQ none (zg μ 1 ρ)) 214 [some (zq 1 0), none, none, none, none, none, some (zi a6), none] [zi b0, zi b1, zq 1 1] (zg μ 1 X) := by
  unfold jX12_isOnWay_214 at h
  obtain ⟨s1, h⟩ := zchk_some h
  exact z_iast dX12_isOnWay_214 in1_1 sh1_1 (zin_vp s1) (z_aload dX12_isOnWay_215 rfl (z_getR dX12_isOnWay_216 fkX12_13 in1_0 sh1_0 rfl (z_const dX12_isOnWay_219 (z_iload dX12_isOnWay_221 rfl (z_const dX12_isOnWay_223 (z_iadd dX12_isOnWay_224 (z_iastN dX12_isOnWay_225 in1_1 sh1_1 (Nat.le_of_ble_eq_true rfl) (Nat.le_of_ble_eq_true rfl) (z_vretQ dX12_isOnWay_226 rfl (by cases h; rfl)))))))))
def jX12_isOnWay_182 (a6 a7 b0 b1 : Int32) (X : zX) : Option (zX) := zchk (zin b1 2422) (if a7 = (-1) then jX12_isOnWay_214 a6 (nI 0) (((nI 1542) + ((nI 10) * a6)) + (nI 9)) (zw X 1 (zn b1) b0) else jX12_isOnWay_214 a6 (((zw X 1 (zn b1) b0) 1 14) - a7) (((nI 1542) + ((nI 10) * a6)) + (nI 9)) (zw X 1 (zn b1) b0))
set_option maxRecDepth 20000 in
set_option maxHeartbeats 4000000 in
theorem sX12_isOnWay_182 {μ : zM} {a6 a7 b0 b1 : Int32} {X : zX} {ρ : zX} (h : jX12_isOnWay_182 a6 a7 b0 b1 X = some ρ) : zJ mX12_isOnWay 3 (0, 0) (0, 0) (zQ none (zg μ 1 ρ)) 182 [some (zq 1 0), none, none, none, none, none, some (zi a6), some (zi a7)] [zi b0, zi b1, zq 1 1] (zg μ 1 X) := by
  unfold jX12_isOnWay_182 at h
  obtain ⟨s1, h⟩ := zchk_some h
  refine z_iast dX12_isOnWay_182 in1_1 sh1_1 (zin_vp s1) (z_aload dX12_isOnWay_183 rfl (z_getR dX12_isOnWay_184 fkX12_13 in1_0 sh1_0 rfl (z_iload dX12_isOnWay_187 rfl (z_const dX12_isOnWay_189 (z_callS dX12_isOnWay_191 (tX12_messageAt) (Nat.le_of_ble_eq_true rfl) cdX12_messageAt naX12_messageAt lkX12_227 stX12_messageAt rfl rfl (Nat.le_of_ble_eq_true rfl) (z_iload dX12_isOnWay_194 rfl (z_const dX12_isOnWay_196 (z_icmp_ne dX12_isOnWay_197 (fun c2 => ?_) (fun c2 => ?_)))))))))
  · have h := ziF h (c2)
    exact z_aload dX12_isOnWay_204 rfl (z_getR dX12_isOnWay_205 fkX12_13 in1_0 sh1_0 rfl (z_const dX12_isOnWay_208 (z_ialdN dX12_isOnWay_210 in1_1 sh1_1 (Nat.le_of_ble_eq_true rfl) (Nat.le_of_ble_eq_true rfl) (z_iload dX12_isOnWay_211 rfl (z_isub dX12_isOnWay_213 (z_mask [true, false, false, false, false, false, true, false] (sX12_isOnWay_214 h)))))))
  · have h := ziT h (c2)
    exact z_const dX12_isOnWay_200 (z_goto dX12_isOnWay_201 (z_mask [true, false, false, false, false, false, true, false] (sX12_isOnWay_214 h)))
def eX12_isOnWay (x0 x1 x2 x3 x4 : Int32) (X : zX) : Option (zX) := zchk (zin (((nI 6) * x0) + x1) 36) (zchk (zin (((nI 1542) + ((nI 10) * (X 1 12))) + (nI 0)) 2422) (zlet (zw X 1 (zn (((nI 1542) + ((nI 10) * (X 1 12))) + (nI 0))) ((X 1 14) + (X 7 (zn (((nI 6) * x0) + x1))))) fun X3 => zchk (zin (((nI 1542) + ((nI 10) * (X 1 12))) + (nI 1)) 2422) (zlet (zw X3 1 (zn (((nI 1542) + ((nI 10) * (X 1 12))) + (nI 1))) x1) fun X5 => zchk (zin (((nI 1542) + ((nI 10) * (X 1 12))) + (nI 2)) 2422) (zlet (zw X5 1 (zn (((nI 1542) + ((nI 10) * (X 1 12))) + (nI 2))) x0) fun X7 => zchk (zin (((nI 1542) + ((nI 10) * (X 1 12))) + (nI 3)) 2422) (zlet (zw X7 1 (zn (((nI 1542) + ((nI 10) * (X 1 12))) + (nI 3))) x2) fun X9 => zchk (zin (((nI 1542) + ((nI 10) * (X 1 12))) + (nI 4)) 2422) (zlet (zw X9 1 (zn (((nI 1542) + ((nI 10) * (X 1 12))) + (nI 4))) x3) fun X11 => zbd (eX12_of x0 (nI 2) X11) fun r13 => zchk (zin (((nI 1542) + ((nI 10) * (X 1 12))) + (nI 5)) 2422) (zlet (zw X11 1 (zn (((nI 1542) + ((nI 10) * (X 1 12))) + (nI 5))) r13) fun X15 => zchk (zin (((nI 1542) + ((nI 10) * (X 1 12))) + (nI 6)) 2422) (zlet (zw X15 1 (zn (((nI 1542) + ((nI 10) * (X 1 12))) + (nI 6))) x4) fun X17 => zchk (zin (((nI 1542) + ((nI 10) * (X 1 12))) + (nI 7)) 2422) (zlet (zw X17 1 (zn (((nI 1542) + ((nI 10) * (X 1 12))) + (nI 7))) (X17 1 14)) fun X19 => zchk (zin (((nI 18) + ((nI 244) * x0)) + (((nI 10) + ((nI 3) * x1)) + (nI 2))) 2422) (zlet (X19 1 (zn (((nI 18) + ((nI 244) * x0)) + (((nI 10) + ((nI 3) * x1)) + (nI 2))))) fun v21 => if v21 = (-1) then jX12_isOnWay_182 (X 1 12) v21 (-1) (((nI 1542) + ((nI 10) * (X 1 12))) + (nI 8)) X19 else zchk (zin (((nI 18) + ((nI 244) * x0)) + (((nI 10) + ((nI 3) * x1)) + (nI 1))) 2422) (jX12_isOnWay_182 (X 1 12) v21 (X19 1 (zn (((nI 18) + ((nI 244) * x0)) + (((nI 10) + ((nI 3) * x1)) + (nI 1))))) (((nI 1542) + ((nI 10) * (X 1 12))) + (nI 8)) X19)))))))))))
set_option maxRecDepth 20000 in
set_option maxHeartbeats 4000000 in
theorem tX12_isOnWay {μ : zM} {x0 x1 x2 x3 x4 : Int32} {X : zX} {ρ : zX} (h : eX12_isOnWay x0 x1 x2 x3 x4 X = some ρ) : LM mX12_isOnWay 3 [zq 1 0, zi x0, zi x1, zi x2, zi x3, zi x4] (zg μ 1 X) none (zg μ 1 ρ) := by
  unfold eX12_isOnWay at h
  refine LM.of (by decide +kernel) rfl (Nat.le_of_ble_eq_true rfl) ?_
  show zJ mX12_isOnWay 3 (0, 0) (0, 0) _ 0 [some (zq 1 0), some (zi x0), some (zi x1), some (zi x2), some (zi x3), some (zi x4), none, none] [] _
  refine z_aload dX12_isOnWay_0 rfl (z_getR dX12_isOnWay_1 fkX12_13 in1_0 sh1_0 rfl (z_const dX12_isOnWay_4 (z_ialdN dX12_isOnWay_6 in1_1 sh1_1 (Nat.le_of_ble_eq_true rfl) (Nat.le_of_ble_eq_true rfl) (z_istore dX12_isOnWay_7 (Nat.le_of_ble_eq_true rfl) (z_aload dX12_isOnWay_9 rfl (z_getR dX12_isOnWay_10 fkX12_13 in1_0 sh1_0 rfl (z_iload dX12_isOnWay_13 rfl (z_const dX12_isOnWay_15 (z_callS dX12_isOnWay_16 (tX12_messageAt) (Nat.le_of_ble_eq_true rfl) cdX12_messageAt naX12_messageAt lkX12_227 stX12_messageAt rfl rfl (Nat.le_of_ble_eq_true rfl) (z_aload dX12_isOnWay_19 rfl (z_getR dX12_isOnWay_20 fkX12_13 in1_0 sh1_0 rfl ?_)))))))))))
  obtain ⟨s1, h⟩ := zchk_some h
  obtain ⟨s2, h⟩ := zchk_some h
  have h := zlet_h h
  refine z_const dX12_isOnWay_23 (z_ialdN dX12_isOnWay_25 in1_1 sh1_1 (Nat.le_of_ble_eq_true rfl) (Nat.le_of_ble_eq_true rfl) (z_aload dX12_isOnWay_26 rfl (z_getR dX12_isOnWay_27 fkX12_36 in1_0 sh1_0 rfl (z_iload dX12_isOnWay_30 rfl (z_iload dX12_isOnWay_31 rfl (z_callS dX12_isOnWay_32 (tX12_at) (Nat.le_of_ble_eq_true rfl) cdX12_at naX12_at lkX12_193 stX12_at rfl rfl (Nat.le_of_ble_eq_true rfl) (z_iald dX12_isOnWay_35 in1_7 sh1_7 (zin_vp s1) (z_iadd dX12_isOnWay_36 (z_iast dX12_isOnWay_37 in1_1 sh1_1 (zin_vp s2) (z_aload dX12_isOnWay_38 rfl (z_getR dX12_isOnWay_39 fkX12_13 in1_0 sh1_0 rfl ?_)))))))))))
  obtain ⟨s4, h⟩ := zchk_some h
  have h := zlet_h h
  obtain ⟨s6, h⟩ := zchk_some h
  have h := zlet_h h
  refine z_iload dX12_isOnWay_42 rfl (z_const dX12_isOnWay_44 (z_callS dX12_isOnWay_45 (tX12_messageAt) (Nat.le_of_ble_eq_true rfl) cdX12_messageAt naX12_messageAt lkX12_227 stX12_messageAt rfl rfl (Nat.le_of_ble_eq_true rfl) (z_iload dX12_isOnWay_48 rfl (z_iast dX12_isOnWay_49 in1_1 sh1_1 (zin_vp s4) (z_aload dX12_isOnWay_50 rfl (z_getR dX12_isOnWay_51 fkX12_13 in1_0 sh1_0 rfl (z_iload dX12_isOnWay_54 rfl (z_const dX12_isOnWay_56 (z_callS dX12_isOnWay_57 (tX12_messageAt) (Nat.le_of_ble_eq_true rfl) cdX12_messageAt naX12_messageAt lkX12_227 stX12_messageAt rfl rfl (Nat.le_of_ble_eq_true rfl) (z_iload dX12_isOnWay_60 rfl (z_iast dX12_isOnWay_61 in1_1 sh1_1 (zin_vp s6) ?_)))))))))))
  obtain ⟨s8, h⟩ := zchk_some h
  have h := zlet_h h
  refine z_aload dX12_isOnWay_62 rfl (z_getR dX12_isOnWay_63 fkX12_13 in1_0 sh1_0 rfl (z_iload dX12_isOnWay_66 rfl (z_const dX12_isOnWay_68 (z_callS dX12_isOnWay_69 (tX12_messageAt) (Nat.le_of_ble_eq_true rfl) cdX12_messageAt naX12_messageAt lkX12_227 stX12_messageAt rfl rfl (Nat.le_of_ble_eq_true rfl) (z_iload dX12_isOnWay_72 rfl (z_iast dX12_isOnWay_73 in1_1 sh1_1 (zin_vp s8) (z_aload dX12_isOnWay_74 rfl (z_getR dX12_isOnWay_75 fkX12_13 in1_0 sh1_0 rfl (z_iload dX12_isOnWay_78 rfl (z_const dX12_isOnWay_80 (z_callS dX12_isOnWay_81 (tX12_messageAt) (Nat.le_of_ble_eq_true rfl) cdX12_messageAt naX12_messageAt lkX12_227 stX12_messageAt rfl rfl (Nat.le_of_ble_eq_true rfl) ?_)))))))))))
  obtain ⟨s10, h⟩ := zchk_some h
  have h := zlet_h h
  obtain ⟨r13, l12, h⟩ := zbd_some h
  obtain ⟨s14, h⟩ := zchk_some h
  have h := zlet_h h
  refine z_iload dX12_isOnWay_84 rfl (z_iast dX12_isOnWay_86 in1_1 sh1_1 (zin_vp s10) (z_aload dX12_isOnWay_87 rfl (z_getR dX12_isOnWay_88 fkX12_13 in1_0 sh1_0 rfl (z_iload dX12_isOnWay_91 rfl (z_const dX12_isOnWay_93 (z_callS dX12_isOnWay_94 (tX12_messageAt) (Nat.le_of_ble_eq_true rfl) cdX12_messageAt naX12_messageAt lkX12_227 stX12_messageAt rfl rfl (Nat.le_of_ble_eq_true rfl) (z_aload dX12_isOnWay_97 rfl (z_iload dX12_isOnWay_98 rfl (z_const dX12_isOnWay_99 (z_callV dX12_isOnWay_100 (tX12_of l12) (Nat.le_of_ble_eq_true rfl) cdX12_of naX12_of lkX12_78 imX12_of seX12_of in1_0 sh1_0 rfl rfl rfl (Nat.le_of_ble_eq_true rfl) (z_iast dX12_isOnWay_103 in1_1 sh1_1 (zin_vp s14) ?_)))))))))))
  obtain ⟨s16, h⟩ := zchk_some h
  have h := zlet_h h
  refine z_aload dX12_isOnWay_104 rfl (z_getR dX12_isOnWay_105 fkX12_13 in1_0 sh1_0 rfl (z_iload dX12_isOnWay_108 rfl (z_const dX12_isOnWay_110 (z_callS dX12_isOnWay_112 (tX12_messageAt) (Nat.le_of_ble_eq_true rfl) cdX12_messageAt naX12_messageAt lkX12_227 stX12_messageAt rfl rfl (Nat.le_of_ble_eq_true rfl) (z_iload dX12_isOnWay_115 rfl (z_iast dX12_isOnWay_117 in1_1 sh1_1 (zin_vp s16) (z_aload dX12_isOnWay_118 rfl (z_getR dX12_isOnWay_119 fkX12_13 in1_0 sh1_0 rfl (z_iload dX12_isOnWay_122 rfl (z_const dX12_isOnWay_124 (z_callS dX12_isOnWay_126 (tX12_messageAt) (Nat.le_of_ble_eq_true rfl) cdX12_messageAt naX12_messageAt lkX12_227 stX12_messageAt rfl rfl (Nat.le_of_ble_eq_true rfl) ?_)))))))))))
  obtain ⟨s18, h⟩ := zchk_some h
  have h := zlet_h h
  obtain ⟨s20, h⟩ := zchk_some h
  refine z_aload dX12_isOnWay_129 rfl (z_getR dX12_isOnWay_130 fkX12_13 in1_0 sh1_0 rfl (z_const dX12_isOnWay_133 (z_ialdN dX12_isOnWay_135 in1_1 sh1_1 (Nat.le_of_ble_eq_true rfl) (Nat.le_of_ble_eq_true rfl) (z_iast dX12_isOnWay_136 in1_1 sh1_1 (zin_vp s18) (z_aload dX12_isOnWay_137 rfl (z_getR dX12_isOnWay_138 fkX12_13 in1_0 sh1_0 rfl (z_iload dX12_isOnWay_141 rfl (z_iload dX12_isOnWay_142 rfl (z_const dX12_isOnWay_143 (z_callS dX12_isOnWay_144 (tX12_otherAt) (Nat.le_of_ble_eq_true rfl) cdX12_otherAt naX12_otherAt lkX12_136 stX12_otherAt rfl rfl (Nat.le_of_ble_eq_true rfl) (z_iald dX12_isOnWay_147 in1_1 sh1_1 (zin_vp s20) ?_)))))))))))
  have h := zlet_h h
  refine z_istore dX12_isOnWay_148 (Nat.le_of_ble_eq_true rfl) (z_aload dX12_isOnWay_150 rfl (z_getR dX12_isOnWay_151 fkX12_13 in1_0 sh1_0 rfl (z_iload dX12_isOnWay_154 rfl (z_const dX12_isOnWay_156 (z_callS dX12_isOnWay_158 (tX12_messageAt) (Nat.le_of_ble_eq_true rfl) cdX12_messageAt naX12_messageAt lkX12_227 stX12_messageAt rfl rfl (Nat.le_of_ble_eq_true rfl) (z_iload dX12_isOnWay_161 rfl (z_const dX12_isOnWay_163 (z_icmp_ne dX12_isOnWay_164 (fun c22 => ?_) (fun c22 => ?_)))))))))
  · have h := ziF h (c22)
    obtain ⟨s23, h⟩ := zchk_some h
    exact z_aload dX12_isOnWay_171 rfl (z_getR dX12_isOnWay_172 fkX12_13 in1_0 sh1_0 rfl (z_iload dX12_isOnWay_175 rfl (z_iload dX12_isOnWay_176 rfl (z_const dX12_isOnWay_177 (z_callS dX12_isOnWay_178 (tX12_otherAt) (Nat.le_of_ble_eq_true rfl) cdX12_otherAt naX12_otherAt lkX12_136 stX12_otherAt rfl rfl (Nat.le_of_ble_eq_true rfl) (z_iald dX12_isOnWay_181 in1_1 sh1_1 (zin_vp s23) (z_mask [true, false, false, false, false, false, true, true] (sX12_isOnWay_182 h))))))))
  · have h := ziT h (c22)
    exact z_const dX12_isOnWay_167 (z_goto dX12_isOnWay_168 (z_mask [true, false, false, false, false, false, true, true] (sX12_isOnWay_182 h)))
-- X12_isUp
def eX12_isUp (x0 : Int32) (X : zX) : Option (Int32) := zbd (eX12_of x0 (nI 0) X) fun r2 => if r2 = (nI 1) then some (nI 1) else some (nI 0)
set_option maxRecDepth 20000 in
set_option maxHeartbeats 4000000 in
theorem tX12_isUp {μ : zM} {x0 : Int32} {X : zX} {ρ : Int32} (h : eX12_isUp x0 X = some ρ) : LM mX12_isUp 3 [zq 1 0, zi x0] (zg μ 1 X) (some (zi ρ)) (zg μ 1 X) := by
  unfold eX12_isUp at h
  refine LM.of (by decide +kernel) rfl (Nat.le_of_ble_eq_true rfl) ?_
  show zJ mX12_isUp 3 (0, 0) (0, 0) _ 0 [some (zq 1 0), some (zi x0)] [] _
  obtain ⟨r2, l1, h⟩ := zbd_some h
  refine z_aload dX12_isUp_0 rfl (z_iload dX12_isUp_1 rfl (z_const dX12_isUp_2 (z_callV dX12_isUp_3 (tX12_of l1) (Nat.le_of_ble_eq_true rfl) cdX12_of naX12_of lkX12_78 imX12_of seX12_of in1_0 sh1_0 rfl rfl rfl (Nat.le_of_ble_eq_true rfl) (z_const dX12_isUp_6 (z_icmp_ne dX12_isUp_7 (fun c3 => ?_) (fun c3 => ?_))))))
  · have h := ziF h (c3)
    exact z_const dX12_isUp_14 (z_zretQ dX12_isUp_15 rfl rfl (by cases h; rfl))
  · have h := ziT h (c3)
    exact z_const dX12_isUp_10 (z_goto dX12_isUp_11 (z_zretQ dX12_isUp_15 rfl rfl (by cases h; rfl)))
-- X12_knows
def jX12_knows_20 (a1 a2 b0 b1 : Int32) (X : zX) : Option (zX) := zchk (zin b1 2422) (zchk (zin (((nI 18) + ((nI 244) * a1)) + (((nI 10) + ((nI 3) * a2)) + (nI 1))) 2422) (zlet (zw (zw X 1 (zn b1) b0) 1 (zn (((nI 18) + ((nI 244) * a1)) + (((nI 10) + ((nI 3) * a2)) + (nI 1)))) (-1)) fun X3 => zchk (zin (((nI 18) + ((nI 244) * a1)) + (((nI 10) + ((nI 3) * a2)) + (nI 2))) 2422) (zlet (zw X3 1 (zn (((nI 18) + ((nI 244) * a1)) + (((nI 10) + ((nI 3) * a2)) + (nI 2)))) (-1)) fun X5 => some X5)))
set_option maxRecDepth 20000 in
set_option maxHeartbeats 4000000 in
theorem sX12_knows_20 {μ : zM} {a1 a2 b0 b1 : Int32} {X : zX} {ρ : zX} (h : jX12_knows_20 a1 a2 b0 b1 X = some ρ) : zJ mX12_knows 3 (0, 0) (0, 0) (zQ none (zg μ 1 ρ)) 20 [some (zq 1 0), some (zi a1), some (zi a2)] [zi b0, zi b1, zq 1 1] (zg μ 1 X) := by
  unfold jX12_knows_20 at h
  obtain ⟨s1, h⟩ := zchk_some h
  obtain ⟨s2, h⟩ := zchk_some h
  have h := zlet_h h
  refine z_iast dX12_knows_20 in1_1 sh1_1 (zin_vp s1) (z_aload dX12_knows_21 rfl (z_getR dX12_knows_22 fkX12_13 in1_0 sh1_0 rfl (z_iload dX12_knows_25 rfl (z_iload dX12_knows_26 rfl (z_const dX12_knows_27 (z_callS dX12_knows_28 (tX12_otherAt) (Nat.le_of_ble_eq_true rfl) cdX12_otherAt naX12_otherAt lkX12_136 stX12_otherAt rfl rfl (Nat.le_of_ble_eq_true rfl) (z_const dX12_knows_31 (z_iast dX12_knows_32 in1_1 sh1_1 (zin_vp s2) (z_aload dX12_knows_33 rfl (z_getR dX12_knows_34 fkX12_13 in1_0 sh1_0 rfl (z_iload dX12_knows_37 rfl ?_)))))))))))
  obtain ⟨s4, h⟩ := zchk_some h
  have h := zlet_h h
  exact z_iload dX12_knows_38 rfl (z_const dX12_knows_39 (z_callS dX12_knows_40 (tX12_otherAt) (Nat.le_of_ble_eq_true rfl) cdX12_otherAt naX12_otherAt lkX12_136 stX12_otherAt rfl rfl (Nat.le_of_ble_eq_true rfl) (z_const dX12_knows_43 (z_iast dX12_knows_44 in1_1 sh1_1 (zin_vp s4) (z_vretQ dX12_knows_45 rfl (by cases h; rfl))))))
def eX12_knows (x0 x1 : Int32) (X : zX) : Option (zX) := if x0 = x1 then jX12_knows_20 x0 x1 (nI 1) (((nI 18) + ((nI 244) * x0)) + (((nI 10) + ((nI 3) * x1)) + (nI 0))) X else jX12_knows_20 x0 x1 (nI 4) (((nI 18) + ((nI 244) * x0)) + (((nI 10) + ((nI 3) * x1)) + (nI 0))) X
set_option maxRecDepth 20000 in
set_option maxHeartbeats 4000000 in
theorem tX12_knows {μ : zM} {x0 x1 : Int32} {X : zX} {ρ : zX} (h : eX12_knows x0 x1 X = some ρ) : LM mX12_knows 3 [zq 1 0, zi x0, zi x1] (zg μ 1 X) none (zg μ 1 ρ) := by
  unfold eX12_knows at h
  refine LM.of (by decide +kernel) rfl (Nat.le_of_ble_eq_true rfl) ?_
  show zJ mX12_knows 3 (0, 0) (0, 0) _ 0 [some (zq 1 0), some (zi x0), some (zi x1)] [] _
  refine z_aload dX12_knows_0 rfl (z_getR dX12_knows_1 fkX12_13 in1_0 sh1_0 rfl (z_iload dX12_knows_4 rfl (z_iload dX12_knows_5 rfl (z_const dX12_knows_6 (z_callS dX12_knows_7 (tX12_otherAt) (Nat.le_of_ble_eq_true rfl) cdX12_otherAt naX12_otherAt lkX12_136 stX12_otherAt rfl rfl (Nat.le_of_ble_eq_true rfl) (z_iload dX12_knows_10 rfl (z_iload dX12_knows_11 rfl (z_icmp_ne dX12_knows_12 (fun c1 => ?_) (fun c1 => ?_)))))))))
  · have h := ziF h (c1)
    exact z_const dX12_knows_19 (z_mask [true, true, true] (sX12_knows_20 h))
  · have h := ziT h (c1)
    exact z_const dX12_knows_15 (z_goto dX12_knows_16 (z_mask [true, true, true] (sX12_knows_20 h)))
-- X12_letters
def hX12_letters_4 (F : Nat) : Nat → zX → Option (zX)
  | 0, _ => none
  | n + 1, X => zbd (eX12_isAt (nI 97) (nI 122) X) fun r2 => if r2 = 0 then some X else (hX12_letters_4 F n)  (zw X 0 8 ((X 0 8) + (nI 1)))
set_option maxRecDepth 20000 in
set_option maxHeartbeats 4000000 in
theorem sX12_letters_4 {μ : zM} {F : Nat} : ∀ {n : Nat} {X : zX} {ρ : zX}, hX12_letters_4 F n  X = some ρ → zJ mX12_letters 3 (0, 0) (0, 0) (zQ none (zg μ 1 ρ)) 4 [some (zq 1 0)] [] (zg μ 1 X) := by
  intro n
  induction n with
  | zero => intro  X ρ h; exact nomatch (show (none : Option _) = some ρ from h)
  | succ n ih =>
    intro  X ρ h
    have hK4 := @ih
    rw [hX12_letters_4] at h
    obtain ⟨r2, l1, h⟩ := zbd_some h
    refine z_aload dX12_letters_4 rfl (z_const dX12_letters_5 (z_const dX12_letters_7 (z_callV dX12_letters_9 (tX12_isAt l1) (Nat.le_of_ble_eq_true rfl) cdX12_isAt naX12_isAt lkX12_95 imX12_isAt seX12_isAt in1_0 sh1_0 rfl rfl rfl (Nat.le_of_ble_eq_true rfl) (z_if_eq dX12_letters_12 (fun c3 => ?_) (fun c3 => ?_)))))
    · have h := ziT h (c3)
      exact z_vretQ dX12_letters_28 rfl (by cases h; rfl)
    · have h := ziF h (c3)
      exact z_aload dX12_letters_15 rfl (z_dup dX12_letters_16 rfl (z_getI dX12_letters_17 fkX12_89 in1_0 sh1_0 rfl (z_const dX12_letters_20 (z_iadd dX12_letters_21 (z_putI dX12_letters_22 fkX12_89 in1_0 sh1_0 rfl (fun _ _ _ h => by cases h; rfl) ⟨_, rfl, rfl, rfl⟩ (z_goto dX12_letters_25 (z_mask [true] (hK4 h))))))))
def eX12_letters (F : Nat) (X : zX) : Option (zX) := zbd (eX12_blanks F X) fun y2 => hX12_letters_4 F F y2
set_option maxRecDepth 20000 in
set_option maxHeartbeats 4000000 in
theorem tX12_letters {μ : zM} {F : Nat} {X : zX} {ρ : zX} (h : eX12_letters F X = some ρ) : LM mX12_letters 3 [zq 1 0] (zg μ 1 X) none (zg μ 1 ρ) := by
  unfold eX12_letters at h
  refine LM.of (by decide +kernel) rfl (Nat.le_of_ble_eq_true rfl) ?_
  show zJ mX12_letters 3 (0, 0) (0, 0) _ 0 [some (zq 1 0)] [] _
  obtain ⟨y2, l1, h⟩ := zbd_some h
  exact z_aload dX12_letters_0 rfl (z_callV dX12_letters_1 (tX12_blanks l1) (Nat.le_of_ble_eq_true rfl) cdX12_blanks naX12_blanks lkX12_101 imX12_blanks seX12_blanks in1_0 sh1_0 rfl rfl rfl (Nat.le_of_ble_eq_true rfl) (z_mask [true] (sX12_letters_4 h)))
-- X12_link
def jX12_link_33 (a1 a2 b0 : Int32) (X : zX) : Option (Int32 × zX) := zbd (eX12_throwsIf b0 (nI 2) X) fun y2 => if y2.1 = 0 then if a2 = (nI 0) then zbd (eX12_ofLink a1 (nI 0) y2.2) fun r6 => some (r6, y2.2) else if a2 = (nI 1) then zbd (eX12_ofLink a1 (nI 1) y2.2) fun r9 => some (r9, y2.2) else if a2 = (nI 2) then zbd (eX12_ofLink a1 (nI 2) y2.2) fun r12 => some (r12, y2.2) else if a2 = (nI 3) then zbd (eX12_ofLink a1 (nI 3) y2.2) fun r15 => some (r15, y2.2) else if a2 = (nI 4) then zbd (eX12_ofLink a1 (nI 4) y2.2) fun r18 => some (r18, y2.2) else zbd (eX12_ofLink a1 (nI 5) y2.2) fun r21 => some (r21, y2.2) else some ((nI 0), y2.2)
set_option maxRecDepth 20000 in
set_option maxHeartbeats 4000000 in
theorem sX12_link_33 {μ : zM} {a1 a2 b0 : Int32} {X : zX} {ρ : Int32 × zX} (h : jX12_link_33 a1 a2 b0 X = some ρ) : zJ mX12_link 3 (0, 0) (0, 0) (zQ (some (zi ρ.1)) (zg μ 1 ρ.2)) 33 [some (zq 1 0), some (zi a1), some (zi a2)] [zi b0, zq 1 0] (zg μ 1 X) := by
  unfold jX12_link_33 at h
  obtain ⟨y2, l1, h⟩ := zbd_some h
  refine z_const dX12_link_33 (z_callV dX12_link_34 (tX12_throwsIf l1) (Nat.le_of_ble_eq_true rfl) cdX12_throwsIf naX12_throwsIf lkX12_188 imX12_throwsIf seX12_throwsIf in1_0 sh1_0 rfl rfl rfl (Nat.le_of_ble_eq_true rfl) (z_if_eq dX12_link_37 (fun c3 => ?_) (fun c3 => ?_)))
  · have h := ziT h (c3)
    refine z_iload dX12_link_42 rfl ?_
    by_cases c4 : a2 = (nI 0)
    · have h := ziT h c4
      refine z_tabIn (off := 33) (tgt := 76) dX12_link_43 (by rw [c4]; decide) (by rw [c4]; decide) (by rw [c4]; decide) (by decide) ?_
      obtain ⟨r6, l5, h⟩ := zbd_some h
      exact z_aload dX12_link_76 rfl (z_iload dX12_link_77 rfl (z_const dX12_link_78 (z_callV dX12_link_79 (tX12_ofLink l5) (Nat.le_of_ble_eq_true rfl) cdX12_ofLink naX12_ofLink lkX12_139 imX12_ofLink seX12_ofLink in1_0 sh1_0 rfl rfl rfl (Nat.le_of_ble_eq_true rfl) (z_iretQ dX12_link_82 rfl (by cases h; rfl)))))
    have h := ziF h c4
    by_cases c7 : a2 = (nI 1)
    · have h := ziT h c7
      refine z_tabIn (off := 40) (tgt := 83) dX12_link_43 (by rw [c7]; decide) (by rw [c7]; decide) (by rw [c7]; decide) (by decide) ?_
      obtain ⟨r9, l8, h⟩ := zbd_some h
      exact z_aload dX12_link_83 rfl (z_iload dX12_link_84 rfl (z_const dX12_link_85 (z_callV dX12_link_86 (tX12_ofLink l8) (Nat.le_of_ble_eq_true rfl) cdX12_ofLink naX12_ofLink lkX12_139 imX12_ofLink seX12_ofLink in1_0 sh1_0 rfl rfl rfl (Nat.le_of_ble_eq_true rfl) (z_iretQ dX12_link_89 rfl (by cases h; rfl)))))
    have h := ziF h c7
    by_cases c10 : a2 = (nI 2)
    · have h := ziT h c10
      refine z_tabIn (off := 47) (tgt := 90) dX12_link_43 (by rw [c10]; decide) (by rw [c10]; decide) (by rw [c10]; decide) (by decide) ?_
      obtain ⟨r12, l11, h⟩ := zbd_some h
      exact z_aload dX12_link_90 rfl (z_iload dX12_link_91 rfl (z_const dX12_link_92 (z_callV dX12_link_93 (tX12_ofLink l11) (Nat.le_of_ble_eq_true rfl) cdX12_ofLink naX12_ofLink lkX12_139 imX12_ofLink seX12_ofLink in1_0 sh1_0 rfl rfl rfl (Nat.le_of_ble_eq_true rfl) (z_iretQ dX12_link_96 rfl (by cases h; rfl)))))
    have h := ziF h c10
    by_cases c13 : a2 = (nI 3)
    · have h := ziT h c13
      refine z_tabIn (off := 54) (tgt := 97) dX12_link_43 (by rw [c13]; decide) (by rw [c13]; decide) (by rw [c13]; decide) (by decide) ?_
      obtain ⟨r15, l14, h⟩ := zbd_some h
      exact z_aload dX12_link_97 rfl (z_iload dX12_link_98 rfl (z_const dX12_link_99 (z_callV dX12_link_100 (tX12_ofLink l14) (Nat.le_of_ble_eq_true rfl) cdX12_ofLink naX12_ofLink lkX12_139 imX12_ofLink seX12_ofLink in1_0 sh1_0 rfl rfl rfl (Nat.le_of_ble_eq_true rfl) (z_iretQ dX12_link_103 rfl (by cases h; rfl)))))
    have h := ziF h c13
    by_cases c16 : a2 = (nI 4)
    · have h := ziT h c16
      refine z_tabIn (off := 61) (tgt := 104) dX12_link_43 (by rw [c16]; decide) (by rw [c16]; decide) (by rw [c16]; decide) (by decide) ?_
      obtain ⟨r18, l17, h⟩ := zbd_some h
      exact z_aload dX12_link_104 rfl (z_iload dX12_link_105 rfl (z_const dX12_link_106 (z_callV dX12_link_107 (tX12_ofLink l17) (Nat.le_of_ble_eq_true rfl) cdX12_ofLink naX12_ofLink lkX12_139 imX12_ofLink seX12_ofLink in1_0 sh1_0 rfl rfl rfl (Nat.le_of_ble_eq_true rfl) (z_iretQ dX12_link_110 rfl (by cases h; rfl)))))
    have h := ziF h c16
    refine z_tabOut (tgt := 111) dX12_link_43 (by decide) (zsw_out (zsw_s (zsw_s (zsw_s (zsw_s (zsw_s zsw_0 c4) c7) c10) c13) c16) (by decide)) ?_
    obtain ⟨r21, l20, h⟩ := zbd_some h
    exact z_aload dX12_link_111 rfl (z_iload dX12_link_112 rfl (z_const dX12_link_113 (z_callV dX12_link_114 (tX12_ofLink l20) (Nat.le_of_ble_eq_true rfl) cdX12_ofLink naX12_ofLink lkX12_139 imX12_ofLink seX12_ofLink in1_0 sh1_0 rfl rfl rfl (Nat.le_of_ble_eq_true rfl) (z_iretQ dX12_link_117 rfl (by cases h; rfl)))))
  · have h := ziF h (c3)
    exact z_const dX12_link_40 (z_iretQ dX12_link_41 rfl (by cases h; rfl))
def eX12_link (x0 x1 : Int32) (X : zX) : Option (Int32 × zX) := zbd (eX12_noLink x0 (zw X 0 0 (nI 0))) fun r2 => zbd (eX12_throwsIf r2 (nI 1) (zw X 0 0 (nI 0))) fun y4 => if y4.1 = 0 then if (¬ (x1 < (nI 0))) ∧ (¬ ((nI 5) < x1)) then jX12_link_33 x0 x1 (nI 0) y4.2 else jX12_link_33 x0 x1 (nI 1) y4.2 else some ((nI 0), y4.2)
set_option maxRecDepth 20000 in
set_option maxHeartbeats 4000000 in
theorem tX12_link {μ : zM} {x0 x1 : Int32} {X : zX} {ρ : Int32 × zX} (h : eX12_link x0 x1 X = some ρ) : LM mX12_link 3 [zq 1 0, zi x0, zi x1] (zg μ 1 X) (some (zi ρ.1)) (zg μ 1 ρ.2) := by
  unfold eX12_link at h
  refine LM.of (by decide +kernel) rfl (Nat.le_of_ble_eq_true rfl) ?_
  show zJ mX12_link 3 (0, 0) (0, 0) _ 0 [some (zq 1 0), some (zi x0), some (zi x1)] [] _
  obtain ⟨r2, l1, h⟩ := zbd_some h
  obtain ⟨y4, l3, h⟩ := zbd_some h
  refine z_aload dX12_link_0 rfl (z_const dX12_link_1 (z_putI dX12_link_2 fkX12_3 in1_0 sh1_0 rfl (fun _ _ _ h => by cases h; rfl) ⟨_, rfl, rfl, rfl⟩ (z_aload dX12_link_5 rfl (z_aload dX12_link_6 rfl (z_iload dX12_link_7 rfl (z_callV dX12_link_8 (tX12_noLink l1) (Nat.le_of_ble_eq_true rfl) cdX12_noLink naX12_noLink lkX12_333 imX12_noLink seX12_noLink in1_0 sh1_0 rfl rfl rfl (Nat.le_of_ble_eq_true rfl) (z_const dX12_link_11 (z_callV dX12_link_12 (tX12_throwsIf l3) (Nat.le_of_ble_eq_true rfl) cdX12_throwsIf naX12_throwsIf lkX12_188 imX12_throwsIf seX12_throwsIf in1_0 sh1_0 rfl rfl rfl (Nat.le_of_ble_eq_true rfl) (z_if_ne dX12_link_15 (fun c5 => ?_) (fun c5 => ?_))))))))))
  · have h := ziF h (c5)
    exact z_const dX12_link_40 (z_iretQ dX12_link_41 rfl (by cases h; rfl))
  · have h := ziT h (c5)
    refine z_aload dX12_link_18 rfl (z_iload dX12_link_19 rfl (z_const dX12_link_20 (z_const dX12_link_21 (z_callS dX12_link_22 (tX12_in) (Nat.le_of_ble_eq_true rfl) cdX12_in naX12_in lkX12_71 stX12_in rfl rfl (Nat.le_of_ble_eq_true rfl) (z_if_ne dX12_link_25 (fun c6 => ?_) (fun c6 => ?_))))))
    · have h := ziT h (zB_n0.mp c6)
      exact z_const dX12_link_32 (z_mask [true, true, true] (sX12_link_33 h))
    · have h := ziF h (zB_0.mp c6)
      exact z_const dX12_link_28 (z_goto dX12_link_29 (z_mask [true, true, true] (sX12_link_33 h)))
-- X12_loss
def jX12_loss_34 (a1 a2 b0 : Int32) (X : zX) : Option (Int32 × zX) := zbd (eX12_throwsIf b0 (nI 2) X) fun y2 => if y2.1 = 0 then zbd (eX12_ofLink a1 (nI 3) y2.2) fun r5 => zchk (zin (((nI 1482) + ((nI 6) * a1)) + (nI 3)) 2422) (zlet (zw y2.2 1 (zn (((nI 1482) + ((nI 6) * a1)) + (nI 3))) a2) fun X7 => some (r5, X7)) else some ((nI 0), y2.2)
set_option maxRecDepth 20000 in
set_option maxHeartbeats 4000000 in
theorem sX12_loss_34 {μ : zM} {a1 a2 b0 : Int32} {X : zX} {ρ : Int32 × zX} (h : jX12_loss_34 a1 a2 b0 X = some ρ) : zJ mX12_loss 3 (0, 0) (0, 0) (zQ (some (zi ρ.1)) (zg μ 1 ρ.2)) 34 [some (zq 1 0), some (zi a1), some (zi a2), none] [zi b0, zq 1 0] (zg μ 1 X) := by
  unfold jX12_loss_34 at h
  obtain ⟨y2, l1, h⟩ := zbd_some h
  refine z_const dX12_loss_34 (z_callV dX12_loss_35 (tX12_throwsIf l1) (Nat.le_of_ble_eq_true rfl) cdX12_throwsIf naX12_throwsIf lkX12_188 imX12_throwsIf seX12_throwsIf in1_0 sh1_0 rfl rfl rfl (Nat.le_of_ble_eq_true rfl) (z_if_eq dX12_loss_38 (fun c3 => ?_) (fun c3 => ?_)))
  · have h := ziT h (c3)
    obtain ⟨r5, l4, h⟩ := zbd_some h
    obtain ⟨s6, h⟩ := zchk_some h
    have h := zlet_h h
    refine z_aload dX12_loss_43 rfl (z_iload dX12_loss_44 rfl (z_const dX12_loss_45 (z_callV dX12_loss_46 (tX12_ofLink l4) (Nat.le_of_ble_eq_true rfl) cdX12_ofLink naX12_ofLink lkX12_139 imX12_ofLink seX12_ofLink in1_0 sh1_0 rfl rfl rfl (Nat.le_of_ble_eq_true rfl) (z_istore dX12_loss_49 (Nat.le_of_ble_eq_true rfl) (z_aload dX12_loss_50 rfl (z_getR dX12_loss_51 fkX12_13 in1_0 sh1_0 rfl (z_iload dX12_loss_54 rfl (z_const dX12_loss_55 (z_callS dX12_loss_56 (tX12_linkAt) (Nat.le_of_ble_eq_true rfl) cdX12_linkAt naX12_linkAt lkX12_64 stX12_linkAt rfl rfl (Nat.le_of_ble_eq_true rfl) (z_iload dX12_loss_59 rfl (z_iast dX12_loss_60 in1_1 sh1_1 (zin_vp s6) ?_)))))))))))
    exact z_iload dX12_loss_61 rfl (z_iretQ dX12_loss_62 rfl (by cases h; rfl))
  · have h := ziF h (c3)
    exact z_const dX12_loss_41 (z_iretQ dX12_loss_42 rfl (by cases h; rfl))
def eX12_loss (x0 x1 : Int32) (X : zX) : Option (Int32 × zX) := zbd (eX12_noLink x0 (zw X 0 0 (nI 0))) fun r2 => zbd (eX12_throwsIf r2 (nI 1) (zw X 0 0 (nI 0))) fun y4 => if y4.1 = 0 then if (¬ (x1 < (nI 0))) ∧ (¬ ((nI 100) < x1)) then jX12_loss_34 x0 x1 (nI 0) y4.2 else jX12_loss_34 x0 x1 (nI 1) y4.2 else some ((nI 0), y4.2)
set_option maxRecDepth 20000 in
set_option maxHeartbeats 4000000 in
theorem tX12_loss {μ : zM} {x0 x1 : Int32} {X : zX} {ρ : Int32 × zX} (h : eX12_loss x0 x1 X = some ρ) : LM mX12_loss 3 [zq 1 0, zi x0, zi x1] (zg μ 1 X) (some (zi ρ.1)) (zg μ 1 ρ.2) := by
  unfold eX12_loss at h
  refine LM.of (by decide +kernel) rfl (Nat.le_of_ble_eq_true rfl) ?_
  show zJ mX12_loss 3 (0, 0) (0, 0) _ 0 [some (zq 1 0), some (zi x0), some (zi x1), none] [] _
  obtain ⟨r2, l1, h⟩ := zbd_some h
  obtain ⟨y4, l3, h⟩ := zbd_some h
  refine z_aload dX12_loss_0 rfl (z_const dX12_loss_1 (z_putI dX12_loss_2 fkX12_3 in1_0 sh1_0 rfl (fun _ _ _ h => by cases h; rfl) ⟨_, rfl, rfl, rfl⟩ (z_aload dX12_loss_5 rfl (z_aload dX12_loss_6 rfl (z_iload dX12_loss_7 rfl (z_callV dX12_loss_8 (tX12_noLink l1) (Nat.le_of_ble_eq_true rfl) cdX12_noLink naX12_noLink lkX12_333 imX12_noLink seX12_noLink in1_0 sh1_0 rfl rfl rfl (Nat.le_of_ble_eq_true rfl) (z_const dX12_loss_11 (z_callV dX12_loss_12 (tX12_throwsIf l3) (Nat.le_of_ble_eq_true rfl) cdX12_throwsIf naX12_throwsIf lkX12_188 imX12_throwsIf seX12_throwsIf in1_0 sh1_0 rfl rfl rfl (Nat.le_of_ble_eq_true rfl) (z_if_ne dX12_loss_15 (fun c5 => ?_) (fun c5 => ?_))))))))))
  · have h := ziF h (c5)
    exact z_const dX12_loss_41 (z_iretQ dX12_loss_42 rfl (by cases h; rfl))
  · have h := ziT h (c5)
    refine z_aload dX12_loss_18 rfl (z_iload dX12_loss_19 rfl (z_const dX12_loss_20 (z_const dX12_loss_21 (z_callS dX12_loss_23 (tX12_in) (Nat.le_of_ble_eq_true rfl) cdX12_in naX12_in lkX12_71 stX12_in rfl rfl (Nat.le_of_ble_eq_true rfl) (z_if_ne dX12_loss_26 (fun c6 => ?_) (fun c6 => ?_))))))
    · have h := ziT h (zB_n0.mp c6)
      exact z_const dX12_loss_33 (z_mask [true, true, true, false] (sX12_loss_34 h))
    · have h := ziF h (zB_0.mp c6)
      exact z_const dX12_loss_29 (z_goto dX12_loss_30 (z_mask [true, true, true, false] (sX12_loss_34 h)))
-- X12_noGap
def eX12_noGap (x0 x1 : Int32) (X : zX) : Option (zX) := zchk (zin (((nI 18) + ((nI 244) * x0)) + (((nI 28) + ((nI 18) * x1)) + (nI 11))) 2422) (zlet (zw X 1 (zn (((nI 18) + ((nI 244) * x0)) + (((nI 28) + ((nI 18) * x1)) + (nI 11)))) (nI 0)) fun X2 => some X2)
set_option maxRecDepth 20000 in
set_option maxHeartbeats 4000000 in
theorem tX12_noGap {μ : zM} {x0 x1 : Int32} {X : zX} {ρ : zX} (h : eX12_noGap x0 x1 X = some ρ) : LM mX12_noGap 3 [zq 1 0, zi x0, zi x1] (zg μ 1 X) none (zg μ 1 ρ) := by
  unfold eX12_noGap at h
  refine LM.of (by decide +kernel) rfl (Nat.le_of_ble_eq_true rfl) ?_
  show zJ mX12_noGap 3 (0, 0) (0, 0) _ 0 [some (zq 1 0), some (zi x0), some (zi x1)] [] _
  obtain ⟨s1, h⟩ := zchk_some h
  have h := zlet_h h
  exact z_aload dX12_noGap_0 rfl (z_getR dX12_noGap_1 fkX12_13 in1_0 sh1_0 rfl (z_iload dX12_noGap_4 rfl (z_iload dX12_noGap_5 rfl (z_const dX12_noGap_6 (z_callS dX12_noGap_8 (tX12_packetAt) (Nat.le_of_ble_eq_true rfl) cdX12_packetAt naX12_packetAt lkX12_60 stX12_packetAt rfl rfl (Nat.le_of_ble_eq_true rfl) (z_const dX12_noGap_11 (z_iast dX12_noGap_12 in1_1 sh1_1 (zin_vp s1) (z_vretQ dX12_noGap_13 rfl (by cases h; rfl)))))))))
-- X12_noNodePacket
def jX12_noNodePacket_26 (b0 : Int32) (X : zX) : Option (Int32 × zX) := zbd (eX12_throwsIf b0 (nI 1) X) fun y2 => zchk (zbl y2.1) (some (y2.1, y2.2))
set_option maxRecDepth 20000 in
set_option maxHeartbeats 4000000 in
theorem sX12_noNodePacket_26 {μ : zM} {b0 : Int32} {X : zX} {ρ : Int32 × zX} (h : jX12_noNodePacket_26 b0 X = some ρ) : zJ mX12_noNodePacket 3 (0, 0) (0, 0) (zQ (some (zi ρ.1)) (zg μ 1 ρ.2)) 26 [none, none, none] [zi b0, zq 1 0] (zg μ 1 X) := by
  unfold jX12_noNodePacket_26 at h
  obtain ⟨y2, l1, h⟩ := zbd_some h
  obtain ⟨s3, h⟩ := zchk_some h
  exact z_const dX12_noNodePacket_26 (z_callV dX12_noNodePacket_27 (tX12_throwsIf l1) (Nat.le_of_ble_eq_true rfl) cdX12_throwsIf naX12_throwsIf lkX12_188 imX12_throwsIf seX12_throwsIf in1_0 sh1_0 rfl rfl rfl (Nat.le_of_ble_eq_true rfl) (z_zretQ dX12_noNodePacket_30 rfl (zbl_n (id s3)) (by cases h; rfl)))
def jX12_noNodePacket_21 (X : zX) : Option (Int32 × zX) := jX12_noNodePacket_26 (nI 1) X
set_option maxRecDepth 20000 in
set_option maxHeartbeats 4000000 in
theorem sX12_noNodePacket_21 {μ : zM} {X : zX} {ρ : Int32 × zX} (h : jX12_noNodePacket_21  X = some ρ) : zJ mX12_noNodePacket 3 (0, 0) (0, 0) (zQ (some (zi ρ.1)) (zg μ 1 ρ.2)) 21 [none, none, none] [zq 1 0] (zg μ 1 X) := by
  unfold jX12_noNodePacket_21 at h
  exact z_const dX12_noNodePacket_21 (z_goto dX12_noNodePacket_22 (z_mask [false, false, false] (sX12_noNodePacket_26 h)))
def eX12_noNodePacket (x0 x1 : Int32) (X : zX) : Option (Int32 × zX) := zbd (eX12_noNode x0 (zw X 0 0 (nI 0))) fun r2 => if r2 = 0 then if ¬ ((¬ (x1 < (nI 0))) ∧ (¬ ((nI 11) < x1))) then jX12_noNodePacket_21 (zw X 0 0 (nI 0)) else jX12_noNodePacket_26 (nI 0) (zw X 0 0 (nI 0)) else jX12_noNodePacket_21 (zw X 0 0 (nI 0))
set_option maxRecDepth 20000 in
set_option maxHeartbeats 4000000 in
theorem tX12_noNodePacket {μ : zM} {x0 x1 : Int32} {X : zX} {ρ : Int32 × zX} (h : eX12_noNodePacket x0 x1 X = some ρ) : LM mX12_noNodePacket 3 [zq 1 0, zi x0, zi x1] (zg μ 1 X) (some (zi ρ.1)) (zg μ 1 ρ.2) := by
  unfold eX12_noNodePacket at h
  refine LM.of (by decide +kernel) rfl (Nat.le_of_ble_eq_true rfl) ?_
  show zJ mX12_noNodePacket 3 (0, 0) (0, 0) _ 0 [some (zq 1 0), some (zi x0), some (zi x1)] [] _
  obtain ⟨r2, l1, h⟩ := zbd_some h
  refine z_aload dX12_noNodePacket_0 rfl (z_const dX12_noNodePacket_1 (z_putI dX12_noNodePacket_2 fkX12_3 in1_0 sh1_0 rfl (fun _ _ _ h => by cases h; rfl) ⟨_, rfl, rfl, rfl⟩ (z_aload dX12_noNodePacket_5 rfl (z_aload dX12_noNodePacket_6 rfl (z_iload dX12_noNodePacket_7 rfl (z_callV dX12_noNodePacket_8 (tX12_noNode l1) (Nat.le_of_ble_eq_true rfl) cdX12_noNode naX12_noNode lkX12_330 imX12_noNode seX12_noNode in1_0 sh1_0 rfl rfl rfl (Nat.le_of_ble_eq_true rfl) (z_if_ne dX12_noNodePacket_11 (fun c3 => ?_) (fun c3 => ?_))))))))
  · have h := ziF h (c3)
    exact z_mask [false, false, false] (sX12_noNodePacket_21 h)
  · have h := ziT h (c3)
    refine z_iload dX12_noNodePacket_14 rfl (z_callS dX12_noNodePacket_15 (tX12_noPacket) (Nat.le_of_ble_eq_true rfl) cdX12_noPacket naX12_noPacket lkX12_336 stX12_noPacket rfl rfl (Nat.le_of_ble_eq_true rfl) (z_if_eq dX12_noNodePacket_18 (fun c4 => ?_) (fun c4 => ?_)))
    · have h := ziF h (zB_0.mp c4)
      exact z_const dX12_noNodePacket_25 (z_mask [false, false, false] (sX12_noNodePacket_26 h))
    · have h := ziT h (zB_n0.mp c4)
      exact z_mask [false, false, false] (sX12_noNodePacket_21 h)
-- X12_node
def jX12_node_34 (a1 a2 b0 : Int32) (X : zX) : Option (Int32 × zX) := zbd (eX12_throwsIf b0 (nI 2) X) fun y2 => if y2.1 = 0 then if a2 = (nI 0) then zbd (eX12_of a1 (nI 0) y2.2) fun r6 => some (r6, y2.2) else if a2 = (nI 1) then zbd (eX12_of a1 (nI 1) y2.2) fun r9 => some (r9, y2.2) else if a2 = (nI 2) then zbd (eX12_of a1 (nI 2) y2.2) fun r12 => some (r12, y2.2) else if a2 = (nI 3) then zbd (eX12_of a1 (nI 2) y2.2) fun r15 => zbd (eX12_of a1 (nI 1) y2.2) fun r17 => some (((((nI 1) <<< ((r15 + (nI 1)) &&& 31)) - (nI 1)) &&& (r17 ^^^ (-1))), y2.2) else if a2 = (nI 4) then zbd (eX12_of a1 (nI 3) y2.2) fun r20 => some (r20, y2.2) else if a2 = (nI 5) then zbd (eX12_of a1 (nI 4) y2.2) fun r23 => some (r23, y2.2) else if a2 = (nI 6) then zbd (eX12_of a1 (nI 5) y2.2) fun r26 => some (r26, y2.2) else if a2 = (nI 7) then zbd (eX12_of a1 (nI 6) y2.2) fun r29 => some (r29, y2.2) else if a2 = (nI 8) then zbd (eX12_of a1 (nI 7) y2.2) fun r32 => some (r32, y2.2) else if a2 = (nI 9) then zbd (eX12_of a1 (nI 8) y2.2) fun r35 => some (r35, y2.2) else zbd (eX12_of a1 (nI 9) y2.2) fun r38 => some (r38, y2.2) else some ((nI 0), y2.2)
set_option maxRecDepth 20000 in
set_option maxHeartbeats 4000000 in
theorem sX12_node_34 {μ : zM} {a1 a2 b0 : Int32} {X : zX} {ρ : Int32 × zX} (h : jX12_node_34 a1 a2 b0 X = some ρ) : zJ mX12_node 3 (0, 0) (0, 0) (zQ (some (zi ρ.1)) (zg μ 1 ρ.2)) 34 [some (zq 1 0), some (zi a1), some (zi a2)] [zi b0, zq 1 0] (zg μ 1 X) := by
  unfold jX12_node_34 at h
  obtain ⟨y2, l1, h⟩ := zbd_some h
  refine z_const dX12_node_34 (z_callV dX12_node_35 (tX12_throwsIf l1) (Nat.le_of_ble_eq_true rfl) cdX12_throwsIf naX12_throwsIf lkX12_188 imX12_throwsIf seX12_throwsIf in1_0 sh1_0 rfl rfl rfl (Nat.le_of_ble_eq_true rfl) (z_if_eq dX12_node_38 (fun c3 => ?_) (fun c3 => ?_)))
  · have h := ziT h (c3)
    refine z_iload dX12_node_43 rfl ?_
    by_cases c4 : a2 = (nI 0)
    · have h := ziT h c4
      refine z_tabIn (off := 56) (tgt := 100) dX12_node_44 (by rw [c4]; decide) (by rw [c4]; decide) (by rw [c4]; decide) (by decide) ?_
      obtain ⟨r6, l5, h⟩ := zbd_some h
      exact z_aload dX12_node_100 rfl (z_iload dX12_node_101 rfl (z_const dX12_node_102 (z_callV dX12_node_103 (tX12_of l5) (Nat.le_of_ble_eq_true rfl) cdX12_of naX12_of lkX12_78 imX12_of seX12_of in1_0 sh1_0 rfl rfl rfl (Nat.le_of_ble_eq_true rfl) (z_iretQ dX12_node_106 rfl (by cases h; rfl)))))
    have h := ziF h c4
    by_cases c7 : a2 = (nI 1)
    · have h := ziT h c7
      refine z_tabIn (off := 63) (tgt := 107) dX12_node_44 (by rw [c7]; decide) (by rw [c7]; decide) (by rw [c7]; decide) (by decide) ?_
      obtain ⟨r9, l8, h⟩ := zbd_some h
      exact z_aload dX12_node_107 rfl (z_iload dX12_node_108 rfl (z_const dX12_node_109 (z_callV dX12_node_110 (tX12_of l8) (Nat.le_of_ble_eq_true rfl) cdX12_of naX12_of lkX12_78 imX12_of seX12_of in1_0 sh1_0 rfl rfl rfl (Nat.le_of_ble_eq_true rfl) (z_iretQ dX12_node_113 rfl (by cases h; rfl)))))
    have h := ziF h c7
    by_cases c10 : a2 = (nI 2)
    · have h := ziT h c10
      refine z_tabIn (off := 70) (tgt := 114) dX12_node_44 (by rw [c10]; decide) (by rw [c10]; decide) (by rw [c10]; decide) (by decide) ?_
      obtain ⟨r12, l11, h⟩ := zbd_some h
      exact z_aload dX12_node_114 rfl (z_iload dX12_node_115 rfl (z_const dX12_node_116 (z_callV dX12_node_117 (tX12_of l11) (Nat.le_of_ble_eq_true rfl) cdX12_of naX12_of lkX12_78 imX12_of seX12_of in1_0 sh1_0 rfl rfl rfl (Nat.le_of_ble_eq_true rfl) (z_iretQ dX12_node_120 rfl (by cases h; rfl)))))
    have h := ziF h c10
    by_cases c13 : a2 = (nI 3)
    · have h := ziT h c13
      refine z_tabIn (off := 77) (tgt := 121) dX12_node_44 (by rw [c13]; decide) (by rw [c13]; decide) (by rw [c13]; decide) (by decide) ?_
      obtain ⟨r15, l14, h⟩ := zbd_some h
      refine z_const dX12_node_121 (z_aload dX12_node_122 rfl (z_iload dX12_node_123 rfl (z_const dX12_node_124 (z_callV dX12_node_125 (tX12_of l14) (Nat.le_of_ble_eq_true rfl) cdX12_of naX12_of lkX12_78 imX12_of seX12_of in1_0 sh1_0 rfl rfl rfl (Nat.le_of_ble_eq_true rfl) (z_const dX12_node_128 (z_iadd dX12_node_129 (z_ishl dX12_node_130 (z_const dX12_node_131 (z_isub dX12_node_132 (z_aload dX12_node_133 rfl (z_iload dX12_node_134 rfl ?_)))))))))))
      obtain ⟨r17, l16, h⟩ := zbd_some h
      exact z_const dX12_node_135 (z_callV dX12_node_136 (tX12_of l16) (Nat.le_of_ble_eq_true rfl) cdX12_of naX12_of lkX12_78 imX12_of seX12_of in1_0 sh1_0 rfl rfl rfl (Nat.le_of_ble_eq_true rfl) (z_const dX12_node_139 (z_ixor dX12_node_140 (z_iand dX12_node_141 (z_iretQ dX12_node_142 rfl (by cases h; rfl))))))
    have h := ziF h c13
    by_cases c18 : a2 = (nI 4)
    · have h := ziT h c18
      refine z_tabIn (off := 99) (tgt := 143) dX12_node_44 (by rw [c18]; decide) (by rw [c18]; decide) (by rw [c18]; decide) (by decide) ?_
      obtain ⟨r20, l19, h⟩ := zbd_some h
      exact z_aload dX12_node_143 rfl (z_iload dX12_node_144 rfl (z_const dX12_node_145 (z_callV dX12_node_146 (tX12_of l19) (Nat.le_of_ble_eq_true rfl) cdX12_of naX12_of lkX12_78 imX12_of seX12_of in1_0 sh1_0 rfl rfl rfl (Nat.le_of_ble_eq_true rfl) (z_iretQ dX12_node_149 rfl (by cases h; rfl)))))
    have h := ziF h c18
    by_cases c21 : a2 = (nI 5)
    · have h := ziT h c21
      refine z_tabIn (off := 106) (tgt := 150) dX12_node_44 (by rw [c21]; decide) (by rw [c21]; decide) (by rw [c21]; decide) (by decide) ?_
      obtain ⟨r23, l22, h⟩ := zbd_some h
      exact z_aload dX12_node_150 rfl (z_iload dX12_node_151 rfl (z_const dX12_node_152 (z_callV dX12_node_153 (tX12_of l22) (Nat.le_of_ble_eq_true rfl) cdX12_of naX12_of lkX12_78 imX12_of seX12_of in1_0 sh1_0 rfl rfl rfl (Nat.le_of_ble_eq_true rfl) (z_iretQ dX12_node_156 rfl (by cases h; rfl)))))
    have h := ziF h c21
    by_cases c24 : a2 = (nI 6)
    · have h := ziT h c24
      refine z_tabIn (off := 113) (tgt := 157) dX12_node_44 (by rw [c24]; decide) (by rw [c24]; decide) (by rw [c24]; decide) (by decide) ?_
      obtain ⟨r26, l25, h⟩ := zbd_some h
      exact z_aload dX12_node_157 rfl (z_iload dX12_node_158 rfl (z_const dX12_node_159 (z_callV dX12_node_160 (tX12_of l25) (Nat.le_of_ble_eq_true rfl) cdX12_of naX12_of lkX12_78 imX12_of seX12_of in1_0 sh1_0 rfl rfl rfl (Nat.le_of_ble_eq_true rfl) (z_iretQ dX12_node_163 rfl (by cases h; rfl)))))
    have h := ziF h c24
    by_cases c27 : a2 = (nI 7)
    · have h := ziT h c27
      refine z_tabIn (off := 120) (tgt := 164) dX12_node_44 (by rw [c27]; decide) (by rw [c27]; decide) (by rw [c27]; decide) (by decide) ?_
      obtain ⟨r29, l28, h⟩ := zbd_some h
      exact z_aload dX12_node_164 rfl (z_iload dX12_node_165 rfl (z_const dX12_node_166 (z_callV dX12_node_168 (tX12_of l28) (Nat.le_of_ble_eq_true rfl) cdX12_of naX12_of lkX12_78 imX12_of seX12_of in1_0 sh1_0 rfl rfl rfl (Nat.le_of_ble_eq_true rfl) (z_iretQ dX12_node_171 rfl (by cases h; rfl)))))
    have h := ziF h c27
    by_cases c30 : a2 = (nI 8)
    · have h := ziT h c30
      refine z_tabIn (off := 128) (tgt := 172) dX12_node_44 (by rw [c30]; decide) (by rw [c30]; decide) (by rw [c30]; decide) (by decide) ?_
      obtain ⟨r32, l31, h⟩ := zbd_some h
      exact z_aload dX12_node_172 rfl (z_iload dX12_node_173 rfl (z_const dX12_node_174 (z_callV dX12_node_176 (tX12_of l31) (Nat.le_of_ble_eq_true rfl) cdX12_of naX12_of lkX12_78 imX12_of seX12_of in1_0 sh1_0 rfl rfl rfl (Nat.le_of_ble_eq_true rfl) (z_iretQ dX12_node_179 rfl (by cases h; rfl)))))
    have h := ziF h c30
    by_cases c33 : a2 = (nI 9)
    · have h := ziT h c33
      refine z_tabIn (off := 136) (tgt := 180) dX12_node_44 (by rw [c33]; decide) (by rw [c33]; decide) (by rw [c33]; decide) (by decide) ?_
      obtain ⟨r35, l34, h⟩ := zbd_some h
      exact z_aload dX12_node_180 rfl (z_iload dX12_node_181 rfl (z_const dX12_node_182 (z_callV dX12_node_184 (tX12_of l34) (Nat.le_of_ble_eq_true rfl) cdX12_of naX12_of lkX12_78 imX12_of seX12_of in1_0 sh1_0 rfl rfl rfl (Nat.le_of_ble_eq_true rfl) (z_iretQ dX12_node_187 rfl (by cases h; rfl)))))
    have h := ziF h c33
    refine z_tabOut (tgt := 188) dX12_node_44 (by decide) (zsw_out (zsw_s (zsw_s (zsw_s (zsw_s (zsw_s (zsw_s (zsw_s (zsw_s (zsw_s (zsw_s zsw_0 c4) c7) c10) c13) c18) c21) c24) c27) c30) c33) (by decide)) ?_
    obtain ⟨r38, l37, h⟩ := zbd_some h
    exact z_aload dX12_node_188 rfl (z_iload dX12_node_189 rfl (z_const dX12_node_190 (z_callV dX12_node_192 (tX12_of l37) (Nat.le_of_ble_eq_true rfl) cdX12_of naX12_of lkX12_78 imX12_of seX12_of in1_0 sh1_0 rfl rfl rfl (Nat.le_of_ble_eq_true rfl) (z_iretQ dX12_node_195 rfl (by cases h; rfl)))))
  · have h := ziF h (c3)
    exact z_const dX12_node_41 (z_iretQ dX12_node_42 rfl (by cases h; rfl))
def eX12_node (x0 x1 : Int32) (X : zX) : Option (Int32 × zX) := zbd (eX12_noNode x0 (zw X 0 0 (nI 0))) fun r2 => zbd (eX12_throwsIf r2 (nI 1) (zw X 0 0 (nI 0))) fun y4 => if y4.1 = 0 then if (¬ (x1 < (nI 0))) ∧ (¬ ((nI 10) < x1)) then jX12_node_34 x0 x1 (nI 0) y4.2 else jX12_node_34 x0 x1 (nI 1) y4.2 else some ((nI 0), y4.2)
set_option maxRecDepth 20000 in
set_option maxHeartbeats 4000000 in
theorem tX12_node {μ : zM} {x0 x1 : Int32} {X : zX} {ρ : Int32 × zX} (h : eX12_node x0 x1 X = some ρ) : LM mX12_node 3 [zq 1 0, zi x0, zi x1] (zg μ 1 X) (some (zi ρ.1)) (zg μ 1 ρ.2) := by
  unfold eX12_node at h
  refine LM.of (by decide +kernel) rfl (Nat.le_of_ble_eq_true rfl) ?_
  show zJ mX12_node 3 (0, 0) (0, 0) _ 0 [some (zq 1 0), some (zi x0), some (zi x1)] [] _
  obtain ⟨r2, l1, h⟩ := zbd_some h
  obtain ⟨y4, l3, h⟩ := zbd_some h
  refine z_aload dX12_node_0 rfl (z_const dX12_node_1 (z_putI dX12_node_2 fkX12_3 in1_0 sh1_0 rfl (fun _ _ _ h => by cases h; rfl) ⟨_, rfl, rfl, rfl⟩ (z_aload dX12_node_5 rfl (z_aload dX12_node_6 rfl (z_iload dX12_node_7 rfl (z_callV dX12_node_8 (tX12_noNode l1) (Nat.le_of_ble_eq_true rfl) cdX12_noNode naX12_noNode lkX12_330 imX12_noNode seX12_noNode in1_0 sh1_0 rfl rfl rfl (Nat.le_of_ble_eq_true rfl) (z_const dX12_node_11 (z_callV dX12_node_12 (tX12_throwsIf l3) (Nat.le_of_ble_eq_true rfl) cdX12_throwsIf naX12_throwsIf lkX12_188 imX12_throwsIf seX12_throwsIf in1_0 sh1_0 rfl rfl rfl (Nat.le_of_ble_eq_true rfl) (z_if_ne dX12_node_15 (fun c5 => ?_) (fun c5 => ?_))))))))))
  · have h := ziF h (c5)
    exact z_const dX12_node_41 (z_iretQ dX12_node_42 rfl (by cases h; rfl))
  · have h := ziT h (c5)
    refine z_aload dX12_node_18 rfl (z_iload dX12_node_19 rfl (z_const dX12_node_20 (z_const dX12_node_21 (z_callS dX12_node_23 (tX12_in) (Nat.le_of_ble_eq_true rfl) cdX12_in naX12_in lkX12_71 stX12_in rfl rfl (Nat.le_of_ble_eq_true rfl) (z_if_ne dX12_node_26 (fun c6 => ?_) (fun c6 => ?_))))))
    · have h := ziT h (zB_n0.mp c6)
      exact z_const dX12_node_33 (z_mask [true, true, true] (sX12_node_34 h))
    · have h := ziF h (zB_0.mp c6)
      exact z_const dX12_node_29 (z_goto dX12_node_30 (z_mask [true, true, true] (sX12_node_34 h)))
-- X12_number
def jX12_number_51 (F : Nat) (K6 : Int32 → Int32 → Int32 → zX → Option (Int32 × zX)) (a1 a2 b0 : Int32) (X : zX) : Option (Int32 × zX) := K6 a1 a2 b0 (zw X 0 8 ((X 0 8) + (nI 1)))
set_option maxRecDepth 20000 in
set_option maxHeartbeats 4000000 in
theorem sX12_number_51 {μ : zM} {F : Nat} {K6 : Int32 → Int32 → Int32 → zX → Option (Int32 × zX)} (hK6 : ∀ {xa1 xa2 xa3 : Int32} {xX : zX} {ρ : Int32 × zX}, K6 xa1 xa2 xa3 xX = some ρ → zJ mX12_number 3 (0, 0) (0, 0) (zQ (some (zi ρ.1)) (zg μ 1 ρ.2)) 6 [some (zq 1 0), some (zi xa1), some (zi xa2), some (zi xa3)] [] (zg μ 1 xX)) {a1 a2 b0 : Int32} {X : zX} {ρ : Int32 × zX} (h : jX12_number_51 F K6 a1 a2 b0 X = some ρ) : zJ mX12_number 3 (0, 0) (0, 0) (zQ (some (zi ρ.1)) (zg μ 1 ρ.2)) 51 [some (zq 1 0), some (zi a1), some (zi a2), none] [zi b0] (zg μ 1 X) := by
  unfold jX12_number_51 at h
  exact z_istore dX12_number_51 (Nat.le_of_ble_eq_true rfl) (z_aload dX12_number_52 rfl (z_dup dX12_number_53 rfl (z_getI dX12_number_54 fkX12_89 in1_0 sh1_0 rfl (z_const dX12_number_57 (z_iadd dX12_number_58 (z_putI dX12_number_59 fkX12_89 in1_0 sh1_0 rfl (fun _ _ _ h => by cases h; rfl) ⟨_, rfl, rfl, rfl⟩ (z_goto dX12_number_62 (z_mask [true, true, true, true] (hK6 h)))))))))
def hX12_number_6 (F : Nat) : Nat → Int32 → Int32 → Int32 → zX → Option (Int32 × zX)
  | 0, _, _, _, _ => none
  | n + 1, a1, a2, a3, X => zbd (eX12_isAt (nI 48) (nI 57) X) fun r2 => if r2 = 0 then if (X 0 8) = (X 0 10) then some ((-1), X) else if (nI 3) < ((X 0 8) - (X 0 10)) then some ((-1), X) else if a3 < a1 then some ((-1), X) else if a3 ≤ a2 then some (a3, X) else some ((-1), X) else if (nI 3) ≤ ((X 0 8) - (X 0 10)) then jX12_number_51 F (hX12_number_6 F n) a1 a2 a3 X else zchk (zin (X 0 8) 400) (jX12_number_51 F (hX12_number_6 F n) a1 a2 ((((nI 10) * a3) + (X 5 (zn (X 0 8)))) - (nI 48)) X)
set_option maxRecDepth 20000 in
set_option maxHeartbeats 4000000 in
theorem sX12_number_6 {μ : zM} {F : Nat} : ∀ {n : Nat} {a1 a2 a3 : Int32} {X : zX} {ρ : Int32 × zX}, hX12_number_6 F n a1 a2 a3 X = some ρ → zJ mX12_number 3 (0, 0) (0, 0) (zQ (some (zi ρ.1)) (zg μ 1 ρ.2)) 6 [some (zq 1 0), some (zi a1), some (zi a2), some (zi a3)] [] (zg μ 1 X) := by
  intro n
  induction n with
  | zero => intro a1 a2 a3 X ρ h; exact nomatch (show (none : Option _) = some ρ from h)
  | succ n ih =>
    intro a1 a2 a3 X ρ h
    have hK6 := @ih
    rw [hX12_number_6] at h
    obtain ⟨r2, l1, h⟩ := zbd_some h
    refine z_aload dX12_number_6 rfl (z_const dX12_number_7 (z_const dX12_number_9 (z_callV dX12_number_11 (tX12_isAt l1) (Nat.le_of_ble_eq_true rfl) cdX12_isAt naX12_isAt lkX12_95 imX12_isAt seX12_isAt in1_0 sh1_0 rfl rfl rfl (Nat.le_of_ble_eq_true rfl) (z_if_eq dX12_number_14 (fun c3 => ?_) (fun c3 => ?_)))))
    · have h := ziT h (c3)
      refine z_aload dX12_number_65 rfl (z_getI dX12_number_66 fkX12_89 in1_0 sh1_0 rfl (z_aload dX12_number_69 rfl (z_getI dX12_number_70 fkX12_98 in1_0 sh1_0 rfl (z_icmp_eq dX12_number_73 (fun c4 => ?_) (fun c4 => ?_)))))
      · have h := ziT h (c4)
        exact z_const dX12_number_99 (z_goto dX12_number_100 (z_iretQ dX12_number_104 rfl (by cases h; rfl)))
      · have h := ziF h (c4)
        refine z_aload dX12_number_76 rfl (z_getI dX12_number_77 fkX12_89 in1_0 sh1_0 rfl (z_aload dX12_number_80 rfl (z_getI dX12_number_81 fkX12_98 in1_0 sh1_0 rfl (z_isub dX12_number_84 (z_const dX12_number_85 (z_icmp_gt dX12_number_86 (fun c5 => ?_) (fun c5 => ?_)))))))
        · have h := ziT h (c5)
          exact z_const dX12_number_99 (z_goto dX12_number_100 (z_iretQ dX12_number_104 rfl (by cases h; rfl)))
        · have h := ziF h (c5)
          refine z_iload dX12_number_89 rfl (z_iload dX12_number_90 rfl (z_icmp_lt dX12_number_91 (fun c6 => ?_) (fun c6 => ?_)))
          · have h := ziT h (c6)
            exact z_const dX12_number_99 (z_goto dX12_number_100 (z_iretQ dX12_number_104 rfl (by cases h; rfl)))
          · have h := ziF h (c6)
            refine z_iload dX12_number_94 rfl (z_iload dX12_number_95 rfl (z_icmp_le dX12_number_96 (fun c7 => ?_) (fun c7 => ?_)))
            · have h := ziT h (c7)
              exact z_iload dX12_number_103 rfl (z_iretQ dX12_number_104 rfl (by cases h; rfl))
            · have h := ziF h (c7)
              exact z_const dX12_number_99 (z_goto dX12_number_100 (z_iretQ dX12_number_104 rfl (by cases h; rfl)))
    · have h := ziF h (c3)
      refine z_aload dX12_number_17 rfl (z_getI dX12_number_18 fkX12_89 in1_0 sh1_0 rfl (z_aload dX12_number_21 rfl (z_getI dX12_number_22 fkX12_98 in1_0 sh1_0 rfl (z_isub dX12_number_25 (z_const dX12_number_26 (z_icmp_ge dX12_number_27 (fun c8 => ?_) (fun c8 => ?_)))))))
      · have h := ziT h (c8)
        exact z_iload dX12_number_50 rfl (z_mask [true, true, true, false] (sX12_number_51 hK6 h))
      · have h := ziF h (c8)
        obtain ⟨s9, h⟩ := zchk_some h
        refine z_const dX12_number_30 (z_iload dX12_number_32 rfl (z_imul dX12_number_33 (z_aload dX12_number_34 rfl (z_getR dX12_number_35 fkX12_26 in1_0 sh1_0 rfl (z_aload dX12_number_38 rfl (z_getI dX12_number_39 fkX12_89 in1_0 sh1_0 rfl (z_bald dX12_number_42 in1_5 sh1_5 (zin_vp s9) (z_iadd dX12_number_43 (z_const dX12_number_44 (z_isub dX12_number_46 (z_goto dX12_number_47 ?_)))))))))))
        exact z_mask [true, true, true, false] (sX12_number_51 hK6 h)
def eX12_number (F : Nat) (x0 x1 : Int32) (X : zX) : Option (Int32 × zX) := zbd (eX12_blanks F X) fun y2 => hX12_number_6 F F x0 x1 (nI 0) y2
set_option maxRecDepth 20000 in
set_option maxHeartbeats 4000000 in
theorem tX12_number {μ : zM} {F : Nat} {x0 x1 : Int32} {X : zX} {ρ : Int32 × zX} (h : eX12_number F x0 x1 X = some ρ) : LM mX12_number 3 [zq 1 0, zi x0, zi x1] (zg μ 1 X) (some (zi ρ.1)) (zg μ 1 ρ.2) := by
  unfold eX12_number at h
  refine LM.of (by decide +kernel) rfl (Nat.le_of_ble_eq_true rfl) ?_
  show zJ mX12_number 3 (0, 0) (0, 0) _ 0 [some (zq 1 0), some (zi x0), some (zi x1), none] [] _
  obtain ⟨y2, l1, h⟩ := zbd_some h
  exact z_aload dX12_number_0 rfl (z_callV dX12_number_1 (tX12_blanks l1) (Nat.le_of_ble_eq_true rfl) cdX12_blanks naX12_blanks lkX12_101 imX12_blanks seX12_blanks in1_0 sh1_0 rfl rfl rfl (Nat.le_of_ble_eq_true rfl) (z_const dX12_number_4 (z_istore dX12_number_5 (Nat.le_of_ble_eq_true rfl) (z_mask [true, true, true, true] (sX12_number_6 h)))))
-- X12_ofPacket
def eX12_ofPacket (x0 x1 x2 : Int32) (X : zX) : Option (Int32) := zchk (zin (((nI 18) + ((nI 244) * x0)) + (((nI 28) + ((nI 18) * x1)) + x2)) 2422) (some (X 1 (zn (((nI 18) + ((nI 244) * x0)) + (((nI 28) + ((nI 18) * x1)) + x2)))))
set_option maxRecDepth 20000 in
set_option maxHeartbeats 4000000 in
theorem tX12_ofPacket {μ : zM} {x0 x1 x2 : Int32} {X : zX} {ρ : Int32} (h : eX12_ofPacket x0 x1 x2 X = some ρ) : LM mX12_ofPacket 3 [zq 1 0, zi x0, zi x1, zi x2] (zg μ 1 X) (some (zi ρ)) (zg μ 1 X) := by
  unfold eX12_ofPacket at h
  refine LM.of (by decide +kernel) rfl (Nat.le_of_ble_eq_true rfl) ?_
  show zJ mX12_ofPacket 3 (0, 0) (0, 0) _ 0 [some (zq 1 0), some (zi x0), some (zi x1), some (zi x2)] [] _
  obtain ⟨s1, h⟩ := zchk_some h
  exact z_aload dX12_ofPacket_0 rfl (z_getR dX12_ofPacket_1 fkX12_13 in1_0 sh1_0 rfl (z_iload dX12_ofPacket_4 rfl (z_iload dX12_ofPacket_5 rfl (z_iload dX12_ofPacket_6 rfl (z_callS dX12_ofPacket_7 (tX12_packetAt) (Nat.le_of_ble_eq_true rfl) cdX12_packetAt naX12_packetAt lkX12_60 stX12_packetAt rfl rfl (Nat.le_of_ble_eq_true rfl) (z_iald dX12_ofPacket_10 in1_1 sh1_1 (zin_vp s1) (z_iretQ dX12_ofPacket_11 rfl (by cases h; rfl))))))))
-- X12_reachOf
def jX12_reachOf_50 (F : Nat) (K7 : Int32 → Int32 → Int32 → Int32 → zX → Option (Int32)) (a1 a2 a4 b0 b1 : Int32) (X : zX) : Option (Int32) := K7 a1 a2 (b1 ||| b0) (a4 + (nI 1)) X
set_option maxRecDepth 20000 in
set_option maxHeartbeats 4000000 in
theorem sX12_reachOf_50 {μ : zM} {F : Nat} {K7 : Int32 → Int32 → Int32 → Int32 → zX → Option (Int32)} (hK7 : ∀ {xa1 xa2 xa3 xa4 : Int32} {xX : zX} {ρ : Int32}, K7 xa1 xa2 xa3 xa4 xX = some ρ → zJ mX12_reachOf 3 (0, 0) (0, 0) (zQ (some (zi ρ)) (zg μ 1 xX)) 7 [some (zq 1 0), some (zi xa1), some (zi xa2), some (zi xa3), some (zi xa4)] [] (zg μ 1 xX)) {a1 a2 a4 b0 b1 : Int32} {X : zX} {ρ : Int32} (h : jX12_reachOf_50 F K7 a1 a2 a4 b0 b1 X = some ρ) : zJ mX12_reachOf 3 (0, 0) (0, 0) (zQ (some (zi ρ)) (zg μ 1 X)) 50 [some (zq 1 0), some (zi a1), some (zi a2), none, some (zi a4)] [zi b0, zi b1] (zg μ 1 X) := by
  unfold jX12_reachOf_50 at h
  exact z_ior dX12_reachOf_50 (z_istore dX12_reachOf_51 (Nat.le_of_ble_eq_true rfl) (z_iinc dX12_reachOf_52 (Nat.le_of_ble_eq_true rfl) rfl (z_goto dX12_reachOf_55 (z_mask [true, true, true, true, true] (hK7 h)))))
def jX12_reachOf_49 (F : Nat) (K7 : Int32 → Int32 → Int32 → Int32 → zX → Option (Int32)) (a1 a2 a4 b0 : Int32) (X : zX) : Option (Int32) := jX12_reachOf_50 F K7 a1 a2 a4 (nI 0) b0 X
set_option maxRecDepth 20000 in
set_option maxHeartbeats 4000000 in
theorem sX12_reachOf_49 {μ : zM} {F : Nat} {K7 : Int32 → Int32 → Int32 → Int32 → zX → Option (Int32)} (hK7 : ∀ {xa1 xa2 xa3 xa4 : Int32} {xX : zX} {ρ : Int32}, K7 xa1 xa2 xa3 xa4 xX = some ρ → zJ mX12_reachOf 3 (0, 0) (0, 0) (zQ (some (zi ρ)) (zg μ 1 xX)) 7 [some (zq 1 0), some (zi xa1), some (zi xa2), some (zi xa3), some (zi xa4)] [] (zg μ 1 xX)) {a1 a2 a4 b0 : Int32} {X : zX} {ρ : Int32} (h : jX12_reachOf_49 F K7 a1 a2 a4 b0 X = some ρ) : zJ mX12_reachOf 3 (0, 0) (0, 0) (zQ (some (zi ρ)) (zg μ 1 X)) 49 [some (zq 1 0), some (zi a1), some (zi a2), none, some (zi a4)] [zi b0] (zg μ 1 X) := by
  unfold jX12_reachOf_49 at h
  exact z_const dX12_reachOf_49 (z_mask [true, true, true, false, true] (sX12_reachOf_50 hK7 h))
def hX12_reachOf_7 (F : Nat) : Nat → Int32 → Int32 → Int32 → Int32 → zX → Option (Int32)
  | 0, _, _, _, _, _ => none
  | n + 1, a1, a2, a3, a4, X => if (X 1 0) ≤ a4 then some a3 else zbd (eX12_isWay a1 a4 X) fun r3 => if r3 = 0 then jX12_reachOf_49 F (hX12_reachOf_7 F n) a1 a2 a4 a3 X else zchk (zin (((nI 6) * a1) + a4) 36) (if a2 < (X 9 (zn (((nI 6) * a1) + a4))) then jX12_reachOf_49 F (hX12_reachOf_7 F n) a1 a2 a4 a3 X else jX12_reachOf_50 F (hX12_reachOf_7 F n) a1 a2 a4 ((nI 1) <<< (a4 &&& 31)) a3 X)
set_option maxRecDepth 20000 in
set_option maxHeartbeats 4000000 in
theorem sX12_reachOf_7 {μ : zM} {F : Nat} : ∀ {n : Nat} {a1 a2 a3 a4 : Int32} {X : zX} {ρ : Int32}, hX12_reachOf_7 F n a1 a2 a3 a4 X = some ρ → zJ mX12_reachOf 3 (0, 0) (0, 0) (zQ (some (zi ρ)) (zg μ 1 X)) 7 [some (zq 1 0), some (zi a1), some (zi a2), some (zi a3), some (zi a4)] [] (zg μ 1 X) := by
  intro n
  induction n with
  | zero => intro a1 a2 a3 a4 X ρ h; exact nomatch (show (none : Option _) = some ρ from h)
  | succ n ih =>
    intro a1 a2 a3 a4 X ρ h
    have hK7 := @ih
    rw [hX12_reachOf_7] at h
    refine z_iload dX12_reachOf_7 rfl (z_aload dX12_reachOf_9 rfl (z_callV dX12_reachOf_10 (tX12_nodes) (Nat.le_of_ble_eq_true rfl) cdX12_nodes naX12_nodes lkX12_67 imX12_nodes seX12_nodes in1_0 sh1_0 rfl rfl rfl (Nat.le_of_ble_eq_true rfl) (z_icmp_ge dX12_reachOf_13 (fun c1 => ?_) (fun c1 => ?_))))
    · have h := ziT h (c1)
      exact z_iload dX12_reachOf_58 rfl (z_iretQ dX12_reachOf_59 rfl (by cases h; rfl))
    · have h := ziF h (c1)
      obtain ⟨r3, l2, h⟩ := zbd_some h
      refine z_iload dX12_reachOf_16 rfl (z_aload dX12_reachOf_17 rfl (z_iload dX12_reachOf_18 rfl (z_iload dX12_reachOf_19 rfl (z_callV dX12_reachOf_21 (tX12_isWay l2) (Nat.le_of_ble_eq_true rfl) cdX12_isWay naX12_isWay lkX12_204 imX12_isWay seX12_isWay in1_0 sh1_0 rfl rfl rfl (Nat.le_of_ble_eq_true rfl) (z_if_eq dX12_reachOf_24 (fun c4 => ?_) (fun c4 => ?_))))))
      · have h := ziT h (c4)
        exact z_mask [true, true, true, false, true] (sX12_reachOf_49 hK7 h)
      · have h := ziF h (c4)
        obtain ⟨s5, h⟩ := zchk_some h
        refine z_aload dX12_reachOf_27 rfl (z_getR dX12_reachOf_28 fkX12_42 in1_0 sh1_0 rfl (z_iload dX12_reachOf_31 rfl (z_iload dX12_reachOf_32 rfl (z_callS dX12_reachOf_34 (tX12_at) (Nat.le_of_ble_eq_true rfl) cdX12_at naX12_at lkX12_193 stX12_at rfl rfl (Nat.le_of_ble_eq_true rfl) (z_iald dX12_reachOf_37 in1_9 sh1_9 (zin_vp s5) (z_iload dX12_reachOf_38 rfl (z_icmp_gt dX12_reachOf_39 (fun c6 => ?_) (fun c6 => ?_))))))))
        · have h := ziT h (c6)
          exact z_mask [true, true, true, false, true] (sX12_reachOf_49 hK7 h)
        · have h := ziF h (c6)
          exact z_const dX12_reachOf_42 (z_iload dX12_reachOf_43 rfl (z_ishl dX12_reachOf_45 (z_goto dX12_reachOf_46 (z_mask [true, true, true, false, true] (sX12_reachOf_50 hK7 h)))))
def eX12_reachOf (F : Nat) (x0 x1 : Int32) (X : zX) : Option (Int32) := hX12_reachOf_7 F F x0 x1 ((nI 1) <<< (x0 &&& 31)) (nI 0) X
set_option maxRecDepth 20000 in
set_option maxHeartbeats 4000000 in
theorem tX12_reachOf {μ : zM} {F : Nat} {x0 x1 : Int32} {X : zX} {ρ : Int32} (h : eX12_reachOf F x0 x1 X = some ρ) : LM mX12_reachOf 3 [zq 1 0, zi x0, zi x1] (zg μ 1 X) (some (zi ρ)) (zg μ 1 X) := by
  unfold eX12_reachOf at h
  refine LM.of (by decide +kernel) rfl (Nat.le_of_ble_eq_true rfl) ?_
  show zJ mX12_reachOf 3 (0, 0) (0, 0) _ 0 [some (zq 1 0), some (zi x0), some (zi x1), none, none] [] _
  exact z_const dX12_reachOf_0 (z_iload dX12_reachOf_1 rfl (z_ishl dX12_reachOf_2 (z_istore dX12_reachOf_3 (Nat.le_of_ble_eq_true rfl) (z_const dX12_reachOf_4 (z_istore dX12_reachOf_5 (Nat.le_of_ble_eq_true rfl) (z_mask [true, true, true, true, true] (sX12_reachOf_7 h)))))))
-- X12_sentByAll
def hX12_sentByAll_4 (F : Nat) : Nat → Int32 → Int32 → Int32 → zX → Option (Int32)
  | 0, _, _, _, _ => none
  | n + 1, a1, a2, a3, X => if (X 1 0) ≤ a3 then some a2 else zbd (eX12_of a3 a1 X) fun r3 => (hX12_sentByAll_4 F n) a1 (a2 + r3) (a3 + (nI 1)) X
set_option maxRecDepth 20000 in
set_option maxHeartbeats 4000000 in
theorem sX12_sentByAll_4 {μ : zM} {F : Nat} : ∀ {n : Nat} {a1 a2 a3 : Int32} {X : zX} {ρ : Int32}, hX12_sentByAll_4 F n a1 a2 a3 X = some ρ → zJ mX12_sentByAll 3 (0, 0) (0, 0) (zQ (some (zi ρ)) (zg μ 1 X)) 4 [some (zq 1 0), some (zi a1), some (zi a2), some (zi a3)] [] (zg μ 1 X) := by
  intro n
  induction n with
  | zero => intro a1 a2 a3 X ρ h; exact nomatch (show (none : Option _) = some ρ from h)
  | succ n ih =>
    intro a1 a2 a3 X ρ h
    have hK4 := @ih
    rw [hX12_sentByAll_4] at h
    refine z_iload dX12_sentByAll_4 rfl (z_aload dX12_sentByAll_5 rfl (z_callV dX12_sentByAll_6 (tX12_nodes) (Nat.le_of_ble_eq_true rfl) cdX12_nodes naX12_nodes lkX12_67 imX12_nodes seX12_nodes in1_0 sh1_0 rfl rfl rfl (Nat.le_of_ble_eq_true rfl) (z_icmp_ge dX12_sentByAll_9 (fun c1 => ?_) (fun c1 => ?_))))
    · have h := ziT h (c1)
      exact z_iload dX12_sentByAll_27 rfl (z_iretQ dX12_sentByAll_28 rfl (by cases h; rfl))
    · have h := ziF h (c1)
      obtain ⟨r3, l2, h⟩ := zbd_some h
      exact z_iload dX12_sentByAll_12 rfl (z_aload dX12_sentByAll_13 rfl (z_iload dX12_sentByAll_14 rfl (z_iload dX12_sentByAll_15 rfl (z_callV dX12_sentByAll_16 (tX12_of l2) (Nat.le_of_ble_eq_true rfl) cdX12_of naX12_of lkX12_78 imX12_of seX12_of in1_0 sh1_0 rfl rfl rfl (Nat.le_of_ble_eq_true rfl) (z_iadd dX12_sentByAll_19 (z_istore dX12_sentByAll_20 (Nat.le_of_ble_eq_true rfl) (z_iinc dX12_sentByAll_21 (Nat.le_of_ble_eq_true rfl) rfl (z_goto dX12_sentByAll_24 (z_mask [true, true, true, true] (hK4 h))))))))))
def eX12_sentByAll (F : Nat) (x0 : Int32) (X : zX) : Option (Int32) := hX12_sentByAll_4 F F x0 (nI 0) (nI 0) X
set_option maxRecDepth 20000 in
set_option maxHeartbeats 4000000 in
theorem tX12_sentByAll {μ : zM} {F : Nat} {x0 : Int32} {X : zX} {ρ : Int32} (h : eX12_sentByAll F x0 X = some ρ) : LM mX12_sentByAll 3 [zq 1 0, zi x0] (zg μ 1 X) (some (zi ρ)) (zg μ 1 X) := by
  unfold eX12_sentByAll at h
  refine LM.of (by decide +kernel) rfl (Nat.le_of_ble_eq_true rfl) ?_
  show zJ mX12_sentByAll 3 (0, 0) (0, 0) _ 0 [some (zq 1 0), some (zi x0), none, none] [] _
  exact z_const dX12_sentByAll_0 (z_istore dX12_sentByAll_1 (Nat.le_of_ble_eq_true rfl) (z_const dX12_sentByAll_2 (z_istore dX12_sentByAll_3 (Nat.le_of_ble_eq_true rfl) (z_mask [true, true, true, true] (sX12_sentByAll_4 h)))))
-- X12_waysOf
def jX12_waysOf_27 (F : Nat) (K4 : Int32 → Int32 → Int32 → zX → Option (Int32)) (a1 a3 b0 b1 : Int32) (X : zX) : Option (Int32) := K4 a1 (b1 + b0) (a3 + (nI 1)) X
set_option maxRecDepth 20000 in
set_option maxHeartbeats 4000000 in
theorem sX12_waysOf_27 {μ : zM} {F : Nat} {K4 : Int32 → Int32 → Int32 → zX → Option (Int32)} (hK4 : ∀ {xa1 xa2 xa3 : Int32} {xX : zX} {ρ : Int32}, K4 xa1 xa2 xa3 xX = some ρ → zJ mX12_waysOf 3 (0, 0) (0, 0) (zQ (some (zi ρ)) (zg μ 1 xX)) 4 [some (zq 1 0), some (zi xa1), some (zi xa2), some (zi xa3)] [] (zg μ 1 xX)) {a1 a3 b0 b1 : Int32} {X : zX} {ρ : Int32} (h : jX12_waysOf_27 F K4 a1 a3 b0 b1 X = some ρ) : zJ mX12_waysOf 3 (0, 0) (0, 0) (zQ (some (zi ρ)) (zg μ 1 X)) 27 [some (zq 1 0), some (zi a1), none, some (zi a3)] [zi b0, zi b1] (zg μ 1 X) := by
  unfold jX12_waysOf_27 at h
  exact z_iadd dX12_waysOf_27 (z_istore dX12_waysOf_28 (Nat.le_of_ble_eq_true rfl) (z_iinc dX12_waysOf_29 (Nat.le_of_ble_eq_true rfl) rfl (z_goto dX12_waysOf_32 (z_mask [true, true, true, true] (hK4 h)))))
def hX12_waysOf_4 (F : Nat) : Nat → Int32 → Int32 → Int32 → zX → Option (Int32)
  | 0, _, _, _, _ => none
  | n + 1, a1, a2, a3, X => if (X 1 0) ≤ a3 then some a2 else zbd (eX12_isWay a1 a3 X) fun r3 => if r3 = 0 then jX12_waysOf_27 F (hX12_waysOf_4 F n) a1 a3 (nI 0) a2 X else jX12_waysOf_27 F (hX12_waysOf_4 F n) a1 a3 (nI 1) a2 X
set_option maxRecDepth 20000 in
set_option maxHeartbeats 4000000 in
theorem sX12_waysOf_4 {μ : zM} {F : Nat} : ∀ {n : Nat} {a1 a2 a3 : Int32} {X : zX} {ρ : Int32}, hX12_waysOf_4 F n a1 a2 a3 X = some ρ → zJ mX12_waysOf 3 (0, 0) (0, 0) (zQ (some (zi ρ)) (zg μ 1 X)) 4 [some (zq 1 0), some (zi a1), some (zi a2), some (zi a3)] [] (zg μ 1 X) := by
  intro n
  induction n with
  | zero => intro a1 a2 a3 X ρ h; exact nomatch (show (none : Option _) = some ρ from h)
  | succ n ih =>
    intro a1 a2 a3 X ρ h
    have hK4 := @ih
    rw [hX12_waysOf_4] at h
    refine z_iload dX12_waysOf_4 rfl (z_aload dX12_waysOf_5 rfl (z_callV dX12_waysOf_6 (tX12_nodes) (Nat.le_of_ble_eq_true rfl) cdX12_nodes naX12_nodes lkX12_67 imX12_nodes seX12_nodes in1_0 sh1_0 rfl rfl rfl (Nat.le_of_ble_eq_true rfl) (z_icmp_ge dX12_waysOf_9 (fun c1 => ?_) (fun c1 => ?_))))
    · have h := ziT h (c1)
      exact z_iload dX12_waysOf_35 rfl (z_iretQ dX12_waysOf_36 rfl (by cases h; rfl))
    · have h := ziF h (c1)
      obtain ⟨r3, l2, h⟩ := zbd_some h
      refine z_iload dX12_waysOf_12 rfl (z_aload dX12_waysOf_13 rfl (z_iload dX12_waysOf_14 rfl (z_iload dX12_waysOf_15 rfl (z_callV dX12_waysOf_16 (tX12_isWay l2) (Nat.le_of_ble_eq_true rfl) cdX12_isWay naX12_isWay lkX12_204 imX12_isWay seX12_isWay in1_0 sh1_0 rfl rfl rfl (Nat.le_of_ble_eq_true rfl) (z_if_eq dX12_waysOf_19 (fun c4 => ?_) (fun c4 => ?_))))))
      · have h := ziT h (c4)
        exact z_const dX12_waysOf_26 (z_mask [true, true, false, true] (sX12_waysOf_27 hK4 h))
      · have h := ziF h (c4)
        exact z_const dX12_waysOf_22 (z_goto dX12_waysOf_23 (z_mask [true, true, false, true] (sX12_waysOf_27 hK4 h)))
def eX12_waysOf (F : Nat) (x0 : Int32) (X : zX) : Option (Int32) := hX12_waysOf_4 F F x0 (nI 0) (nI 0) X
set_option maxRecDepth 20000 in
set_option maxHeartbeats 4000000 in
theorem tX12_waysOf {μ : zM} {F : Nat} {x0 : Int32} {X : zX} {ρ : Int32} (h : eX12_waysOf F x0 X = some ρ) : LM mX12_waysOf 3 [zq 1 0, zi x0] (zg μ 1 X) (some (zi ρ)) (zg μ 1 X) := by
  unfold eX12_waysOf at h
  refine LM.of (by decide +kernel) rfl (Nat.le_of_ble_eq_true rfl) ?_
  show zJ mX12_waysOf 3 (0, 0) (0, 0) _ 0 [some (zq 1 0), some (zi x0), none, none] [] _
  exact z_const dX12_waysOf_0 (z_istore dX12_waysOf_1 (Nat.le_of_ble_eq_true rfl) (z_const dX12_waysOf_2 (z_istore dX12_waysOf_3 (Nat.le_of_ble_eq_true rfl) (z_mask [true, true, true, true] (sX12_waysOf_4 h)))))
-- X12_asksAnew
def eX12_asksAnew (x0 x1 : Int32) (X : zX) : Option (zX) := zbd (eX12_of x0 (nI 3) X) fun r2 => zbd (eX12_of x0 (nI 4) X) fun r4 => zbd (eX12_estOf x0 (X 1 3) X) fun r6 => zbd (eX12_ofPacket x0 x1 (nI 1) X) fun r8 => zbd (eX12_timeBy r2 r4 r6 r8 X) fun y10 => zchk (zin (((nI 18) + ((nI 244) * x0)) + (((nI 28) + ((nI 18) * x1)) + (nI 0))) 2422) (zlet (zw y10.2 1 (zn (((nI 18) + ((nI 244) * x0)) + (((nI 28) + ((nI 18) * x1)) + (nI 0)))) y10.1) fun X12 => some X12)
set_option maxRecDepth 20000 in
set_option maxHeartbeats 4000000 in
theorem tX12_asksAnew {μ : zM} {x0 x1 : Int32} {X : zX} {ρ : zX} (h : eX12_asksAnew x0 x1 X = some ρ) : LM mX12_asksAnew 4 [zq 1 0, zi x0, zi x1] (zg μ 1 X) none (zg μ 1 ρ) := by
  unfold eX12_asksAnew at h
  refine LM.of (by decide +kernel) rfl (Nat.le_of_ble_eq_true rfl) ?_
  show zJ mX12_asksAnew 4 (0, 0) (0, 0) _ 0 [some (zq 1 0), some (zi x0), some (zi x1)] [] _
  obtain ⟨r2, l1, h⟩ := zbd_some h
  refine z_aload dX12_asksAnew_0 rfl (z_getR dX12_asksAnew_1 fkX12_13 in1_0 sh1_0 rfl (z_iload dX12_asksAnew_4 rfl (z_iload dX12_asksAnew_5 rfl (z_const dX12_asksAnew_6 (z_callS dX12_asksAnew_7 (tX12_packetAt) (Nat.le_of_ble_eq_true rfl) cdX12_packetAt naX12_packetAt lkX12_60 stX12_packetAt rfl rfl (Nat.le_of_ble_eq_true rfl) (z_aload dX12_asksAnew_10 rfl (z_aload dX12_asksAnew_11 rfl (z_iload dX12_asksAnew_12 rfl (z_const dX12_asksAnew_13 (z_callV dX12_asksAnew_14 (tX12_of l1) (Nat.le_of_ble_eq_true rfl) cdX12_of naX12_of lkX12_78 imX12_of seX12_of in1_0 sh1_0 rfl rfl rfl (Nat.le_of_ble_eq_true rfl) (z_aload dX12_asksAnew_17 rfl ?_)))))))))))
  obtain ⟨r4, l3, h⟩ := zbd_some h
  obtain ⟨r6, l5, h⟩ := zbd_some h
  refine z_iload dX12_asksAnew_18 rfl (z_const dX12_asksAnew_19 (z_callV dX12_asksAnew_20 (tX12_of l3) (Nat.le_of_ble_eq_true rfl) cdX12_of naX12_of lkX12_78 imX12_of seX12_of in1_0 sh1_0 rfl rfl rfl (Nat.le_of_ble_eq_true rfl) (z_aload dX12_asksAnew_23 rfl (z_iload dX12_asksAnew_24 rfl (z_aload dX12_asksAnew_25 rfl (z_getR dX12_asksAnew_26 fkX12_13 in1_0 sh1_0 rfl (z_const dX12_asksAnew_29 (z_ialdN dX12_asksAnew_30 in1_1 sh1_1 (Nat.le_of_ble_eq_true rfl) (Nat.le_of_ble_eq_true rfl) (z_callV dX12_asksAnew_31 (tX12_estOf l5) (Nat.le_of_ble_eq_true rfl) cdX12_estOf naX12_estOf lkX12_256 imX12_estOf seX12_estOf in1_0 sh1_0 rfl rfl rfl (Nat.le_of_ble_eq_true rfl) (z_aload dX12_asksAnew_34 rfl (z_iload dX12_asksAnew_35 rfl ?_)))))))))))
  obtain ⟨r8, l7, h⟩ := zbd_some h
  obtain ⟨y10, l9, h⟩ := zbd_some h
  obtain ⟨s11, h⟩ := zchk_some h
  have h := zlet_h h
  exact z_iload dX12_asksAnew_36 rfl (z_const dX12_asksAnew_37 (z_callV dX12_asksAnew_38 (tX12_ofPacket l7) (Nat.le_of_ble_eq_true rfl) cdX12_ofPacket naX12_ofPacket lkX12_213 imX12_ofPacket seX12_ofPacket in1_0 sh1_0 rfl rfl rfl (Nat.le_of_ble_eq_true rfl) (z_callV dX12_asksAnew_41 (tX12_timeBy l9) (Nat.le_of_ble_eq_true rfl) cdX12_timeBy naX12_timeBy lkX12_259 imX12_timeBy seX12_timeBy in1_0 sh1_0 rfl rfl rfl (Nat.le_of_ble_eq_true rfl) (z_iast dX12_asksAnew_44 in1_1 sh1_1 (zin_vp s11) (z_vretQ dX12_asksAnew_45 rfl (by cases h; rfl))))))
-- X12_blind
def jX12_blind_58 (F : Nat) (K31 : Int32 → Int32 → Int32 → zX → Option (Int32 × zX)) (a1 a3 b0 b1 : Int32) (X : zX) : Option (Int32 × zX) := K31 a1 (b1 ||| b0) (a3 + (nI 1)) X
set_option maxRecDepth 20000 in
set_option maxHeartbeats 4000000 in
theorem sX12_blind_58 {μ : zM} {F : Nat} {K31 : Int32 → Int32 → Int32 → zX → Option (Int32 × zX)} (hK31 : ∀ {xa1 xa2 xa3 : Int32} {xX : zX} {ρ : Int32 × zX}, K31 xa1 xa2 xa3 xX = some ρ → zJ mX12_blind 4 (0, 0) (0, 0) (zQ (some (zi ρ.1)) (zg μ 1 ρ.2)) 31 [some (zq 1 0), some (zi xa1), some (zi xa2), some (zi xa3)] [] (zg μ 1 xX)) {a1 a3 b0 b1 : Int32} {X : zX} {ρ : Int32 × zX} (h : jX12_blind_58 F K31 a1 a3 b0 b1 X = some ρ) : zJ mX12_blind 4 (0, 0) (0, 0) (zQ (some (zi ρ.1)) (zg μ 1 ρ.2)) 58 [some (zq 1 0), some (zi a1), none, some (zi a3)] [zi b0, zi b1] (zg μ 1 X) := by
  unfold jX12_blind_58 at h
  exact z_ior dX12_blind_58 (z_istore dX12_blind_59 (Nat.le_of_ble_eq_true rfl) (z_iinc dX12_blind_60 (Nat.le_of_ble_eq_true rfl) rfl (z_goto dX12_blind_63 (z_mask [true, true, true, true] (hK31 h)))))
def hX12_blind_31 (F : Nat) : Nat → Int32 → Int32 → Int32 → zX → Option (Int32 × zX)
  | 0, _, _, _, _ => none
  | n + 1, a1, a2, a3, X => if (X 1 4) ≤ a3 then some (a2, X) else zbd (eX12_hasIt a1 a3 X) fun r3 => if r3 = 0 then jX12_blind_58 F (hX12_blind_31 F n) a1 a3 ((nI 1) <<< (a3 &&& 31)) a2 X else jX12_blind_58 F (hX12_blind_31 F n) a1 a3 (nI 0) a2 X
set_option maxRecDepth 20000 in
set_option maxHeartbeats 4000000 in
theorem sX12_blind_31 {μ : zM} {F : Nat} : ∀ {n : Nat} {a1 a2 a3 : Int32} {X : zX} {ρ : Int32 × zX}, hX12_blind_31 F n a1 a2 a3 X = some ρ → zJ mX12_blind 4 (0, 0) (0, 0) (zQ (some (zi ρ.1)) (zg μ 1 ρ.2)) 31 [some (zq 1 0), some (zi a1), some (zi a2), some (zi a3)] [] (zg μ 1 X) := by
  intro n
  induction n with
  | zero => intro a1 a2 a3 X ρ h; exact nomatch (show (none : Option _) = some ρ from h)
  | succ n ih =>
    intro a1 a2 a3 X ρ h
    have hK31 := @ih
    rw [hX12_blind_31] at h
    refine z_iload dX12_blind_31 rfl (z_aload dX12_blind_32 rfl (z_getR dX12_blind_33 fkX12_13 in1_0 sh1_0 rfl (z_const dX12_blind_36 (z_ialdN dX12_blind_37 in1_1 sh1_1 (Nat.le_of_ble_eq_true rfl) (Nat.le_of_ble_eq_true rfl) (z_icmp_ge dX12_blind_38 (fun c1 => ?_) (fun c1 => ?_))))))
    · have h := ziT h (c1)
      exact z_iload dX12_blind_66 rfl (z_iretQ dX12_blind_67 rfl (by cases h; rfl))
    · have h := ziF h (c1)
      obtain ⟨r3, l2, h⟩ := zbd_some h
      refine z_iload dX12_blind_41 rfl (z_aload dX12_blind_42 rfl (z_iload dX12_blind_43 rfl (z_iload dX12_blind_44 rfl (z_callV dX12_blind_45 (tX12_hasIt l2) (Nat.le_of_ble_eq_true rfl) cdX12_hasIt naX12_hasIt lkX12_272 imX12_hasIt seX12_hasIt in1_0 sh1_0 rfl rfl rfl (Nat.le_of_ble_eq_true rfl) (z_if_eq dX12_blind_48 (fun c4 => ?_) (fun c4 => ?_))))))
      · have h := ziT h (c4)
        exact z_const dX12_blind_55 (z_iload dX12_blind_56 rfl (z_ishl dX12_blind_57 (z_mask [true, true, false, true] (sX12_blind_58 hK31 h))))
      · have h := ziF h (c4)
        exact z_const dX12_blind_51 (z_goto dX12_blind_52 (z_mask [true, true, false, true] (sX12_blind_58 hK31 h)))
def eX12_blind (F : Nat) (x0 : Int32) (X : zX) : Option (Int32 × zX) := zbd (eX12_noNode x0 (zw X 0 0 (nI 0))) fun r2 => zbd (eX12_throwsIf r2 (nI 1) (zw X 0 0 (nI 0))) fun y4 => if y4.1 = 0 then zbd (eX12_of x0 (nI 2) y4.2) fun r7 => hX12_blind_31 F F x0 (nI 0) (r7 + (nI 1)) y4.2 else some ((nI 0), y4.2)
set_option maxRecDepth 20000 in
set_option maxHeartbeats 4000000 in
theorem tX12_blind {μ : zM} {F : Nat} {x0 : Int32} {X : zX} {ρ : Int32 × zX} (h : eX12_blind F x0 X = some ρ) : LM mX12_blind 4 [zq 1 0, zi x0] (zg μ 1 X) (some (zi ρ.1)) (zg μ 1 ρ.2) := by
  unfold eX12_blind at h
  refine LM.of (by decide +kernel) rfl (Nat.le_of_ble_eq_true rfl) ?_
  show zJ mX12_blind 4 (0, 0) (0, 0) _ 0 [some (zq 1 0), some (zi x0), none, none] [] _
  obtain ⟨r2, l1, h⟩ := zbd_some h
  obtain ⟨y4, l3, h⟩ := zbd_some h
  refine z_aload dX12_blind_0 rfl (z_const dX12_blind_1 (z_putI dX12_blind_2 fkX12_3 in1_0 sh1_0 rfl (fun _ _ _ h => by cases h; rfl) ⟨_, rfl, rfl, rfl⟩ (z_aload dX12_blind_5 rfl (z_aload dX12_blind_6 rfl (z_iload dX12_blind_7 rfl (z_callV dX12_blind_8 (tX12_noNode l1) (Nat.le_of_ble_eq_true rfl) cdX12_noNode naX12_noNode lkX12_330 imX12_noNode seX12_noNode in1_0 sh1_0 rfl rfl rfl (Nat.le_of_ble_eq_true rfl) (z_const dX12_blind_11 (z_callV dX12_blind_12 (tX12_throwsIf l3) (Nat.le_of_ble_eq_true rfl) cdX12_throwsIf naX12_throwsIf lkX12_188 imX12_throwsIf seX12_throwsIf in1_0 sh1_0 rfl rfl rfl (Nat.le_of_ble_eq_true rfl) (z_if_eq dX12_blind_15 (fun c5 => ?_) (fun c5 => ?_))))))))))
  · have h := ziT h (c5)
    obtain ⟨r7, l6, h⟩ := zbd_some h
    exact z_const dX12_blind_20 (z_istore dX12_blind_21 (Nat.le_of_ble_eq_true rfl) (z_aload dX12_blind_22 rfl (z_iload dX12_blind_23 rfl (z_const dX12_blind_24 (z_callV dX12_blind_25 (tX12_of l6) (Nat.le_of_ble_eq_true rfl) cdX12_of naX12_of lkX12_78 imX12_of seX12_of in1_0 sh1_0 rfl rfl rfl (Nat.le_of_ble_eq_true rfl) (z_const dX12_blind_28 (z_iadd dX12_blind_29 (z_istore dX12_blind_30 (Nat.le_of_ble_eq_true rfl) (z_mask [true, true, true, true] (sX12_blind_31 h))))))))))
  · have h := ziF h (c5)
    exact z_const dX12_blind_18 (z_iretQ dX12_blind_19 rfl (by cases h; rfl))
-- X12_canSend
def eX12_canSend (X : zX) : Option (Int32) := if (X 1 0) ≤ (X 1 3) then some (nI 0) else zbd (eX12_isUp (X 1 3) X) fun r3 => if r3 = 0 then some (nI 0) else if (nI 12) ≤ (X 1 4) then some (nI 0) else some (nI 1)
set_option maxRecDepth 20000 in
set_option maxHeartbeats 4000000 in
theorem tX12_canSend {μ : zM} {X : zX} {ρ : Int32} (h : eX12_canSend X = some ρ) : LM mX12_canSend 4 [zq 1 0] (zg μ 1 X) (some (zi ρ)) (zg μ 1 X) := by
  unfold eX12_canSend at h
  refine LM.of (by decide +kernel) rfl (Nat.le_of_ble_eq_true rfl) ?_
  show zJ mX12_canSend 4 (0, 0) (0, 0) _ 0 [some (zq 1 0)] [] _
  refine z_aload dX12_canSend_0 rfl (z_getR dX12_canSend_1 fkX12_13 in1_0 sh1_0 rfl (z_const dX12_canSend_4 (z_ialdN dX12_canSend_5 in1_1 sh1_1 (Nat.le_of_ble_eq_true rfl) (Nat.le_of_ble_eq_true rfl) (z_aload dX12_canSend_6 rfl (z_callV dX12_canSend_7 (tX12_nodes) (Nat.le_of_ble_eq_true rfl) cdX12_nodes naX12_nodes lkX12_67 imX12_nodes seX12_nodes in1_0 sh1_0 rfl rfl rfl (Nat.le_of_ble_eq_true rfl) (z_icmp_ge dX12_canSend_10 (fun c1 => ?_) (fun c1 => ?_)))))))
  · have h := ziT h (c1)
    exact z_const dX12_canSend_41 (z_zretQ dX12_canSend_42 rfl rfl (by cases h; rfl))
  · have h := ziF h (c1)
    obtain ⟨r3, l2, h⟩ := zbd_some h
    refine z_aload dX12_canSend_13 rfl (z_aload dX12_canSend_14 rfl (z_getR dX12_canSend_15 fkX12_13 in1_0 sh1_0 rfl (z_const dX12_canSend_18 (z_ialdN dX12_canSend_19 in1_1 sh1_1 (Nat.le_of_ble_eq_true rfl) (Nat.le_of_ble_eq_true rfl) (z_callV dX12_canSend_20 (tX12_isUp l2) (Nat.le_of_ble_eq_true rfl) cdX12_isUp naX12_isUp lkX12_287 imX12_isUp seX12_isUp in1_0 sh1_0 rfl rfl rfl (Nat.le_of_ble_eq_true rfl) (z_if_eq dX12_canSend_23 (fun c4 => ?_) (fun c4 => ?_)))))))
    · have h := ziT h (c4)
      exact z_const dX12_canSend_41 (z_zretQ dX12_canSend_42 rfl rfl (by cases h; rfl))
    · have h := ziF h (c4)
      refine z_aload dX12_canSend_26 rfl (z_getR dX12_canSend_27 fkX12_13 in1_0 sh1_0 rfl (z_const dX12_canSend_30 (z_ialdN dX12_canSend_31 in1_1 sh1_1 (Nat.le_of_ble_eq_true rfl) (Nat.le_of_ble_eq_true rfl) (z_const dX12_canSend_32 (z_icmp_ge dX12_canSend_34 (fun c5 => ?_) (fun c5 => ?_))))))
      · have h := ziT h (c5)
        exact z_const dX12_canSend_41 (z_zretQ dX12_canSend_42 rfl rfl (by cases h; rfl))
      · have h := ziF h (c5)
        exact z_const dX12_canSend_37 (z_goto dX12_canSend_38 (z_zretQ dX12_canSend_42 rfl rfl (by cases h; rfl)))
-- X12_delayOf
def eX12_delayOf (F : Nat) (x0 x1 : Int32) (X : zX) : Option (Int32) := zbd (eX12_between F x0 x1 X) fun r2 => if r2 = (-1) then some 1000000 else zbd (eX12_ofLink r2 (nI 4) X) fun r5 => if r5 = (nI 1) then some 1000000 else zbd (eX12_ofLink r2 (nI 2) X) fun r8 => some r8
set_option maxRecDepth 20000 in
set_option maxHeartbeats 4000000 in
theorem tX12_delayOf {μ : zM} {F : Nat} {x0 x1 : Int32} {X : zX} {ρ : Int32} (h : eX12_delayOf F x0 x1 X = some ρ) : LM mX12_delayOf 4 [zq 1 0, zi x0, zi x1] (zg μ 1 X) (some (zi ρ)) (zg μ 1 X) := by
  unfold eX12_delayOf at h
  refine LM.of (by decide +kernel) rfl (Nat.le_of_ble_eq_true rfl) ?_
  show zJ mX12_delayOf 4 (0, 0) (0, 0) _ 0 [some (zq 1 0), some (zi x0), some (zi x1), none] [] _
  obtain ⟨r2, l1, h⟩ := zbd_some h
  refine z_aload dX12_delayOf_0 rfl (z_iload dX12_delayOf_1 rfl (z_iload dX12_delayOf_2 rfl (z_callV dX12_delayOf_3 (tX12_between l1) (Nat.le_of_ble_eq_true rfl) cdX12_between naX12_between lkX12_142 imX12_between seX12_between in1_0 sh1_0 rfl rfl rfl (Nat.le_of_ble_eq_true rfl) (z_istore dX12_delayOf_6 (Nat.le_of_ble_eq_true rfl) (z_iload dX12_delayOf_7 rfl (z_const dX12_delayOf_8 (z_icmp_eq dX12_delayOf_9 (fun c3 => ?_) (fun c3 => ?_))))))))
  · have h := ziT h (c3)
    exact z_ldc dX12_delayOf_22 ckX12_192 (z_goto dX12_delayOf_24 (z_iretQ dX12_delayOf_33 rfl (by cases h; rfl)))
  · have h := ziF h (c3)
    obtain ⟨r5, l4, h⟩ := zbd_some h
    refine z_aload dX12_delayOf_12 rfl (z_iload dX12_delayOf_13 rfl (z_const dX12_delayOf_14 (z_callV dX12_delayOf_15 (tX12_ofLink l4) (Nat.le_of_ble_eq_true rfl) cdX12_ofLink naX12_ofLink lkX12_139 imX12_ofLink seX12_ofLink in1_0 sh1_0 rfl rfl rfl (Nat.le_of_ble_eq_true rfl) (z_const dX12_delayOf_18 (z_icmp_ne dX12_delayOf_19 (fun c6 => ?_) (fun c6 => ?_))))))
    · have h := ziF h (c6)
      obtain ⟨r8, l7, h⟩ := zbd_some h
      exact z_aload dX12_delayOf_27 rfl (z_iload dX12_delayOf_28 rfl (z_const dX12_delayOf_29 (z_callV dX12_delayOf_30 (tX12_ofLink l7) (Nat.le_of_ble_eq_true rfl) cdX12_ofLink naX12_ofLink lkX12_139 imX12_ofLink seX12_ofLink in1_0 sh1_0 rfl rfl rfl (Nat.le_of_ble_eq_true rfl) (z_iretQ dX12_delayOf_33 rfl (by cases h; rfl)))))
    · have h := ziT h (c6)
      exact z_ldc dX12_delayOf_22 ckX12_192 (z_goto dX12_delayOf_24 (z_iretQ dX12_delayOf_33 rfl (by cases h; rfl)))
-- X12_est
def jX12_est_45 (a1 a2 b0 : Int32) (X : zX) : Option (Int32 × zX) := zbd (eX12_throwsIf b0 (nI 2) X) fun y2 => if y2.1 = 0 then zbd (eX12_estOf a1 a2 y2.2) fun r5 => some (r5, y2.2) else some ((nI 0), y2.2)
set_option maxRecDepth 20000 in
set_option maxHeartbeats 4000000 in
theorem sX12_est_45 {μ : zM} {a1 a2 b0 : Int32} {X : zX} {ρ : Int32 × zX} (h : jX12_est_45 a1 a2 b0 X = some ρ) : zJ mX12_est 4 (0, 0) (0, 0) (zQ (some (zi ρ.1)) (zg μ 1 ρ.2)) 45 [some (zq 1 0), some (zi a1), some (zi a2)] [zi b0, zq 1 0] (zg μ 1 X) := by
  unfold jX12_est_45 at h
  obtain ⟨y2, l1, h⟩ := zbd_some h
  refine z_const dX12_est_45 (z_callV dX12_est_46 (tX12_throwsIf l1) (Nat.le_of_ble_eq_true rfl) cdX12_throwsIf naX12_throwsIf lkX12_188 imX12_throwsIf seX12_throwsIf in1_0 sh1_0 rfl rfl rfl (Nat.le_of_ble_eq_true rfl) (z_if_eq dX12_est_49 (fun c3 => ?_) (fun c3 => ?_)))
  · have h := ziT h (c3)
    obtain ⟨r5, l4, h⟩ := zbd_some h
    exact z_aload dX12_est_56 rfl (z_iload dX12_est_57 rfl (z_iload dX12_est_58 rfl (z_callV dX12_est_59 (tX12_estOf l4) (Nat.le_of_ble_eq_true rfl) cdX12_estOf naX12_estOf lkX12_256 imX12_estOf seX12_estOf in1_0 sh1_0 rfl rfl rfl (Nat.le_of_ble_eq_true rfl) (z_iretQ dX12_est_62 rfl (by cases h; rfl)))))
  · have h := ziF h (c3)
    exact z_const dX12_est_52 (z_goto dX12_est_53 (z_iretQ dX12_est_62 rfl (by cases h; rfl)))
def jX12_est_27 (a1 a2 b0 : Int32) (X : zX) : Option (Int32 × zX) := zbd (eX12_throwsIf b0 (nI 1) X) fun y2 => if y2.1 = 0 then if a1 = a2 then jX12_est_45 a1 a2 (nI 1) y2.2 else jX12_est_45 a1 a2 (nI 0) y2.2 else some ((nI 0), y2.2)
set_option maxRecDepth 20000 in
set_option maxHeartbeats 4000000 in
theorem sX12_est_27 {μ : zM} {a1 a2 b0 : Int32} {X : zX} {ρ : Int32 × zX} (h : jX12_est_27 a1 a2 b0 X = some ρ) : zJ mX12_est 4 (0, 0) (0, 0) (zQ (some (zi ρ.1)) (zg μ 1 ρ.2)) 27 [some (zq 1 0), some (zi a1), some (zi a2)] [zi b0, zq 1 0] (zg μ 1 X) := by
  unfold jX12_est_27 at h
  obtain ⟨y2, l1, h⟩ := zbd_some h
  refine z_const dX12_est_27 (z_callV dX12_est_28 (tX12_throwsIf l1) (Nat.le_of_ble_eq_true rfl) cdX12_throwsIf naX12_throwsIf lkX12_188 imX12_throwsIf seX12_throwsIf in1_0 sh1_0 rfl rfl rfl (Nat.le_of_ble_eq_true rfl) (z_if_ne dX12_est_31 (fun c3 => ?_) (fun c3 => ?_)))
  · have h := ziF h (c3)
    exact z_const dX12_est_52 (z_goto dX12_est_53 (z_iretQ dX12_est_62 rfl (by cases h; rfl)))
  · have h := ziT h (c3)
    refine z_aload dX12_est_34 rfl (z_iload dX12_est_35 rfl (z_iload dX12_est_36 rfl (z_icmp_ne dX12_est_37 (fun c4 => ?_) (fun c4 => ?_))))
    · have h := ziF h (c4)
      exact z_const dX12_est_44 (z_mask [true, true, true] (sX12_est_45 h))
    · have h := ziT h (c4)
      exact z_const dX12_est_40 (z_goto dX12_est_41 (z_mask [true, true, true] (sX12_est_45 h)))
def jX12_est_22 (a1 a2 : Int32) (X : zX) : Option (Int32 × zX) := jX12_est_27 a1 a2 (nI 1) X
set_option maxRecDepth 20000 in
set_option maxHeartbeats 4000000 in
theorem sX12_est_22 {μ : zM} {a1 a2 : Int32} {X : zX} {ρ : Int32 × zX} (h : jX12_est_22 a1 a2 X = some ρ) : zJ mX12_est 4 (0, 0) (0, 0) (zQ (some (zi ρ.1)) (zg μ 1 ρ.2)) 22 [some (zq 1 0), some (zi a1), some (zi a2)] [zq 1 0] (zg μ 1 X) := by
  unfold jX12_est_22 at h
  exact z_const dX12_est_22 (z_goto dX12_est_23 (z_mask [true, true, true] (sX12_est_27 h)))
def eX12_est (x0 x1 : Int32) (X : zX) : Option (Int32 × zX) := zbd (eX12_noNode x0 (zw X 0 0 (nI 0))) fun r2 => if r2 = 0 then zbd (eX12_noNode x1 (zw X 0 0 (nI 0))) fun r5 => if r5 = 0 then jX12_est_27 x0 x1 (nI 0) (zw X 0 0 (nI 0)) else jX12_est_22 x0 x1 (zw X 0 0 (nI 0)) else jX12_est_22 x0 x1 (zw X 0 0 (nI 0))
set_option maxRecDepth 20000 in
set_option maxHeartbeats 4000000 in
theorem tX12_est {μ : zM} {x0 x1 : Int32} {X : zX} {ρ : Int32 × zX} (h : eX12_est x0 x1 X = some ρ) : LM mX12_est 4 [zq 1 0, zi x0, zi x1] (zg μ 1 X) (some (zi ρ.1)) (zg μ 1 ρ.2) := by
  unfold eX12_est at h
  refine LM.of (by decide +kernel) rfl (Nat.le_of_ble_eq_true rfl) ?_
  show zJ mX12_est 4 (0, 0) (0, 0) _ 0 [some (zq 1 0), some (zi x0), some (zi x1)] [] _
  obtain ⟨r2, l1, h⟩ := zbd_some h
  refine z_aload dX12_est_0 rfl (z_const dX12_est_1 (z_putI dX12_est_2 fkX12_3 in1_0 sh1_0 rfl (fun _ _ _ h => by cases h; rfl) ⟨_, rfl, rfl, rfl⟩ (z_aload dX12_est_5 rfl (z_aload dX12_est_6 rfl (z_iload dX12_est_7 rfl (z_callV dX12_est_8 (tX12_noNode l1) (Nat.le_of_ble_eq_true rfl) cdX12_noNode naX12_noNode lkX12_330 imX12_noNode seX12_noNode in1_0 sh1_0 rfl rfl rfl (Nat.le_of_ble_eq_true rfl) (z_if_ne dX12_est_11 (fun c3 => ?_) (fun c3 => ?_))))))))
  · have h := ziF h (c3)
    exact z_mask [true, true, true] (sX12_est_22 h)
  · have h := ziT h (c3)
    obtain ⟨r5, l4, h⟩ := zbd_some h
    refine z_aload dX12_est_14 rfl (z_iload dX12_est_15 rfl (z_callV dX12_est_16 (tX12_noNode l4) (Nat.le_of_ble_eq_true rfl) cdX12_noNode naX12_noNode lkX12_330 imX12_noNode seX12_noNode in1_0 sh1_0 rfl rfl rfl (Nat.le_of_ble_eq_true rfl) (z_if_eq dX12_est_19 (fun c6 => ?_) (fun c6 => ?_))))
    · have h := ziT h (c6)
      exact z_const dX12_est_26 (z_mask [true, true, true] (sX12_est_27 h))
    · have h := ziF h (c6)
      exact z_mask [true, true, true] (sX12_est_22 h)
-- X12_first
def jX12_first_71 (F : Nat) (K23 : Int32 → Int32 → Int32 → zX → Option (Int32 × zX)) (a1 a3 : Int32) (X : zX) : Option (Int32 × zX) := K23 a1 a3 (a3 + (nI 1)) X
set_option maxRecDepth 20000 in
set_option maxHeartbeats 4000000 in
theorem sX12_first_71 {μ : zM} {F : Nat} {K23 : Int32 → Int32 → Int32 → zX → Option (Int32 × zX)} (hK23 : ∀ {xa1 xa2 xa3 : Int32} {xX : zX} {ρ : Int32 × zX}, K23 xa1 xa2 xa3 xX = some ρ → zJ mX12_first 4 (0, 0) (0, 0) (zQ (some (zi ρ.1)) (zg μ 1 ρ.2)) 23 [some (zq 1 0), some (zi xa1), some (zi xa2), some (zi xa3), none] [] (zg μ 1 xX)) {a1 a3 : Int32} {X : zX} {ρ : Int32 × zX} (h : jX12_first_71 F K23 a1 a3 X = some ρ) : zJ mX12_first 4 (0, 0) (0, 0) (zQ (some (zi ρ.1)) (zg μ 1 ρ.2)) 71 [some (zq 1 0), some (zi a1), none, some (zi a3), none] [] (zg μ 1 X) := by
  unfold jX12_first_71 at h
  exact z_iload dX12_first_71 rfl (z_istore dX12_first_72 (Nat.le_of_ble_eq_true rfl) (z_iinc dX12_first_73 (Nat.le_of_ble_eq_true rfl) rfl (z_goto dX12_first_76 (z_mask [true, true, true, true, false] (hK23 h)))))
def hX12_first_23 (F : Nat) : Nat → Int32 → Int32 → Int32 → zX → Option (Int32 × zX)
  | 0, _, _, _, _ => none
  | n + 1, a1, a2, a3, X => if (X 1 0) ≤ a3 then some (a2, X) else zbd (eX12_ofPacket a3 a1 (nI 0) X) fun r3 => zbd (eX12_isUp a3 X) fun r5 => if r5 = 0 then (hX12_first_23 F n) a1 a2 (a3 + (nI 1)) X else if r3 = (-1) then (hX12_first_23 F n) a1 a2 (a3 + (nI 1)) X else if a2 = (-1) then jX12_first_71 F (hX12_first_23 F n) a1 a3 X else zbd (eX12_ofPacket a2 a1 (nI 0) X) fun r10 => if r10 ≤ r3 then (hX12_first_23 F n) a1 a2 (a3 + (nI 1)) X else jX12_first_71 F (hX12_first_23 F n) a1 a3 X
set_option maxRecDepth 20000 in
set_option maxHeartbeats 4000000 in
theorem sX12_first_23 {μ : zM} {F : Nat} : ∀ {n : Nat} {a1 a2 a3 : Int32} {X : zX} {ρ : Int32 × zX}, hX12_first_23 F n a1 a2 a3 X = some ρ → zJ mX12_first 4 (0, 0) (0, 0) (zQ (some (zi ρ.1)) (zg μ 1 ρ.2)) 23 [some (zq 1 0), some (zi a1), some (zi a2), some (zi a3), none] [] (zg μ 1 X) := by
  intro n
  induction n with
  | zero => intro a1 a2 a3 X ρ h; exact nomatch (show (none : Option _) = some ρ from h)
  | succ n ih =>
    intro a1 a2 a3 X ρ h
    have hK23 := @ih
    rw [hX12_first_23] at h
    refine z_iload dX12_first_23 rfl (z_aload dX12_first_24 rfl (z_callV dX12_first_25 (tX12_nodes) (Nat.le_of_ble_eq_true rfl) cdX12_nodes naX12_nodes lkX12_67 imX12_nodes seX12_nodes in1_0 sh1_0 rfl rfl rfl (Nat.le_of_ble_eq_true rfl) (z_icmp_ge dX12_first_28 (fun c1 => ?_) (fun c1 => ?_))))
    · have h := ziT h (c1)
      exact z_iload dX12_first_79 rfl (z_iretQ dX12_first_80 rfl (by cases h; rfl))
    · have h := ziF h (c1)
      obtain ⟨r3, l2, h⟩ := zbd_some h
      obtain ⟨r5, l4, h⟩ := zbd_some h
      refine z_aload dX12_first_31 rfl (z_iload dX12_first_32 rfl (z_iload dX12_first_33 rfl (z_const dX12_first_34 (z_callV dX12_first_35 (tX12_ofPacket l2) (Nat.le_of_ble_eq_true rfl) cdX12_ofPacket naX12_ofPacket lkX12_213 imX12_ofPacket seX12_ofPacket in1_0 sh1_0 rfl rfl rfl (Nat.le_of_ble_eq_true rfl) (z_istore dX12_first_38 (Nat.le_of_ble_eq_true rfl) (z_aload dX12_first_40 rfl (z_iload dX12_first_41 rfl (z_callV dX12_first_42 (tX12_isUp l4) (Nat.le_of_ble_eq_true rfl) cdX12_isUp naX12_isUp lkX12_287 imX12_isUp seX12_isUp in1_0 sh1_0 rfl rfl rfl (Nat.le_of_ble_eq_true rfl) (z_if_eq dX12_first_45 (fun c6 => ?_) (fun c6 => ?_))))))))))
      · have h := ziT h (c6)
        exact z_iinc dX12_first_73 (Nat.le_of_ble_eq_true rfl) rfl (z_goto dX12_first_76 (z_mask [true, true, true, true, false] (hK23 h)))
      · have h := ziF h (c6)
        refine z_iload dX12_first_48 rfl (z_const dX12_first_50 (z_icmp_eq dX12_first_51 (fun c7 => ?_) (fun c7 => ?_)))
        · have h := ziT h (c7)
          exact z_iinc dX12_first_73 (Nat.le_of_ble_eq_true rfl) rfl (z_goto dX12_first_76 (z_mask [true, true, true, true, false] (hK23 h)))
        · have h := ziF h (c7)
          refine z_iload dX12_first_54 rfl (z_const dX12_first_55 (z_icmp_eq dX12_first_56 (fun c8 => ?_) (fun c8 => ?_)))
          · have h := ziT h (c8)
            exact z_mask [true, true, false, true, false] (sX12_first_71 hK23 h)
          · have h := ziF h (c8)
            obtain ⟨r10, l9, h⟩ := zbd_some h
            refine z_iload dX12_first_59 rfl (z_aload dX12_first_61 rfl (z_iload dX12_first_62 rfl (z_iload dX12_first_63 rfl (z_const dX12_first_64 (z_callV dX12_first_65 (tX12_ofPacket l9) (Nat.le_of_ble_eq_true rfl) cdX12_ofPacket naX12_ofPacket lkX12_213 imX12_ofPacket seX12_ofPacket in1_0 sh1_0 rfl rfl rfl (Nat.le_of_ble_eq_true rfl) (z_icmp_ge dX12_first_68 (fun c11 => ?_) (fun c11 => ?_)))))))
            · have h := ziT h (c11)
              exact z_iinc dX12_first_73 (Nat.le_of_ble_eq_true rfl) rfl (z_goto dX12_first_76 (z_mask [true, true, true, true, false] (hK23 h)))
            · have h := ziF h (c11)
              exact z_mask [true, true, false, true, false] (sX12_first_71 hK23 h)
def eX12_first (F : Nat) (x0 : Int32) (X : zX) : Option (Int32 × zX) := zbd (eX12_throwsIf (zB (¬ ((¬ (x0 < (nI 0))) ∧ (¬ ((nI 11) < x0))))) (nI 1) (zw X 0 0 (nI 0))) fun y2 => if y2.1 = 0 then hX12_first_23 F F x0 (-1) (nI 0) y2.2 else some ((nI 0), y2.2)
set_option maxRecDepth 20000 in
set_option maxHeartbeats 4000000 in
theorem tX12_first {μ : zM} {F : Nat} {x0 : Int32} {X : zX} {ρ : Int32 × zX} (h : eX12_first F x0 X = some ρ) : LM mX12_first 4 [zq 1 0, zi x0] (zg μ 1 X) (some (zi ρ.1)) (zg μ 1 ρ.2) := by
  unfold eX12_first at h
  refine LM.of (by decide +kernel) rfl (Nat.le_of_ble_eq_true rfl) ?_
  show zJ mX12_first 4 (0, 0) (0, 0) _ 0 [some (zq 1 0), some (zi x0), none, none, none] [] _
  obtain ⟨y2, l1, h⟩ := zbd_some h
  refine z_aload dX12_first_0 rfl (z_const dX12_first_1 (z_putI dX12_first_2 fkX12_3 in1_0 sh1_0 rfl (fun _ _ _ h => by cases h; rfl) ⟨_, rfl, rfl, rfl⟩ (z_aload dX12_first_5 rfl (z_iload dX12_first_6 rfl (z_callS dX12_first_7 (tX12_noPacket) (Nat.le_of_ble_eq_true rfl) cdX12_noPacket naX12_noPacket lkX12_336 stX12_noPacket rfl rfl (Nat.le_of_ble_eq_true rfl) (z_const dX12_first_10 (z_callV dX12_first_11 (tX12_throwsIf l1) (Nat.le_of_ble_eq_true rfl) cdX12_throwsIf naX12_throwsIf lkX12_188 imX12_throwsIf seX12_throwsIf in1_0 sh1_0 rfl rfl rfl (Nat.le_of_ble_eq_true rfl) (z_if_eq dX12_first_14 (fun c3 => ?_) (fun c3 => ?_)))))))))
  · have h := ziT h (c3)
    exact z_const dX12_first_19 (z_istore dX12_first_20 (Nat.le_of_ble_eq_true rfl) (z_const dX12_first_21 (z_istore dX12_first_22 (Nat.le_of_ble_eq_true rfl) (z_mask [true, true, true, true, false] (sX12_first_23 h)))))
  · have h := ziF h (c3)
    exact z_const dX12_first_17 (z_iretQ dX12_first_18 rfl (by cases h; rfl))
-- X12_gap
def eX12_gap (x0 x1 x2 : Int32) (X : zX) : Option (Int32 × zX) := zbd (eX12_noNodePacket x0 x1 X) fun y2 => if y2.1 = 0 then zbd (eX12_ofPacket x0 x1 (nI 11) y2.2) fun r5 => if (¬ (x2 < (nI 0))) ∧ (¬ ((r5 - (nI 1)) < x2)) then zbd (eX12_ofPacket x0 x1 ((nI 12) + x2) y2.2) fun r8 => some (r8, y2.2) else some ((-1), y2.2) else some ((nI 0), y2.2)
set_option maxRecDepth 20000 in
set_option maxHeartbeats 4000000 in
theorem tX12_gap {μ : zM} {x0 x1 x2 : Int32} {X : zX} {ρ : Int32 × zX} (h : eX12_gap x0 x1 x2 X = some ρ) : LM mX12_gap 4 [zq 1 0, zi x0, zi x1, zi x2] (zg μ 1 X) (some (zi ρ.1)) (zg μ 1 ρ.2) := by
  unfold eX12_gap at h
  refine LM.of (by decide +kernel) rfl (Nat.le_of_ble_eq_true rfl) ?_
  show zJ mX12_gap 4 (0, 0) (0, 0) _ 0 [some (zq 1 0), some (zi x0), some (zi x1), some (zi x2)] [] _
  obtain ⟨y2, l1, h⟩ := zbd_some h
  refine z_aload dX12_gap_0 rfl (z_iload dX12_gap_1 rfl (z_iload dX12_gap_2 rfl (z_callV dX12_gap_3 (tX12_noNodePacket l1) (Nat.le_of_ble_eq_true rfl) cdX12_noNodePacket naX12_noNodePacket lkX12_339 imX12_noNodePacket seX12_noNodePacket in1_0 sh1_0 rfl rfl rfl (Nat.le_of_ble_eq_true rfl) (z_if_eq dX12_gap_6 (fun c3 => ?_) (fun c3 => ?_)))))
  · have h := ziT h (c3)
    obtain ⟨r5, l4, h⟩ := zbd_some h
    refine z_iload dX12_gap_11 rfl (z_const dX12_gap_12 (z_aload dX12_gap_13 rfl (z_iload dX12_gap_14 rfl (z_iload dX12_gap_15 rfl (z_const dX12_gap_16 (z_callV dX12_gap_18 (tX12_ofPacket l4) (Nat.le_of_ble_eq_true rfl) cdX12_ofPacket naX12_ofPacket lkX12_213 imX12_ofPacket seX12_ofPacket in1_0 sh1_0 rfl rfl rfl (Nat.le_of_ble_eq_true rfl) (z_const dX12_gap_21 (z_isub dX12_gap_22 (z_callS dX12_gap_23 (tX12_in) (Nat.le_of_ble_eq_true rfl) cdX12_in naX12_in lkX12_71 stX12_in rfl rfl (Nat.le_of_ble_eq_true rfl) (z_if_eq dX12_gap_26 (fun c6 => ?_) (fun c6 => ?_)))))))))))
    · have h := ziF h (zB_0.mp c6)
      exact z_const dX12_gap_42 (z_iretQ dX12_gap_43 rfl (by cases h; rfl))
    · have h := ziT h (zB_n0.mp c6)
      obtain ⟨r8, l7, h⟩ := zbd_some h
      exact z_aload dX12_gap_29 rfl (z_iload dX12_gap_30 rfl (z_iload dX12_gap_31 rfl (z_const dX12_gap_32 (z_iload dX12_gap_34 rfl (z_iadd dX12_gap_35 (z_callV dX12_gap_36 (tX12_ofPacket l7) (Nat.le_of_ble_eq_true rfl) cdX12_ofPacket naX12_ofPacket lkX12_213 imX12_ofPacket seX12_ofPacket in1_0 sh1_0 rfl rfl rfl (Nat.le_of_ble_eq_true rfl) (z_goto dX12_gap_39 (z_iretQ dX12_gap_43 rfl (by cases h; rfl)))))))))
  · have h := ziF h (c3)
    exact z_const dX12_gap_9 (z_iretQ dX12_gap_10 rfl (by cases h; rfl))
-- X12_give
def jX12_give_197 (a3 a4 : Int32) (X : zX) : Option (Int32 × zX) := if a4 = a3 then some ((nI 0), X) else some ((nI 1), X)
set_option maxRecDepth 20000 in
set_option maxHeartbeats 4000000 in
theorem sX12_give_197 {μ : zM} {a3 a4 : Int32} {X : zX} {ρ : Int32 × zX} (h : jX12_give_197 a3 a4 X = some ρ) : zJ mX12_give 4 (0, 0) (0, 0) (zQ (some (zi ρ.1)) (zg μ 1 ρ.2)) 197 [none, none, none, some (zi a3), some (zi a4)] [] (zg μ 1 X) := by
  unfold jX12_give_197 at h
  refine z_iload dX12_give_197 rfl (z_iload dX12_give_199 rfl (z_icmp_eq dX12_give_200 (fun c1 => ?_) (fun c1 => ?_)))
  · have h := ziT h (c1)
    exact z_const dX12_give_207 (z_zretQ dX12_give_208 rfl rfl (by cases h; rfl))
  · have h := ziF h (c1)
    exact z_const dX12_give_203 (z_goto dX12_give_204 (z_zretQ dX12_give_208 rfl rfl (by cases h; rfl)))
def jX12_give_143 (a1 a2 a3 a4 : Int32) (X : zX) : Option (Int32 × zX) := if a3 = 0 then if a4 = 0 then jX12_give_197 a3 a4 X else zchk (zin (((nI 18) + ((nI 244) * a1)) + (nI 1)) 2422) (zchk (zin (((nI 18) + ((nI 244) * a1)) + (nI 1)) 2422) (zlet (zw X 1 (zn (((nI 18) + ((nI 244) * a1)) + (nI 1))) ((X 1 (zn (((nI 18) + ((nI 244) * a1)) + (nI 1)))) &&& (((nI 1) <<< (a2 &&& 31)) ^^^ (-1)))) fun X5 => zbd (eX12_hasItFrom a1 a2 (-1) (-1) X5) fun y7 => zchk (zin (((nI 18) + ((nI 244) * a1)) + (((nI 28) + ((nI 18) * a2)) + (nI 5))) 2422) (zlet (zw y7 1 (zn (((nI 18) + ((nI 244) * a1)) + (((nI 28) + ((nI 18) * a2)) + (nI 5)))) (-1)) fun X9 => zbd (eX12_hasGap a1 a2 (nI 5) X9) fun y11 => jX12_give_197 a3 a4 y11))) else jX12_give_197 a3 a4 X
set_option maxRecDepth 20000 in
set_option maxHeartbeats 4000000 in
theorem sX12_give_143 {μ : zM} {a1 a2 a3 a4 : Int32} {X : zX} {ρ : Int32 × zX} (h : jX12_give_143 a1 a2 a3 a4 X = some ρ) : zJ mX12_give 4 (0, 0) (0, 0) (zQ (some (zi ρ.1)) (zg μ 1 ρ.2)) 143 [some (zq 1 0), some (zi a1), some (zi a2), some (zi a3), some (zi a4)] [] (zg μ 1 X) := by
  unfold jX12_give_143 at h
  refine z_iload dX12_give_143 rfl (z_if_ne dX12_give_144 (fun c1 => ?_) (fun c1 => ?_))
  · have h := ziF h (c1)
    exact z_mask [false, false, false, true, true] (sX12_give_197 h)
  · have h := ziT h (c1)
    refine z_iload dX12_give_147 rfl (z_if_eq dX12_give_149 (fun c2 => ?_) (fun c2 => ?_))
    · have h := ziT h (c2)
      exact z_mask [false, false, false, true, true] (sX12_give_197 h)
    · have h := ziF h (c2)
      obtain ⟨s3, h⟩ := zchk_some h
      refine z_aload dX12_give_152 rfl (z_getR dX12_give_153 fkX12_13 in1_0 sh1_0 rfl (z_iload dX12_give_156 rfl (z_const dX12_give_157 (z_callS dX12_give_158 (tX12_nodeAt) (Nat.le_of_ble_eq_true rfl) cdX12_nodeAt naX12_nodeAt lkX12_56 stX12_nodeAt rfl rfl (Nat.le_of_ble_eq_true rfl) (z_dup2 dX12_give_161 rfl rfl (z_iald dX12_give_162 in1_1 sh1_1 (zin_vp s3) (z_const dX12_give_163 (z_iload dX12_give_164 rfl (z_ishl dX12_give_165 (z_const dX12_give_166 (z_ixor dX12_give_167 ?_)))))))))))
      obtain ⟨s4, h⟩ := zchk_some h
      have h := zlet_h h
      obtain ⟨y7, l6, h⟩ := zbd_some h
      refine z_iand dX12_give_168 (z_iast dX12_give_169 in1_1 sh1_1 (zin_vp s4) (z_aload dX12_give_170 rfl (z_iload dX12_give_171 rfl (z_iload dX12_give_172 rfl (z_const dX12_give_173 (z_const dX12_give_174 (z_callV dX12_give_175 (tX12_hasItFrom l6) (Nat.le_of_ble_eq_true rfl) cdX12_hasItFrom naX12_hasItFrom lkX12_132 imX12_hasItFrom seX12_hasItFrom in1_0 sh1_0 rfl rfl rfl (Nat.le_of_ble_eq_true rfl) (z_aload dX12_give_178 rfl (z_getR dX12_give_179 fkX12_13 in1_0 sh1_0 rfl (z_iload dX12_give_182 rfl (z_iload dX12_give_183 rfl ?_)))))))))))
      obtain ⟨s8, h⟩ := zchk_some h
      have h := zlet_h h
      obtain ⟨y11, l10, h⟩ := zbd_some h
      exact z_const dX12_give_184 (z_callS dX12_give_185 (tX12_packetAt) (Nat.le_of_ble_eq_true rfl) cdX12_packetAt naX12_packetAt lkX12_60 stX12_packetAt rfl rfl (Nat.le_of_ble_eq_true rfl) (z_const dX12_give_188 (z_iast dX12_give_189 in1_1 sh1_1 (zin_vp s8) (z_aload dX12_give_190 rfl (z_iload dX12_give_191 rfl (z_iload dX12_give_192 rfl (z_const dX12_give_193 (z_callV dX12_give_194 (tX12_hasGap l10) (Nat.le_of_ble_eq_true rfl) cdX12_hasGap naX12_hasGap lkX12_216 imX12_hasGap seX12_hasGap in1_0 sh1_0 rfl rfl rfl (Nat.le_of_ble_eq_true rfl) (z_mask [false, false, false, true, true] (sX12_give_197 h))))))))))
def jX12_give_49 (a1 a2 a3 b0 : Int32) (X : zX) : Option (Int32 × zX) := zbd (eX12_throwsIf b0 (nI 2) X) fun y2 => if y2.1 = 0 then zbd (eX12_hasIt a1 a2 y2.2) fun r5 => if a3 = 0 then jX12_give_143 a1 a2 a3 r5 y2.2 else if r5 = 0 then zchk (zin (((nI 18) + ((nI 244) * a1)) + (nI 1)) 2422) (zchk (zin (((nI 18) + ((nI 244) * a1)) + (nI 1)) 2422) (zlet (zw y2.2 1 (zn (((nI 18) + ((nI 244) * a1)) + (nI 1))) ((y2.2 1 (zn (((nI 18) + ((nI 244) * a1)) + (nI 1)))) ||| ((nI 1) <<< (a2 &&& 31)))) fun X10 => zbd (eX12_hasItFrom a1 a2 a1 (X10 1 14) X10) fun y12 => zbd (eX12_of a1 (nI 2) y12) fun r14 => zchk (zin (((nI 18) + ((nI 244) * a1)) + (nI 2)) 2422) (zlet (zw y12 1 (zn (((nI 18) + ((nI 244) * a1)) + (nI 2))) (zmx r14 a2)) fun X16 => zchk (zin (((nI 18) + ((nI 244) * a1)) + (((nI 28) + ((nI 18) * a2)) + (nI 0))) 2422) (zlet (zw X16 1 (zn (((nI 18) + ((nI 244) * a1)) + (((nI 28) + ((nI 18) * a2)) + (nI 0)))) (-1)) fun X18 => zbd (eX12_noGap a1 a2 X18) fun y20 => jX12_give_143 a1 a2 a3 r5 y20)))) else jX12_give_143 a1 a2 a3 r5 y2.2 else some ((nI 0), y2.2)
set_option maxRecDepth 20000 in
set_option maxHeartbeats 4000000 in
theorem sX12_give_49 {μ : zM} {a1 a2 a3 b0 : Int32} {X : zX} {ρ : Int32 × zX} (h : jX12_give_49 a1 a2 a3 b0 X = some ρ) : zJ mX12_give 4 (0, 0) (0, 0) (zQ (some (zi ρ.1)) (zg μ 1 ρ.2)) 49 [some (zq 1 0), some (zi a1), some (zi a2), some (zi a3), none] [zi b0, zq 1 0] (zg μ 1 X) := by
  unfold jX12_give_49 at h
  obtain ⟨y2, l1, h⟩ := zbd_some h
  refine z_const dX12_give_49 (z_callV dX12_give_50 (tX12_throwsIf l1) (Nat.le_of_ble_eq_true rfl) cdX12_throwsIf naX12_throwsIf lkX12_188 imX12_throwsIf seX12_throwsIf in1_0 sh1_0 rfl rfl rfl (Nat.le_of_ble_eq_true rfl) (z_if_eq dX12_give_53 (fun c3 => ?_) (fun c3 => ?_)))
  · have h := ziT h (c3)
    obtain ⟨r5, l4, h⟩ := zbd_some h
    refine z_aload dX12_give_58 rfl (z_iload dX12_give_59 rfl (z_iload dX12_give_60 rfl (z_callV dX12_give_61 (tX12_hasIt l4) (Nat.le_of_ble_eq_true rfl) cdX12_hasIt naX12_hasIt lkX12_272 imX12_hasIt seX12_hasIt in1_0 sh1_0 rfl rfl rfl (Nat.le_of_ble_eq_true rfl) (z_istore dX12_give_64 (Nat.le_of_ble_eq_true rfl) (z_iload dX12_give_66 rfl (z_if_eq dX12_give_67 (fun c6 => ?_) (fun c6 => ?_)))))))
    · have h := ziT h (c6)
      exact z_mask [true, true, true, true, true] (sX12_give_143 h)
    · have h := ziF h (c6)
      refine z_iload dX12_give_70 rfl (z_if_ne dX12_give_72 (fun c7 => ?_) (fun c7 => ?_))
      · have h := ziF h (c7)
        exact z_mask [true, true, true, true, true] (sX12_give_143 h)
      · have h := ziT h (c7)
        obtain ⟨s8, h⟩ := zchk_some h
        obtain ⟨s9, h⟩ := zchk_some h
        have h := zlet_h h
        refine z_aload dX12_give_75 rfl (z_getR dX12_give_76 fkX12_13 in1_0 sh1_0 rfl (z_iload dX12_give_79 rfl (z_const dX12_give_80 (z_callS dX12_give_81 (tX12_nodeAt) (Nat.le_of_ble_eq_true rfl) cdX12_nodeAt naX12_nodeAt lkX12_56 stX12_nodeAt rfl rfl (Nat.le_of_ble_eq_true rfl) (z_dup2 dX12_give_84 rfl rfl (z_iald dX12_give_85 in1_1 sh1_1 (zin_vp s8) (z_const dX12_give_86 (z_iload dX12_give_87 rfl (z_ishl dX12_give_88 (z_ior dX12_give_89 (z_iast dX12_give_90 in1_1 sh1_1 (zin_vp s9) ?_)))))))))))
        obtain ⟨y12, l11, h⟩ := zbd_some h
        refine z_aload dX12_give_91 rfl (z_iload dX12_give_92 rfl (z_iload dX12_give_93 rfl (z_iload dX12_give_94 rfl (z_aload dX12_give_95 rfl (z_getR dX12_give_96 fkX12_13 in1_0 sh1_0 rfl (z_const dX12_give_99 (z_ialdN dX12_give_101 in1_1 sh1_1 (Nat.le_of_ble_eq_true rfl) (Nat.le_of_ble_eq_true rfl) (z_callV dX12_give_102 (tX12_hasItFrom l11) (Nat.le_of_ble_eq_true rfl) cdX12_hasItFrom naX12_hasItFrom lkX12_132 imX12_hasItFrom seX12_hasItFrom in1_0 sh1_0 rfl rfl rfl (Nat.le_of_ble_eq_true rfl) (z_aload dX12_give_105 rfl (z_getR dX12_give_106 fkX12_13 in1_0 sh1_0 rfl (z_iload dX12_give_109 rfl ?_)))))))))))
        obtain ⟨r14, l13, h⟩ := zbd_some h
        obtain ⟨s15, h⟩ := zchk_some h
        have h := zlet_h h
        refine z_const dX12_give_110 (z_callS dX12_give_111 (tX12_nodeAt) (Nat.le_of_ble_eq_true rfl) cdX12_nodeAt naX12_nodeAt lkX12_56 stX12_nodeAt rfl rfl (Nat.le_of_ble_eq_true rfl) (z_aload dX12_give_114 rfl (z_iload dX12_give_115 rfl (z_const dX12_give_116 (z_callV dX12_give_117 (tX12_of l13) (Nat.le_of_ble_eq_true rfl) cdX12_of naX12_of lkX12_78 imX12_of seX12_of in1_0 sh1_0 rfl rfl rfl (Nat.le_of_ble_eq_true rfl) (z_iload dX12_give_120 rfl (z_max dX12_give_121 lkX12_253 (Nat.le_of_ble_eq_true rfl) (Nat.le_of_ble_eq_true rfl) (z_iast dX12_give_124 in1_1 sh1_1 (zin_vp s15) (z_aload dX12_give_125 rfl (z_getR dX12_give_126 fkX12_13 in1_0 sh1_0 rfl (z_iload dX12_give_129 rfl ?_)))))))))))
        obtain ⟨s17, h⟩ := zchk_some h
        have h := zlet_h h
        obtain ⟨y20, l19, h⟩ := zbd_some h
        exact z_iload dX12_give_130 rfl (z_const dX12_give_131 (z_callS dX12_give_132 (tX12_packetAt) (Nat.le_of_ble_eq_true rfl) cdX12_packetAt naX12_packetAt lkX12_60 stX12_packetAt rfl rfl (Nat.le_of_ble_eq_true rfl) (z_const dX12_give_135 (z_iast dX12_give_136 in1_1 sh1_1 (zin_vp s17) (z_aload dX12_give_137 rfl (z_iload dX12_give_138 rfl (z_iload dX12_give_139 rfl (z_callV dX12_give_140 (tX12_noGap l19) (Nat.le_of_ble_eq_true rfl) cdX12_noGap naX12_noGap lkX12_250 imX12_noGap seX12_noGap in1_0 sh1_0 rfl rfl rfl (Nat.le_of_ble_eq_true rfl) (z_mask [true, true, true, true, true] (sX12_give_143 h))))))))))
  · have h := ziF h (c3)
    exact z_const dX12_give_56 (z_zretQ dX12_give_57 rfl rfl (by cases h; rfl))
def jX12_give_26 (a1 a2 a3 b0 : Int32) (X : zX) : Option (Int32 × zX) := zbd (eX12_throwsIf b0 (nI 1) X) fun y2 => if y2.1 = 0 then if a2 < (y2.2 1 4) then jX12_give_49 a1 a2 a3 (nI 0) y2.2 else jX12_give_49 a1 a2 a3 (nI 1) y2.2 else some ((nI 0), y2.2)
set_option maxRecDepth 20000 in
set_option maxHeartbeats 4000000 in
theorem sX12_give_26 {μ : zM} {a1 a2 a3 b0 : Int32} {X : zX} {ρ : Int32 × zX} (h : jX12_give_26 a1 a2 a3 b0 X = some ρ) : zJ mX12_give 4 (0, 0) (0, 0) (zQ (some (zi ρ.1)) (zg μ 1 ρ.2)) 26 [some (zq 1 0), some (zi a1), some (zi a2), some (zi a3), none] [zi b0, zq 1 0] (zg μ 1 X) := by
  unfold jX12_give_26 at h
  obtain ⟨y2, l1, h⟩ := zbd_some h
  refine z_const dX12_give_26 (z_callV dX12_give_27 (tX12_throwsIf l1) (Nat.le_of_ble_eq_true rfl) cdX12_throwsIf naX12_throwsIf lkX12_188 imX12_throwsIf seX12_throwsIf in1_0 sh1_0 rfl rfl rfl (Nat.le_of_ble_eq_true rfl) (z_if_ne dX12_give_30 (fun c3 => ?_) (fun c3 => ?_)))
  · have h := ziF h (c3)
    exact z_const dX12_give_56 (z_zretQ dX12_give_57 rfl rfl (by cases h; rfl))
  · have h := ziT h (c3)
    refine z_aload dX12_give_33 rfl (z_iload dX12_give_34 rfl (z_aload dX12_give_35 rfl (z_getR dX12_give_36 fkX12_13 in1_0 sh1_0 rfl (z_const dX12_give_39 (z_ialdN dX12_give_40 in1_1 sh1_1 (Nat.le_of_ble_eq_true rfl) (Nat.le_of_ble_eq_true rfl) (z_icmp_lt dX12_give_41 (fun c4 => ?_) (fun c4 => ?_)))))))
    · have h := ziT h (c4)
      exact z_const dX12_give_48 (z_mask [true, true, true, true, false] (sX12_give_49 h))
    · have h := ziF h (c4)
      exact z_const dX12_give_44 (z_goto dX12_give_45 (z_mask [true, true, true, true, false] (sX12_give_49 h)))
def jX12_give_21 (a1 a2 a3 : Int32) (X : zX) : Option (Int32 × zX) := jX12_give_26 a1 a2 a3 (nI 1) X
set_option maxRecDepth 20000 in
set_option maxHeartbeats 4000000 in
theorem sX12_give_21 {μ : zM} {a1 a2 a3 : Int32} {X : zX} {ρ : Int32 × zX} (h : jX12_give_21 a1 a2 a3 X = some ρ) : zJ mX12_give 4 (0, 0) (0, 0) (zQ (some (zi ρ.1)) (zg μ 1 ρ.2)) 21 [some (zq 1 0), some (zi a1), some (zi a2), some (zi a3), none] [zq 1 0] (zg μ 1 X) := by
  unfold jX12_give_21 at h
  exact z_const dX12_give_21 (z_goto dX12_give_22 (z_mask [true, true, true, true, false] (sX12_give_26 h)))
def eX12_give (x0 x1 x2 : Int32) (X : zX) : Option (Int32 × zX) := zbd (eX12_noNode x0 (zw X 0 0 (nI 0))) fun r2 => if r2 = 0 then if ¬ ((¬ (x1 < (nI 0))) ∧ (¬ ((nI 11) < x1))) then jX12_give_21 x0 x1 x2 (zw X 0 0 (nI 0)) else jX12_give_26 x0 x1 x2 (nI 0) (zw X 0 0 (nI 0)) else jX12_give_21 x0 x1 x2 (zw X 0 0 (nI 0))
set_option maxRecDepth 20000 in
set_option maxHeartbeats 4000000 in
theorem tX12_give {μ : zM} {x0 x1 x2 : Int32} {X : zX} {ρ : Int32 × zX} (h : eX12_give x0 x1 x2 X = some ρ) : LM mX12_give 4 [zq 1 0, zi x0, zi x1, zi x2] (zg μ 1 X) (some (zi ρ.1)) (zg μ 1 ρ.2) := by
  unfold eX12_give at h
  refine LM.of (by decide +kernel) rfl (Nat.le_of_ble_eq_true rfl) ?_
  show zJ mX12_give 4 (0, 0) (0, 0) _ 0 [some (zq 1 0), some (zi x0), some (zi x1), some (zi x2), none] [] _
  obtain ⟨r2, l1, h⟩ := zbd_some h
  refine z_aload dX12_give_0 rfl (z_const dX12_give_1 (z_putI dX12_give_2 fkX12_3 in1_0 sh1_0 rfl (fun _ _ _ h => by cases h; rfl) ⟨_, rfl, rfl, rfl⟩ (z_aload dX12_give_5 rfl (z_aload dX12_give_6 rfl (z_iload dX12_give_7 rfl (z_callV dX12_give_8 (tX12_noNode l1) (Nat.le_of_ble_eq_true rfl) cdX12_noNode naX12_noNode lkX12_330 imX12_noNode seX12_noNode in1_0 sh1_0 rfl rfl rfl (Nat.le_of_ble_eq_true rfl) (z_if_ne dX12_give_11 (fun c3 => ?_) (fun c3 => ?_))))))))
  · have h := ziF h (c3)
    exact z_mask [true, true, true, true, false] (sX12_give_21 h)
  · have h := ziT h (c3)
    refine z_iload dX12_give_14 rfl (z_callS dX12_give_15 (tX12_noPacket) (Nat.le_of_ble_eq_true rfl) cdX12_noPacket naX12_noPacket lkX12_336 stX12_noPacket rfl rfl (Nat.le_of_ble_eq_true rfl) (z_if_eq dX12_give_18 (fun c4 => ?_) (fun c4 => ?_)))
    · have h := ziF h (zB_0.mp c4)
      exact z_const dX12_give_25 (z_mask [true, true, true, true, false] (sX12_give_26 h))
    · have h := ziT h (zB_n0.mp c4)
      exact z_mask [true, true, true, true, false] (sX12_give_21 h)
-- X12_hasGapBehind
def hX12_hasGapBehind_20 (F : Nat) : Nat → Int32 → Int32 → Int32 → Int32 → Int32 → zX → Option (zX)
  | 0, _, _, _, _, _, _ => none
  | n + 1, a1, a2, a3, a4, a5, X => if a4 ≤ a5 then zchk (zin (((nI 18) + ((nI 244) * a1)) + (((nI 28) + ((nI 18) * a2)) + (nI 11))) 2422) (zlet (zw X 1 (zn (((nI 18) + ((nI 244) * a1)) + (((nI 28) + ((nI 18) * a2)) + (nI 11)))) (a4 + (nI 1))) fun X3 => some X3) else zbd (eX12_ofPacket a3 a2 ((nI 12) + a5) X) fun r5 => zchk (zin (((nI 18) + ((nI 244) * a1)) + (((nI 28) + ((nI 18) * a2)) + ((nI 13) + a5))) 2422) (zlet (zw X 1 (zn (((nI 18) + ((nI 244) * a1)) + (((nI 28) + ((nI 18) * a2)) + ((nI 13) + a5)))) r5) fun X7 => (hX12_hasGapBehind_20 F n) a1 a2 a3 a4 (a5 + (nI 1)) X7)
set_option maxRecDepth 20000 in
set_option maxHeartbeats 4000000 in
theorem sX12_hasGapBehind_20 {μ : zM} {F : Nat} : ∀ {n : Nat} {a1 a2 a3 a4 a5 : Int32} {X : zX} {ρ : zX}, hX12_hasGapBehind_20 F n a1 a2 a3 a4 a5 X = some ρ → zJ mX12_hasGapBehind 4 (0, 0) (0, 0) (zQ none (zg μ 1 ρ)) 20 [some (zq 1 0), some (zi a1), some (zi a2), some (zi a3), some (zi a4), some (zi a5)] [] (zg μ 1 X) := by
  intro n
  induction n with
  | zero => intro a1 a2 a3 a4 a5 X ρ h; exact nomatch (show (none : Option _) = some ρ from h)
  | succ n ih =>
    intro a1 a2 a3 a4 a5 X ρ h
    have hK20 := @ih
    rw [hX12_hasGapBehind_20] at h
    refine z_iload dX12_hasGapBehind_20 rfl (z_iload dX12_hasGapBehind_22 rfl (z_icmp_ge dX12_hasGapBehind_24 (fun c1 => ?_) (fun c1 => ?_)))
    · have h := ziT h (c1)
      obtain ⟨s2, h⟩ := zchk_some h
      have h := zlet_h h
      exact z_aload dX12_hasGapBehind_59 rfl (z_getR dX12_hasGapBehind_60 fkX12_13 in1_0 sh1_0 rfl (z_iload dX12_hasGapBehind_63 rfl (z_iload dX12_hasGapBehind_64 rfl (z_const dX12_hasGapBehind_65 (z_callS dX12_hasGapBehind_67 (tX12_packetAt) (Nat.le_of_ble_eq_true rfl) cdX12_packetAt naX12_packetAt lkX12_60 stX12_packetAt rfl rfl (Nat.le_of_ble_eq_true rfl) (z_iload dX12_hasGapBehind_70 rfl (z_const dX12_hasGapBehind_72 (z_iadd dX12_hasGapBehind_73 (z_iast dX12_hasGapBehind_74 in1_1 sh1_1 (zin_vp s2) (z_vretQ dX12_hasGapBehind_75 rfl (by cases h; rfl)))))))))))
    · have h := ziF h (c1)
      refine z_aload dX12_hasGapBehind_27 rfl (z_getR dX12_hasGapBehind_28 fkX12_13 in1_0 sh1_0 rfl (z_iload dX12_hasGapBehind_31 rfl (z_iload dX12_hasGapBehind_32 rfl (z_const dX12_hasGapBehind_33 (z_iload dX12_hasGapBehind_35 rfl (z_iadd dX12_hasGapBehind_37 (z_callS dX12_hasGapBehind_38 (tX12_packetAt) (Nat.le_of_ble_eq_true rfl) cdX12_packetAt naX12_packetAt lkX12_60 stX12_packetAt rfl rfl (Nat.le_of_ble_eq_true rfl) (z_aload dX12_hasGapBehind_41 rfl (z_iload dX12_hasGapBehind_42 rfl (z_iload dX12_hasGapBehind_43 rfl (z_const dX12_hasGapBehind_44 ?_)))))))))))
      obtain ⟨r5, l4, h⟩ := zbd_some h
      obtain ⟨s6, h⟩ := zchk_some h
      have h := zlet_h h
      exact z_iload dX12_hasGapBehind_46 rfl (z_iadd dX12_hasGapBehind_48 (z_callV dX12_hasGapBehind_49 (tX12_ofPacket l4) (Nat.le_of_ble_eq_true rfl) cdX12_ofPacket naX12_ofPacket lkX12_213 imX12_ofPacket seX12_ofPacket in1_0 sh1_0 rfl rfl rfl (Nat.le_of_ble_eq_true rfl) (z_iast dX12_hasGapBehind_52 in1_1 sh1_1 (zin_vp s6) (z_iinc dX12_hasGapBehind_53 (Nat.le_of_ble_eq_true rfl) rfl (z_goto dX12_hasGapBehind_56 (z_mask [true, true, true, true, true, true] (hK20 h)))))))
def eX12_hasGapBehind (F : Nat) (x0 x1 x2 : Int32) (X : zX) : Option (zX) := zbd (eX12_ofPacket x2 x1 (nI 11) X) fun r2 => zbd (eX12_hasGap x0 x1 (nI 1) X) fun y4 => hX12_hasGapBehind_20 F F x0 x1 x2 r2 (nI 0) y4
set_option maxRecDepth 20000 in
set_option maxHeartbeats 4000000 in
theorem tX12_hasGapBehind {μ : zM} {F : Nat} {x0 x1 x2 : Int32} {X : zX} {ρ : zX} (h : eX12_hasGapBehind F x0 x1 x2 X = some ρ) : LM mX12_hasGapBehind 4 [zq 1 0, zi x0, zi x1, zi x2] (zg μ 1 X) none (zg μ 1 ρ) := by
  unfold eX12_hasGapBehind at h
  refine LM.of (by decide +kernel) rfl (Nat.le_of_ble_eq_true rfl) ?_
  show zJ mX12_hasGapBehind 4 (0, 0) (0, 0) _ 0 [some (zq 1 0), some (zi x0), some (zi x1), some (zi x2), none, none] [] _
  obtain ⟨r2, l1, h⟩ := zbd_some h
  obtain ⟨y4, l3, h⟩ := zbd_some h
  refine z_aload dX12_hasGapBehind_0 rfl (z_iload dX12_hasGapBehind_1 rfl (z_iload dX12_hasGapBehind_2 rfl (z_const dX12_hasGapBehind_3 (z_callV dX12_hasGapBehind_5 (tX12_ofPacket l1) (Nat.le_of_ble_eq_true rfl) cdX12_ofPacket naX12_ofPacket lkX12_213 imX12_ofPacket seX12_ofPacket in1_0 sh1_0 rfl rfl rfl (Nat.le_of_ble_eq_true rfl) (z_istore dX12_hasGapBehind_8 (Nat.le_of_ble_eq_true rfl) (z_aload dX12_hasGapBehind_10 rfl (z_iload dX12_hasGapBehind_11 rfl (z_iload dX12_hasGapBehind_12 rfl (z_const dX12_hasGapBehind_13 (z_callV dX12_hasGapBehind_14 (tX12_hasGap l3) (Nat.le_of_ble_eq_true rfl) cdX12_hasGap naX12_hasGap lkX12_216 imX12_hasGap seX12_hasGap in1_0 sh1_0 rfl rfl rfl (Nat.le_of_ble_eq_true rfl) (z_const dX12_hasGapBehind_17 ?_)))))))))))
  exact z_istore dX12_hasGapBehind_18 (Nat.le_of_ble_eq_true rfl) (z_mask [true, true, true, true, true, true] (sX12_hasGapBehind_20 h))
-- X12_hearsPacket
def jX12_hearsPacket_169 (F : Nat) (a5 : Int32) (X : zX) : Option (Int32 × zX) := if a5 = 0 then some ((nI 1), X) else some ((nI 0), X)
set_option maxRecDepth 20000 in
set_option maxHeartbeats 4000000 in
theorem sX12_hearsPacket_169 {μ : zM} {F : Nat} {a5 : Int32} {X : zX} {ρ : Int32 × zX} (h : jX12_hearsPacket_169 F a5 X = some ρ) : zJ mX12_hearsPacket 4 (0, 0) (0, 0) (zQ (some (zi ρ.1)) (zg μ 1 ρ.2)) 169 [none, none, none, none, none, some (zi a5)] [] (zg μ 1 X) := by
  unfold jX12_hearsPacket_169 at h
  refine z_iload dX12_hearsPacket_169 rfl (z_if_ne dX12_hearsPacket_171 (fun c1 => ?_) (fun c1 => ?_))
  · have h := ziF h (c1)
    exact z_const dX12_hearsPacket_178 (z_zretQ dX12_hearsPacket_179 rfl rfl (by cases h; rfl))
  · have h := ziT h (c1)
    exact z_const dX12_hearsPacket_174 (z_goto dX12_hearsPacket_175 (z_zretQ dX12_hearsPacket_179 rfl rfl (by cases h; rfl)))
def jX12_hearsPacket_136 (F : Nat) (a1 a2 a3 a4 a5 : Int32) (X : zX) : Option (Int32 × zX) := if a3 = 0 then jX12_hearsPacket_169 F a5 X else zbd (eX12_estOf a1 a4 X) fun r3 => zchk (zin (((nI 18) + ((nI 244) * a1)) + (((nI 28) + ((nI 18) * a2)) + (nI 8))) 2422) (zlet (zw X 1 (zn (((nI 18) + ((nI 244) * a1)) + (((nI 28) + ((nI 18) * a2)) + (nI 8)))) ((X 1 14) + ((nI 3) * r3))) fun X5 => jX12_hearsPacket_169 F a5 X5)
set_option maxRecDepth 20000 in
set_option maxHeartbeats 4000000 in
theorem sX12_hearsPacket_136 {μ : zM} {F : Nat} {a1 a2 a3 a4 a5 : Int32} {X : zX} {ρ : Int32 × zX} (h : jX12_hearsPacket_136 F a1 a2 a3 a4 a5 X = some ρ) : zJ mX12_hearsPacket 4 (0, 0) (0, 0) (zQ (some (zi ρ.1)) (zg μ 1 ρ.2)) 136 [some (zq 1 0), some (zi a1), some (zi a2), some (zi a3), some (zi a4), some (zi a5)] [] (zg μ 1 X) := by
  unfold jX12_hearsPacket_136 at h
  refine z_iload dX12_hearsPacket_136 rfl (z_if_eq dX12_hearsPacket_137 (fun c1 => ?_) (fun c1 => ?_))
  · have h := ziT h (c1)
    exact z_mask [false, false, false, false, false, true] (sX12_hearsPacket_169 h)
  · have h := ziF h (c1)
    refine z_aload dX12_hearsPacket_140 rfl (z_getR dX12_hearsPacket_141 fkX12_13 in1_0 sh1_0 rfl (z_iload dX12_hearsPacket_144 rfl (z_iload dX12_hearsPacket_145 rfl (z_const dX12_hearsPacket_146 (z_callS dX12_hearsPacket_148 (tX12_packetAt) (Nat.le_of_ble_eq_true rfl) cdX12_packetAt naX12_packetAt lkX12_60 stX12_packetAt rfl rfl (Nat.le_of_ble_eq_true rfl) (z_aload dX12_hearsPacket_151 rfl (z_getR dX12_hearsPacket_152 fkX12_13 in1_0 sh1_0 rfl (z_const dX12_hearsPacket_155 (z_ialdN dX12_hearsPacket_157 in1_1 sh1_1 (Nat.le_of_ble_eq_true rfl) (Nat.le_of_ble_eq_true rfl) (z_const dX12_hearsPacket_158 (z_aload dX12_hearsPacket_159 rfl ?_)))))))))))
    obtain ⟨r3, l2, h⟩ := zbd_some h
    obtain ⟨s4, h⟩ := zchk_some h
    have h := zlet_h h
    exact z_iload dX12_hearsPacket_160 rfl (z_iload dX12_hearsPacket_161 rfl (z_callV dX12_hearsPacket_163 (tX12_estOf l2) (Nat.le_of_ble_eq_true rfl) cdX12_estOf naX12_estOf lkX12_256 imX12_estOf seX12_estOf in1_0 sh1_0 rfl rfl rfl (Nat.le_of_ble_eq_true rfl) (z_imul dX12_hearsPacket_166 (z_iadd dX12_hearsPacket_167 (z_iast dX12_hearsPacket_168 in1_1 sh1_1 (zin_vp s4) (z_mask [false, false, false, false, false, true] (sX12_hearsPacket_169 h)))))))
def jX12_hearsPacket_106 (F : Nat) (a1 a2 a3 a4 a5 : Int32) (X : zX) : Option (Int32 × zX) := zbd (eX12_ofPacket a1 a2 (nI 5) X) fun r2 => if r2 = (-1) then jX12_hearsPacket_136 F a1 a2 a3 a4 a5 X else zchk (zin (((nI 18) + ((nI 244) * a1)) + (((nI 28) + ((nI 18) * a2)) + (nI 5))) 2422) (zlet (zw X 1 (zn (((nI 18) + ((nI 244) * a1)) + (((nI 28) + ((nI 18) * a2)) + (nI 5)))) (-1)) fun X5 => zbd (eX12_more a1 (nI 9) X5) fun y7 => jX12_hearsPacket_136 F a1 a2 a3 a4 a5 y7)
set_option maxRecDepth 20000 in
set_option maxHeartbeats 4000000 in
theorem sX12_hearsPacket_106 {μ : zM} {F : Nat} {a1 a2 a3 a4 a5 : Int32} {X : zX} {ρ : Int32 × zX} (h : jX12_hearsPacket_106 F a1 a2 a3 a4 a5 X = some ρ) : zJ mX12_hearsPacket 4 (0, 0) (0, 0) (zQ (some (zi ρ.1)) (zg μ 1 ρ.2)) 106 [some (zq 1 0), some (zi a1), some (zi a2), some (zi a3), some (zi a4), some (zi a5)] [] (zg μ 1 X) := by
  unfold jX12_hearsPacket_106 at h
  obtain ⟨r2, l1, h⟩ := zbd_some h
  refine z_aload dX12_hearsPacket_106 rfl (z_iload dX12_hearsPacket_107 rfl (z_iload dX12_hearsPacket_108 rfl (z_const dX12_hearsPacket_109 (z_callV dX12_hearsPacket_110 (tX12_ofPacket l1) (Nat.le_of_ble_eq_true rfl) cdX12_ofPacket naX12_ofPacket lkX12_213 imX12_ofPacket seX12_ofPacket in1_0 sh1_0 rfl rfl rfl (Nat.le_of_ble_eq_true rfl) (z_const dX12_hearsPacket_113 (z_icmp_eq dX12_hearsPacket_114 (fun c3 => ?_) (fun c3 => ?_)))))))
  · have h := ziT h (c3)
    exact z_mask [true, true, true, true, true, true] (sX12_hearsPacket_136 h)
  · have h := ziF h (c3)
    obtain ⟨s4, h⟩ := zchk_some h
    have h := zlet_h h
    obtain ⟨y7, l6, h⟩ := zbd_some h
    refine z_aload dX12_hearsPacket_117 rfl (z_getR dX12_hearsPacket_118 fkX12_13 in1_0 sh1_0 rfl (z_iload dX12_hearsPacket_121 rfl (z_iload dX12_hearsPacket_122 rfl (z_const dX12_hearsPacket_123 (z_callS dX12_hearsPacket_124 (tX12_packetAt) (Nat.le_of_ble_eq_true rfl) cdX12_packetAt naX12_packetAt lkX12_60 stX12_packetAt rfl rfl (Nat.le_of_ble_eq_true rfl) (z_const dX12_hearsPacket_127 (z_iast dX12_hearsPacket_128 in1_1 sh1_1 (zin_vp s4) (z_aload dX12_hearsPacket_129 rfl (z_iload dX12_hearsPacket_130 rfl (z_const dX12_hearsPacket_131 (z_callV dX12_hearsPacket_133 (tX12_more l6) (Nat.le_of_ble_eq_true rfl) cdX12_more naX12_more lkX12_275 imX12_more seX12_more in1_0 sh1_0 rfl rfl rfl (Nat.le_of_ble_eq_true rfl) ?_)))))))))))
    exact z_mask [true, true, true, true, true, true] (sX12_hearsPacket_136 h)
def eX12_hearsPacket (F : Nat) (x0 x1 x2 x3 : Int32) (X : zX) : Option (Int32 × zX) := zbd (eX12_hasIt x0 x1 X) fun r2 => if r2 = 0 then zchk (zin (((nI 18) + ((nI 244) * x0)) + (nI 1)) 2422) (zchk (zin (((nI 18) + ((nI 244) * x0)) + (nI 1)) 2422) (zlet (zw X 1 (zn (((nI 18) + ((nI 244) * x0)) + (nI 1))) ((X 1 (zn (((nI 18) + ((nI 244) * x0)) + (nI 1)))) ||| ((nI 1) <<< (x1 &&& 31)))) fun X6 => zbd (eX12_hasItFrom x0 x1 x3 (X6 1 14) X6) fun y8 => zbd (eX12_noGap x0 x1 y8) fun y10 => zbd (eX12_isTold F x0 (nI 3) x1 y10) fun y12 => zbd (eX12_ofPacket x0 x1 (nI 0) y12) fun r14 => if r14 = (-1) then jX12_hearsPacket_106 F x0 x1 x2 x3 r2 y12 else zchk (zin (((nI 18) + ((nI 244) * x0)) + (((nI 28) + ((nI 18) * x1)) + (nI 0))) 2422) (zlet (zw y12 1 (zn (((nI 18) + ((nI 244) * x0)) + (((nI 28) + ((nI 18) * x1)) + (nI 0)))) (-1)) fun X17 => zbd (eX12_ofPacket x0 x1 (nI 3) X17) fun r19 => zbd (eX12_adapts x0 r19 X17) fun y21 => jX12_hearsPacket_106 F x0 x1 x2 x3 r2 y21))) else if x2 = 0 then jX12_hearsPacket_106 F x0 x1 x2 x3 r2 X else zbd (eX12_more x0 (nI 8) X) fun y24 => jX12_hearsPacket_106 F x0 x1 x2 x3 r2 y24
set_option maxRecDepth 20000 in
set_option maxHeartbeats 4000000 in
theorem tX12_hearsPacket {μ : zM} {F : Nat} {x0 x1 x2 x3 : Int32} {X : zX} {ρ : Int32 × zX} (h : eX12_hearsPacket F x0 x1 x2 x3 X = some ρ) : LM mX12_hearsPacket 4 [zq 1 0, zi x0, zi x1, zi x2, zi x3] (zg μ 1 X) (some (zi ρ.1)) (zg μ 1 ρ.2) := by
  unfold eX12_hearsPacket at h
  refine LM.of (by decide +kernel) rfl (Nat.le_of_ble_eq_true rfl) ?_
  show zJ mX12_hearsPacket 4 (0, 0) (0, 0) _ 0 [some (zq 1 0), some (zi x0), some (zi x1), some (zi x2), some (zi x3), none] [] _
  obtain ⟨r2, l1, h⟩ := zbd_some h
  refine z_aload dX12_hearsPacket_0 rfl (z_iload dX12_hearsPacket_1 rfl (z_iload dX12_hearsPacket_2 rfl (z_callV dX12_hearsPacket_3 (tX12_hasIt l1) (Nat.le_of_ble_eq_true rfl) cdX12_hasIt naX12_hasIt lkX12_272 imX12_hasIt seX12_hasIt in1_0 sh1_0 rfl rfl rfl (Nat.le_of_ble_eq_true rfl) (z_istore dX12_hearsPacket_6 (Nat.le_of_ble_eq_true rfl) (z_iload dX12_hearsPacket_8 rfl (z_if_eq dX12_hearsPacket_10 (fun c3 => ?_) (fun c3 => ?_)))))))
  · have h := ziT h (c3)
    obtain ⟨s4, h⟩ := zchk_some h
    obtain ⟨s5, h⟩ := zchk_some h
    have h := zlet_h h
    refine z_aload dX12_hearsPacket_27 rfl (z_getR dX12_hearsPacket_28 fkX12_13 in1_0 sh1_0 rfl (z_iload dX12_hearsPacket_31 rfl (z_const dX12_hearsPacket_32 (z_callS dX12_hearsPacket_33 (tX12_nodeAt) (Nat.le_of_ble_eq_true rfl) cdX12_nodeAt naX12_nodeAt lkX12_56 stX12_nodeAt rfl rfl (Nat.le_of_ble_eq_true rfl) (z_dup2 dX12_hearsPacket_36 rfl rfl (z_iald dX12_hearsPacket_37 in1_1 sh1_1 (zin_vp s4) (z_const dX12_hearsPacket_38 (z_iload dX12_hearsPacket_39 rfl (z_ishl dX12_hearsPacket_40 (z_ior dX12_hearsPacket_41 (z_iast dX12_hearsPacket_42 in1_1 sh1_1 (zin_vp s5) ?_)))))))))))
    obtain ⟨y8, l7, h⟩ := zbd_some h
    refine z_aload dX12_hearsPacket_43 rfl (z_iload dX12_hearsPacket_44 rfl (z_iload dX12_hearsPacket_45 rfl (z_iload dX12_hearsPacket_46 rfl (z_aload dX12_hearsPacket_48 rfl (z_getR dX12_hearsPacket_49 fkX12_13 in1_0 sh1_0 rfl (z_const dX12_hearsPacket_52 (z_ialdN dX12_hearsPacket_54 in1_1 sh1_1 (Nat.le_of_ble_eq_true rfl) (Nat.le_of_ble_eq_true rfl) (z_callV dX12_hearsPacket_55 (tX12_hasItFrom l7) (Nat.le_of_ble_eq_true rfl) cdX12_hasItFrom naX12_hasItFrom lkX12_132 imX12_hasItFrom seX12_hasItFrom in1_0 sh1_0 rfl rfl rfl (Nat.le_of_ble_eq_true rfl) (z_aload dX12_hearsPacket_58 rfl (z_iload dX12_hearsPacket_59 rfl (z_iload dX12_hearsPacket_60 rfl ?_)))))))))))
    obtain ⟨y10, l9, h⟩ := zbd_some h
    obtain ⟨y12, l11, h⟩ := zbd_some h
    obtain ⟨r14, l13, h⟩ := zbd_some h
    refine z_callV dX12_hearsPacket_61 (tX12_noGap l9) (Nat.le_of_ble_eq_true rfl) cdX12_noGap naX12_noGap lkX12_250 imX12_noGap seX12_noGap in1_0 sh1_0 rfl rfl rfl (Nat.le_of_ble_eq_true rfl) (z_aload dX12_hearsPacket_64 rfl (z_iload dX12_hearsPacket_65 rfl (z_const dX12_hearsPacket_66 (z_iload dX12_hearsPacket_67 rfl (z_callV dX12_hearsPacket_68 (tX12_isTold l11) (Nat.le_of_ble_eq_true rfl) cdX12_isTold naX12_isTold lkX12_278 imX12_isTold seX12_isTold in1_0 sh1_0 rfl rfl rfl (Nat.le_of_ble_eq_true rfl) (z_aload dX12_hearsPacket_71 rfl (z_iload dX12_hearsPacket_72 rfl (z_iload dX12_hearsPacket_73 rfl (z_const dX12_hearsPacket_74 (z_callV dX12_hearsPacket_75 (tX12_ofPacket l13) (Nat.le_of_ble_eq_true rfl) cdX12_ofPacket naX12_ofPacket lkX12_213 imX12_ofPacket seX12_ofPacket in1_0 sh1_0 rfl rfl rfl (Nat.le_of_ble_eq_true rfl) (z_const dX12_hearsPacket_78 ?_)))))))))))
    refine z_icmp_eq dX12_hearsPacket_79 (fun c15 => ?_) (fun c15 => ?_)
    · have h := ziT h (c15)
      exact z_mask [true, true, true, true, true, true] (sX12_hearsPacket_106 h)
    · have h := ziF h (c15)
      obtain ⟨s16, h⟩ := zchk_some h
      have h := zlet_h h
      refine z_aload dX12_hearsPacket_82 rfl (z_getR dX12_hearsPacket_83 fkX12_13 in1_0 sh1_0 rfl (z_iload dX12_hearsPacket_86 rfl (z_iload dX12_hearsPacket_87 rfl (z_const dX12_hearsPacket_88 (z_callS dX12_hearsPacket_89 (tX12_packetAt) (Nat.le_of_ble_eq_true rfl) cdX12_packetAt naX12_packetAt lkX12_60 stX12_packetAt rfl rfl (Nat.le_of_ble_eq_true rfl) (z_const dX12_hearsPacket_92 (z_iast dX12_hearsPacket_93 in1_1 sh1_1 (zin_vp s16) (z_aload dX12_hearsPacket_94 rfl (z_iload dX12_hearsPacket_95 rfl (z_aload dX12_hearsPacket_96 rfl (z_iload dX12_hearsPacket_97 rfl ?_)))))))))))
      obtain ⟨r19, l18, h⟩ := zbd_some h
      obtain ⟨y21, l20, h⟩ := zbd_some h
      exact z_iload dX12_hearsPacket_98 rfl (z_const dX12_hearsPacket_99 (z_callV dX12_hearsPacket_100 (tX12_ofPacket l18) (Nat.le_of_ble_eq_true rfl) cdX12_ofPacket naX12_ofPacket lkX12_213 imX12_ofPacket seX12_ofPacket in1_0 sh1_0 rfl rfl rfl (Nat.le_of_ble_eq_true rfl) (z_callV dX12_hearsPacket_103 (tX12_adapts l20) (Nat.le_of_ble_eq_true rfl) cdX12_adapts naX12_adapts lkX12_281 imX12_adapts seX12_adapts in1_0 sh1_0 rfl rfl rfl (Nat.le_of_ble_eq_true rfl) (z_mask [true, true, true, true, true, true] (sX12_hearsPacket_106 h)))))
  · have h := ziF h (c3)
    refine z_iload dX12_hearsPacket_13 rfl (z_if_eq dX12_hearsPacket_14 (fun c22 => ?_) (fun c22 => ?_))
    · have h := ziT h (c22)
      exact z_mask [true, true, true, true, true, true] (sX12_hearsPacket_106 h)
    · have h := ziF h (c22)
      obtain ⟨y24, l23, h⟩ := zbd_some h
      exact z_aload dX12_hearsPacket_17 rfl (z_iload dX12_hearsPacket_18 rfl (z_const dX12_hearsPacket_19 (z_callV dX12_hearsPacket_21 (tX12_more l23) (Nat.le_of_ble_eq_true rfl) cdX12_more naX12_more lkX12_275 imX12_more seX12_more in1_0 sh1_0 rfl rfl rfl (Nat.le_of_ble_eq_true rfl) (z_goto dX12_hearsPacket_24 (z_mask [true, true, true, true, true, true] (sX12_hearsPacket_106 h))))))
-- X12_isHolder
def eX12_isHolder (x0 x1 : Int32) (X : zX) : Option (Int32) := zbd (eX12_isUp x0 X) fun r2 => if r2 = 0 then some (nI 0) else zbd (eX12_hasIt x0 x1 X) fun r5 => if r5 = 0 then some (nI 0) else some (nI 1)
set_option maxRecDepth 20000 in
set_option maxHeartbeats 4000000 in
theorem tX12_isHolder {μ : zM} {x0 x1 : Int32} {X : zX} {ρ : Int32} (h : eX12_isHolder x0 x1 X = some ρ) : LM mX12_isHolder 4 [zq 1 0, zi x0, zi x1] (zg μ 1 X) (some (zi ρ)) (zg μ 1 X) := by
  unfold eX12_isHolder at h
  refine LM.of (by decide +kernel) rfl (Nat.le_of_ble_eq_true rfl) ?_
  show zJ mX12_isHolder 4 (0, 0) (0, 0) _ 0 [some (zq 1 0), some (zi x0), some (zi x1)] [] _
  obtain ⟨r2, l1, h⟩ := zbd_some h
  refine z_aload dX12_isHolder_0 rfl (z_iload dX12_isHolder_1 rfl (z_callV dX12_isHolder_2 (tX12_isUp l1) (Nat.le_of_ble_eq_true rfl) cdX12_isUp naX12_isUp lkX12_287 imX12_isUp seX12_isUp in1_0 sh1_0 rfl rfl rfl (Nat.le_of_ble_eq_true rfl) (z_if_eq dX12_isHolder_5 (fun c3 => ?_) (fun c3 => ?_))))
  · have h := ziT h (c3)
    exact z_const dX12_isHolder_21 (z_zretQ dX12_isHolder_22 rfl rfl (by cases h; rfl))
  · have h := ziF h (c3)
    obtain ⟨r5, l4, h⟩ := zbd_some h
    refine z_aload dX12_isHolder_8 rfl (z_iload dX12_isHolder_9 rfl (z_iload dX12_isHolder_10 rfl (z_callV dX12_isHolder_11 (tX12_hasIt l4) (Nat.le_of_ble_eq_true rfl) cdX12_hasIt naX12_hasIt lkX12_272 imX12_hasIt seX12_hasIt in1_0 sh1_0 rfl rfl rfl (Nat.le_of_ble_eq_true rfl) (z_if_eq dX12_isHolder_14 (fun c6 => ?_) (fun c6 => ?_)))))
    · have h := ziT h (c6)
      exact z_const dX12_isHolder_21 (z_zretQ dX12_isHolder_22 rfl rfl (by cases h; rfl))
    · have h := ziF h (c6)
      exact z_const dX12_isHolder_17 (z_goto dX12_isHolder_18 (z_zretQ dX12_isHolder_22 rfl rfl (by cases h; rfl)))
-- X12_isWhole
def jX12_isWhole_47 (F : Nat) (K15 : Int32 → Int32 → Int32 → zX → Option (Int32)) (a2 a3 : Int32) (X : zX) : Option (Int32) := K15 (nI 1) a2 (a3 + (nI 1)) X
set_option maxRecDepth 20000 in
set_option maxHeartbeats 4000000 in
theorem sX12_isWhole_47 {μ : zM} {F : Nat} {K15 : Int32 → Int32 → Int32 → zX → Option (Int32)} (hK15 : ∀ {xa1 xa2 xa3 : Int32} {xX : zX} {ρ : Int32}, K15 xa1 xa2 xa3 xX = some ρ → zJ mX12_isWhole 4 (0, 0) (0, 0) (zQ (some (zi ρ)) (zg μ 1 xX)) 15 [some (zq 1 0), some (zi xa1), some (zi xa2), some (zi xa3)] [] (zg μ 1 xX)) {a2 a3 : Int32} {X : zX} {ρ : Int32} (h : jX12_isWhole_47 F K15 a2 a3 X = some ρ) : zJ mX12_isWhole 4 (0, 0) (0, 0) (zQ (some (zi ρ)) (zg μ 1 X)) 47 [some (zq 1 0), none, some (zi a2), some (zi a3)] [] (zg μ 1 X) := by
  unfold jX12_isWhole_47 at h
  exact z_const dX12_isWhole_47 (z_goto dX12_isWhole_48 (z_istore dX12_isWhole_52 (Nat.le_of_ble_eq_true rfl) (z_iinc dX12_isWhole_53 (Nat.le_of_ble_eq_true rfl) rfl (z_goto dX12_isWhole_56 (z_mask [true, true, true, true] (hK15 h))))))
def jX12_isWhole_51 (F : Nat) (K15 : Int32 → Int32 → Int32 → zX → Option (Int32)) (a2 a3 : Int32) (X : zX) : Option (Int32) := K15 (nI 0) a2 (a3 + (nI 1)) X
set_option maxRecDepth 20000 in
set_option maxHeartbeats 4000000 in
theorem sX12_isWhole_51 {μ : zM} {F : Nat} {K15 : Int32 → Int32 → Int32 → zX → Option (Int32)} (hK15 : ∀ {xa1 xa2 xa3 : Int32} {xX : zX} {ρ : Int32}, K15 xa1 xa2 xa3 xX = some ρ → zJ mX12_isWhole 4 (0, 0) (0, 0) (zQ (some (zi ρ)) (zg μ 1 xX)) 15 [some (zq 1 0), some (zi xa1), some (zi xa2), some (zi xa3)] [] (zg μ 1 xX)) {a2 a3 : Int32} {X : zX} {ρ : Int32} (h : jX12_isWhole_51 F K15 a2 a3 X = some ρ) : zJ mX12_isWhole 4 (0, 0) (0, 0) (zQ (some (zi ρ)) (zg μ 1 X)) 51 [some (zq 1 0), none, some (zi a2), some (zi a3)] [] (zg μ 1 X) := by
  unfold jX12_isWhole_51 at h
  exact z_const dX12_isWhole_51 (z_istore dX12_isWhole_52 (Nat.le_of_ble_eq_true rfl) (z_iinc dX12_isWhole_53 (Nat.le_of_ble_eq_true rfl) rfl (z_goto dX12_isWhole_56 (z_mask [true, true, true, true] (hK15 h)))))
def hX12_isWhole_15 (F : Nat) : Nat → Int32 → Int32 → Int32 → zX → Option (Int32)
  | 0, _, _, _, _ => none
  | n + 1, a1, a2, a3, X => if (X 1 0) ≤ a3 then zchk (zbl a1) (some a1) else if a1 = 0 then jX12_isWhole_51 F (hX12_isWhole_15 F n) a2 a3 X else zbd (eX12_isUp a3 X) fun r5 => if r5 = 0 then jX12_isWhole_47 F (hX12_isWhole_15 F n) a2 a3 X else zbd (eX12_of a3 (nI 1) X) fun r8 => if (r8 &&& a2) = a2 then jX12_isWhole_47 F (hX12_isWhole_15 F n) a2 a3 X else jX12_isWhole_51 F (hX12_isWhole_15 F n) a2 a3 X
set_option maxRecDepth 20000 in
set_option maxHeartbeats 4000000 in
theorem sX12_isWhole_15 {μ : zM} {F : Nat} : ∀ {n : Nat} {a1 a2 a3 : Int32} {X : zX} {ρ : Int32}, hX12_isWhole_15 F n a1 a2 a3 X = some ρ → zJ mX12_isWhole 4 (0, 0) (0, 0) (zQ (some (zi ρ)) (zg μ 1 X)) 15 [some (zq 1 0), some (zi a1), some (zi a2), some (zi a3)] [] (zg μ 1 X) := by
  intro n
  induction n with
  | zero => intro a1 a2 a3 X ρ h; exact nomatch (show (none : Option _) = some ρ from h)
  | succ n ih =>
    intro a1 a2 a3 X ρ h
    have hK15 := @ih
    rw [hX12_isWhole_15] at h
    refine z_iload dX12_isWhole_15 rfl (z_aload dX12_isWhole_16 rfl (z_callV dX12_isWhole_17 (tX12_nodes) (Nat.le_of_ble_eq_true rfl) cdX12_nodes naX12_nodes lkX12_67 imX12_nodes seX12_nodes in1_0 sh1_0 rfl rfl rfl (Nat.le_of_ble_eq_true rfl) (z_icmp_ge dX12_isWhole_20 (fun c1 => ?_) (fun c1 => ?_))))
    · have h := ziT h (c1)
      obtain ⟨s2, h⟩ := zchk_some h
      exact z_iload dX12_isWhole_59 rfl (z_zretQ dX12_isWhole_60 rfl (zbl_n (id s2)) (by cases h; rfl))
    · have h := ziF h (c1)
      refine z_iload dX12_isWhole_23 rfl (z_if_eq dX12_isWhole_24 (fun c3 => ?_) (fun c3 => ?_))
      · have h := ziT h (c3)
        exact z_mask [true, false, true, true] (sX12_isWhole_51 hK15 h)
      · have h := ziF h (c3)
        obtain ⟨r5, l4, h⟩ := zbd_some h
        refine z_aload dX12_isWhole_27 rfl (z_iload dX12_isWhole_28 rfl (z_callV dX12_isWhole_29 (tX12_isUp l4) (Nat.le_of_ble_eq_true rfl) cdX12_isUp naX12_isUp lkX12_287 imX12_isUp seX12_isUp in1_0 sh1_0 rfl rfl rfl (Nat.le_of_ble_eq_true rfl) (z_if_eq dX12_isWhole_32 (fun c6 => ?_) (fun c6 => ?_))))
        · have h := ziT h (c6)
          exact z_mask [true, false, true, true] (sX12_isWhole_47 hK15 h)
        · have h := ziF h (c6)
          obtain ⟨r8, l7, h⟩ := zbd_some h
          refine z_aload dX12_isWhole_35 rfl (z_iload dX12_isWhole_36 rfl (z_const dX12_isWhole_37 (z_callV dX12_isWhole_38 (tX12_of l7) (Nat.le_of_ble_eq_true rfl) cdX12_of naX12_of lkX12_78 imX12_of seX12_of in1_0 sh1_0 rfl rfl rfl (Nat.le_of_ble_eq_true rfl) (z_iload dX12_isWhole_41 rfl (z_iand dX12_isWhole_42 (z_iload dX12_isWhole_43 rfl (z_icmp_ne dX12_isWhole_44 (fun c9 => ?_) (fun c9 => ?_))))))))
          · have h := ziF h (c9)
            exact z_mask [true, false, true, true] (sX12_isWhole_51 hK15 h)
          · have h := ziT h (c9)
            exact z_mask [true, false, true, true] (sX12_isWhole_47 hK15 h)
def eX12_isWhole (F : Nat) (X : zX) : Option (Int32) := hX12_isWhole_15 F F (nI 1) (((nI 1) <<< ((X 1 4) &&& 31)) - (nI 1)) (nI 0) X
set_option maxRecDepth 20000 in
set_option maxHeartbeats 4000000 in
theorem tX12_isWhole {μ : zM} {F : Nat} {X : zX} {ρ : Int32} (h : eX12_isWhole F X = some ρ) : LM mX12_isWhole 4 [zq 1 0] (zg μ 1 X) (some (zi ρ)) (zg μ 1 X) := by
  unfold eX12_isWhole at h
  refine LM.of (by decide +kernel) rfl (Nat.le_of_ble_eq_true rfl) ?_
  show zJ mX12_isWhole 4 (0, 0) (0, 0) _ 0 [some (zq 1 0), none, none, none] [] _
  refine z_const dX12_isWhole_0 (z_istore dX12_isWhole_1 (Nat.le_of_ble_eq_true rfl) (z_const dX12_isWhole_2 (z_aload dX12_isWhole_3 rfl (z_getR dX12_isWhole_4 fkX12_13 in1_0 sh1_0 rfl (z_const dX12_isWhole_7 (z_ialdN dX12_isWhole_8 in1_1 sh1_1 (Nat.le_of_ble_eq_true rfl) (Nat.le_of_ble_eq_true rfl) (z_ishl dX12_isWhole_9 (z_const dX12_isWhole_10 (z_isub dX12_isWhole_11 (z_istore dX12_isWhole_12 (Nat.le_of_ble_eq_true rfl) (z_const dX12_isWhole_13 ?_)))))))))))
  exact z_istore dX12_isWhole_14 (Nat.le_of_ble_eq_true rfl) (z_mask [true, true, true, true] (sX12_isWhole_15 h))
-- X12_laysGivers
def hX12_laysGivers_33 (F : Nat) : Nat → Int32 → Int32 → Int32 → Int32 → zX → Option (Int32 × zX)
  | 0, _, _, _, _, _ => none
  | n + 1, a2, a3, a4, a5, X => if a5 = (-1) then some (a3, X) else if ((a4 >>> (a5 &&& 31)) &&& (nI 1)) = (nI 1) then some (a3, X) else zchk (zin a3 6) (zbd (eX12_ofPacket a5 a2 (nI 9) (zw X 11 (zn a3) a5)) fun r5 => (hX12_laysGivers_33 F n) a2 (a3 + (nI 1)) (a4 ||| ((nI 1) <<< (a5 &&& 31))) r5 (zw X 11 (zn a3) a5))
set_option maxRecDepth 20000 in
set_option maxHeartbeats 4000000 in
theorem sX12_laysGivers_33 {μ : zM} {F : Nat} : ∀ {n : Nat} {a2 a3 a4 a5 : Int32} {X : zX} {ρ : Int32 × zX}, hX12_laysGivers_33 F n a2 a3 a4 a5 X = some ρ → zJ mX12_laysGivers 4 (0, 0) (0, 0) (zQ (some (zi ρ.1)) (zg μ 1 ρ.2)) 33 [some (zq 1 0), none, some (zi a2), some (zi a3), some (zi a4), some (zi a5)] [] (zg μ 1 X) := by
  intro n
  induction n with
  | zero => intro a2 a3 a4 a5 X ρ h; exact nomatch (show (none : Option _) = some ρ from h)
  | succ n ih =>
    intro a2 a3 a4 a5 X ρ h
    have hK33 := @ih
    rw [hX12_laysGivers_33] at h
    refine z_iload dX12_laysGivers_33 rfl (z_const dX12_laysGivers_35 (z_icmp_eq dX12_laysGivers_36 (fun c1 => ?_) (fun c1 => ?_)))
    · have h := ziT h (c1)
      exact z_iload dX12_laysGivers_83 rfl (z_iretQ dX12_laysGivers_84 rfl (by cases h; rfl))
    · have h := ziF h (c1)
      refine z_iload dX12_laysGivers_39 rfl (z_iload dX12_laysGivers_41 rfl (z_callS dX12_laysGivers_43 (tX12_has) (Nat.le_of_ble_eq_true rfl) cdX12_has naX12_has lkX12_81 stX12_has rfl rfl (Nat.le_of_ble_eq_true rfl) (z_if_ne dX12_laysGivers_46 (fun c2 => ?_) (fun c2 => ?_))))
      · have h := ziT h (zB_n0.mp c2)
        exact z_iload dX12_laysGivers_83 rfl (z_iretQ dX12_laysGivers_84 rfl (by cases h; rfl))
      · have h := ziF h (zB_0.mp c2)
        obtain ⟨s3, h⟩ := zchk_some h
        refine z_aload dX12_laysGivers_49 rfl (z_getR dX12_laysGivers_50 fkX12_49 in1_0 sh1_0 rfl (z_iload dX12_laysGivers_53 rfl (z_iload dX12_laysGivers_54 rfl (z_iast dX12_laysGivers_56 in1_11 sh1_11 (zin_vp s3) (z_iinc dX12_laysGivers_57 (Nat.le_of_ble_eq_true rfl) rfl (z_iload dX12_laysGivers_60 rfl (z_const dX12_laysGivers_62 (z_iload dX12_laysGivers_63 rfl (z_ishl dX12_laysGivers_65 (z_ior dX12_laysGivers_66 (z_istore dX12_laysGivers_67 (Nat.le_of_ble_eq_true rfl) ?_)))))))))))
        obtain ⟨r5, l4, h⟩ := zbd_some h
        exact z_aload dX12_laysGivers_69 rfl (z_iload dX12_laysGivers_70 rfl (z_iload dX12_laysGivers_72 rfl (z_const dX12_laysGivers_73 (z_callV dX12_laysGivers_75 (tX12_ofPacket l4) (Nat.le_of_ble_eq_true rfl) cdX12_ofPacket naX12_ofPacket lkX12_213 imX12_ofPacket seX12_ofPacket in1_0 sh1_0 rfl rfl rfl (Nat.le_of_ble_eq_true rfl) (z_istore dX12_laysGivers_78 (Nat.le_of_ble_eq_true rfl) (z_goto dX12_laysGivers_80 (z_mask [true, false, true, true, true, true] (hK33 h))))))))
def eX12_laysGivers (F : Nat) (x0 x1 : Int32) (X : zX) : Option (Int32 × zX) := zbd (eX12_ofPacket x0 x1 (nI 9) X) fun r2 => if r2 = x0 then some ((nI 1), zw X 11 0 r2) else hX12_laysGivers_33 F F x1 (nI 0) ((nI 1) <<< (x0 &&& 31)) r2 X
set_option maxRecDepth 20000 in
set_option maxHeartbeats 4000000 in
theorem tX12_laysGivers {μ : zM} {F : Nat} {x0 x1 : Int32} {X : zX} {ρ : Int32 × zX} (h : eX12_laysGivers F x0 x1 X = some ρ) : LM mX12_laysGivers 4 [zq 1 0, zi x0, zi x1] (zg μ 1 X) (some (zi ρ.1)) (zg μ 1 ρ.2) := by
  unfold eX12_laysGivers at h
  refine LM.of (by decide +kernel) rfl (Nat.le_of_ble_eq_true rfl) ?_
  show zJ mX12_laysGivers 4 (0, 0) (0, 0) _ 0 [some (zq 1 0), some (zi x0), some (zi x1), none, none, none] [] _
  obtain ⟨r2, l1, h⟩ := zbd_some h
  refine z_const dX12_laysGivers_0 (z_istore dX12_laysGivers_1 (Nat.le_of_ble_eq_true rfl) (z_const dX12_laysGivers_2 (z_iload dX12_laysGivers_3 rfl (z_ishl dX12_laysGivers_4 (z_istore dX12_laysGivers_5 (Nat.le_of_ble_eq_true rfl) (z_aload dX12_laysGivers_7 rfl (z_iload dX12_laysGivers_8 rfl (z_iload dX12_laysGivers_9 rfl (z_const dX12_laysGivers_10 (z_callV dX12_laysGivers_12 (tX12_ofPacket l1) (Nat.le_of_ble_eq_true rfl) cdX12_ofPacket naX12_ofPacket lkX12_213 imX12_ofPacket seX12_ofPacket in1_0 sh1_0 rfl rfl rfl (Nat.le_of_ble_eq_true rfl) (z_istore dX12_laysGivers_15 (Nat.le_of_ble_eq_true rfl) ?_)))))))))))
  refine z_iload dX12_laysGivers_17 rfl (z_iload dX12_laysGivers_19 rfl (z_icmp_ne dX12_laysGivers_20 (fun c3 => ?_) (fun c3 => ?_)))
  · have h := ziF h (c3)
    exact z_mask [true, false, true, true, true, true] (sX12_laysGivers_33 h)
  · have h := ziT h (c3)
    exact z_aload dX12_laysGivers_23 rfl (z_getR dX12_laysGivers_24 fkX12_49 in1_0 sh1_0 rfl (z_const dX12_laysGivers_27 (z_iload dX12_laysGivers_28 rfl (z_iastN dX12_laysGivers_30 in1_11 sh1_11 (Nat.le_of_ble_eq_true rfl) (Nat.le_of_ble_eq_true rfl) (z_const dX12_laysGivers_31 (z_iretQ dX12_laysGivers_32 rfl (by cases h; rfl)))))))
-- X12_readNumber
def jX12_readNumber_29 (F : Nat) (a4 b0 b1 : Int32) (X : zX) : Option (Int32 × zX) := zchk (zin b1 2422) (if a4 < 0 then some ((nI 0), zw X 1 (zn b1) b0) else some ((nI 1), zw X 1 (zn b1) b0))
set_option maxRecDepth 20000 in
set_option maxHeartbeats 4000000 in
theorem sX12_readNumber_29 {μ : zM} {F : Nat} {a4 b0 b1 : Int32} {X : zX} {ρ : Int32 × zX} (h : jX12_readNumber_29 F a4 b0 b1 X = some ρ) : zJ mX12_readNumber 4 (0, 0) (0, 0) (zQ (some (zi ρ.1)) (zg μ 1 ρ.2)) 29 [none, none, none, none, some (zi a4)] [zi b0, zi b1, zq 1 1] (zg μ 1 X) := by
  unfold jX12_readNumber_29 at h
  obtain ⟨s1, h⟩ := zchk_some h
  refine z_iast dX12_readNumber_29 in1_1 sh1_1 (zin_vp s1) (z_iload dX12_readNumber_30 rfl (z_if_lt dX12_readNumber_32 (fun c2 => ?_) (fun c2 => ?_)))
  · have h := ziT h (c2)
    exact z_const dX12_readNumber_39 (z_zretQ dX12_readNumber_40 rfl rfl (by cases h; rfl))
  · have h := ziF h (c2)
    exact z_const dX12_readNumber_35 (z_goto dX12_readNumber_36 (z_zretQ dX12_readNumber_40 rfl rfl (by cases h; rfl)))
def eX12_readNumber (F : Nat) (x0 x1 x2 : Int32) (X : zX) : Option (Int32 × zX) := zbd (eX12_number F x1 x2 X) fun y2 => if 0 ≤ y2.1 then jX12_readNumber_29 F y2.1 y2.1 x0 y2.2 else zchk (zin x0 2422) (jX12_readNumber_29 F y2.1 (y2.2 1 (zn x0)) x0 y2.2)
set_option maxRecDepth 20000 in
set_option maxHeartbeats 4000000 in
theorem tX12_readNumber {μ : zM} {F : Nat} {x0 x1 x2 : Int32} {X : zX} {ρ : Int32 × zX} (h : eX12_readNumber F x0 x1 x2 X = some ρ) : LM mX12_readNumber 4 [zq 1 0, zi x0, zi x1, zi x2] (zg μ 1 X) (some (zi ρ.1)) (zg μ 1 ρ.2) := by
  unfold eX12_readNumber at h
  refine LM.of (by decide +kernel) rfl (Nat.le_of_ble_eq_true rfl) ?_
  show zJ mX12_readNumber 4 (0, 0) (0, 0) _ 0 [some (zq 1 0), some (zi x0), some (zi x1), some (zi x2), none] [] _
  obtain ⟨y2, l1, h⟩ := zbd_some h
  refine z_aload dX12_readNumber_0 rfl (z_iload dX12_readNumber_1 rfl (z_iload dX12_readNumber_2 rfl (z_callV dX12_readNumber_3 (tX12_number l1) (Nat.le_of_ble_eq_true rfl) cdX12_number naX12_number lkX12_120 imX12_number seX12_number in1_0 sh1_0 rfl rfl rfl (Nat.le_of_ble_eq_true rfl) (z_istore dX12_readNumber_6 (Nat.le_of_ble_eq_true rfl) (z_aload dX12_readNumber_8 rfl (z_getR dX12_readNumber_9 fkX12_13 in1_0 sh1_0 rfl (z_iload dX12_readNumber_12 rfl (z_iload dX12_readNumber_13 rfl (z_if_ge dX12_readNumber_15 (fun c3 => ?_) (fun c3 => ?_))))))))))
  · have h := ziT h (c3)
    exact z_iload dX12_readNumber_27 rfl (z_mask [false, false, false, false, true] (sX12_readNumber_29 h))
  · have h := ziF h (c3)
    obtain ⟨s4, h⟩ := zchk_some h
    exact z_aload dX12_readNumber_18 rfl (z_getR dX12_readNumber_19 fkX12_13 in1_0 sh1_0 rfl (z_iload dX12_readNumber_22 rfl (z_iald dX12_readNumber_23 in1_1 sh1_1 (zin_vp s4) (z_goto dX12_readNumber_24 (z_mask [false, false, false, false, true] (sX12_readNumber_29 h))))))
-- X12_timer
def jX12_timer_50 (a1 a2 a3 b0 : Int32) (X : zX) : Option (Int32 × zX) := if a3 = (nI 0) then zbd (eX12_ofPacket a1 a2 (nI 0) X) fun r3 => some (r3, X) else if a3 = (nI 1) then if b0 = 0 then some ((-1), X) else zbd (eX12_ofPacket a1 a2 (nI 1) X) fun r7 => some (r7, X) else if a3 = (nI 2) then if b0 = 0 then some ((-1), X) else zbd (eX12_ofPacket a1 a2 (nI 4) X) fun r11 => some (r11, X) else if a3 = (nI 3) then if b0 = 0 then some ((-1), X) else zbd (eX12_ofPacket a1 a2 (nI 2) X) fun r15 => some (r15, X) else if a3 = (nI 4) then if b0 = 0 then some ((-1), X) else zbd (eX12_ofPacket a1 a2 (nI 3) X) fun r19 => some (r19, X) else if a3 = (nI 5) then zbd (eX12_ofPacket a1 a2 (nI 5) X) fun r22 => some (r22, X) else if a3 = (nI 6) then zbd (eX12_ofPacket a1 a2 (nI 5) X) fun r25 => if r25 = (-1) then some ((-1), X) else zbd (eX12_ofPacket a1 a2 (nI 6) X) fun r28 => some (r28, X) else zbd (eX12_ofPacket a1 a2 (nI 8) X) fun r31 => some (r31, X)
set_option maxRecDepth 20000 in
set_option maxHeartbeats 4000000 in
theorem sX12_timer_50 {μ : zM} {a1 a2 a3 b0 : Int32} {X : zX} {ρ : Int32 × zX} (h : jX12_timer_50 a1 a2 a3 b0 X = some ρ) : zJ mX12_timer 4 (0, 0) (0, 0) (zQ (some (zi ρ.1)) (zg μ 1 ρ.2)) 50 [some (zq 1 0), some (zi a1), some (zi a2), some (zi a3), none] [zi b0] (zg μ 1 X) := by
  unfold jX12_timer_50 at h
  refine z_istore dX12_timer_50 (Nat.le_of_ble_eq_true rfl) (z_iload dX12_timer_52 rfl ?_)
  by_cases c1 : a3 = (nI 0)
  · have h := ziT h c1
    refine z_tabIn (off := 43) (tgt := 96) dX12_timer_53 (by rw [c1]; decide) (by rw [c1]; decide) (by rw [c1]; decide) (by decide) ?_
    obtain ⟨r3, l2, h⟩ := zbd_some h
    exact z_aload dX12_timer_96 rfl (z_iload dX12_timer_97 rfl (z_iload dX12_timer_98 rfl (z_const dX12_timer_99 (z_callV dX12_timer_100 (tX12_ofPacket l2) (Nat.le_of_ble_eq_true rfl) cdX12_ofPacket naX12_ofPacket lkX12_213 imX12_ofPacket seX12_ofPacket in1_0 sh1_0 rfl rfl rfl (Nat.le_of_ble_eq_true rfl) (z_iretQ dX12_timer_103 rfl (by cases h; rfl))))))
  have h := ziF h c1
  by_cases c4 : a3 = (nI 1)
  · have h := ziT h c4
    refine z_tabIn (off := 51) (tgt := 104) dX12_timer_53 (by rw [c4]; decide) (by rw [c4]; decide) (by rw [c4]; decide) (by decide) ?_
    refine z_iload dX12_timer_104 rfl (z_if_eq dX12_timer_106 (fun c5 => ?_) (fun c5 => ?_))
    · have h := ziT h (c5)
      exact z_const dX12_timer_119 (z_iretQ dX12_timer_120 rfl (by cases h; rfl))
    · have h := ziF h (c5)
      obtain ⟨r7, l6, h⟩ := zbd_some h
      exact z_aload dX12_timer_109 rfl (z_iload dX12_timer_110 rfl (z_iload dX12_timer_111 rfl (z_const dX12_timer_112 (z_callV dX12_timer_113 (tX12_ofPacket l6) (Nat.le_of_ble_eq_true rfl) cdX12_ofPacket naX12_ofPacket lkX12_213 imX12_ofPacket seX12_ofPacket in1_0 sh1_0 rfl rfl rfl (Nat.le_of_ble_eq_true rfl) (z_goto dX12_timer_116 (z_iretQ dX12_timer_120 rfl (by cases h; rfl)))))))
  have h := ziF h c4
  by_cases c8 : a3 = (nI 2)
  · have h := ziT h c8
    refine z_tabIn (off := 68) (tgt := 121) dX12_timer_53 (by rw [c8]; decide) (by rw [c8]; decide) (by rw [c8]; decide) (by decide) ?_
    refine z_iload dX12_timer_121 rfl (z_if_eq dX12_timer_123 (fun c9 => ?_) (fun c9 => ?_))
    · have h := ziT h (c9)
      exact z_const dX12_timer_136 (z_iretQ dX12_timer_137 rfl (by cases h; rfl))
    · have h := ziF h (c9)
      obtain ⟨r11, l10, h⟩ := zbd_some h
      exact z_aload dX12_timer_126 rfl (z_iload dX12_timer_127 rfl (z_iload dX12_timer_128 rfl (z_const dX12_timer_129 (z_callV dX12_timer_130 (tX12_ofPacket l10) (Nat.le_of_ble_eq_true rfl) cdX12_ofPacket naX12_ofPacket lkX12_213 imX12_ofPacket seX12_ofPacket in1_0 sh1_0 rfl rfl rfl (Nat.le_of_ble_eq_true rfl) (z_goto dX12_timer_133 (z_iretQ dX12_timer_137 rfl (by cases h; rfl)))))))
  have h := ziF h c8
  by_cases c12 : a3 = (nI 3)
  · have h := ziT h c12
    refine z_tabIn (off := 85) (tgt := 138) dX12_timer_53 (by rw [c12]; decide) (by rw [c12]; decide) (by rw [c12]; decide) (by decide) ?_
    refine z_iload dX12_timer_138 rfl (z_if_eq dX12_timer_140 (fun c13 => ?_) (fun c13 => ?_))
    · have h := ziT h (c13)
      exact z_const dX12_timer_153 (z_iretQ dX12_timer_154 rfl (by cases h; rfl))
    · have h := ziF h (c13)
      obtain ⟨r15, l14, h⟩ := zbd_some h
      exact z_aload dX12_timer_143 rfl (z_iload dX12_timer_144 rfl (z_iload dX12_timer_145 rfl (z_const dX12_timer_146 (z_callV dX12_timer_147 (tX12_ofPacket l14) (Nat.le_of_ble_eq_true rfl) cdX12_ofPacket naX12_ofPacket lkX12_213 imX12_ofPacket seX12_ofPacket in1_0 sh1_0 rfl rfl rfl (Nat.le_of_ble_eq_true rfl) (z_goto dX12_timer_150 (z_iretQ dX12_timer_154 rfl (by cases h; rfl)))))))
  have h := ziF h c12
  by_cases c16 : a3 = (nI 4)
  · have h := ziT h c16
    refine z_tabIn (off := 102) (tgt := 155) dX12_timer_53 (by rw [c16]; decide) (by rw [c16]; decide) (by rw [c16]; decide) (by decide) ?_
    refine z_iload dX12_timer_155 rfl (z_if_eq dX12_timer_157 (fun c17 => ?_) (fun c17 => ?_))
    · have h := ziT h (c17)
      exact z_const dX12_timer_170 (z_iretQ dX12_timer_171 rfl (by cases h; rfl))
    · have h := ziF h (c17)
      obtain ⟨r19, l18, h⟩ := zbd_some h
      exact z_aload dX12_timer_160 rfl (z_iload dX12_timer_161 rfl (z_iload dX12_timer_162 rfl (z_const dX12_timer_163 (z_callV dX12_timer_164 (tX12_ofPacket l18) (Nat.le_of_ble_eq_true rfl) cdX12_ofPacket naX12_ofPacket lkX12_213 imX12_ofPacket seX12_ofPacket in1_0 sh1_0 rfl rfl rfl (Nat.le_of_ble_eq_true rfl) (z_goto dX12_timer_167 (z_iretQ dX12_timer_171 rfl (by cases h; rfl)))))))
  have h := ziF h c16
  by_cases c20 : a3 = (nI 5)
  · have h := ziT h c20
    refine z_tabIn (off := 119) (tgt := 172) dX12_timer_53 (by rw [c20]; decide) (by rw [c20]; decide) (by rw [c20]; decide) (by decide) ?_
    obtain ⟨r22, l21, h⟩ := zbd_some h
    exact z_aload dX12_timer_172 rfl (z_iload dX12_timer_173 rfl (z_iload dX12_timer_174 rfl (z_const dX12_timer_175 (z_callV dX12_timer_176 (tX12_ofPacket l21) (Nat.le_of_ble_eq_true rfl) cdX12_ofPacket naX12_ofPacket lkX12_213 imX12_ofPacket seX12_ofPacket in1_0 sh1_0 rfl rfl rfl (Nat.le_of_ble_eq_true rfl) (z_iretQ dX12_timer_179 rfl (by cases h; rfl))))))
  have h := ziF h c20
  by_cases c23 : a3 = (nI 6)
  · have h := ziT h c23
    refine z_tabIn (off := 127) (tgt := 180) dX12_timer_53 (by rw [c23]; decide) (by rw [c23]; decide) (by rw [c23]; decide) (by decide) ?_
    obtain ⟨r25, l24, h⟩ := zbd_some h
    refine z_aload dX12_timer_180 rfl (z_iload dX12_timer_181 rfl (z_iload dX12_timer_182 rfl (z_const dX12_timer_183 (z_callV dX12_timer_184 (tX12_ofPacket l24) (Nat.le_of_ble_eq_true rfl) cdX12_ofPacket naX12_ofPacket lkX12_213 imX12_ofPacket seX12_ofPacket in1_0 sh1_0 rfl rfl rfl (Nat.le_of_ble_eq_true rfl) (z_const dX12_timer_187 (z_icmp_ne dX12_timer_188 (fun c26 => ?_) (fun c26 => ?_)))))))
    · have h := ziF h (c26)
      obtain ⟨r28, l27, h⟩ := zbd_some h
      exact z_aload dX12_timer_195 rfl (z_iload dX12_timer_196 rfl (z_iload dX12_timer_197 rfl (z_const dX12_timer_198 (z_callV dX12_timer_200 (tX12_ofPacket l27) (Nat.le_of_ble_eq_true rfl) cdX12_ofPacket naX12_ofPacket lkX12_213 imX12_ofPacket seX12_ofPacket in1_0 sh1_0 rfl rfl rfl (Nat.le_of_ble_eq_true rfl) (z_iretQ dX12_timer_203 rfl (by cases h; rfl))))))
    · have h := ziT h (c26)
      exact z_const dX12_timer_191 (z_goto dX12_timer_192 (z_iretQ dX12_timer_203 rfl (by cases h; rfl)))
  have h := ziF h c23
  refine z_tabOut (tgt := 204) dX12_timer_53 (by decide) (zsw_out (zsw_s (zsw_s (zsw_s (zsw_s (zsw_s (zsw_s (zsw_s zsw_0 c1) c4) c8) c12) c16) c20) c23) (by decide)) ?_
  obtain ⟨r31, l30, h⟩ := zbd_some h
  exact z_aload dX12_timer_204 rfl (z_iload dX12_timer_205 rfl (z_iload dX12_timer_206 rfl (z_const dX12_timer_207 (z_callV dX12_timer_209 (tX12_ofPacket l30) (Nat.le_of_ble_eq_true rfl) cdX12_ofPacket naX12_ofPacket lkX12_213 imX12_ofPacket seX12_ofPacket in1_0 sh1_0 rfl rfl rfl (Nat.le_of_ble_eq_true rfl) (z_iretQ dX12_timer_212 rfl (by cases h; rfl))))))
def jX12_timer_25 (a1 a2 a3 b0 : Int32) (X : zX) : Option (Int32 × zX) := zbd (eX12_throwsIf b0 (nI 2) X) fun y2 => if y2.1 = 0 then zbd (eX12_ofPacket a1 a2 (nI 0) y2.2) fun r5 => if r5 = (-1) then jX12_timer_50 a1 a2 a3 (nI 0) y2.2 else jX12_timer_50 a1 a2 a3 (nI 1) y2.2 else some ((nI 0), y2.2)
set_option maxRecDepth 20000 in
set_option maxHeartbeats 4000000 in
theorem sX12_timer_25 {μ : zM} {a1 a2 a3 b0 : Int32} {X : zX} {ρ : Int32 × zX} (h : jX12_timer_25 a1 a2 a3 b0 X = some ρ) : zJ mX12_timer 4 (0, 0) (0, 0) (zQ (some (zi ρ.1)) (zg μ 1 ρ.2)) 25 [some (zq 1 0), some (zi a1), some (zi a2), some (zi a3), none] [zi b0, zq 1 0] (zg μ 1 X) := by
  unfold jX12_timer_25 at h
  obtain ⟨y2, l1, h⟩ := zbd_some h
  refine z_const dX12_timer_25 (z_callV dX12_timer_26 (tX12_throwsIf l1) (Nat.le_of_ble_eq_true rfl) cdX12_throwsIf naX12_throwsIf lkX12_188 imX12_throwsIf seX12_throwsIf in1_0 sh1_0 rfl rfl rfl (Nat.le_of_ble_eq_true rfl) (z_if_eq dX12_timer_29 (fun c3 => ?_) (fun c3 => ?_)))
  · have h := ziT h (c3)
    obtain ⟨r5, l4, h⟩ := zbd_some h
    refine z_aload dX12_timer_34 rfl (z_iload dX12_timer_35 rfl (z_iload dX12_timer_36 rfl (z_const dX12_timer_37 (z_callV dX12_timer_38 (tX12_ofPacket l4) (Nat.le_of_ble_eq_true rfl) cdX12_ofPacket naX12_ofPacket lkX12_213 imX12_ofPacket seX12_ofPacket in1_0 sh1_0 rfl rfl rfl (Nat.le_of_ble_eq_true rfl) (z_const dX12_timer_41 (z_icmp_eq dX12_timer_42 (fun c6 => ?_) (fun c6 => ?_)))))))
    · have h := ziT h (c6)
      exact z_const dX12_timer_49 (z_mask [true, true, true, true, false] (sX12_timer_50 h))
    · have h := ziF h (c6)
      exact z_const dX12_timer_45 (z_goto dX12_timer_46 (z_mask [true, true, true, true, false] (sX12_timer_50 h)))
  · have h := ziF h (c3)
    exact z_const dX12_timer_32 (z_iretQ dX12_timer_33 rfl (by cases h; rfl))
def eX12_timer (x0 x1 x2 : Int32) (X : zX) : Option (Int32 × zX) := zbd (eX12_noNodePacket x0 x1 X) fun y2 => if y2.1 = 0 then if (¬ (x2 < (nI 0))) ∧ (¬ ((nI 7) < x2)) then jX12_timer_25 x0 x1 x2 (nI 0) y2.2 else jX12_timer_25 x0 x1 x2 (nI 1) y2.2 else some ((nI 0), y2.2)
set_option maxRecDepth 20000 in
set_option maxHeartbeats 4000000 in
theorem tX12_timer {μ : zM} {x0 x1 x2 : Int32} {X : zX} {ρ : Int32 × zX} (h : eX12_timer x0 x1 x2 X = some ρ) : LM mX12_timer 4 [zq 1 0, zi x0, zi x1, zi x2] (zg μ 1 X) (some (zi ρ.1)) (zg μ 1 ρ.2) := by
  unfold eX12_timer at h
  refine LM.of (by decide +kernel) rfl (Nat.le_of_ble_eq_true rfl) ?_
  show zJ mX12_timer 4 (0, 0) (0, 0) _ 0 [some (zq 1 0), some (zi x0), some (zi x1), some (zi x2), none] [] _
  obtain ⟨y2, l1, h⟩ := zbd_some h
  refine z_aload dX12_timer_0 rfl (z_iload dX12_timer_1 rfl (z_iload dX12_timer_2 rfl (z_callV dX12_timer_3 (tX12_noNodePacket l1) (Nat.le_of_ble_eq_true rfl) cdX12_noNodePacket naX12_noNodePacket lkX12_339 imX12_noNodePacket seX12_noNodePacket in1_0 sh1_0 rfl rfl rfl (Nat.le_of_ble_eq_true rfl) (z_if_ne dX12_timer_6 (fun c3 => ?_) (fun c3 => ?_)))))
  · have h := ziF h (c3)
    exact z_const dX12_timer_32 (z_iretQ dX12_timer_33 rfl (by cases h; rfl))
  · have h := ziT h (c3)
    refine z_aload dX12_timer_9 rfl (z_iload dX12_timer_10 rfl (z_const dX12_timer_11 (z_const dX12_timer_12 (z_callS dX12_timer_14 (tX12_in) (Nat.le_of_ble_eq_true rfl) cdX12_in naX12_in lkX12_71 stX12_in rfl rfl (Nat.le_of_ble_eq_true rfl) (z_if_ne dX12_timer_17 (fun c4 => ?_) (fun c4 => ?_))))))
    · have h := ziT h (zB_n0.mp c4)
      exact z_const dX12_timer_24 (z_mask [true, true, true, true, false] (sX12_timer_25 h))
    · have h := ziF h (zB_0.mp c4)
      exact z_const dX12_timer_20 (z_goto dX12_timer_21 (z_mask [true, true, true, true, false] (sX12_timer_25 h)))
-- X12_wake
def jX12_wake_44 (a2 a3 b0 b1 : Int32) (X : zX) : Option (Int32 × zX) := zchk (zin b1 2422) (if a3 = a2 then some ((nI 0), zw X 1 (zn b1) b0) else some ((nI 1), zw X 1 (zn b1) b0))
set_option maxRecDepth 20000 in
set_option maxHeartbeats 4000000 in
theorem sX12_wake_44 {μ : zM} {a2 a3 b0 b1 : Int32} {X : zX} {ρ : Int32 × zX} (h : jX12_wake_44 a2 a3 b0 b1 X = some ρ) : zJ mX12_wake 4 (0, 0) (0, 0) (zQ (some (zi ρ.1)) (zg μ 1 ρ.2)) 44 [none, none, some (zi a2), some (zi a3)] [zi b0, zi b1, zq 1 1] (zg μ 1 X) := by
  unfold jX12_wake_44 at h
  obtain ⟨s1, h⟩ := zchk_some h
  refine z_iast dX12_wake_44 in1_1 sh1_1 (zin_vp s1) (z_iload dX12_wake_45 rfl (z_iload dX12_wake_46 rfl (z_icmp_eq dX12_wake_47 (fun c2 => ?_) (fun c2 => ?_))))
  · have h := ziT h (c2)
    exact z_const dX12_wake_54 (z_zretQ dX12_wake_55 rfl rfl (by cases h; rfl))
  · have h := ziF h (c2)
    exact z_const dX12_wake_50 (z_goto dX12_wake_51 (z_zretQ dX12_wake_55 rfl rfl (by cases h; rfl)))
def eX12_wake (x0 x1 : Int32) (X : zX) : Option (Int32 × zX) := zbd (eX12_noNode x0 (zw X 0 0 (nI 0))) fun r2 => zbd (eX12_throwsIf r2 (nI 1) (zw X 0 0 (nI 0))) fun y4 => if y4.1 = 0 then zbd (eX12_isUp x0 y4.2) fun r7 => if x1 = 0 then jX12_wake_44 x1 r7 (nI 0) (((nI 18) + ((nI 244) * x0)) + (nI 0)) y4.2 else jX12_wake_44 x1 r7 (nI 1) (((nI 18) + ((nI 244) * x0)) + (nI 0)) y4.2 else some ((nI 0), y4.2)
set_option maxRecDepth 20000 in
set_option maxHeartbeats 4000000 in
theorem tX12_wake {μ : zM} {x0 x1 : Int32} {X : zX} {ρ : Int32 × zX} (h : eX12_wake x0 x1 X = some ρ) : LM mX12_wake 4 [zq 1 0, zi x0, zi x1] (zg μ 1 X) (some (zi ρ.1)) (zg μ 1 ρ.2) := by
  unfold eX12_wake at h
  refine LM.of (by decide +kernel) rfl (Nat.le_of_ble_eq_true rfl) ?_
  show zJ mX12_wake 4 (0, 0) (0, 0) _ 0 [some (zq 1 0), some (zi x0), some (zi x1), none] [] _
  obtain ⟨r2, l1, h⟩ := zbd_some h
  obtain ⟨y4, l3, h⟩ := zbd_some h
  refine z_aload dX12_wake_0 rfl (z_const dX12_wake_1 (z_putI dX12_wake_2 fkX12_3 in1_0 sh1_0 rfl (fun _ _ _ h => by cases h; rfl) ⟨_, rfl, rfl, rfl⟩ (z_aload dX12_wake_5 rfl (z_aload dX12_wake_6 rfl (z_iload dX12_wake_7 rfl (z_callV dX12_wake_8 (tX12_noNode l1) (Nat.le_of_ble_eq_true rfl) cdX12_noNode naX12_noNode lkX12_330 imX12_noNode seX12_noNode in1_0 sh1_0 rfl rfl rfl (Nat.le_of_ble_eq_true rfl) (z_const dX12_wake_11 (z_callV dX12_wake_12 (tX12_throwsIf l3) (Nat.le_of_ble_eq_true rfl) cdX12_throwsIf naX12_throwsIf lkX12_188 imX12_throwsIf seX12_throwsIf in1_0 sh1_0 rfl rfl rfl (Nat.le_of_ble_eq_true rfl) (z_if_eq dX12_wake_15 (fun c5 => ?_) (fun c5 => ?_))))))))))
  · have h := ziT h (c5)
    obtain ⟨r7, l6, h⟩ := zbd_some h
    refine z_aload dX12_wake_20 rfl (z_iload dX12_wake_21 rfl (z_callV dX12_wake_22 (tX12_isUp l6) (Nat.le_of_ble_eq_true rfl) cdX12_isUp naX12_isUp lkX12_287 imX12_isUp seX12_isUp in1_0 sh1_0 rfl rfl rfl (Nat.le_of_ble_eq_true rfl) (z_istore dX12_wake_25 (Nat.le_of_ble_eq_true rfl) (z_aload dX12_wake_26 rfl (z_getR dX12_wake_27 fkX12_13 in1_0 sh1_0 rfl (z_iload dX12_wake_30 rfl (z_const dX12_wake_31 (z_callS dX12_wake_32 (tX12_nodeAt) (Nat.le_of_ble_eq_true rfl) cdX12_nodeAt naX12_nodeAt lkX12_56 stX12_nodeAt rfl rfl (Nat.le_of_ble_eq_true rfl) (z_iload dX12_wake_35 rfl (z_if_eq dX12_wake_36 (fun c8 => ?_) (fun c8 => ?_)))))))))))
    · have h := ziT h (c8)
      exact z_const dX12_wake_43 (z_mask [false, false, true, true] (sX12_wake_44 h))
    · have h := ziF h (c8)
      exact z_const dX12_wake_39 (z_goto dX12_wake_40 (z_mask [false, false, true, true] (sX12_wake_44 h)))
  · have h := ziF h (c5)
    exact z_const dX12_wake_18 (z_zretQ dX12_wake_19 rfl rfl (by cases h; rfl))
-- X12_when
def eX12_when (x0 x1 : Int32) (X : zX) : Option (Int32 × zX) := zbd (eX12_noNodePacket x0 x1 X) fun y2 => if y2.1 = 0 then zbd (eX12_ofPacket x0 x1 (nI 10) y2.2) fun r5 => some (r5, y2.2) else some ((nI 0), y2.2)
set_option maxRecDepth 20000 in
set_option maxHeartbeats 4000000 in
theorem tX12_when {μ : zM} {x0 x1 : Int32} {X : zX} {ρ : Int32 × zX} (h : eX12_when x0 x1 X = some ρ) : LM mX12_when 4 [zq 1 0, zi x0, zi x1] (zg μ 1 X) (some (zi ρ.1)) (zg μ 1 ρ.2) := by
  unfold eX12_when at h
  refine LM.of (by decide +kernel) rfl (Nat.le_of_ble_eq_true rfl) ?_
  show zJ mX12_when 4 (0, 0) (0, 0) _ 0 [some (zq 1 0), some (zi x0), some (zi x1)] [] _
  obtain ⟨y2, l1, h⟩ := zbd_some h
  refine z_aload dX12_when_0 rfl (z_iload dX12_when_1 rfl (z_iload dX12_when_2 rfl (z_callV dX12_when_3 (tX12_noNodePacket l1) (Nat.le_of_ble_eq_true rfl) cdX12_noNodePacket naX12_noNodePacket lkX12_339 imX12_noNodePacket seX12_noNodePacket in1_0 sh1_0 rfl rfl rfl (Nat.le_of_ble_eq_true rfl) (z_if_eq dX12_when_6 (fun c3 => ?_) (fun c3 => ?_)))))
  · have h := ziT h (c3)
    obtain ⟨r5, l4, h⟩ := zbd_some h
    exact z_aload dX12_when_13 rfl (z_iload dX12_when_14 rfl (z_iload dX12_when_15 rfl (z_const dX12_when_16 (z_callV dX12_when_18 (tX12_ofPacket l4) (Nat.le_of_ble_eq_true rfl) cdX12_ofPacket naX12_ofPacket lkX12_213 imX12_ofPacket seX12_ofPacket in1_0 sh1_0 rfl rfl rfl (Nat.le_of_ble_eq_true rfl) (z_iretQ dX12_when_21 rfl (by cases h; rfl))))))
  · have h := ziF h (c3)
    exact z_const dX12_when_9 (z_goto dX12_when_10 (z_iretQ dX12_when_21 rfl (by cases h; rfl)))
-- X12_window
def jX12_window_34 (a1 a2 b0 : Int32) (X : zX) : Option (Int32 × zX) := zbd (eX12_of a1 (nI 3) (zw X 0 16 b0)) fun r2 => zbd (eX12_of a1 (nI 4) (zw X 0 16 b0)) fun r4 => zbd (eX12_estOf a1 (X 1 3) (zw X 0 16 b0)) fun r6 => zbd (eX12_ofPacket a1 a2 (nI 1) (zw X 0 16 b0)) fun r8 => zbd (eX12_timeBy r2 r4 r6 r8 (zw X 0 16 b0)) fun y10 => some (y10.1, y10.2)
set_option maxRecDepth 20000 in
set_option maxHeartbeats 4000000 in
theorem sX12_window_34 {μ : zM} {a1 a2 b0 : Int32} {X : zX} {ρ : Int32 × zX} (h : jX12_window_34 a1 a2 b0 X = some ρ) : zJ mX12_window 4 (0, 0) (0, 0) (zQ (some (zi ρ.1)) (zg μ 1 ρ.2)) 34 [some (zq 1 0), some (zi a1), some (zi a2), none] [zi b0, zq 1 0] (zg μ 1 X) := by
  unfold jX12_window_34 at h
  obtain ⟨r2, l1, h⟩ := zbd_some h
  obtain ⟨r4, l3, h⟩ := zbd_some h
  refine z_putI dX12_window_34 fkX12_220 in1_0 sh1_0 rfl (fun _ _ _ h => by cases h; rfl) ⟨_, rfl, rfl, rfl⟩ (z_aload dX12_window_37 rfl (z_aload dX12_window_38 rfl (z_iload dX12_window_39 rfl (z_const dX12_window_40 (z_callV dX12_window_41 (tX12_of l1) (Nat.le_of_ble_eq_true rfl) cdX12_of naX12_of lkX12_78 imX12_of seX12_of in1_0 sh1_0 rfl rfl rfl (Nat.le_of_ble_eq_true rfl) (z_aload dX12_window_44 rfl (z_iload dX12_window_45 rfl (z_const dX12_window_46 (z_callV dX12_window_47 (tX12_of l3) (Nat.le_of_ble_eq_true rfl) cdX12_of naX12_of lkX12_78 imX12_of seX12_of in1_0 sh1_0 rfl rfl rfl (Nat.le_of_ble_eq_true rfl) (z_aload dX12_window_50 rfl (z_iload dX12_window_51 rfl ?_)))))))))))
  obtain ⟨r6, l5, h⟩ := zbd_some h
  obtain ⟨r8, l7, h⟩ := zbd_some h
  obtain ⟨y10, l9, h⟩ := zbd_some h
  exact z_aload dX12_window_52 rfl (z_getR dX12_window_53 fkX12_13 in1_0 sh1_0 rfl (z_const dX12_window_56 (z_ialdN dX12_window_57 in1_1 sh1_1 (Nat.le_of_ble_eq_true rfl) (Nat.le_of_ble_eq_true rfl) (z_callV dX12_window_58 (tX12_estOf l5) (Nat.le_of_ble_eq_true rfl) cdX12_estOf naX12_estOf lkX12_256 imX12_estOf seX12_estOf in1_0 sh1_0 rfl rfl rfl (Nat.le_of_ble_eq_true rfl) (z_aload dX12_window_61 rfl (z_iload dX12_window_62 rfl (z_iload dX12_window_63 rfl (z_const dX12_window_64 (z_callV dX12_window_65 (tX12_ofPacket l7) (Nat.le_of_ble_eq_true rfl) cdX12_ofPacket naX12_ofPacket lkX12_213 imX12_ofPacket seX12_ofPacket in1_0 sh1_0 rfl rfl rfl (Nat.le_of_ble_eq_true rfl) (z_callV dX12_window_68 (tX12_timeBy l9) (Nat.le_of_ble_eq_true rfl) cdX12_timeBy naX12_timeBy lkX12_259 imX12_timeBy seX12_timeBy in1_0 sh1_0 rfl rfl rfl (Nat.le_of_ble_eq_true rfl) (z_iretQ dX12_window_71 rfl (by cases h; rfl))))))))))))
def eX12_window (x0 x1 x2 : Int32) (X : zX) : Option (Int32 × zX) := zbd (eX12_noNodePacket x0 x1 X) fun y2 => if y2.1 = 0 then zbd (eX12_ofPacket x0 x1 (nI 0) y2.2) fun r5 => if r5 = (-1) then some ((-1), y2.2) else if x2 = 0 then jX12_window_34 x0 x1 (nI 1) y2.2 else jX12_window_34 x0 x1 (nI 2) y2.2 else some ((nI 0), y2.2)
set_option maxRecDepth 20000 in
set_option maxHeartbeats 4000000 in
theorem tX12_window {μ : zM} {x0 x1 x2 : Int32} {X : zX} {ρ : Int32 × zX} (h : eX12_window x0 x1 x2 X = some ρ) : LM mX12_window 4 [zq 1 0, zi x0, zi x1, zi x2] (zg μ 1 X) (some (zi ρ.1)) (zg μ 1 ρ.2) := by
  unfold eX12_window at h
  refine LM.of (by decide +kernel) rfl (Nat.le_of_ble_eq_true rfl) ?_
  show zJ mX12_window 4 (0, 0) (0, 0) _ 0 [some (zq 1 0), some (zi x0), some (zi x1), some (zi x2)] [] _
  obtain ⟨y2, l1, h⟩ := zbd_some h
  refine z_aload dX12_window_0 rfl (z_iload dX12_window_1 rfl (z_iload dX12_window_2 rfl (z_callV dX12_window_3 (tX12_noNodePacket l1) (Nat.le_of_ble_eq_true rfl) cdX12_noNodePacket naX12_noNodePacket lkX12_339 imX12_noNodePacket seX12_noNodePacket in1_0 sh1_0 rfl rfl rfl (Nat.le_of_ble_eq_true rfl) (z_if_eq dX12_window_6 (fun c3 => ?_) (fun c3 => ?_)))))
  · have h := ziT h (c3)
    obtain ⟨r5, l4, h⟩ := zbd_some h
    refine z_aload dX12_window_11 rfl (z_iload dX12_window_12 rfl (z_iload dX12_window_13 rfl (z_const dX12_window_14 (z_callV dX12_window_15 (tX12_ofPacket l4) (Nat.le_of_ble_eq_true rfl) cdX12_ofPacket naX12_ofPacket lkX12_213 imX12_ofPacket seX12_ofPacket in1_0 sh1_0 rfl rfl rfl (Nat.le_of_ble_eq_true rfl) (z_const dX12_window_18 (z_icmp_ne dX12_window_19 (fun c6 => ?_) (fun c6 => ?_)))))))
    · have h := ziF h (c6)
      refine z_aload dX12_window_24 rfl (z_iload dX12_window_25 rfl (z_if_eq dX12_window_26 (fun c7 => ?_) (fun c7 => ?_)))
      · have h := ziT h (c7)
        exact z_const dX12_window_33 (z_mask [true, true, true, false] (sX12_window_34 h))
      · have h := ziF h (c7)
        exact z_const dX12_window_29 (z_goto dX12_window_30 (z_mask [true, true, true, false] (sX12_window_34 h)))
    · have h := ziT h (c6)
      exact z_const dX12_window_22 (z_iretQ dX12_window_23 rfl (by cases h; rfl))
  · have h := ziF h (c3)
    exact z_const dX12_window_9 (z_iretQ dX12_window_10 rfl (by cases h; rfl))
-- X12_aboveOf
def hX12_aboveOf_2 (F : Nat) : Nat → Int32 → Int32 → Int32 → zX → Option (Int32)
  | 0, _, _, _, _ => none
  | n + 1, a1, a2, a3, X => if a3 = a2 then (hX12_aboveOf_2 F n) a1 a2 (a3 + (nI 1)) X else zchk (zin (((nI 6) * a1) + a3) 36) (zbd (eX12_delayOf F a3 a2 X) fun r4 => zchk (zin (((nI 6) * a1) + a2) 36) (if ((X 7 (zn (((nI 6) * a1) + a3))) + r4) = (X 7 (zn (((nI 6) * a1) + a2))) then some a3 else (hX12_aboveOf_2 F n) a1 a2 (a3 + (nI 1)) X))
set_option maxRecDepth 20000 in
set_option maxHeartbeats 4000000 in
theorem sX12_aboveOf_2 {μ : zM} {F : Nat} : ∀ {n : Nat} {a1 a2 a3 : Int32} {X : zX} {ρ : Int32}, hX12_aboveOf_2 F n a1 a2 a3 X = some ρ → zJ mX12_aboveOf 5 (0, 0) (0, 0) (zQ (some (zi ρ)) (zg μ 1 X)) 2 [some (zq 1 0), some (zi a1), some (zi a2), some (zi a3)] [] (zg μ 1 X) := by
  intro n
  induction n with
  | zero => intro a1 a2 a3 X ρ h; exact nomatch (show (none : Option _) = some ρ from h)
  | succ n ih =>
    intro a1 a2 a3 X ρ h
    have hK2 := @ih
    rw [hX12_aboveOf_2] at h
    refine z_iload dX12_aboveOf_2 rfl (z_iload dX12_aboveOf_3 rfl (z_icmp_eq dX12_aboveOf_4 (fun c1 => ?_) (fun c1 => ?_)))
    · have h := ziT h (c1)
      exact z_iinc dX12_aboveOf_37 (Nat.le_of_ble_eq_true rfl) rfl (z_goto dX12_aboveOf_40 (z_mask [true, true, true, true] (hK2 h)))
    · have h := ziF h (c1)
      obtain ⟨s2, h⟩ := zchk_some h
      obtain ⟨r4, l3, h⟩ := zbd_some h
      refine z_aload dX12_aboveOf_7 rfl (z_getR dX12_aboveOf_8 fkX12_36 in1_0 sh1_0 rfl (z_iload dX12_aboveOf_11 rfl (z_iload dX12_aboveOf_12 rfl (z_callS dX12_aboveOf_13 (tX12_at) (Nat.le_of_ble_eq_true rfl) cdX12_at naX12_at lkX12_193 stX12_at rfl rfl (Nat.le_of_ble_eq_true rfl) (z_iald dX12_aboveOf_16 in1_7 sh1_7 (zin_vp s2) (z_aload dX12_aboveOf_17 rfl (z_iload dX12_aboveOf_18 rfl (z_iload dX12_aboveOf_19 rfl (z_callV dX12_aboveOf_20 (tX12_delayOf l3) (Nat.le_of_ble_eq_true rfl) cdX12_delayOf naX12_delayOf lkX12_196 imX12_delayOf seX12_delayOf in1_0 sh1_0 rfl rfl rfl (Nat.le_of_ble_eq_true rfl) (z_iadd dX12_aboveOf_23 (z_aload dX12_aboveOf_24 rfl ?_)))))))))))
      obtain ⟨s5, h⟩ := zchk_some h
      refine z_getR dX12_aboveOf_25 fkX12_36 in1_0 sh1_0 rfl (z_iload dX12_aboveOf_28 rfl (z_iload dX12_aboveOf_29 rfl (z_callS dX12_aboveOf_30 (tX12_at) (Nat.le_of_ble_eq_true rfl) cdX12_at naX12_at lkX12_193 stX12_at rfl rfl (Nat.le_of_ble_eq_true rfl) (z_iald dX12_aboveOf_33 in1_7 sh1_7 (zin_vp s5) (z_icmp_eq dX12_aboveOf_34 (fun c6 => ?_) (fun c6 => ?_))))))
      · have h := ziT h (c6)
        exact z_iload dX12_aboveOf_43 rfl (z_iretQ dX12_aboveOf_44 rfl (by cases h; rfl))
      · have h := ziF h (c6)
        exact z_iinc dX12_aboveOf_37 (Nat.le_of_ble_eq_true rfl) rfl (z_goto dX12_aboveOf_40 (z_mask [true, true, true, true] (hK2 h)))
def eX12_aboveOf (F : Nat) (x0 x1 : Int32) (X : zX) : Option (Int32) := hX12_aboveOf_2 F F x0 x1 (nI 0) X
set_option maxRecDepth 20000 in
set_option maxHeartbeats 4000000 in
theorem tX12_aboveOf {μ : zM} {F : Nat} {x0 x1 : Int32} {X : zX} {ρ : Int32} (h : eX12_aboveOf F x0 x1 X = some ρ) : LM mX12_aboveOf 5 [zq 1 0, zi x0, zi x1] (zg μ 1 X) (some (zi ρ)) (zg μ 1 X) := by
  unfold eX12_aboveOf at h
  refine LM.of (by decide +kernel) rfl (Nat.le_of_ble_eq_true rfl) ?_
  show zJ mX12_aboveOf 5 (0, 0) (0, 0) _ 0 [some (zq 1 0), some (zi x0), some (zi x1), none] [] _
  exact z_const dX12_aboveOf_0 (z_istore dX12_aboveOf_1 (Nat.le_of_ble_eq_true rfl) (z_mask [true, true, true, true] (sX12_aboveOf_2 h)))
-- X12_backsOff
def eX12_backsOff (x0 x1 : Int32) (X : zX) : Option (zX) := zbd (eX12_ofPacket x0 x1 (nI 1) X) fun r2 => zchk (zin (((nI 18) + ((nI 244) * x0)) + (((nI 28) + ((nI 18) * x1)) + (nI 1))) 2422) (zlet (zw X 1 (zn (((nI 18) + ((nI 244) * x0)) + (((nI 28) + ((nI 18) * x1)) + (nI 1)))) (zmn (nI 5) (r2 + (nI 1)))) fun X4 => zbd (eX12_asksAnew x0 x1 X4) fun y6 => zbd (eX12_ofPacket x0 x1 (nI 0) y6) fun r8 => zchk (zin (((nI 18) + ((nI 244) * x0)) + (((nI 28) + ((nI 18) * x1)) + (nI 4))) 2422) (zlet (zw y6 1 (zn (((nI 18) + ((nI 244) * x0)) + (((nI 28) + ((nI 18) * x1)) + (nI 4)))) ((y6 1 14) + ((r8 - (y6 1 14)) / (nI 2)))) fun X10 => some X10))
set_option maxRecDepth 20000 in
set_option maxHeartbeats 4000000 in
theorem tX12_backsOff {μ : zM} {x0 x1 : Int32} {X : zX} {ρ : zX} (h : eX12_backsOff x0 x1 X = some ρ) : LM mX12_backsOff 5 [zq 1 0, zi x0, zi x1] (zg μ 1 X) none (zg μ 1 ρ) := by
  unfold eX12_backsOff at h
  refine LM.of (by decide +kernel) rfl (Nat.le_of_ble_eq_true rfl) ?_
  show zJ mX12_backsOff 5 (0, 0) (0, 0) _ 0 [some (zq 1 0), some (zi x0), some (zi x1)] [] _
  obtain ⟨r2, l1, h⟩ := zbd_some h
  refine z_aload dX12_backsOff_0 rfl (z_getR dX12_backsOff_1 fkX12_13 in1_0 sh1_0 rfl (z_iload dX12_backsOff_4 rfl (z_iload dX12_backsOff_5 rfl (z_const dX12_backsOff_6 (z_callS dX12_backsOff_7 (tX12_packetAt) (Nat.le_of_ble_eq_true rfl) cdX12_packetAt naX12_packetAt lkX12_60 stX12_packetAt rfl rfl (Nat.le_of_ble_eq_true rfl) (z_const dX12_backsOff_10 (z_aload dX12_backsOff_11 rfl (z_iload dX12_backsOff_12 rfl (z_iload dX12_backsOff_13 rfl (z_const dX12_backsOff_14 (z_callV dX12_backsOff_15 (tX12_ofPacket l1) (Nat.le_of_ble_eq_true rfl) cdX12_ofPacket naX12_ofPacket lkX12_213 imX12_ofPacket seX12_ofPacket in1_0 sh1_0 rfl rfl rfl (Nat.le_of_ble_eq_true rfl) ?_)))))))))))
  obtain ⟨s3, h⟩ := zchk_some h
  have h := zlet_h h
  obtain ⟨y6, l5, h⟩ := zbd_some h
  refine z_const dX12_backsOff_18 (z_iadd dX12_backsOff_19 (z_min dX12_backsOff_20 lkX12_199 (Nat.le_of_ble_eq_true rfl) (Nat.le_of_ble_eq_true rfl) (z_iast dX12_backsOff_23 in1_1 sh1_1 (zin_vp s3) (z_aload dX12_backsOff_24 rfl (z_iload dX12_backsOff_25 rfl (z_iload dX12_backsOff_26 rfl (z_callV dX12_backsOff_27 (tX12_asksAnew l5) (Nat.le_of_ble_eq_true rfl) cdX12_asksAnew naX12_asksAnew lkX12_263 imX12_asksAnew seX12_asksAnew in1_0 sh1_0 rfl rfl rfl (Nat.le_of_ble_eq_true rfl) (z_aload dX12_backsOff_30 rfl (z_getR dX12_backsOff_31 fkX12_13 in1_0 sh1_0 rfl (z_iload dX12_backsOff_34 rfl (z_iload dX12_backsOff_35 rfl ?_)))))))))))
  obtain ⟨r8, l7, h⟩ := zbd_some h
  refine z_const dX12_backsOff_36 (z_callS dX12_backsOff_37 (tX12_packetAt) (Nat.le_of_ble_eq_true rfl) cdX12_packetAt naX12_packetAt lkX12_60 stX12_packetAt rfl rfl (Nat.le_of_ble_eq_true rfl) (z_aload dX12_backsOff_40 rfl (z_getR dX12_backsOff_41 fkX12_13 in1_0 sh1_0 rfl (z_const dX12_backsOff_44 (z_ialdN dX12_backsOff_46 in1_1 sh1_1 (Nat.le_of_ble_eq_true rfl) (Nat.le_of_ble_eq_true rfl) (z_aload dX12_backsOff_47 rfl (z_iload dX12_backsOff_48 rfl (z_iload dX12_backsOff_49 rfl (z_const dX12_backsOff_50 (z_callV dX12_backsOff_51 (tX12_ofPacket l7) (Nat.le_of_ble_eq_true rfl) cdX12_ofPacket naX12_ofPacket lkX12_213 imX12_ofPacket seX12_ofPacket in1_0 sh1_0 rfl rfl rfl (Nat.le_of_ble_eq_true rfl) (z_aload dX12_backsOff_54 rfl ?_)))))))))))
  obtain ⟨s9, h⟩ := zchk_some h
  have h := zlet_h h
  exact z_getR dX12_backsOff_55 fkX12_13 in1_0 sh1_0 rfl (z_const dX12_backsOff_58 (z_ialdN dX12_backsOff_60 in1_1 sh1_1 (Nat.le_of_ble_eq_true rfl) (Nat.le_of_ble_eq_true rfl) (z_isub dX12_backsOff_61 (z_const dX12_backsOff_62 (z_idiv dX12_backsOff_63 (by decide) (z_iadd dX12_backsOff_64 (z_iast dX12_backsOff_65 in1_1 sh1_1 (zin_vp s9) (z_vretQ dX12_backsOff_66 rfl (by cases h; rfl)))))))))
-- X12_giver
def eX12_giver (F : Nat) (x0 x1 x2 : Int32) (X : zX) : Option (Int32 × zX) := zbd (eX12_noNodePacket x0 x1 X) fun y2 => if y2.1 = 0 then zbd (eX12_laysGivers F x0 x1 y2.2) fun y5 => if (¬ (x2 < (nI 0))) ∧ (¬ ((y5.1 - (nI 1)) < x2)) then zchk (zin x2 6) (some ((y5.2 11 (zn x2)), y5.2)) else some ((-1), y5.2) else some ((nI 0), y2.2)
set_option maxRecDepth 20000 in
set_option maxHeartbeats 4000000 in
theorem tX12_giver {μ : zM} {F : Nat} {x0 x1 x2 : Int32} {X : zX} {ρ : Int32 × zX} (h : eX12_giver F x0 x1 x2 X = some ρ) : LM mX12_giver 5 [zq 1 0, zi x0, zi x1, zi x2] (zg μ 1 X) (some (zi ρ.1)) (zg μ 1 ρ.2) := by
  unfold eX12_giver at h
  refine LM.of (by decide +kernel) rfl (Nat.le_of_ble_eq_true rfl) ?_
  show zJ mX12_giver 5 (0, 0) (0, 0) _ 0 [some (zq 1 0), some (zi x0), some (zi x1), some (zi x2)] [] _
  obtain ⟨y2, l1, h⟩ := zbd_some h
  refine z_aload dX12_giver_0 rfl (z_iload dX12_giver_1 rfl (z_iload dX12_giver_2 rfl (z_callV dX12_giver_3 (tX12_noNodePacket l1) (Nat.le_of_ble_eq_true rfl) cdX12_noNodePacket naX12_noNodePacket lkX12_339 imX12_noNodePacket seX12_noNodePacket in1_0 sh1_0 rfl rfl rfl (Nat.le_of_ble_eq_true rfl) (z_if_eq dX12_giver_6 (fun c3 => ?_) (fun c3 => ?_)))))
  · have h := ziT h (c3)
    obtain ⟨y5, l4, h⟩ := zbd_some h
    refine z_iload dX12_giver_11 rfl (z_const dX12_giver_12 (z_aload dX12_giver_13 rfl (z_iload dX12_giver_14 rfl (z_iload dX12_giver_15 rfl (z_callV dX12_giver_16 (tX12_laysGivers l4) (Nat.le_of_ble_eq_true rfl) cdX12_laysGivers naX12_laysGivers lkX12_369 imX12_laysGivers seX12_laysGivers in1_0 sh1_0 rfl rfl rfl (Nat.le_of_ble_eq_true rfl) (z_const dX12_giver_19 (z_isub dX12_giver_20 (z_callS dX12_giver_21 (tX12_in) (Nat.le_of_ble_eq_true rfl) cdX12_in naX12_in lkX12_71 stX12_in rfl rfl (Nat.le_of_ble_eq_true rfl) (z_if_eq dX12_giver_24 (fun c6 => ?_) (fun c6 => ?_))))))))))
    · have h := ziF h (zB_0.mp c6)
      exact z_const dX12_giver_36 (z_iretQ dX12_giver_37 rfl (by cases h; rfl))
    · have h := ziT h (zB_n0.mp c6)
      obtain ⟨s7, h⟩ := zchk_some h
      exact z_aload dX12_giver_27 rfl (z_getR dX12_giver_28 fkX12_49 in1_0 sh1_0 rfl (z_iload dX12_giver_31 rfl (z_iald dX12_giver_32 in1_11 sh1_11 (zin_vp s7) (z_goto dX12_giver_33 (z_iretQ dX12_giver_37 rfl (by cases h; rfl))))))
  · have h := ziF h (c3)
    exact z_const dX12_giver_9 (z_iretQ dX12_giver_10 rfl (by cases h; rfl))
-- X12_hearsHow
def hX12_hearsHow_58 (F : Nat) (K22 : Int32 → Int32 → zX → Option (zX)) : Nat → Int32 → Int32 → Int32 → zX → Option (zX)
  | 0, _, _, _, _ => none
  | n + 1, a1, a3, a4, X => if (nI 4) < a4 then zbd (eX12_asksAnew a1 a3 X) fun y3 => K22 a1 (a3 + (nI 1)) y3 else zchk (zin (((nI 18) + ((nI 244) * a1)) + (((nI 28) + ((nI 18) * a3)) + a4)) 2422) (zlet (zw X 1 (zn (((nI 18) + ((nI 244) * a1)) + (((nI 28) + ((nI 18) * a3)) + a4))) (nI 0)) fun X5 => (hX12_hearsHow_58 F K22 n) a1 a3 (a4 + (nI 1)) X5)
set_option maxRecDepth 20000 in
set_option maxHeartbeats 4000000 in
theorem sX12_hearsHow_58 {μ : zM} {F : Nat} {K22 : Int32 → Int32 → zX → Option (zX)} (hK22 : ∀ {xa1 xa3 : Int32} {xX : zX} {ρ : zX}, K22 xa1 xa3 xX = some ρ → zJ mX12_hearsHow 5 (0, 0) (0, 0) (zQ none (zg μ 1 ρ)) 22 [some (zq 1 0), some (zi xa1), none, some (zi xa3), none] [] (zg μ 1 xX)) : ∀ {n : Nat} {a1 a3 a4 : Int32} {X : zX} {ρ : zX}, hX12_hearsHow_58 F K22 n a1 a3 a4 X = some ρ → zJ mX12_hearsHow 5 (0, 0) (0, 0) (zQ none (zg μ 1 ρ)) 58 [some (zq 1 0), some (zi a1), none, some (zi a3), some (zi a4)] [] (zg μ 1 X) := by
  intro n
  induction n with
  | zero => intro a1 a3 a4 X ρ h; exact nomatch (show (none : Option _) = some ρ from h)
  | succ n ih =>
    intro a1 a3 a4 X ρ h
    have hK58 := @ih
    rw [hX12_hearsHow_58] at h
    refine z_iload dX12_hearsHow_58 rfl (z_const dX12_hearsHow_60 (z_icmp_gt dX12_hearsHow_61 (fun c1 => ?_) (fun c1 => ?_)))
    · have h := ziT h (c1)
      obtain ⟨y3, l2, h⟩ := zbd_some h
      exact z_aload dX12_hearsHow_83 rfl (z_iload dX12_hearsHow_84 rfl (z_iload dX12_hearsHow_85 rfl (z_callV dX12_hearsHow_86 (tX12_asksAnew l2) (Nat.le_of_ble_eq_true rfl) cdX12_asksAnew naX12_asksAnew lkX12_263 imX12_asksAnew seX12_asksAnew in1_0 sh1_0 rfl rfl rfl (Nat.le_of_ble_eq_true rfl) (z_iinc dX12_hearsHow_89 (Nat.le_of_ble_eq_true rfl) rfl (z_goto dX12_hearsHow_92 (z_mask [true, true, false, true, false] (hK22 h)))))))
    · have h := ziF h (c1)
      obtain ⟨s4, h⟩ := zchk_some h
      have h := zlet_h h
      exact z_aload dX12_hearsHow_64 rfl (z_getR dX12_hearsHow_65 fkX12_13 in1_0 sh1_0 rfl (z_iload dX12_hearsHow_68 rfl (z_iload dX12_hearsHow_69 rfl (z_iload dX12_hearsHow_70 rfl (z_callS dX12_hearsHow_72 (tX12_packetAt) (Nat.le_of_ble_eq_true rfl) cdX12_packetAt naX12_packetAt lkX12_60 stX12_packetAt rfl rfl (Nat.le_of_ble_eq_true rfl) (z_const dX12_hearsHow_75 (z_iast dX12_hearsHow_76 in1_1 sh1_1 (zin_vp s4) (z_iinc dX12_hearsHow_77 (Nat.le_of_ble_eq_true rfl) rfl (z_goto dX12_hearsHow_80 (z_mask [true, true, false, true, true] (hK58 h)))))))))))
def hX12_hearsHow_22 (F : Nat) : Nat → Int32 → Int32 → zX → Option (zX)
  | 0, _, _, _ => none
  | n + 1, a1, a3, X => zbd (eX12_of a1 (nI 2) X) fun r2 => if r2 < a3 then some X else zbd (eX12_hasIt a1 a3 X) fun r5 => if r5 = 0 then zbd (eX12_ofPacket a1 a3 (nI 0) X) fun r8 => if r8 = (-1) then hX12_hearsHow_58 F (hX12_hearsHow_22 F n) F a1 a3 (nI 1) X else (hX12_hearsHow_22 F n) a1 (a3 + (nI 1)) X else (hX12_hearsHow_22 F n) a1 (a3 + (nI 1)) X
set_option maxRecDepth 20000 in
set_option maxHeartbeats 4000000 in
theorem sX12_hearsHow_22 {μ : zM} {F : Nat} : ∀ {n : Nat} {a1 a3 : Int32} {X : zX} {ρ : zX}, hX12_hearsHow_22 F n a1 a3 X = some ρ → zJ mX12_hearsHow 5 (0, 0) (0, 0) (zQ none (zg μ 1 ρ)) 22 [some (zq 1 0), some (zi a1), none, some (zi a3), none] [] (zg μ 1 X) := by
  intro n
  induction n with
  | zero => intro a1 a3 X ρ h; exact nomatch (show (none : Option _) = some ρ from h)
  | succ n ih =>
    intro a1 a3 X ρ h
    have hK22 := @ih
    rw [hX12_hearsHow_22] at h
    obtain ⟨r2, l1, h⟩ := zbd_some h
    refine z_iload dX12_hearsHow_22 rfl (z_aload dX12_hearsHow_23 rfl (z_iload dX12_hearsHow_24 rfl (z_const dX12_hearsHow_25 (z_callV dX12_hearsHow_26 (tX12_of l1) (Nat.le_of_ble_eq_true rfl) cdX12_of naX12_of lkX12_78 imX12_of seX12_of in1_0 sh1_0 rfl rfl rfl (Nat.le_of_ble_eq_true rfl) (z_icmp_gt dX12_hearsHow_29 (fun c3 => ?_) (fun c3 => ?_))))))
    · have h := ziT h (c3)
      exact z_vretQ dX12_hearsHow_95 rfl (by cases h; rfl)
    · have h := ziF h (c3)
      obtain ⟨r5, l4, h⟩ := zbd_some h
      refine z_aload dX12_hearsHow_32 rfl (z_iload dX12_hearsHow_33 rfl (z_iload dX12_hearsHow_34 rfl (z_callV dX12_hearsHow_35 (tX12_hasIt l4) (Nat.le_of_ble_eq_true rfl) cdX12_hasIt naX12_hasIt lkX12_272 imX12_hasIt seX12_hasIt in1_0 sh1_0 rfl rfl rfl (Nat.le_of_ble_eq_true rfl) (z_if_ne dX12_hearsHow_38 (fun c6 => ?_) (fun c6 => ?_)))))
      · have h := ziF h (c6)
        exact z_iinc dX12_hearsHow_89 (Nat.le_of_ble_eq_true rfl) rfl (z_goto dX12_hearsHow_92 (z_mask [true, true, false, true, false] (hK22 h)))
      · have h := ziT h (c6)
        obtain ⟨r8, l7, h⟩ := zbd_some h
        refine z_aload dX12_hearsHow_41 rfl (z_iload dX12_hearsHow_42 rfl (z_iload dX12_hearsHow_43 rfl (z_const dX12_hearsHow_44 (z_callV dX12_hearsHow_45 (tX12_ofPacket l7) (Nat.le_of_ble_eq_true rfl) cdX12_ofPacket naX12_ofPacket lkX12_213 imX12_ofPacket seX12_ofPacket in1_0 sh1_0 rfl rfl rfl (Nat.le_of_ble_eq_true rfl) (z_const dX12_hearsHow_48 (z_icmp_eq dX12_hearsHow_49 (fun c9 => ?_) (fun c9 => ?_)))))))
        · have h := ziT h (c9)
          exact z_const dX12_hearsHow_55 (z_istore dX12_hearsHow_56 (Nat.le_of_ble_eq_true rfl) (z_mask [true, true, false, true, true] (sX12_hearsHow_58 hK22 h)))
        · have h := ziF h (c9)
          exact z_goto dX12_hearsHow_52 (z_iinc dX12_hearsHow_89 (Nat.le_of_ble_eq_true rfl) rfl (z_goto dX12_hearsHow_92 (z_mask [true, true, false, true, false] (hK22 h))))
def eX12_hearsHow (F : Nat) (x0 x1 : Int32) (X : zX) : Option (zX) := zbd (eX12_of x0 (nI 2) X) fun r2 => zchk (zin (((nI 18) + ((nI 244) * x0)) + (nI 2)) 2422) (zlet (zw X 1 (zn (((nI 18) + ((nI 244) * x0)) + (nI 2))) (zmx r2 x1)) fun X4 => hX12_hearsHow_22 F F x0 (nI 0) X4)
set_option maxRecDepth 20000 in
set_option maxHeartbeats 4000000 in
theorem tX12_hearsHow {μ : zM} {F : Nat} {x0 x1 : Int32} {X : zX} {ρ : zX} (h : eX12_hearsHow F x0 x1 X = some ρ) : LM mX12_hearsHow 5 [zq 1 0, zi x0, zi x1] (zg μ 1 X) none (zg μ 1 ρ) := by
  unfold eX12_hearsHow at h
  refine LM.of (by decide +kernel) rfl (Nat.le_of_ble_eq_true rfl) ?_
  show zJ mX12_hearsHow 5 (0, 0) (0, 0) _ 0 [some (zq 1 0), some (zi x0), some (zi x1), none, none] [] _
  obtain ⟨r2, l1, h⟩ := zbd_some h
  obtain ⟨s3, h⟩ := zchk_some h
  have h := zlet_h h
  refine z_aload dX12_hearsHow_0 rfl (z_getR dX12_hearsHow_1 fkX12_13 in1_0 sh1_0 rfl (z_iload dX12_hearsHow_4 rfl (z_const dX12_hearsHow_5 (z_callS dX12_hearsHow_6 (tX12_nodeAt) (Nat.le_of_ble_eq_true rfl) cdX12_nodeAt naX12_nodeAt lkX12_56 stX12_nodeAt rfl rfl (Nat.le_of_ble_eq_true rfl) (z_aload dX12_hearsHow_9 rfl (z_iload dX12_hearsHow_10 rfl (z_const dX12_hearsHow_11 (z_callV dX12_hearsHow_12 (tX12_of l1) (Nat.le_of_ble_eq_true rfl) cdX12_of naX12_of lkX12_78 imX12_of seX12_of in1_0 sh1_0 rfl rfl rfl (Nat.le_of_ble_eq_true rfl) (z_iload dX12_hearsHow_15 rfl (z_max dX12_hearsHow_16 lkX12_253 (Nat.le_of_ble_eq_true rfl) (Nat.le_of_ble_eq_true rfl) (z_iast dX12_hearsHow_19 in1_1 sh1_1 (zin_vp s3) ?_)))))))))))
  exact z_const dX12_hearsHow_20 (z_istore dX12_hearsHow_21 (Nat.le_of_ble_eq_true rfl) (z_mask [true, true, false, true, false] (sX12_hearsHow_22 h)))
-- X12_holdersOf
def jX12_holdersOf_29 (F : Nat) (K4 : Int32 → Int32 → Int32 → zX → Option (Int32)) (a1 a3 b0 b1 : Int32) (X : zX) : Option (Int32) := K4 a1 (b1 ||| b0) (a3 + (nI 1)) X
set_option maxRecDepth 20000 in
set_option maxHeartbeats 4000000 in
theorem sX12_holdersOf_29 {μ : zM} {F : Nat} {K4 : Int32 → Int32 → Int32 → zX → Option (Int32)} (hK4 : ∀ {xa1 xa2 xa3 : Int32} {xX : zX} {ρ : Int32}, K4 xa1 xa2 xa3 xX = some ρ → zJ mX12_holdersOf 5 (0, 0) (0, 0) (zQ (some (zi ρ)) (zg μ 1 xX)) 4 [some (zq 1 0), some (zi xa1), some (zi xa2), some (zi xa3)] [] (zg μ 1 xX)) {a1 a3 b0 b1 : Int32} {X : zX} {ρ : Int32} (h : jX12_holdersOf_29 F K4 a1 a3 b0 b1 X = some ρ) : zJ mX12_holdersOf 5 (0, 0) (0, 0) (zQ (some (zi ρ)) (zg μ 1 X)) 29 [some (zq 1 0), some (zi a1), none, some (zi a3)] [zi b0, zi b1] (zg μ 1 X) := by
  unfold jX12_holdersOf_29 at h
  exact z_ior dX12_holdersOf_29 (z_istore dX12_holdersOf_30 (Nat.le_of_ble_eq_true rfl) (z_iinc dX12_holdersOf_31 (Nat.le_of_ble_eq_true rfl) rfl (z_goto dX12_holdersOf_34 (z_mask [true, true, true, true] (hK4 h)))))
def hX12_holdersOf_4 (F : Nat) : Nat → Int32 → Int32 → Int32 → zX → Option (Int32)
  | 0, _, _, _, _ => none
  | n + 1, a1, a2, a3, X => if (X 1 0) ≤ a3 then some a2 else zbd (eX12_isHolder a3 a1 X) fun r3 => if r3 = 0 then jX12_holdersOf_29 F (hX12_holdersOf_4 F n) a1 a3 (nI 0) a2 X else jX12_holdersOf_29 F (hX12_holdersOf_4 F n) a1 a3 ((nI 1) <<< (a3 &&& 31)) a2 X
set_option maxRecDepth 20000 in
set_option maxHeartbeats 4000000 in
theorem sX12_holdersOf_4 {μ : zM} {F : Nat} : ∀ {n : Nat} {a1 a2 a3 : Int32} {X : zX} {ρ : Int32}, hX12_holdersOf_4 F n a1 a2 a3 X = some ρ → zJ mX12_holdersOf 5 (0, 0) (0, 0) (zQ (some (zi ρ)) (zg μ 1 X)) 4 [some (zq 1 0), some (zi a1), some (zi a2), some (zi a3)] [] (zg μ 1 X) := by
  intro n
  induction n with
  | zero => intro a1 a2 a3 X ρ h; exact nomatch (show (none : Option _) = some ρ from h)
  | succ n ih =>
    intro a1 a2 a3 X ρ h
    have hK4 := @ih
    rw [hX12_holdersOf_4] at h
    refine z_iload dX12_holdersOf_4 rfl (z_aload dX12_holdersOf_5 rfl (z_callV dX12_holdersOf_6 (tX12_nodes) (Nat.le_of_ble_eq_true rfl) cdX12_nodes naX12_nodes lkX12_67 imX12_nodes seX12_nodes in1_0 sh1_0 rfl rfl rfl (Nat.le_of_ble_eq_true rfl) (z_icmp_ge dX12_holdersOf_9 (fun c1 => ?_) (fun c1 => ?_))))
    · have h := ziT h (c1)
      exact z_iload dX12_holdersOf_37 rfl (z_iretQ dX12_holdersOf_38 rfl (by cases h; rfl))
    · have h := ziF h (c1)
      obtain ⟨r3, l2, h⟩ := zbd_some h
      refine z_iload dX12_holdersOf_12 rfl (z_aload dX12_holdersOf_13 rfl (z_iload dX12_holdersOf_14 rfl (z_iload dX12_holdersOf_15 rfl (z_callV dX12_holdersOf_16 (tX12_isHolder l2) (Nat.le_of_ble_eq_true rfl) cdX12_isHolder naX12_isHolder lkX12_345 imX12_isHolder seX12_isHolder in1_0 sh1_0 rfl rfl rfl (Nat.le_of_ble_eq_true rfl) (z_if_eq dX12_holdersOf_19 (fun c4 => ?_) (fun c4 => ?_))))))
      · have h := ziT h (c4)
        exact z_const dX12_holdersOf_28 (z_mask [true, true, false, true] (sX12_holdersOf_29 hK4 h))
      · have h := ziF h (c4)
        exact z_const dX12_holdersOf_22 (z_iload dX12_holdersOf_23 rfl (z_ishl dX12_holdersOf_24 (z_goto dX12_holdersOf_25 (z_mask [true, true, false, true] (sX12_holdersOf_29 hK4 h)))))
def eX12_holdersOf (F : Nat) (x0 : Int32) (X : zX) : Option (Int32) := hX12_holdersOf_4 F F x0 (nI 0) (nI 0) X
set_option maxRecDepth 20000 in
set_option maxHeartbeats 4000000 in
theorem tX12_holdersOf {μ : zM} {F : Nat} {x0 : Int32} {X : zX} {ρ : Int32} (h : eX12_holdersOf F x0 X = some ρ) : LM mX12_holdersOf 5 [zq 1 0, zi x0] (zg μ 1 X) (some (zi ρ)) (zg μ 1 X) := by
  unfold eX12_holdersOf at h
  refine LM.of (by decide +kernel) rfl (Nat.le_of_ble_eq_true rfl) ?_
  show zJ mX12_holdersOf 5 (0, 0) (0, 0) _ 0 [some (zq 1 0), some (zi x0), none, none] [] _
  exact z_const dX12_holdersOf_0 (z_istore dX12_holdersOf_1 (Nat.le_of_ble_eq_true rfl) (z_const dX12_holdersOf_2 (z_istore dX12_holdersOf_3 (Nat.le_of_ble_eq_true rfl) (z_mask [true, true, true, true] (sX12_holdersOf_4 h)))))
-- X12_readRequest
def hX12_readRequest_28 (F : Nat) : Nat → Int32 → zX → Option (Int32 × zX)
  | 0, _, _ => none
  | n + 1, a1, X => if (X 1 0) ≤ a1 then some ((nI 1), X) else zchk (zin (((nI 18) + ((nI 244) * a1)) + (nI 3)) 2422) (zlet (zw X 1 (zn (((nI 18) + ((nI 244) * a1)) + (nI 3))) (X 1 8)) fun X3 => zchk (zin (((nI 18) + ((nI 244) * a1)) + (nI 4)) 2422) (zlet (zw X3 1 (zn (((nI 18) + ((nI 244) * a1)) + (nI 4))) (X3 1 9)) fun X5 => (hX12_readRequest_28 F n) (a1 + (nI 1)) X5))
set_option maxRecDepth 20000 in
set_option maxHeartbeats 4000000 in
theorem sX12_readRequest_28 {μ : zM} {F : Nat} : ∀ {n : Nat} {a1 : Int32} {X : zX} {ρ : Int32 × zX}, hX12_readRequest_28 F n a1 X = some ρ → zJ mX12_readRequest 5 (0, 0) (0, 0) (zQ (some (zi ρ.1)) (zg μ 1 ρ.2)) 28 [some (zq 1 0), some (zi a1)] [] (zg μ 1 X) := by
  intro n
  induction n with
  | zero => intro a1 X ρ h; exact nomatch (show (none : Option _) = some ρ from h)
  | succ n ih =>
    intro a1 X ρ h
    have hK28 := @ih
    rw [hX12_readRequest_28] at h
    refine z_iload dX12_readRequest_28 rfl (z_aload dX12_readRequest_29 rfl (z_callV dX12_readRequest_30 (tX12_nodes) (Nat.le_of_ble_eq_true rfl) cdX12_nodes naX12_nodes lkX12_67 imX12_nodes seX12_nodes in1_0 sh1_0 rfl rfl rfl (Nat.le_of_ble_eq_true rfl) (z_icmp_ge dX12_readRequest_33 (fun c1 => ?_) (fun c1 => ?_))))
    · have h := ziT h (c1)
      exact z_const dX12_readRequest_76 (z_zretQ dX12_readRequest_77 rfl rfl (by cases h; rfl))
    · have h := ziF h (c1)
      obtain ⟨s2, h⟩ := zchk_some h
      have h := zlet_h h
      refine z_aload dX12_readRequest_36 rfl (z_getR dX12_readRequest_37 fkX12_13 in1_0 sh1_0 rfl (z_iload dX12_readRequest_40 rfl (z_const dX12_readRequest_41 (z_callS dX12_readRequest_42 (tX12_nodeAt) (Nat.le_of_ble_eq_true rfl) cdX12_nodeAt naX12_nodeAt lkX12_56 stX12_nodeAt rfl rfl (Nat.le_of_ble_eq_true rfl) (z_aload dX12_readRequest_45 rfl (z_getR dX12_readRequest_46 fkX12_13 in1_0 sh1_0 rfl (z_const dX12_readRequest_49 (z_ialdN dX12_readRequest_51 in1_1 sh1_1 (Nat.le_of_ble_eq_true rfl) (Nat.le_of_ble_eq_true rfl) (z_iast dX12_readRequest_52 in1_1 sh1_1 (zin_vp s2) (z_aload dX12_readRequest_53 rfl (z_getR dX12_readRequest_54 fkX12_13 in1_0 sh1_0 rfl ?_)))))))))))
      obtain ⟨s4, h⟩ := zchk_some h
      have h := zlet_h h
      exact z_iload dX12_readRequest_57 rfl (z_const dX12_readRequest_58 (z_callS dX12_readRequest_59 (tX12_nodeAt) (Nat.le_of_ble_eq_true rfl) cdX12_nodeAt naX12_nodeAt lkX12_56 stX12_nodeAt rfl rfl (Nat.le_of_ble_eq_true rfl) (z_aload dX12_readRequest_62 rfl (z_getR dX12_readRequest_63 fkX12_13 in1_0 sh1_0 rfl (z_const dX12_readRequest_66 (z_ialdN dX12_readRequest_68 in1_1 sh1_1 (Nat.le_of_ble_eq_true rfl) (Nat.le_of_ble_eq_true rfl) (z_iast dX12_readRequest_69 in1_1 sh1_1 (zin_vp s4) (z_iinc dX12_readRequest_70 (Nat.le_of_ble_eq_true rfl) rfl (z_goto dX12_readRequest_73 (z_mask [true, true] (hK28 h)))))))))))
def eX12_readRequest (F : Nat) (X : zX) : Option (Int32 × zX) := zbd (eX12_readNumber F (nI 8) (nI 0) (nI 32) X) fun y2 => if y2.1 = 0 then some ((nI 0), y2.2) else zbd (eX12_readNumber F (nI 9) (nI 0) (nI 32) y2.2) fun y5 => if y5.1 = 0 then some ((nI 0), y5.2) else hX12_readRequest_28 F F (nI 0) y5.2
set_option maxRecDepth 20000 in
set_option maxHeartbeats 4000000 in
theorem tX12_readRequest {μ : zM} {F : Nat} {X : zX} {ρ : Int32 × zX} (h : eX12_readRequest F X = some ρ) : LM mX12_readRequest 5 [zq 1 0] (zg μ 1 X) (some (zi ρ.1)) (zg μ 1 ρ.2) := by
  unfold eX12_readRequest at h
  refine LM.of (by decide +kernel) rfl (Nat.le_of_ble_eq_true rfl) ?_
  show zJ mX12_readRequest 5 (0, 0) (0, 0) _ 0 [some (zq 1 0), none] [] _
  obtain ⟨y2, l1, h⟩ := zbd_some h
  refine z_aload dX12_readRequest_0 rfl (z_const dX12_readRequest_1 (z_const dX12_readRequest_3 (z_const dX12_readRequest_4 (z_callV dX12_readRequest_6 (tX12_readNumber l1) (Nat.le_of_ble_eq_true rfl) cdX12_readNumber naX12_readNumber lkX12_153 imX12_readNumber seX12_readNumber in1_0 sh1_0 rfl rfl rfl (Nat.le_of_ble_eq_true rfl) (z_if_eq dX12_readRequest_9 (fun c3 => ?_) (fun c3 => ?_))))))
  · have h := ziT h (c3)
    exact z_const dX12_readRequest_24 (z_zretQ dX12_readRequest_25 rfl rfl (by cases h; rfl))
  · have h := ziF h (c3)
    obtain ⟨y5, l4, h⟩ := zbd_some h
    refine z_aload dX12_readRequest_12 rfl (z_const dX12_readRequest_13 (z_const dX12_readRequest_15 (z_const dX12_readRequest_16 (z_callV dX12_readRequest_18 (tX12_readNumber l4) (Nat.le_of_ble_eq_true rfl) cdX12_readNumber naX12_readNumber lkX12_153 imX12_readNumber seX12_readNumber in1_0 sh1_0 rfl rfl rfl (Nat.le_of_ble_eq_true rfl) (z_if_ne dX12_readRequest_21 (fun c6 => ?_) (fun c6 => ?_))))))
    · have h := ziF h (c6)
      exact z_const dX12_readRequest_26 (z_istore dX12_readRequest_27 (Nat.le_of_ble_eq_true rfl) (z_mask [true, true] (sX12_readRequest_28 h)))
    · have h := ziT h (c6)
      exact z_const dX12_readRequest_24 (z_zretQ dX12_readRequest_25 rfl rfl (by cases h; rfl))
-- X12_hearsRequest
def eX12_hearsRequest (x0 x1 x2 x3 : Int32) (X : zX) : Option (zX) := zbd (eX12_hasIt x0 x1 X) fun r2 => if r2 = 0 then zchk (zin (((nI 18) + ((nI 244) * x0)) + (((nI 28) + ((nI 18) * x1)) + (nI 3))) 2422) (zchk (zin (((nI 18) + ((nI 244) * x0)) + (((nI 28) + ((nI 18) * x1)) + (nI 3))) 2422) (zlet (zw X 1 (zn (((nI 18) + ((nI 244) * x0)) + (((nI 28) + ((nI 18) * x1)) + (nI 3)))) ((X 1 (zn (((nI 18) + ((nI 244) * x0)) + (((nI 28) + ((nI 18) * x1)) + (nI 3))))) + (nI 1))) fun X22 => zbd (eX12_ofPacket x0 x1 (nI 4) X22) fun r24 => if r24 ≤ (X22 1 14) then zbd (eX12_backsOff x0 x1 X22) fun y27 => zbd (eX12_more x0 (nI 9) y27) fun y29 => some y29 else some X22)) else zbd (eX12_ofPacket x0 x1 (nI 5) X) fun r5 => if r5 = (-1) then zbd (eX12_ofPacket x0 x1 (nI 8) X) fun r8 => if (X 1 14) < r8 then some X else zbd (eX12_estOf x0 x2 X) fun r11 => zbd (eX12_timeBy (X 1 10) (X 1 11) r11 (nI 0) X) fun y13 => zchk (zin (((nI 18) + ((nI 244) * x0)) + (((nI 28) + ((nI 18) * x1)) + (nI 5))) 2422) (zlet (zw y13.2 1 (zn (((nI 18) + ((nI 244) * x0)) + (((nI 28) + ((nI 18) * x1)) + (nI 5)))) y13.1) fun X15 => zchk (zin (((nI 18) + ((nI 244) * x0)) + (((nI 28) + ((nI 18) * x1)) + (nI 6))) 2422) (zlet (zw X15 1 (zn (((nI 18) + ((nI 244) * x0)) + (((nI 28) + ((nI 18) * x1)) + (nI 6)))) x2) fun X17 => zchk (zin (((nI 18) + ((nI 244) * x0)) + (((nI 28) + ((nI 18) * x1)) + (nI 7))) 2422) (zlet (zw X17 1 (zn (((nI 18) + ((nI 244) * x0)) + (((nI 28) + ((nI 18) * x1)) + (nI 7)))) x3) fun X19 => some X19))) else some X
set_option maxRecDepth 20000 in
set_option maxHeartbeats 4000000 in
theorem tX12_hearsRequest {μ : zM} {x0 x1 x2 x3 : Int32} {X : zX} {ρ : zX} (h : eX12_hearsRequest x0 x1 x2 x3 X = some ρ) : LM mX12_hearsRequest 6 [zq 1 0, zi x0, zi x1, zi x2, zi x3] (zg μ 1 X) none (zg μ 1 ρ) := by
  unfold eX12_hearsRequest at h
  refine LM.of (by decide +kernel) rfl (Nat.le_of_ble_eq_true rfl) ?_
  show zJ mX12_hearsRequest 6 (0, 0) (0, 0) _ 0 [some (zq 1 0), some (zi x0), some (zi x1), some (zi x2), some (zi x3)] [] _
  obtain ⟨r2, l1, h⟩ := zbd_some h
  refine z_aload dX12_hearsRequest_0 rfl (z_iload dX12_hearsRequest_1 rfl (z_iload dX12_hearsRequest_2 rfl (z_callV dX12_hearsRequest_3 (tX12_hasIt l1) (Nat.le_of_ble_eq_true rfl) cdX12_hasIt naX12_hasIt lkX12_272 imX12_hasIt seX12_hasIt in1_0 sh1_0 rfl rfl rfl (Nat.le_of_ble_eq_true rfl) (z_if_ne dX12_hearsRequest_6 (fun c3 => ?_) (fun c3 => ?_)))))
  · have h := ziF h (c3)
    obtain ⟨r5, l4, h⟩ := zbd_some h
    refine z_aload dX12_hearsRequest_58 rfl (z_iload dX12_hearsRequest_59 rfl (z_iload dX12_hearsRequest_60 rfl (z_const dX12_hearsRequest_61 (z_callV dX12_hearsRequest_62 (tX12_ofPacket l4) (Nat.le_of_ble_eq_true rfl) cdX12_ofPacket naX12_ofPacket lkX12_213 imX12_ofPacket seX12_ofPacket in1_0 sh1_0 rfl rfl rfl (Nat.le_of_ble_eq_true rfl) (z_const dX12_hearsRequest_65 (z_icmp_ne dX12_hearsRequest_66 (fun c6 => ?_) (fun c6 => ?_)))))))
    · have h := ziF h (c6)
      exact z_vretQ dX12_hearsRequest_150 rfl (by cases h; rfl)
    · have h := ziT h (c6)
      obtain ⟨r8, l7, h⟩ := zbd_some h
      refine z_aload dX12_hearsRequest_69 rfl (z_getR dX12_hearsRequest_70 fkX12_13 in1_0 sh1_0 rfl (z_const dX12_hearsRequest_73 (z_ialdN dX12_hearsRequest_75 in1_1 sh1_1 (Nat.le_of_ble_eq_true rfl) (Nat.le_of_ble_eq_true rfl) (z_aload dX12_hearsRequest_76 rfl (z_iload dX12_hearsRequest_77 rfl (z_iload dX12_hearsRequest_78 rfl (z_const dX12_hearsRequest_79 (z_callV dX12_hearsRequest_81 (tX12_ofPacket l7) (Nat.le_of_ble_eq_true rfl) cdX12_ofPacket naX12_ofPacket lkX12_213 imX12_ofPacket seX12_ofPacket in1_0 sh1_0 rfl rfl rfl (Nat.le_of_ble_eq_true rfl) (z_icmp_lt dX12_hearsRequest_84 (fun c9 => ?_) (fun c9 => ?_))))))))))
      · have h := ziT h (c9)
        exact z_vretQ dX12_hearsRequest_150 rfl (by cases h; rfl)
      · have h := ziF h (c9)
        refine z_aload dX12_hearsRequest_87 rfl (z_getR dX12_hearsRequest_88 fkX12_13 in1_0 sh1_0 rfl (z_iload dX12_hearsRequest_91 rfl (z_iload dX12_hearsRequest_92 rfl (z_const dX12_hearsRequest_93 (z_callS dX12_hearsRequest_94 (tX12_packetAt) (Nat.le_of_ble_eq_true rfl) cdX12_packetAt naX12_packetAt lkX12_60 stX12_packetAt rfl rfl (Nat.le_of_ble_eq_true rfl) (z_aload dX12_hearsRequest_97 rfl (z_aload dX12_hearsRequest_98 rfl (z_getR dX12_hearsRequest_99 fkX12_13 in1_0 sh1_0 rfl (z_const dX12_hearsRequest_102 (z_ialdN dX12_hearsRequest_104 in1_1 sh1_1 (Nat.le_of_ble_eq_true rfl) (Nat.le_of_ble_eq_true rfl) (z_aload dX12_hearsRequest_105 rfl ?_)))))))))))
        obtain ⟨r11, l10, h⟩ := zbd_some h
        obtain ⟨y13, l12, h⟩ := zbd_some h
        obtain ⟨s14, h⟩ := zchk_some h
        have h := zlet_h h
        refine z_getR dX12_hearsRequest_106 fkX12_13 in1_0 sh1_0 rfl (z_const dX12_hearsRequest_109 (z_ialdN dX12_hearsRequest_111 in1_1 sh1_1 (Nat.le_of_ble_eq_true rfl) (Nat.le_of_ble_eq_true rfl) (z_aload dX12_hearsRequest_112 rfl (z_iload dX12_hearsRequest_113 rfl (z_iload dX12_hearsRequest_114 rfl (z_callV dX12_hearsRequest_115 (tX12_estOf l10) (Nat.le_of_ble_eq_true rfl) cdX12_estOf naX12_estOf lkX12_256 imX12_estOf seX12_estOf in1_0 sh1_0 rfl rfl rfl (Nat.le_of_ble_eq_true rfl) (z_const dX12_hearsRequest_118 (z_callV dX12_hearsRequest_119 (tX12_timeBy l12) (Nat.le_of_ble_eq_true rfl) cdX12_timeBy naX12_timeBy lkX12_259 imX12_timeBy seX12_timeBy in1_0 sh1_0 rfl rfl rfl (Nat.le_of_ble_eq_true rfl) (z_iast dX12_hearsRequest_122 in1_1 sh1_1 (zin_vp s14) (z_aload dX12_hearsRequest_123 rfl (z_getR dX12_hearsRequest_124 fkX12_13 in1_0 sh1_0 rfl ?_)))))))))))
        obtain ⟨s16, h⟩ := zchk_some h
        have h := zlet_h h
        refine z_iload dX12_hearsRequest_127 rfl (z_iload dX12_hearsRequest_128 rfl (z_const dX12_hearsRequest_129 (z_callS dX12_hearsRequest_131 (tX12_packetAt) (Nat.le_of_ble_eq_true rfl) cdX12_packetAt naX12_packetAt lkX12_60 stX12_packetAt rfl rfl (Nat.le_of_ble_eq_true rfl) (z_iload dX12_hearsRequest_134 rfl (z_iast dX12_hearsRequest_135 in1_1 sh1_1 (zin_vp s16) (z_aload dX12_hearsRequest_136 rfl (z_getR dX12_hearsRequest_137 fkX12_13 in1_0 sh1_0 rfl (z_iload dX12_hearsRequest_140 rfl (z_iload dX12_hearsRequest_141 rfl (z_const dX12_hearsRequest_142 (z_callS dX12_hearsRequest_144 (tX12_packetAt) (Nat.le_of_ble_eq_true rfl) cdX12_packetAt naX12_packetAt lkX12_60 stX12_packetAt rfl rfl (Nat.le_of_ble_eq_true rfl) ?_)))))))))))
        obtain ⟨s18, h⟩ := zchk_some h
        have h := zlet_h h
        exact z_iload dX12_hearsRequest_147 rfl (z_iast dX12_hearsRequest_149 in1_1 sh1_1 (zin_vp s18) (z_vretQ dX12_hearsRequest_150 rfl (by cases h; rfl)))
  · have h := ziT h (c3)
    obtain ⟨s20, h⟩ := zchk_some h
    obtain ⟨s21, h⟩ := zchk_some h
    have h := zlet_h h
    refine z_aload dX12_hearsRequest_9 rfl (z_getR dX12_hearsRequest_10 fkX12_13 in1_0 sh1_0 rfl (z_iload dX12_hearsRequest_13 rfl (z_iload dX12_hearsRequest_14 rfl (z_const dX12_hearsRequest_15 (z_callS dX12_hearsRequest_16 (tX12_packetAt) (Nat.le_of_ble_eq_true rfl) cdX12_packetAt naX12_packetAt lkX12_60 stX12_packetAt rfl rfl (Nat.le_of_ble_eq_true rfl) (z_dup2 dX12_hearsRequest_19 rfl rfl (z_iald dX12_hearsRequest_20 in1_1 sh1_1 (zin_vp s20) (z_const dX12_hearsRequest_21 (z_iadd dX12_hearsRequest_22 (z_iast dX12_hearsRequest_23 in1_1 sh1_1 (zin_vp s21) (z_aload dX12_hearsRequest_24 rfl ?_)))))))))))
    obtain ⟨r24, l23, h⟩ := zbd_some h
    refine z_getR dX12_hearsRequest_25 fkX12_13 in1_0 sh1_0 rfl (z_const dX12_hearsRequest_28 (z_ialdN dX12_hearsRequest_30 in1_1 sh1_1 (Nat.le_of_ble_eq_true rfl) (Nat.le_of_ble_eq_true rfl) (z_aload dX12_hearsRequest_31 rfl (z_iload dX12_hearsRequest_32 rfl (z_iload dX12_hearsRequest_33 rfl (z_const dX12_hearsRequest_34 (z_callV dX12_hearsRequest_35 (tX12_ofPacket l23) (Nat.le_of_ble_eq_true rfl) cdX12_ofPacket naX12_ofPacket lkX12_213 imX12_ofPacket seX12_ofPacket in1_0 sh1_0 rfl rfl rfl (Nat.le_of_ble_eq_true rfl) (z_icmp_ge dX12_hearsRequest_38 (fun c25 => ?_) (fun c25 => ?_)))))))))
    · have h := ziT h (c25)
      obtain ⟨y27, l26, h⟩ := zbd_some h
      obtain ⟨y29, l28, h⟩ := zbd_some h
      exact z_aload dX12_hearsRequest_42 rfl (z_iload dX12_hearsRequest_43 rfl (z_iload dX12_hearsRequest_44 rfl (z_callV dX12_hearsRequest_45 (tX12_backsOff l26) (Nat.le_of_ble_eq_true rfl) cdX12_backsOff naX12_backsOff lkX12_284 imX12_backsOff seX12_backsOff in1_0 sh1_0 rfl rfl rfl (Nat.le_of_ble_eq_true rfl) (z_aload dX12_hearsRequest_48 rfl (z_iload dX12_hearsRequest_49 rfl (z_const dX12_hearsRequest_50 (z_callV dX12_hearsRequest_52 (tX12_more l28) (Nat.le_of_ble_eq_true rfl) cdX12_more naX12_more lkX12_275 imX12_more seX12_more in1_0 sh1_0 rfl rfl rfl (Nat.le_of_ble_eq_true rfl) (z_goto dX12_hearsRequest_55 (z_vretQ dX12_hearsRequest_150 rfl (by cases h; rfl))))))))))
    · have h := ziF h (c25)
      exact z_vretQ dX12_hearsRequest_41 rfl (by cases h; rfl)
-- X12_holders
def eX12_holders (F : Nat) (x0 : Int32) (X : zX) : Option (Int32 × zX) := zbd (eX12_throwsIf (zB (¬ ((¬ (x0 < (nI 0))) ∧ (¬ ((nI 11) < x0))))) (nI 1) (zw X 0 0 (nI 0))) fun y2 => if y2.1 = 0 then zbd (eX12_holdersOf F x0 y2.2) fun r5 => some (r5, y2.2) else some ((nI 0), y2.2)
set_option maxRecDepth 20000 in
set_option maxHeartbeats 4000000 in
theorem tX12_holders {μ : zM} {F : Nat} {x0 : Int32} {X : zX} {ρ : Int32 × zX} (h : eX12_holders F x0 X = some ρ) : LM mX12_holders 6 [zq 1 0, zi x0] (zg μ 1 X) (some (zi ρ.1)) (zg μ 1 ρ.2) := by
  unfold eX12_holders at h
  refine LM.of (by decide +kernel) rfl (Nat.le_of_ble_eq_true rfl) ?_
  show zJ mX12_holders 6 (0, 0) (0, 0) _ 0 [some (zq 1 0), some (zi x0)] [] _
  obtain ⟨y2, l1, h⟩ := zbd_some h
  refine z_aload dX12_holders_0 rfl (z_const dX12_holders_1 (z_putI dX12_holders_2 fkX12_3 in1_0 sh1_0 rfl (fun _ _ _ h => by cases h; rfl) ⟨_, rfl, rfl, rfl⟩ (z_aload dX12_holders_5 rfl (z_iload dX12_holders_6 rfl (z_callS dX12_holders_7 (tX12_noPacket) (Nat.le_of_ble_eq_true rfl) cdX12_noPacket naX12_noPacket lkX12_336 stX12_noPacket rfl rfl (Nat.le_of_ble_eq_true rfl) (z_const dX12_holders_10 (z_callV dX12_holders_11 (tX12_throwsIf l1) (Nat.le_of_ble_eq_true rfl) cdX12_throwsIf naX12_throwsIf lkX12_188 imX12_throwsIf seX12_throwsIf in1_0 sh1_0 rfl rfl rfl (Nat.le_of_ble_eq_true rfl) (z_if_eq dX12_holders_14 (fun c3 => ?_) (fun c3 => ?_)))))))))
  · have h := ziT h (c3)
    obtain ⟨r5, l4, h⟩ := zbd_some h
    exact z_aload dX12_holders_21 rfl (z_iload dX12_holders_22 rfl (z_callV dX12_holders_23 (tX12_holdersOf l4) (Nat.le_of_ble_eq_true rfl) cdX12_holdersOf naX12_holdersOf lkX12_351 imX12_holdersOf seX12_holdersOf in1_0 sh1_0 rfl rfl rfl (Nat.le_of_ble_eq_true rfl) (z_iretQ dX12_holders_26 rfl (by cases h; rfl))))
  · have h := ziF h (c3)
    exact z_const dX12_holders_17 (z_goto dX12_holders_18 (z_iretQ dX12_holders_26 rfl (by cases h; rfl)))
-- X12_isWords30
def hX12_isWords30_24 (F : Nat) : Nat → Int32 → Int32 → zX → Option (Int32)
  | 0, _, _, _ => none
  | n + 1, a2, a3, X => if a2 = 0 then zchk (zbl a2) (some a2) else if (nI 4) ≤ a3 then zchk (zbl a2) (some a2) else zchk (zin ((X 0 10) + a3) 400) (zchk (zin a3 4) (if (X 5 (zn ((X 0 10) + a3))) = (nI (List.getD [110, 111, 100, 101] (zn a3) 0)) then (hX12_isWords30_24 F n) (nI 1) (a3 + (nI 1)) X else (hX12_isWords30_24 F n) (nI 0) (a3 + (nI 1)) X))
set_option maxRecDepth 20000 in
set_option maxHeartbeats 4000000 in
theorem sX12_isWords30_24 {μ : zM} {F : Nat} : ∀ {n : Nat} {a2 a3 : Int32} {X : zX} {ρ : Int32}, hX12_isWords30_24 F n a2 a3 X = some ρ → zJ mX12_isWord 6 (0, 0) (0, 0) (zQ (some (zi ρ)) (zg μ 1 X)) 24 [some (zq 1 0), some (zq 3 31), some (zi a2), some (zi a3)] [] (zg μ 1 X) := by
  intro n
  induction n with
  | zero => intro a2 a3 X ρ h; exact nomatch (show (none : Option _) = some ρ from h)
  | succ n ih =>
    intro a2 a3 X ρ h
    have hK24 := @ih
    rw [hX12_isWords30_24] at h
    refine z_iload dX12_isWord_24 rfl (z_if_eq dX12_isWord_25 (fun c1 => ?_) (fun c1 => ?_))
    · have h := ziT h (c1)
      obtain ⟨s2, h⟩ := zchk_some h
      exact z_iload dX12_isWord_67 rfl (z_zretQ dX12_isWord_68 rfl (zbl_n (id s2)) (by cases h; rfl))
    · have h := ziF h (c1)
      refine z_iload dX12_isWord_28 rfl (z_aload dX12_isWord_29 rfl (z_strlen dX12_isWord_30 (i := 30) lkX12_104 rfl (Nat.le_of_ble_eq_true rfl) (Nat.le_of_ble_eq_true rfl) (z_icmp_ge dX12_isWord_33 (fun c3 => ?_) (fun c3 => ?_))))
      · have h := ziT h (c3)
        obtain ⟨s4, h⟩ := zchk_some h
        exact z_iload dX12_isWord_67 rfl (z_zretQ dX12_isWord_68 rfl (zbl_n (id s4)) (by cases h; rfl))
      · have h := ziF h (c3)
        obtain ⟨s5, h⟩ := zchk_some h
        obtain ⟨s6, h⟩ := zchk_some h
        refine z_aload dX12_isWord_36 rfl (z_getR dX12_isWord_37 fkX12_26 in1_0 sh1_0 rfl (z_aload dX12_isWord_40 rfl (z_getI dX12_isWord_41 fkX12_98 in1_0 sh1_0 rfl (z_iload dX12_isWord_44 rfl (z_iadd dX12_isWord_45 (z_bald dX12_isWord_46 in1_5 sh1_5 (zin_vp s5) (z_aload dX12_isWord_47 rfl (z_iload dX12_isWord_48 rfl (z_charAt dX12_isWord_49 (i := 30) lkX12_109 rfl (id s6) (Nat.le_of_ble_eq_true rfl) (Nat.le_of_ble_eq_true rfl) (z_icmp_ne dX12_isWord_52 (fun c7 => ?_) (fun c7 => ?_)))))))))))
        · have h := ziF h (c7)
          exact z_const dX12_isWord_59 (z_istore dX12_isWord_60 (Nat.le_of_ble_eq_true rfl) (z_iinc dX12_isWord_61 (Nat.le_of_ble_eq_true rfl) rfl (z_goto dX12_isWord_64 (z_mask [true, true, true, true] (hK24 h)))))
        · have h := ziT h (c7)
          exact z_const dX12_isWord_55 (z_goto dX12_isWord_56 (z_istore dX12_isWord_60 (Nat.le_of_ble_eq_true rfl) (z_iinc dX12_isWord_61 (Nat.le_of_ble_eq_true rfl) rfl (z_goto dX12_isWord_64 (z_mask [true, true, true, true] (hK24 h))))))
def eX12_isWords30 (F : Nat) (X : zX) : Option (Int32) := if ((X 0 8) - (X 0 10)) = (nI 4) then hX12_isWords30_24 F F (nI 1) (nI 0) X else hX12_isWords30_24 F F (nI 0) (nI 0) X
set_option maxRecDepth 20000 in
set_option maxHeartbeats 4000000 in
theorem tX12_isWords30 {μ : zM} {F : Nat} {X : zX} {ρ : Int32} (h : eX12_isWords30 F X = some ρ) : LM mX12_isWord 6 [zq 1 0, zq 3 31] (zg μ 1 X) (some (zi ρ)) (zg μ 1 X) := by
  unfold eX12_isWords30 at h
  refine LM.of (by decide +kernel) rfl (Nat.le_of_ble_eq_true rfl) ?_
  show zJ mX12_isWord 6 (0, 0) (0, 0) _ 0 [some (zq 1 0), some (zq 3 31), none, none] [] _
  refine z_aload dX12_isWord_0 rfl (z_getI dX12_isWord_1 fkX12_89 in1_0 sh1_0 rfl (z_aload dX12_isWord_4 rfl (z_getI dX12_isWord_5 fkX12_98 in1_0 sh1_0 rfl (z_isub dX12_isWord_8 (z_aload dX12_isWord_9 rfl (z_strlen dX12_isWord_10 (i := 30) lkX12_104 rfl (Nat.le_of_ble_eq_true rfl) (Nat.le_of_ble_eq_true rfl) (z_icmp_ne dX12_isWord_13 (fun c1 => ?_) (fun c1 => ?_))))))))
  · have h := ziF h (c1)
    exact z_const dX12_isWord_20 (z_istore dX12_isWord_21 (Nat.le_of_ble_eq_true rfl) (z_const dX12_isWord_22 (z_istore dX12_isWord_23 (Nat.le_of_ble_eq_true rfl) (z_mask [true, true, true, true] (sX12_isWords30_24 h)))))
  · have h := ziT h (c1)
    exact z_const dX12_isWord_16 (z_goto dX12_isWord_17 (z_istore dX12_isWord_21 (Nat.le_of_ble_eq_true rfl) (z_const dX12_isWord_22 (z_istore dX12_isWord_23 (Nat.le_of_ble_eq_true rfl) (z_mask [true, true, true, true] (sX12_isWords30_24 h))))))
-- X12_isWords31
def hX12_isWords31_24 (F : Nat) : Nat → Int32 → Int32 → zX → Option (Int32)
  | 0, _, _, _ => none
  | n + 1, a2, a3, X => if a2 = 0 then zchk (zbl a2) (some a2) else if (nI 4) ≤ a3 then zchk (zbl a2) (some a2) else zchk (zin ((X 0 10) + a3) 400) (zchk (zin a3 4) (if (X 5 (zn ((X 0 10) + a3))) = (nI (List.getD [100, 111, 119, 110] (zn a3) 0)) then (hX12_isWords31_24 F n) (nI 1) (a3 + (nI 1)) X else (hX12_isWords31_24 F n) (nI 0) (a3 + (nI 1)) X))
set_option maxRecDepth 20000 in
set_option maxHeartbeats 4000000 in
theorem sX12_isWords31_24 {μ : zM} {F : Nat} : ∀ {n : Nat} {a2 a3 : Int32} {X : zX} {ρ : Int32}, hX12_isWords31_24 F n a2 a3 X = some ρ → zJ mX12_isWord 6 (0, 0) (0, 0) (zQ (some (zi ρ)) (zg μ 1 X)) 24 [some (zq 1 0), some (zq 3 32), some (zi a2), some (zi a3)] [] (zg μ 1 X) := by
  intro n
  induction n with
  | zero => intro a2 a3 X ρ h; exact nomatch (show (none : Option _) = some ρ from h)
  | succ n ih =>
    intro a2 a3 X ρ h
    have hK24 := @ih
    rw [hX12_isWords31_24] at h
    refine z_iload dX12_isWord_24 rfl (z_if_eq dX12_isWord_25 (fun c1 => ?_) (fun c1 => ?_))
    · have h := ziT h (c1)
      obtain ⟨s2, h⟩ := zchk_some h
      exact z_iload dX12_isWord_67 rfl (z_zretQ dX12_isWord_68 rfl (zbl_n (id s2)) (by cases h; rfl))
    · have h := ziF h (c1)
      refine z_iload dX12_isWord_28 rfl (z_aload dX12_isWord_29 rfl (z_strlen dX12_isWord_30 (i := 31) lkX12_104 rfl (Nat.le_of_ble_eq_true rfl) (Nat.le_of_ble_eq_true rfl) (z_icmp_ge dX12_isWord_33 (fun c3 => ?_) (fun c3 => ?_))))
      · have h := ziT h (c3)
        obtain ⟨s4, h⟩ := zchk_some h
        exact z_iload dX12_isWord_67 rfl (z_zretQ dX12_isWord_68 rfl (zbl_n (id s4)) (by cases h; rfl))
      · have h := ziF h (c3)
        obtain ⟨s5, h⟩ := zchk_some h
        obtain ⟨s6, h⟩ := zchk_some h
        refine z_aload dX12_isWord_36 rfl (z_getR dX12_isWord_37 fkX12_26 in1_0 sh1_0 rfl (z_aload dX12_isWord_40 rfl (z_getI dX12_isWord_41 fkX12_98 in1_0 sh1_0 rfl (z_iload dX12_isWord_44 rfl (z_iadd dX12_isWord_45 (z_bald dX12_isWord_46 in1_5 sh1_5 (zin_vp s5) (z_aload dX12_isWord_47 rfl (z_iload dX12_isWord_48 rfl (z_charAt dX12_isWord_49 (i := 31) lkX12_109 rfl (id s6) (Nat.le_of_ble_eq_true rfl) (Nat.le_of_ble_eq_true rfl) (z_icmp_ne dX12_isWord_52 (fun c7 => ?_) (fun c7 => ?_)))))))))))
        · have h := ziF h (c7)
          exact z_const dX12_isWord_59 (z_istore dX12_isWord_60 (Nat.le_of_ble_eq_true rfl) (z_iinc dX12_isWord_61 (Nat.le_of_ble_eq_true rfl) rfl (z_goto dX12_isWord_64 (z_mask [true, true, true, true] (hK24 h)))))
        · have h := ziT h (c7)
          exact z_const dX12_isWord_55 (z_goto dX12_isWord_56 (z_istore dX12_isWord_60 (Nat.le_of_ble_eq_true rfl) (z_iinc dX12_isWord_61 (Nat.le_of_ble_eq_true rfl) rfl (z_goto dX12_isWord_64 (z_mask [true, true, true, true] (hK24 h))))))
def eX12_isWords31 (F : Nat) (X : zX) : Option (Int32) := if ((X 0 8) - (X 0 10)) = (nI 4) then hX12_isWords31_24 F F (nI 1) (nI 0) X else hX12_isWords31_24 F F (nI 0) (nI 0) X
set_option maxRecDepth 20000 in
set_option maxHeartbeats 4000000 in
theorem tX12_isWords31 {μ : zM} {F : Nat} {X : zX} {ρ : Int32} (h : eX12_isWords31 F X = some ρ) : LM mX12_isWord 6 [zq 1 0, zq 3 32] (zg μ 1 X) (some (zi ρ)) (zg μ 1 X) := by
  unfold eX12_isWords31 at h
  refine LM.of (by decide +kernel) rfl (Nat.le_of_ble_eq_true rfl) ?_
  show zJ mX12_isWord 6 (0, 0) (0, 0) _ 0 [some (zq 1 0), some (zq 3 32), none, none] [] _
  refine z_aload dX12_isWord_0 rfl (z_getI dX12_isWord_1 fkX12_89 in1_0 sh1_0 rfl (z_aload dX12_isWord_4 rfl (z_getI dX12_isWord_5 fkX12_98 in1_0 sh1_0 rfl (z_isub dX12_isWord_8 (z_aload dX12_isWord_9 rfl (z_strlen dX12_isWord_10 (i := 31) lkX12_104 rfl (Nat.le_of_ble_eq_true rfl) (Nat.le_of_ble_eq_true rfl) (z_icmp_ne dX12_isWord_13 (fun c1 => ?_) (fun c1 => ?_))))))))
  · have h := ziF h (c1)
    exact z_const dX12_isWord_20 (z_istore dX12_isWord_21 (Nat.le_of_ble_eq_true rfl) (z_const dX12_isWord_22 (z_istore dX12_isWord_23 (Nat.le_of_ble_eq_true rfl) (z_mask [true, true, true, true] (sX12_isWords31_24 h)))))
  · have h := ziT h (c1)
    exact z_const dX12_isWord_16 (z_goto dX12_isWord_17 (z_istore dX12_isWord_21 (Nat.le_of_ble_eq_true rfl) (z_const dX12_isWord_22 (z_istore dX12_isWord_23 (Nat.le_of_ble_eq_true rfl) (z_mask [true, true, true, true] (sX12_isWords31_24 h))))))
-- X12_isWords32
def hX12_isWords32_24 (F : Nat) : Nat → Int32 → Int32 → zX → Option (Int32)
  | 0, _, _, _ => none
  | n + 1, a2, a3, X => if a2 = 0 then zchk (zbl a2) (some a2) else if (nI 4) ≤ a3 then zchk (zbl a2) (some a2) else zchk (zin ((X 0 10) + a3) 400) (zchk (zin a3 4) (if (X 5 (zn ((X 0 10) + a3))) = (nI (List.getD [108, 105, 110, 107] (zn a3) 0)) then (hX12_isWords32_24 F n) (nI 1) (a3 + (nI 1)) X else (hX12_isWords32_24 F n) (nI 0) (a3 + (nI 1)) X))
set_option maxRecDepth 20000 in
set_option maxHeartbeats 4000000 in
theorem sX12_isWords32_24 {μ : zM} {F : Nat} : ∀ {n : Nat} {a2 a3 : Int32} {X : zX} {ρ : Int32}, hX12_isWords32_24 F n a2 a3 X = some ρ → zJ mX12_isWord 6 (0, 0) (0, 0) (zQ (some (zi ρ)) (zg μ 1 X)) 24 [some (zq 1 0), some (zq 3 33), some (zi a2), some (zi a3)] [] (zg μ 1 X) := by
  intro n
  induction n with
  | zero => intro a2 a3 X ρ h; exact nomatch (show (none : Option _) = some ρ from h)
  | succ n ih =>
    intro a2 a3 X ρ h
    have hK24 := @ih
    rw [hX12_isWords32_24] at h
    refine z_iload dX12_isWord_24 rfl (z_if_eq dX12_isWord_25 (fun c1 => ?_) (fun c1 => ?_))
    · have h := ziT h (c1)
      obtain ⟨s2, h⟩ := zchk_some h
      exact z_iload dX12_isWord_67 rfl (z_zretQ dX12_isWord_68 rfl (zbl_n (id s2)) (by cases h; rfl))
    · have h := ziF h (c1)
      refine z_iload dX12_isWord_28 rfl (z_aload dX12_isWord_29 rfl (z_strlen dX12_isWord_30 (i := 32) lkX12_104 rfl (Nat.le_of_ble_eq_true rfl) (Nat.le_of_ble_eq_true rfl) (z_icmp_ge dX12_isWord_33 (fun c3 => ?_) (fun c3 => ?_))))
      · have h := ziT h (c3)
        obtain ⟨s4, h⟩ := zchk_some h
        exact z_iload dX12_isWord_67 rfl (z_zretQ dX12_isWord_68 rfl (zbl_n (id s4)) (by cases h; rfl))
      · have h := ziF h (c3)
        obtain ⟨s5, h⟩ := zchk_some h
        obtain ⟨s6, h⟩ := zchk_some h
        refine z_aload dX12_isWord_36 rfl (z_getR dX12_isWord_37 fkX12_26 in1_0 sh1_0 rfl (z_aload dX12_isWord_40 rfl (z_getI dX12_isWord_41 fkX12_98 in1_0 sh1_0 rfl (z_iload dX12_isWord_44 rfl (z_iadd dX12_isWord_45 (z_bald dX12_isWord_46 in1_5 sh1_5 (zin_vp s5) (z_aload dX12_isWord_47 rfl (z_iload dX12_isWord_48 rfl (z_charAt dX12_isWord_49 (i := 32) lkX12_109 rfl (id s6) (Nat.le_of_ble_eq_true rfl) (Nat.le_of_ble_eq_true rfl) (z_icmp_ne dX12_isWord_52 (fun c7 => ?_) (fun c7 => ?_)))))))))))
        · have h := ziF h (c7)
          exact z_const dX12_isWord_59 (z_istore dX12_isWord_60 (Nat.le_of_ble_eq_true rfl) (z_iinc dX12_isWord_61 (Nat.le_of_ble_eq_true rfl) rfl (z_goto dX12_isWord_64 (z_mask [true, true, true, true] (hK24 h)))))
        · have h := ziT h (c7)
          exact z_const dX12_isWord_55 (z_goto dX12_isWord_56 (z_istore dX12_isWord_60 (Nat.le_of_ble_eq_true rfl) (z_iinc dX12_isWord_61 (Nat.le_of_ble_eq_true rfl) rfl (z_goto dX12_isWord_64 (z_mask [true, true, true, true] (hK24 h))))))
def eX12_isWords32 (F : Nat) (X : zX) : Option (Int32) := if ((X 0 8) - (X 0 10)) = (nI 4) then hX12_isWords32_24 F F (nI 1) (nI 0) X else hX12_isWords32_24 F F (nI 0) (nI 0) X
set_option maxRecDepth 20000 in
set_option maxHeartbeats 4000000 in
theorem tX12_isWords32 {μ : zM} {F : Nat} {X : zX} {ρ : Int32} (h : eX12_isWords32 F X = some ρ) : LM mX12_isWord 6 [zq 1 0, zq 3 33] (zg μ 1 X) (some (zi ρ)) (zg μ 1 X) := by
  unfold eX12_isWords32 at h
  refine LM.of (by decide +kernel) rfl (Nat.le_of_ble_eq_true rfl) ?_
  show zJ mX12_isWord 6 (0, 0) (0, 0) _ 0 [some (zq 1 0), some (zq 3 33), none, none] [] _
  refine z_aload dX12_isWord_0 rfl (z_getI dX12_isWord_1 fkX12_89 in1_0 sh1_0 rfl (z_aload dX12_isWord_4 rfl (z_getI dX12_isWord_5 fkX12_98 in1_0 sh1_0 rfl (z_isub dX12_isWord_8 (z_aload dX12_isWord_9 rfl (z_strlen dX12_isWord_10 (i := 32) lkX12_104 rfl (Nat.le_of_ble_eq_true rfl) (Nat.le_of_ble_eq_true rfl) (z_icmp_ne dX12_isWord_13 (fun c1 => ?_) (fun c1 => ?_))))))))
  · have h := ziF h (c1)
    exact z_const dX12_isWord_20 (z_istore dX12_isWord_21 (Nat.le_of_ble_eq_true rfl) (z_const dX12_isWord_22 (z_istore dX12_isWord_23 (Nat.le_of_ble_eq_true rfl) (z_mask [true, true, true, true] (sX12_isWords32_24 h)))))
  · have h := ziT h (c1)
    exact z_const dX12_isWord_16 (z_goto dX12_isWord_17 (z_istore dX12_isWord_21 (Nat.le_of_ble_eq_true rfl) (z_const dX12_isWord_22 (z_istore dX12_isWord_23 (Nat.le_of_ble_eq_true rfl) (z_mask [true, true, true, true] (sX12_isWords32_24 h))))))
-- X12_isWords33
def hX12_isWords33_24 (F : Nat) : Nat → Int32 → Int32 → zX → Option (Int32)
  | 0, _, _, _ => none
  | n + 1, a2, a3, X => if a2 = 0 then zchk (zbl a2) (some a2) else if (nI 5) ≤ a3 then zchk (zbl a2) (some a2) else zchk (zin ((X 0 10) + a3) 400) (zchk (zin a3 5) (if (X 5 (zn ((X 0 10) + a3))) = (nI (List.getD [100, 101, 108, 97, 121] (zn a3) 0)) then (hX12_isWords33_24 F n) (nI 1) (a3 + (nI 1)) X else (hX12_isWords33_24 F n) (nI 0) (a3 + (nI 1)) X))
set_option maxRecDepth 20000 in
set_option maxHeartbeats 4000000 in
theorem sX12_isWords33_24 {μ : zM} {F : Nat} : ∀ {n : Nat} {a2 a3 : Int32} {X : zX} {ρ : Int32}, hX12_isWords33_24 F n a2 a3 X = some ρ → zJ mX12_isWord 6 (0, 0) (0, 0) (zQ (some (zi ρ)) (zg μ 1 X)) 24 [some (zq 1 0), some (zq 3 34), some (zi a2), some (zi a3)] [] (zg μ 1 X) := by
  intro n
  induction n with
  | zero => intro a2 a3 X ρ h; exact nomatch (show (none : Option _) = some ρ from h)
  | succ n ih =>
    intro a2 a3 X ρ h
    have hK24 := @ih
    rw [hX12_isWords33_24] at h
    refine z_iload dX12_isWord_24 rfl (z_if_eq dX12_isWord_25 (fun c1 => ?_) (fun c1 => ?_))
    · have h := ziT h (c1)
      obtain ⟨s2, h⟩ := zchk_some h
      exact z_iload dX12_isWord_67 rfl (z_zretQ dX12_isWord_68 rfl (zbl_n (id s2)) (by cases h; rfl))
    · have h := ziF h (c1)
      refine z_iload dX12_isWord_28 rfl (z_aload dX12_isWord_29 rfl (z_strlen dX12_isWord_30 (i := 33) lkX12_104 rfl (Nat.le_of_ble_eq_true rfl) (Nat.le_of_ble_eq_true rfl) (z_icmp_ge dX12_isWord_33 (fun c3 => ?_) (fun c3 => ?_))))
      · have h := ziT h (c3)
        obtain ⟨s4, h⟩ := zchk_some h
        exact z_iload dX12_isWord_67 rfl (z_zretQ dX12_isWord_68 rfl (zbl_n (id s4)) (by cases h; rfl))
      · have h := ziF h (c3)
        obtain ⟨s5, h⟩ := zchk_some h
        obtain ⟨s6, h⟩ := zchk_some h
        refine z_aload dX12_isWord_36 rfl (z_getR dX12_isWord_37 fkX12_26 in1_0 sh1_0 rfl (z_aload dX12_isWord_40 rfl (z_getI dX12_isWord_41 fkX12_98 in1_0 sh1_0 rfl (z_iload dX12_isWord_44 rfl (z_iadd dX12_isWord_45 (z_bald dX12_isWord_46 in1_5 sh1_5 (zin_vp s5) (z_aload dX12_isWord_47 rfl (z_iload dX12_isWord_48 rfl (z_charAt dX12_isWord_49 (i := 33) lkX12_109 rfl (id s6) (Nat.le_of_ble_eq_true rfl) (Nat.le_of_ble_eq_true rfl) (z_icmp_ne dX12_isWord_52 (fun c7 => ?_) (fun c7 => ?_)))))))))))
        · have h := ziF h (c7)
          exact z_const dX12_isWord_59 (z_istore dX12_isWord_60 (Nat.le_of_ble_eq_true rfl) (z_iinc dX12_isWord_61 (Nat.le_of_ble_eq_true rfl) rfl (z_goto dX12_isWord_64 (z_mask [true, true, true, true] (hK24 h)))))
        · have h := ziT h (c7)
          exact z_const dX12_isWord_55 (z_goto dX12_isWord_56 (z_istore dX12_isWord_60 (Nat.le_of_ble_eq_true rfl) (z_iinc dX12_isWord_61 (Nat.le_of_ble_eq_true rfl) rfl (z_goto dX12_isWord_64 (z_mask [true, true, true, true] (hK24 h))))))
def eX12_isWords33 (F : Nat) (X : zX) : Option (Int32) := if ((X 0 8) - (X 0 10)) = (nI 5) then hX12_isWords33_24 F F (nI 1) (nI 0) X else hX12_isWords33_24 F F (nI 0) (nI 0) X
set_option maxRecDepth 20000 in
set_option maxHeartbeats 4000000 in
theorem tX12_isWords33 {μ : zM} {F : Nat} {X : zX} {ρ : Int32} (h : eX12_isWords33 F X = some ρ) : LM mX12_isWord 6 [zq 1 0, zq 3 34] (zg μ 1 X) (some (zi ρ)) (zg μ 1 X) := by
  unfold eX12_isWords33 at h
  refine LM.of (by decide +kernel) rfl (Nat.le_of_ble_eq_true rfl) ?_
  show zJ mX12_isWord 6 (0, 0) (0, 0) _ 0 [some (zq 1 0), some (zq 3 34), none, none] [] _
  refine z_aload dX12_isWord_0 rfl (z_getI dX12_isWord_1 fkX12_89 in1_0 sh1_0 rfl (z_aload dX12_isWord_4 rfl (z_getI dX12_isWord_5 fkX12_98 in1_0 sh1_0 rfl (z_isub dX12_isWord_8 (z_aload dX12_isWord_9 rfl (z_strlen dX12_isWord_10 (i := 33) lkX12_104 rfl (Nat.le_of_ble_eq_true rfl) (Nat.le_of_ble_eq_true rfl) (z_icmp_ne dX12_isWord_13 (fun c1 => ?_) (fun c1 => ?_))))))))
  · have h := ziF h (c1)
    exact z_const dX12_isWord_20 (z_istore dX12_isWord_21 (Nat.le_of_ble_eq_true rfl) (z_const dX12_isWord_22 (z_istore dX12_isWord_23 (Nat.le_of_ble_eq_true rfl) (z_mask [true, true, true, true] (sX12_isWords33_24 h)))))
  · have h := ziT h (c1)
    exact z_const dX12_isWord_16 (z_goto dX12_isWord_17 (z_istore dX12_isWord_21 (Nat.le_of_ble_eq_true rfl) (z_const dX12_isWord_22 (z_istore dX12_isWord_23 (Nat.le_of_ble_eq_true rfl) (z_mask [true, true, true, true] (sX12_isWords33_24 h))))))
-- X12_isWords34
def hX12_isWords34_24 (F : Nat) : Nat → Int32 → Int32 → zX → Option (Int32)
  | 0, _, _, _ => none
  | n + 1, a2, a3, X => if a2 = 0 then zchk (zbl a2) (some a2) else if (nI 4) ≤ a3 then zchk (zbl a2) (some a2) else zchk (zin ((X 0 10) + a3) 400) (zchk (zin a3 4) (if (X 5 (zn ((X 0 10) + a3))) = (nI (List.getD [108, 111, 115, 115] (zn a3) 0)) then (hX12_isWords34_24 F n) (nI 1) (a3 + (nI 1)) X else (hX12_isWords34_24 F n) (nI 0) (a3 + (nI 1)) X))
set_option maxRecDepth 20000 in
set_option maxHeartbeats 4000000 in
theorem sX12_isWords34_24 {μ : zM} {F : Nat} : ∀ {n : Nat} {a2 a3 : Int32} {X : zX} {ρ : Int32}, hX12_isWords34_24 F n a2 a3 X = some ρ → zJ mX12_isWord 6 (0, 0) (0, 0) (zQ (some (zi ρ)) (zg μ 1 X)) 24 [some (zq 1 0), some (zq 3 35), some (zi a2), some (zi a3)] [] (zg μ 1 X) := by
  intro n
  induction n with
  | zero => intro a2 a3 X ρ h; exact nomatch (show (none : Option _) = some ρ from h)
  | succ n ih =>
    intro a2 a3 X ρ h
    have hK24 := @ih
    rw [hX12_isWords34_24] at h
    refine z_iload dX12_isWord_24 rfl (z_if_eq dX12_isWord_25 (fun c1 => ?_) (fun c1 => ?_))
    · have h := ziT h (c1)
      obtain ⟨s2, h⟩ := zchk_some h
      exact z_iload dX12_isWord_67 rfl (z_zretQ dX12_isWord_68 rfl (zbl_n (id s2)) (by cases h; rfl))
    · have h := ziF h (c1)
      refine z_iload dX12_isWord_28 rfl (z_aload dX12_isWord_29 rfl (z_strlen dX12_isWord_30 (i := 34) lkX12_104 rfl (Nat.le_of_ble_eq_true rfl) (Nat.le_of_ble_eq_true rfl) (z_icmp_ge dX12_isWord_33 (fun c3 => ?_) (fun c3 => ?_))))
      · have h := ziT h (c3)
        obtain ⟨s4, h⟩ := zchk_some h
        exact z_iload dX12_isWord_67 rfl (z_zretQ dX12_isWord_68 rfl (zbl_n (id s4)) (by cases h; rfl))
      · have h := ziF h (c3)
        obtain ⟨s5, h⟩ := zchk_some h
        obtain ⟨s6, h⟩ := zchk_some h
        refine z_aload dX12_isWord_36 rfl (z_getR dX12_isWord_37 fkX12_26 in1_0 sh1_0 rfl (z_aload dX12_isWord_40 rfl (z_getI dX12_isWord_41 fkX12_98 in1_0 sh1_0 rfl (z_iload dX12_isWord_44 rfl (z_iadd dX12_isWord_45 (z_bald dX12_isWord_46 in1_5 sh1_5 (zin_vp s5) (z_aload dX12_isWord_47 rfl (z_iload dX12_isWord_48 rfl (z_charAt dX12_isWord_49 (i := 34) lkX12_109 rfl (id s6) (Nat.le_of_ble_eq_true rfl) (Nat.le_of_ble_eq_true rfl) (z_icmp_ne dX12_isWord_52 (fun c7 => ?_) (fun c7 => ?_)))))))))))
        · have h := ziF h (c7)
          exact z_const dX12_isWord_59 (z_istore dX12_isWord_60 (Nat.le_of_ble_eq_true rfl) (z_iinc dX12_isWord_61 (Nat.le_of_ble_eq_true rfl) rfl (z_goto dX12_isWord_64 (z_mask [true, true, true, true] (hK24 h)))))
        · have h := ziT h (c7)
          exact z_const dX12_isWord_55 (z_goto dX12_isWord_56 (z_istore dX12_isWord_60 (Nat.le_of_ble_eq_true rfl) (z_iinc dX12_isWord_61 (Nat.le_of_ble_eq_true rfl) rfl (z_goto dX12_isWord_64 (z_mask [true, true, true, true] (hK24 h))))))
def eX12_isWords34 (F : Nat) (X : zX) : Option (Int32) := if ((X 0 8) - (X 0 10)) = (nI 4) then hX12_isWords34_24 F F (nI 1) (nI 0) X else hX12_isWords34_24 F F (nI 0) (nI 0) X
set_option maxRecDepth 20000 in
set_option maxHeartbeats 4000000 in
theorem tX12_isWords34 {μ : zM} {F : Nat} {X : zX} {ρ : Int32} (h : eX12_isWords34 F X = some ρ) : LM mX12_isWord 6 [zq 1 0, zq 3 35] (zg μ 1 X) (some (zi ρ)) (zg μ 1 X) := by
  unfold eX12_isWords34 at h
  refine LM.of (by decide +kernel) rfl (Nat.le_of_ble_eq_true rfl) ?_
  show zJ mX12_isWord 6 (0, 0) (0, 0) _ 0 [some (zq 1 0), some (zq 3 35), none, none] [] _
  refine z_aload dX12_isWord_0 rfl (z_getI dX12_isWord_1 fkX12_89 in1_0 sh1_0 rfl (z_aload dX12_isWord_4 rfl (z_getI dX12_isWord_5 fkX12_98 in1_0 sh1_0 rfl (z_isub dX12_isWord_8 (z_aload dX12_isWord_9 rfl (z_strlen dX12_isWord_10 (i := 34) lkX12_104 rfl (Nat.le_of_ble_eq_true rfl) (Nat.le_of_ble_eq_true rfl) (z_icmp_ne dX12_isWord_13 (fun c1 => ?_) (fun c1 => ?_))))))))
  · have h := ziF h (c1)
    exact z_const dX12_isWord_20 (z_istore dX12_isWord_21 (Nat.le_of_ble_eq_true rfl) (z_const dX12_isWord_22 (z_istore dX12_isWord_23 (Nat.le_of_ble_eq_true rfl) (z_mask [true, true, true, true] (sX12_isWords34_24 h)))))
  · have h := ziT h (c1)
    exact z_const dX12_isWord_16 (z_goto dX12_isWord_17 (z_istore dX12_isWord_21 (Nat.le_of_ble_eq_true rfl) (z_const dX12_isWord_22 (z_istore dX12_isWord_23 (Nat.le_of_ble_eq_true rfl) (z_mask [true, true, true, true] (sX12_isWords34_24 h))))))
-- X12_isWords35
def hX12_isWords35_24 (F : Nat) : Nat → Int32 → Int32 → zX → Option (Int32)
  | 0, _, _, _ => none
  | n + 1, a2, a3, X => if a2 = 0 then zchk (zbl a2) (some a2) else if (nI 6) ≤ a3 then zchk (zbl a2) (some a2) else zchk (zin ((X 0 10) + a3) 400) (zchk (zin a3 6) (if (X 5 (zn ((X 0 10) + a3))) = (nI (List.getD [115, 111, 117, 114, 99, 101] (zn a3) 0)) then (hX12_isWords35_24 F n) (nI 1) (a3 + (nI 1)) X else (hX12_isWords35_24 F n) (nI 0) (a3 + (nI 1)) X))
set_option maxRecDepth 20000 in
set_option maxHeartbeats 4000000 in
theorem sX12_isWords35_24 {μ : zM} {F : Nat} : ∀ {n : Nat} {a2 a3 : Int32} {X : zX} {ρ : Int32}, hX12_isWords35_24 F n a2 a3 X = some ρ → zJ mX12_isWord 6 (0, 0) (0, 0) (zQ (some (zi ρ)) (zg μ 1 X)) 24 [some (zq 1 0), some (zq 3 36), some (zi a2), some (zi a3)] [] (zg μ 1 X) := by
  intro n
  induction n with
  | zero => intro a2 a3 X ρ h; exact nomatch (show (none : Option _) = some ρ from h)
  | succ n ih =>
    intro a2 a3 X ρ h
    have hK24 := @ih
    rw [hX12_isWords35_24] at h
    refine z_iload dX12_isWord_24 rfl (z_if_eq dX12_isWord_25 (fun c1 => ?_) (fun c1 => ?_))
    · have h := ziT h (c1)
      obtain ⟨s2, h⟩ := zchk_some h
      exact z_iload dX12_isWord_67 rfl (z_zretQ dX12_isWord_68 rfl (zbl_n (id s2)) (by cases h; rfl))
    · have h := ziF h (c1)
      refine z_iload dX12_isWord_28 rfl (z_aload dX12_isWord_29 rfl (z_strlen dX12_isWord_30 (i := 35) lkX12_104 rfl (Nat.le_of_ble_eq_true rfl) (Nat.le_of_ble_eq_true rfl) (z_icmp_ge dX12_isWord_33 (fun c3 => ?_) (fun c3 => ?_))))
      · have h := ziT h (c3)
        obtain ⟨s4, h⟩ := zchk_some h
        exact z_iload dX12_isWord_67 rfl (z_zretQ dX12_isWord_68 rfl (zbl_n (id s4)) (by cases h; rfl))
      · have h := ziF h (c3)
        obtain ⟨s5, h⟩ := zchk_some h
        obtain ⟨s6, h⟩ := zchk_some h
        refine z_aload dX12_isWord_36 rfl (z_getR dX12_isWord_37 fkX12_26 in1_0 sh1_0 rfl (z_aload dX12_isWord_40 rfl (z_getI dX12_isWord_41 fkX12_98 in1_0 sh1_0 rfl (z_iload dX12_isWord_44 rfl (z_iadd dX12_isWord_45 (z_bald dX12_isWord_46 in1_5 sh1_5 (zin_vp s5) (z_aload dX12_isWord_47 rfl (z_iload dX12_isWord_48 rfl (z_charAt dX12_isWord_49 (i := 35) lkX12_109 rfl (id s6) (Nat.le_of_ble_eq_true rfl) (Nat.le_of_ble_eq_true rfl) (z_icmp_ne dX12_isWord_52 (fun c7 => ?_) (fun c7 => ?_)))))))))))
        · have h := ziF h (c7)
          exact z_const dX12_isWord_59 (z_istore dX12_isWord_60 (Nat.le_of_ble_eq_true rfl) (z_iinc dX12_isWord_61 (Nat.le_of_ble_eq_true rfl) rfl (z_goto dX12_isWord_64 (z_mask [true, true, true, true] (hK24 h)))))
        · have h := ziT h (c7)
          exact z_const dX12_isWord_55 (z_goto dX12_isWord_56 (z_istore dX12_isWord_60 (Nat.le_of_ble_eq_true rfl) (z_iinc dX12_isWord_61 (Nat.le_of_ble_eq_true rfl) rfl (z_goto dX12_isWord_64 (z_mask [true, true, true, true] (hK24 h))))))
def eX12_isWords35 (F : Nat) (X : zX) : Option (Int32) := if ((X 0 8) - (X 0 10)) = (nI 6) then hX12_isWords35_24 F F (nI 1) (nI 0) X else hX12_isWords35_24 F F (nI 0) (nI 0) X
set_option maxRecDepth 20000 in
set_option maxHeartbeats 4000000 in
theorem tX12_isWords35 {μ : zM} {F : Nat} {X : zX} {ρ : Int32} (h : eX12_isWords35 F X = some ρ) : LM mX12_isWord 6 [zq 1 0, zq 3 36] (zg μ 1 X) (some (zi ρ)) (zg μ 1 X) := by
  unfold eX12_isWords35 at h
  refine LM.of (by decide +kernel) rfl (Nat.le_of_ble_eq_true rfl) ?_
  show zJ mX12_isWord 6 (0, 0) (0, 0) _ 0 [some (zq 1 0), some (zq 3 36), none, none] [] _
  refine z_aload dX12_isWord_0 rfl (z_getI dX12_isWord_1 fkX12_89 in1_0 sh1_0 rfl (z_aload dX12_isWord_4 rfl (z_getI dX12_isWord_5 fkX12_98 in1_0 sh1_0 rfl (z_isub dX12_isWord_8 (z_aload dX12_isWord_9 rfl (z_strlen dX12_isWord_10 (i := 35) lkX12_104 rfl (Nat.le_of_ble_eq_true rfl) (Nat.le_of_ble_eq_true rfl) (z_icmp_ne dX12_isWord_13 (fun c1 => ?_) (fun c1 => ?_))))))))
  · have h := ziF h (c1)
    exact z_const dX12_isWord_20 (z_istore dX12_isWord_21 (Nat.le_of_ble_eq_true rfl) (z_const dX12_isWord_22 (z_istore dX12_isWord_23 (Nat.le_of_ble_eq_true rfl) (z_mask [true, true, true, true] (sX12_isWords35_24 h)))))
  · have h := ziT h (c1)
    exact z_const dX12_isWord_16 (z_goto dX12_isWord_17 (z_istore dX12_isWord_21 (Nat.le_of_ble_eq_true rfl) (z_const dX12_isWord_22 (z_istore dX12_isWord_23 (Nat.le_of_ble_eq_true rfl) (z_mask [true, true, true, true] (sX12_isWords35_24 h))))))
-- X12_isWords36
def hX12_isWords36_24 (F : Nat) : Nat → Int32 → Int32 → zX → Option (Int32)
  | 0, _, _, _ => none
  | n + 1, a2, a3, X => if a2 = 0 then zchk (zbl a2) (some a2) else if (nI 7) ≤ a3 then zchk (zbl a2) (some a2) else zchk (zin ((X 0 10) + a3) 400) (zchk (zin a3 7) (if (X 5 (zn ((X 0 10) + a3))) = (nI (List.getD [114, 101, 113, 117, 101, 115, 116] (zn a3) 0)) then (hX12_isWords36_24 F n) (nI 1) (a3 + (nI 1)) X else (hX12_isWords36_24 F n) (nI 0) (a3 + (nI 1)) X))
set_option maxRecDepth 20000 in
set_option maxHeartbeats 4000000 in
theorem sX12_isWords36_24 {μ : zM} {F : Nat} : ∀ {n : Nat} {a2 a3 : Int32} {X : zX} {ρ : Int32}, hX12_isWords36_24 F n a2 a3 X = some ρ → zJ mX12_isWord 6 (0, 0) (0, 0) (zQ (some (zi ρ)) (zg μ 1 X)) 24 [some (zq 1 0), some (zq 3 37), some (zi a2), some (zi a3)] [] (zg μ 1 X) := by
  intro n
  induction n with
  | zero => intro a2 a3 X ρ h; exact nomatch (show (none : Option _) = some ρ from h)
  | succ n ih =>
    intro a2 a3 X ρ h
    have hK24 := @ih
    rw [hX12_isWords36_24] at h
    refine z_iload dX12_isWord_24 rfl (z_if_eq dX12_isWord_25 (fun c1 => ?_) (fun c1 => ?_))
    · have h := ziT h (c1)
      obtain ⟨s2, h⟩ := zchk_some h
      exact z_iload dX12_isWord_67 rfl (z_zretQ dX12_isWord_68 rfl (zbl_n (id s2)) (by cases h; rfl))
    · have h := ziF h (c1)
      refine z_iload dX12_isWord_28 rfl (z_aload dX12_isWord_29 rfl (z_strlen dX12_isWord_30 (i := 36) lkX12_104 rfl (Nat.le_of_ble_eq_true rfl) (Nat.le_of_ble_eq_true rfl) (z_icmp_ge dX12_isWord_33 (fun c3 => ?_) (fun c3 => ?_))))
      · have h := ziT h (c3)
        obtain ⟨s4, h⟩ := zchk_some h
        exact z_iload dX12_isWord_67 rfl (z_zretQ dX12_isWord_68 rfl (zbl_n (id s4)) (by cases h; rfl))
      · have h := ziF h (c3)
        obtain ⟨s5, h⟩ := zchk_some h
        obtain ⟨s6, h⟩ := zchk_some h
        refine z_aload dX12_isWord_36 rfl (z_getR dX12_isWord_37 fkX12_26 in1_0 sh1_0 rfl (z_aload dX12_isWord_40 rfl (z_getI dX12_isWord_41 fkX12_98 in1_0 sh1_0 rfl (z_iload dX12_isWord_44 rfl (z_iadd dX12_isWord_45 (z_bald dX12_isWord_46 in1_5 sh1_5 (zin_vp s5) (z_aload dX12_isWord_47 rfl (z_iload dX12_isWord_48 rfl (z_charAt dX12_isWord_49 (i := 36) lkX12_109 rfl (id s6) (Nat.le_of_ble_eq_true rfl) (Nat.le_of_ble_eq_true rfl) (z_icmp_ne dX12_isWord_52 (fun c7 => ?_) (fun c7 => ?_)))))))))))
        · have h := ziF h (c7)
          exact z_const dX12_isWord_59 (z_istore dX12_isWord_60 (Nat.le_of_ble_eq_true rfl) (z_iinc dX12_isWord_61 (Nat.le_of_ble_eq_true rfl) rfl (z_goto dX12_isWord_64 (z_mask [true, true, true, true] (hK24 h)))))
        · have h := ziT h (c7)
          exact z_const dX12_isWord_55 (z_goto dX12_isWord_56 (z_istore dX12_isWord_60 (Nat.le_of_ble_eq_true rfl) (z_iinc dX12_isWord_61 (Nat.le_of_ble_eq_true rfl) rfl (z_goto dX12_isWord_64 (z_mask [true, true, true, true] (hK24 h))))))
def eX12_isWords36 (F : Nat) (X : zX) : Option (Int32) := if ((X 0 8) - (X 0 10)) = (nI 7) then hX12_isWords36_24 F F (nI 1) (nI 0) X else hX12_isWords36_24 F F (nI 0) (nI 0) X
set_option maxRecDepth 20000 in
set_option maxHeartbeats 4000000 in
theorem tX12_isWords36 {μ : zM} {F : Nat} {X : zX} {ρ : Int32} (h : eX12_isWords36 F X = some ρ) : LM mX12_isWord 6 [zq 1 0, zq 3 37] (zg μ 1 X) (some (zi ρ)) (zg μ 1 X) := by
  unfold eX12_isWords36 at h
  refine LM.of (by decide +kernel) rfl (Nat.le_of_ble_eq_true rfl) ?_
  show zJ mX12_isWord 6 (0, 0) (0, 0) _ 0 [some (zq 1 0), some (zq 3 37), none, none] [] _
  refine z_aload dX12_isWord_0 rfl (z_getI dX12_isWord_1 fkX12_89 in1_0 sh1_0 rfl (z_aload dX12_isWord_4 rfl (z_getI dX12_isWord_5 fkX12_98 in1_0 sh1_0 rfl (z_isub dX12_isWord_8 (z_aload dX12_isWord_9 rfl (z_strlen dX12_isWord_10 (i := 36) lkX12_104 rfl (Nat.le_of_ble_eq_true rfl) (Nat.le_of_ble_eq_true rfl) (z_icmp_ne dX12_isWord_13 (fun c1 => ?_) (fun c1 => ?_))))))))
  · have h := ziF h (c1)
    exact z_const dX12_isWord_20 (z_istore dX12_isWord_21 (Nat.le_of_ble_eq_true rfl) (z_const dX12_isWord_22 (z_istore dX12_isWord_23 (Nat.le_of_ble_eq_true rfl) (z_mask [true, true, true, true] (sX12_isWords36_24 h)))))
  · have h := ziT h (c1)
    exact z_const dX12_isWord_16 (z_goto dX12_isWord_17 (z_istore dX12_isWord_21 (Nat.le_of_ble_eq_true rfl) (z_const dX12_isWord_22 (z_istore dX12_isWord_23 (Nat.le_of_ble_eq_true rfl) (z_mask [true, true, true, true] (sX12_isWords36_24 h))))))
-- X12_isWords37
def hX12_isWords37_24 (F : Nat) : Nat → Int32 → Int32 → zX → Option (Int32)
  | 0, _, _, _ => none
  | n + 1, a2, a3, X => if a2 = 0 then zchk (zbl a2) (some a2) else if (nI 6) ≤ a3 then zchk (zbl a2) (some a2) else zchk (zin ((X 0 10) + a3) 400) (zchk (zin a3 6) (if (X 5 (zn ((X 0 10) + a3))) = (nI (List.getD [114, 101, 112, 97, 105, 114] (zn a3) 0)) then (hX12_isWords37_24 F n) (nI 1) (a3 + (nI 1)) X else (hX12_isWords37_24 F n) (nI 0) (a3 + (nI 1)) X))
set_option maxRecDepth 20000 in
set_option maxHeartbeats 4000000 in
theorem sX12_isWords37_24 {μ : zM} {F : Nat} : ∀ {n : Nat} {a2 a3 : Int32} {X : zX} {ρ : Int32}, hX12_isWords37_24 F n a2 a3 X = some ρ → zJ mX12_isWord 6 (0, 0) (0, 0) (zQ (some (zi ρ)) (zg μ 1 X)) 24 [some (zq 1 0), some (zq 3 38), some (zi a2), some (zi a3)] [] (zg μ 1 X) := by
  intro n
  induction n with
  | zero => intro a2 a3 X ρ h; exact nomatch (show (none : Option _) = some ρ from h)
  | succ n ih =>
    intro a2 a3 X ρ h
    have hK24 := @ih
    rw [hX12_isWords37_24] at h
    refine z_iload dX12_isWord_24 rfl (z_if_eq dX12_isWord_25 (fun c1 => ?_) (fun c1 => ?_))
    · have h := ziT h (c1)
      obtain ⟨s2, h⟩ := zchk_some h
      exact z_iload dX12_isWord_67 rfl (z_zretQ dX12_isWord_68 rfl (zbl_n (id s2)) (by cases h; rfl))
    · have h := ziF h (c1)
      refine z_iload dX12_isWord_28 rfl (z_aload dX12_isWord_29 rfl (z_strlen dX12_isWord_30 (i := 37) lkX12_104 rfl (Nat.le_of_ble_eq_true rfl) (Nat.le_of_ble_eq_true rfl) (z_icmp_ge dX12_isWord_33 (fun c3 => ?_) (fun c3 => ?_))))
      · have h := ziT h (c3)
        obtain ⟨s4, h⟩ := zchk_some h
        exact z_iload dX12_isWord_67 rfl (z_zretQ dX12_isWord_68 rfl (zbl_n (id s4)) (by cases h; rfl))
      · have h := ziF h (c3)
        obtain ⟨s5, h⟩ := zchk_some h
        obtain ⟨s6, h⟩ := zchk_some h
        refine z_aload dX12_isWord_36 rfl (z_getR dX12_isWord_37 fkX12_26 in1_0 sh1_0 rfl (z_aload dX12_isWord_40 rfl (z_getI dX12_isWord_41 fkX12_98 in1_0 sh1_0 rfl (z_iload dX12_isWord_44 rfl (z_iadd dX12_isWord_45 (z_bald dX12_isWord_46 in1_5 sh1_5 (zin_vp s5) (z_aload dX12_isWord_47 rfl (z_iload dX12_isWord_48 rfl (z_charAt dX12_isWord_49 (i := 37) lkX12_109 rfl (id s6) (Nat.le_of_ble_eq_true rfl) (Nat.le_of_ble_eq_true rfl) (z_icmp_ne dX12_isWord_52 (fun c7 => ?_) (fun c7 => ?_)))))))))))
        · have h := ziF h (c7)
          exact z_const dX12_isWord_59 (z_istore dX12_isWord_60 (Nat.le_of_ble_eq_true rfl) (z_iinc dX12_isWord_61 (Nat.le_of_ble_eq_true rfl) rfl (z_goto dX12_isWord_64 (z_mask [true, true, true, true] (hK24 h)))))
        · have h := ziT h (c7)
          exact z_const dX12_isWord_55 (z_goto dX12_isWord_56 (z_istore dX12_isWord_60 (Nat.le_of_ble_eq_true rfl) (z_iinc dX12_isWord_61 (Nat.le_of_ble_eq_true rfl) rfl (z_goto dX12_isWord_64 (z_mask [true, true, true, true] (hK24 h))))))
def eX12_isWords37 (F : Nat) (X : zX) : Option (Int32) := if ((X 0 8) - (X 0 10)) = (nI 6) then hX12_isWords37_24 F F (nI 1) (nI 0) X else hX12_isWords37_24 F F (nI 0) (nI 0) X
set_option maxRecDepth 20000 in
set_option maxHeartbeats 4000000 in
theorem tX12_isWords37 {μ : zM} {F : Nat} {X : zX} {ρ : Int32} (h : eX12_isWords37 F X = some ρ) : LM mX12_isWord 6 [zq 1 0, zq 3 38] (zg μ 1 X) (some (zi ρ)) (zg μ 1 X) := by
  unfold eX12_isWords37 at h
  refine LM.of (by decide +kernel) rfl (Nat.le_of_ble_eq_true rfl) ?_
  show zJ mX12_isWord 6 (0, 0) (0, 0) _ 0 [some (zq 1 0), some (zq 3 38), none, none] [] _
  refine z_aload dX12_isWord_0 rfl (z_getI dX12_isWord_1 fkX12_89 in1_0 sh1_0 rfl (z_aload dX12_isWord_4 rfl (z_getI dX12_isWord_5 fkX12_98 in1_0 sh1_0 rfl (z_isub dX12_isWord_8 (z_aload dX12_isWord_9 rfl (z_strlen dX12_isWord_10 (i := 37) lkX12_104 rfl (Nat.le_of_ble_eq_true rfl) (Nat.le_of_ble_eq_true rfl) (z_icmp_ne dX12_isWord_13 (fun c1 => ?_) (fun c1 => ?_))))))))
  · have h := ziF h (c1)
    exact z_const dX12_isWord_20 (z_istore dX12_isWord_21 (Nat.le_of_ble_eq_true rfl) (z_const dX12_isWord_22 (z_istore dX12_isWord_23 (Nat.le_of_ble_eq_true rfl) (z_mask [true, true, true, true] (sX12_isWords37_24 h)))))
  · have h := ziT h (c1)
    exact z_const dX12_isWord_16 (z_goto dX12_isWord_17 (z_istore dX12_isWord_21 (Nat.le_of_ble_eq_true rfl) (z_const dX12_isWord_22 (z_istore dX12_isWord_23 (Nat.le_of_ble_eq_true rfl) (z_mask [true, true, true, true] (sX12_isWords37_24 h))))))
-- X12_isWords38
def hX12_isWords38_24 (F : Nat) : Nat → Int32 → Int32 → zX → Option (Int32)
  | 0, _, _, _ => none
  | n + 1, a2, a3, X => if a2 = 0 then zchk (zbl a2) (some a2) else if (nI 5) ≤ a3 then zchk (zbl a2) (some a2) else zchk (zin ((X 0 10) + a3) 400) (zchk (zin a3 5) (if (X 5 (zn ((X 0 10) + a3))) = (nI (List.getD [115, 99, 111, 112, 101] (zn a3) 0)) then (hX12_isWords38_24 F n) (nI 1) (a3 + (nI 1)) X else (hX12_isWords38_24 F n) (nI 0) (a3 + (nI 1)) X))
set_option maxRecDepth 20000 in
set_option maxHeartbeats 4000000 in
theorem sX12_isWords38_24 {μ : zM} {F : Nat} : ∀ {n : Nat} {a2 a3 : Int32} {X : zX} {ρ : Int32}, hX12_isWords38_24 F n a2 a3 X = some ρ → zJ mX12_isWord 6 (0, 0) (0, 0) (zQ (some (zi ρ)) (zg μ 1 X)) 24 [some (zq 1 0), some (zq 3 39), some (zi a2), some (zi a3)] [] (zg μ 1 X) := by
  intro n
  induction n with
  | zero => intro a2 a3 X ρ h; exact nomatch (show (none : Option _) = some ρ from h)
  | succ n ih =>
    intro a2 a3 X ρ h
    have hK24 := @ih
    rw [hX12_isWords38_24] at h
    refine z_iload dX12_isWord_24 rfl (z_if_eq dX12_isWord_25 (fun c1 => ?_) (fun c1 => ?_))
    · have h := ziT h (c1)
      obtain ⟨s2, h⟩ := zchk_some h
      exact z_iload dX12_isWord_67 rfl (z_zretQ dX12_isWord_68 rfl (zbl_n (id s2)) (by cases h; rfl))
    · have h := ziF h (c1)
      refine z_iload dX12_isWord_28 rfl (z_aload dX12_isWord_29 rfl (z_strlen dX12_isWord_30 (i := 38) lkX12_104 rfl (Nat.le_of_ble_eq_true rfl) (Nat.le_of_ble_eq_true rfl) (z_icmp_ge dX12_isWord_33 (fun c3 => ?_) (fun c3 => ?_))))
      · have h := ziT h (c3)
        obtain ⟨s4, h⟩ := zchk_some h
        exact z_iload dX12_isWord_67 rfl (z_zretQ dX12_isWord_68 rfl (zbl_n (id s4)) (by cases h; rfl))
      · have h := ziF h (c3)
        obtain ⟨s5, h⟩ := zchk_some h
        obtain ⟨s6, h⟩ := zchk_some h
        refine z_aload dX12_isWord_36 rfl (z_getR dX12_isWord_37 fkX12_26 in1_0 sh1_0 rfl (z_aload dX12_isWord_40 rfl (z_getI dX12_isWord_41 fkX12_98 in1_0 sh1_0 rfl (z_iload dX12_isWord_44 rfl (z_iadd dX12_isWord_45 (z_bald dX12_isWord_46 in1_5 sh1_5 (zin_vp s5) (z_aload dX12_isWord_47 rfl (z_iload dX12_isWord_48 rfl (z_charAt dX12_isWord_49 (i := 38) lkX12_109 rfl (id s6) (Nat.le_of_ble_eq_true rfl) (Nat.le_of_ble_eq_true rfl) (z_icmp_ne dX12_isWord_52 (fun c7 => ?_) (fun c7 => ?_)))))))))))
        · have h := ziF h (c7)
          exact z_const dX12_isWord_59 (z_istore dX12_isWord_60 (Nat.le_of_ble_eq_true rfl) (z_iinc dX12_isWord_61 (Nat.le_of_ble_eq_true rfl) rfl (z_goto dX12_isWord_64 (z_mask [true, true, true, true] (hK24 h)))))
        · have h := ziT h (c7)
          exact z_const dX12_isWord_55 (z_goto dX12_isWord_56 (z_istore dX12_isWord_60 (Nat.le_of_ble_eq_true rfl) (z_iinc dX12_isWord_61 (Nat.le_of_ble_eq_true rfl) rfl (z_goto dX12_isWord_64 (z_mask [true, true, true, true] (hK24 h))))))
def eX12_isWords38 (F : Nat) (X : zX) : Option (Int32) := if ((X 0 8) - (X 0 10)) = (nI 5) then hX12_isWords38_24 F F (nI 1) (nI 0) X else hX12_isWords38_24 F F (nI 0) (nI 0) X
set_option maxRecDepth 20000 in
set_option maxHeartbeats 4000000 in
theorem tX12_isWords38 {μ : zM} {F : Nat} {X : zX} {ρ : Int32} (h : eX12_isWords38 F X = some ρ) : LM mX12_isWord 6 [zq 1 0, zq 3 39] (zg μ 1 X) (some (zi ρ)) (zg μ 1 X) := by
  unfold eX12_isWords38 at h
  refine LM.of (by decide +kernel) rfl (Nat.le_of_ble_eq_true rfl) ?_
  show zJ mX12_isWord 6 (0, 0) (0, 0) _ 0 [some (zq 1 0), some (zq 3 39), none, none] [] _
  refine z_aload dX12_isWord_0 rfl (z_getI dX12_isWord_1 fkX12_89 in1_0 sh1_0 rfl (z_aload dX12_isWord_4 rfl (z_getI dX12_isWord_5 fkX12_98 in1_0 sh1_0 rfl (z_isub dX12_isWord_8 (z_aload dX12_isWord_9 rfl (z_strlen dX12_isWord_10 (i := 38) lkX12_104 rfl (Nat.le_of_ble_eq_true rfl) (Nat.le_of_ble_eq_true rfl) (z_icmp_ne dX12_isWord_13 (fun c1 => ?_) (fun c1 => ?_))))))))
  · have h := ziF h (c1)
    exact z_const dX12_isWord_20 (z_istore dX12_isWord_21 (Nat.le_of_ble_eq_true rfl) (z_const dX12_isWord_22 (z_istore dX12_isWord_23 (Nat.le_of_ble_eq_true rfl) (z_mask [true, true, true, true] (sX12_isWords38_24 h)))))
  · have h := ziT h (c1)
    exact z_const dX12_isWord_16 (z_goto dX12_isWord_17 (z_istore dX12_isWord_21 (Nat.le_of_ble_eq_true rfl) (z_const dX12_isWord_22 (z_istore dX12_isWord_23 (Nat.le_of_ble_eq_true rfl) (z_mask [true, true, true, true] (sX12_isWords38_24 h))))))
-- X12_isWords39
def hX12_isWords39_24 (F : Nat) : Nat → Int32 → Int32 → zX → Option (Int32)
  | 0, _, _, _ => none
  | n + 1, a2, a3, X => if a2 = 0 then zchk (zbl a2) (some a2) else if (nI 7) ≤ a3 then zchk (zbl a2) (some a2) else zchk (zin ((X 0 10) + a3) 400) (zchk (zin a3 7) (if (X 5 (zn ((X 0 10) + a3))) = (nI (List.getD [115, 101, 115, 115, 105, 111, 110] (zn a3) 0)) then (hX12_isWords39_24 F n) (nI 1) (a3 + (nI 1)) X else (hX12_isWords39_24 F n) (nI 0) (a3 + (nI 1)) X))
set_option maxRecDepth 20000 in
set_option maxHeartbeats 4000000 in
theorem sX12_isWords39_24 {μ : zM} {F : Nat} : ∀ {n : Nat} {a2 a3 : Int32} {X : zX} {ρ : Int32}, hX12_isWords39_24 F n a2 a3 X = some ρ → zJ mX12_isWord 6 (0, 0) (0, 0) (zQ (some (zi ρ)) (zg μ 1 X)) 24 [some (zq 1 0), some (zq 3 40), some (zi a2), some (zi a3)] [] (zg μ 1 X) := by
  intro n
  induction n with
  | zero => intro a2 a3 X ρ h; exact nomatch (show (none : Option _) = some ρ from h)
  | succ n ih =>
    intro a2 a3 X ρ h
    have hK24 := @ih
    rw [hX12_isWords39_24] at h
    refine z_iload dX12_isWord_24 rfl (z_if_eq dX12_isWord_25 (fun c1 => ?_) (fun c1 => ?_))
    · have h := ziT h (c1)
      obtain ⟨s2, h⟩ := zchk_some h
      exact z_iload dX12_isWord_67 rfl (z_zretQ dX12_isWord_68 rfl (zbl_n (id s2)) (by cases h; rfl))
    · have h := ziF h (c1)
      refine z_iload dX12_isWord_28 rfl (z_aload dX12_isWord_29 rfl (z_strlen dX12_isWord_30 (i := 39) lkX12_104 rfl (Nat.le_of_ble_eq_true rfl) (Nat.le_of_ble_eq_true rfl) (z_icmp_ge dX12_isWord_33 (fun c3 => ?_) (fun c3 => ?_))))
      · have h := ziT h (c3)
        obtain ⟨s4, h⟩ := zchk_some h
        exact z_iload dX12_isWord_67 rfl (z_zretQ dX12_isWord_68 rfl (zbl_n (id s4)) (by cases h; rfl))
      · have h := ziF h (c3)
        obtain ⟨s5, h⟩ := zchk_some h
        obtain ⟨s6, h⟩ := zchk_some h
        refine z_aload dX12_isWord_36 rfl (z_getR dX12_isWord_37 fkX12_26 in1_0 sh1_0 rfl (z_aload dX12_isWord_40 rfl (z_getI dX12_isWord_41 fkX12_98 in1_0 sh1_0 rfl (z_iload dX12_isWord_44 rfl (z_iadd dX12_isWord_45 (z_bald dX12_isWord_46 in1_5 sh1_5 (zin_vp s5) (z_aload dX12_isWord_47 rfl (z_iload dX12_isWord_48 rfl (z_charAt dX12_isWord_49 (i := 39) lkX12_109 rfl (id s6) (Nat.le_of_ble_eq_true rfl) (Nat.le_of_ble_eq_true rfl) (z_icmp_ne dX12_isWord_52 (fun c7 => ?_) (fun c7 => ?_)))))))))))
        · have h := ziF h (c7)
          exact z_const dX12_isWord_59 (z_istore dX12_isWord_60 (Nat.le_of_ble_eq_true rfl) (z_iinc dX12_isWord_61 (Nat.le_of_ble_eq_true rfl) rfl (z_goto dX12_isWord_64 (z_mask [true, true, true, true] (hK24 h)))))
        · have h := ziT h (c7)
          exact z_const dX12_isWord_55 (z_goto dX12_isWord_56 (z_istore dX12_isWord_60 (Nat.le_of_ble_eq_true rfl) (z_iinc dX12_isWord_61 (Nat.le_of_ble_eq_true rfl) rfl (z_goto dX12_isWord_64 (z_mask [true, true, true, true] (hK24 h))))))
def eX12_isWords39 (F : Nat) (X : zX) : Option (Int32) := if ((X 0 8) - (X 0 10)) = (nI 7) then hX12_isWords39_24 F F (nI 1) (nI 0) X else hX12_isWords39_24 F F (nI 0) (nI 0) X
set_option maxRecDepth 20000 in
set_option maxHeartbeats 4000000 in
theorem tX12_isWords39 {μ : zM} {F : Nat} {X : zX} {ρ : Int32} (h : eX12_isWords39 F X = some ρ) : LM mX12_isWord 6 [zq 1 0, zq 3 40] (zg μ 1 X) (some (zi ρ)) (zg μ 1 X) := by
  unfold eX12_isWords39 at h
  refine LM.of (by decide +kernel) rfl (Nat.le_of_ble_eq_true rfl) ?_
  show zJ mX12_isWord 6 (0, 0) (0, 0) _ 0 [some (zq 1 0), some (zq 3 40), none, none] [] _
  refine z_aload dX12_isWord_0 rfl (z_getI dX12_isWord_1 fkX12_89 in1_0 sh1_0 rfl (z_aload dX12_isWord_4 rfl (z_getI dX12_isWord_5 fkX12_98 in1_0 sh1_0 rfl (z_isub dX12_isWord_8 (z_aload dX12_isWord_9 rfl (z_strlen dX12_isWord_10 (i := 39) lkX12_104 rfl (Nat.le_of_ble_eq_true rfl) (Nat.le_of_ble_eq_true rfl) (z_icmp_ne dX12_isWord_13 (fun c1 => ?_) (fun c1 => ?_))))))))
  · have h := ziF h (c1)
    exact z_const dX12_isWord_20 (z_istore dX12_isWord_21 (Nat.le_of_ble_eq_true rfl) (z_const dX12_isWord_22 (z_istore dX12_isWord_23 (Nat.le_of_ble_eq_true rfl) (z_mask [true, true, true, true] (sX12_isWords39_24 h)))))
  · have h := ziT h (c1)
    exact z_const dX12_isWord_16 (z_goto dX12_isWord_17 (z_istore dX12_isWord_21 (Nat.le_of_ble_eq_true rfl) (z_const dX12_isWord_22 (z_istore dX12_isWord_23 (Nat.le_of_ble_eq_true rfl) (z_mask [true, true, true, true] (sX12_isWords39_24 h))))))
-- X12_isWords40
def hX12_isWords40_24 (F : Nat) : Nat → Int32 → Int32 → zX → Option (Int32)
  | 0, _, _, _ => none
  | n + 1, a2, a3, X => if a2 = 0 then zchk (zbl a2) (some a2) else if (nI 4) ≤ a3 then zchk (zbl a2) (some a2) else zchk (zin ((X 0 10) + a3) 400) (zchk (zin a3 4) (if (X 5 (zn ((X 0 10) + a3))) = (nI (List.getD [114, 97, 116, 101] (zn a3) 0)) then (hX12_isWords40_24 F n) (nI 1) (a3 + (nI 1)) X else (hX12_isWords40_24 F n) (nI 0) (a3 + (nI 1)) X))
set_option maxRecDepth 20000 in
set_option maxHeartbeats 4000000 in
theorem sX12_isWords40_24 {μ : zM} {F : Nat} : ∀ {n : Nat} {a2 a3 : Int32} {X : zX} {ρ : Int32}, hX12_isWords40_24 F n a2 a3 X = some ρ → zJ mX12_isWord 6 (0, 0) (0, 0) (zQ (some (zi ρ)) (zg μ 1 X)) 24 [some (zq 1 0), some (zq 3 41), some (zi a2), some (zi a3)] [] (zg μ 1 X) := by
  intro n
  induction n with
  | zero => intro a2 a3 X ρ h; exact nomatch (show (none : Option _) = some ρ from h)
  | succ n ih =>
    intro a2 a3 X ρ h
    have hK24 := @ih
    rw [hX12_isWords40_24] at h
    refine z_iload dX12_isWord_24 rfl (z_if_eq dX12_isWord_25 (fun c1 => ?_) (fun c1 => ?_))
    · have h := ziT h (c1)
      obtain ⟨s2, h⟩ := zchk_some h
      exact z_iload dX12_isWord_67 rfl (z_zretQ dX12_isWord_68 rfl (zbl_n (id s2)) (by cases h; rfl))
    · have h := ziF h (c1)
      refine z_iload dX12_isWord_28 rfl (z_aload dX12_isWord_29 rfl (z_strlen dX12_isWord_30 (i := 40) lkX12_104 rfl (Nat.le_of_ble_eq_true rfl) (Nat.le_of_ble_eq_true rfl) (z_icmp_ge dX12_isWord_33 (fun c3 => ?_) (fun c3 => ?_))))
      · have h := ziT h (c3)
        obtain ⟨s4, h⟩ := zchk_some h
        exact z_iload dX12_isWord_67 rfl (z_zretQ dX12_isWord_68 rfl (zbl_n (id s4)) (by cases h; rfl))
      · have h := ziF h (c3)
        obtain ⟨s5, h⟩ := zchk_some h
        obtain ⟨s6, h⟩ := zchk_some h
        refine z_aload dX12_isWord_36 rfl (z_getR dX12_isWord_37 fkX12_26 in1_0 sh1_0 rfl (z_aload dX12_isWord_40 rfl (z_getI dX12_isWord_41 fkX12_98 in1_0 sh1_0 rfl (z_iload dX12_isWord_44 rfl (z_iadd dX12_isWord_45 (z_bald dX12_isWord_46 in1_5 sh1_5 (zin_vp s5) (z_aload dX12_isWord_47 rfl (z_iload dX12_isWord_48 rfl (z_charAt dX12_isWord_49 (i := 40) lkX12_109 rfl (id s6) (Nat.le_of_ble_eq_true rfl) (Nat.le_of_ble_eq_true rfl) (z_icmp_ne dX12_isWord_52 (fun c7 => ?_) (fun c7 => ?_)))))))))))
        · have h := ziF h (c7)
          exact z_const dX12_isWord_59 (z_istore dX12_isWord_60 (Nat.le_of_ble_eq_true rfl) (z_iinc dX12_isWord_61 (Nat.le_of_ble_eq_true rfl) rfl (z_goto dX12_isWord_64 (z_mask [true, true, true, true] (hK24 h)))))
        · have h := ziT h (c7)
          exact z_const dX12_isWord_55 (z_goto dX12_isWord_56 (z_istore dX12_isWord_60 (Nat.le_of_ble_eq_true rfl) (z_iinc dX12_isWord_61 (Nat.le_of_ble_eq_true rfl) rfl (z_goto dX12_isWord_64 (z_mask [true, true, true, true] (hK24 h))))))
def eX12_isWords40 (F : Nat) (X : zX) : Option (Int32) := if ((X 0 8) - (X 0 10)) = (nI 4) then hX12_isWords40_24 F F (nI 1) (nI 0) X else hX12_isWords40_24 F F (nI 0) (nI 0) X
set_option maxRecDepth 20000 in
set_option maxHeartbeats 4000000 in
theorem tX12_isWords40 {μ : zM} {F : Nat} {X : zX} {ρ : Int32} (h : eX12_isWords40 F X = some ρ) : LM mX12_isWord 6 [zq 1 0, zq 3 41] (zg μ 1 X) (some (zi ρ)) (zg μ 1 X) := by
  unfold eX12_isWords40 at h
  refine LM.of (by decide +kernel) rfl (Nat.le_of_ble_eq_true rfl) ?_
  show zJ mX12_isWord 6 (0, 0) (0, 0) _ 0 [some (zq 1 0), some (zq 3 41), none, none] [] _
  refine z_aload dX12_isWord_0 rfl (z_getI dX12_isWord_1 fkX12_89 in1_0 sh1_0 rfl (z_aload dX12_isWord_4 rfl (z_getI dX12_isWord_5 fkX12_98 in1_0 sh1_0 rfl (z_isub dX12_isWord_8 (z_aload dX12_isWord_9 rfl (z_strlen dX12_isWord_10 (i := 40) lkX12_104 rfl (Nat.le_of_ble_eq_true rfl) (Nat.le_of_ble_eq_true rfl) (z_icmp_ne dX12_isWord_13 (fun c1 => ?_) (fun c1 => ?_))))))))
  · have h := ziF h (c1)
    exact z_const dX12_isWord_20 (z_istore dX12_isWord_21 (Nat.le_of_ble_eq_true rfl) (z_const dX12_isWord_22 (z_istore dX12_isWord_23 (Nat.le_of_ble_eq_true rfl) (z_mask [true, true, true, true] (sX12_isWords40_24 h)))))
  · have h := ziT h (c1)
    exact z_const dX12_isWord_16 (z_goto dX12_isWord_17 (z_istore dX12_isWord_21 (Nat.le_of_ble_eq_true rfl) (z_const dX12_isWord_22 (z_istore dX12_isWord_23 (Nat.le_of_ble_eq_true rfl) (z_mask [true, true, true, true] (sX12_isWords40_24 h))))))
-- X12_laysWays
def jX12_laysWays_44 (F : Nat) (K2 : Int32 → zX → Option (zX)) (K12 : Int32 → Int32 → zX → Option (zX)) (a1 a2 b0 b1 : Int32) (X : zX) : Option (zX) := zchk (zin b1 36) (K12 a1 (a2 + (nI 1)) (zw X 7 (zn b1) b0))
set_option maxRecDepth 20000 in
set_option maxHeartbeats 4000000 in
theorem sX12_laysWays_44 {μ : zM} {F : Nat} {K2 : Int32 → zX → Option (zX)} {K12 : Int32 → Int32 → zX → Option (zX)} (hK2 : ∀ {xa1 : Int32} {xX : zX} {ρ : zX}, K2 xa1 xX = some ρ → zJ mX12_laysWays 6 (0, 0) (0, 0) (zQ none (zg μ 1 ρ)) 2 [some (zq 1 0), some (zi xa1), none, none] [] (zg μ 1 xX)) (hK12 : ∀ {xa1 xa2 : Int32} {xX : zX} {ρ : zX}, K12 xa1 xa2 xX = some ρ → zJ mX12_laysWays 6 (0, 0) (0, 0) (zQ none (zg μ 1 ρ)) 12 [some (zq 1 0), some (zi xa1), some (zi xa2), none] [] (zg μ 1 xX)) {a1 a2 b0 b1 : Int32} {X : zX} {ρ : zX} (h : jX12_laysWays_44 F K2 K12 a1 a2 b0 b1 X = some ρ) : zJ mX12_laysWays 6 (0, 0) (0, 0) (zQ none (zg μ 1 ρ)) 44 [some (zq 1 0), some (zi a1), some (zi a2), none] [zi b0, zi b1, zq 1 7] (zg μ 1 X) := by
  unfold jX12_laysWays_44 at h
  obtain ⟨s1, h⟩ := zchk_some h
  exact z_iast dX12_laysWays_44 in1_7 sh1_7 (zin_vp s1) (z_iinc dX12_laysWays_45 (Nat.le_of_ble_eq_true rfl) rfl (z_goto dX12_laysWays_48 (z_mask [true, true, true, false] (hK12 h))))
def hX12_laysWays_12 (F : Nat) (K2 : Int32 → zX → Option (zX)) : Nat → Int32 → Int32 → zX → Option (zX)
  | 0, _, _, _ => none
  | n + 1, a1, a2, X => if (X 1 0) ≤ a2 then K2 (a1 + (nI 1)) X else if a1 = a2 then jX12_laysWays_44 F K2 (hX12_laysWays_12 F K2 n) a1 a2 (nI 0) (((nI 6) * a1) + a2) X else zbd (eX12_delayOf F a1 a2 X) fun r4 => jX12_laysWays_44 F K2 (hX12_laysWays_12 F K2 n) a1 a2 r4 (((nI 6) * a1) + a2) X
set_option maxRecDepth 20000 in
set_option maxHeartbeats 4000000 in
theorem sX12_laysWays_12 {μ : zM} {F : Nat} {K2 : Int32 → zX → Option (zX)} (hK2 : ∀ {xa1 : Int32} {xX : zX} {ρ : zX}, K2 xa1 xX = some ρ → zJ mX12_laysWays 6 (0, 0) (0, 0) (zQ none (zg μ 1 ρ)) 2 [some (zq 1 0), some (zi xa1), none, none] [] (zg μ 1 xX)) : ∀ {n : Nat} {a1 a2 : Int32} {X : zX} {ρ : zX}, hX12_laysWays_12 F K2 n a1 a2 X = some ρ → zJ mX12_laysWays 6 (0, 0) (0, 0) (zQ none (zg μ 1 ρ)) 12 [some (zq 1 0), some (zi a1), some (zi a2), none] [] (zg μ 1 X) := by
  intro n
  induction n with
  | zero => intro a1 a2 X ρ h; exact nomatch (show (none : Option _) = some ρ from h)
  | succ n ih =>
    intro a1 a2 X ρ h
    have hK12 := @ih
    rw [hX12_laysWays_12] at h
    refine z_iload dX12_laysWays_12 rfl (z_aload dX12_laysWays_13 rfl (z_callV dX12_laysWays_14 (tX12_nodes) (Nat.le_of_ble_eq_true rfl) cdX12_nodes naX12_nodes lkX12_67 imX12_nodes seX12_nodes in1_0 sh1_0 rfl rfl rfl (Nat.le_of_ble_eq_true rfl) (z_icmp_ge dX12_laysWays_17 (fun c1 => ?_) (fun c1 => ?_))))
    · have h := ziT h (c1)
      exact z_iinc dX12_laysWays_51 (Nat.le_of_ble_eq_true rfl) rfl (z_goto dX12_laysWays_54 (z_mask [true, true, false, false] (hK2 h)))
    · have h := ziF h (c1)
      refine z_aload dX12_laysWays_20 rfl (z_getR dX12_laysWays_21 fkX12_36 in1_0 sh1_0 rfl (z_iload dX12_laysWays_24 rfl (z_iload dX12_laysWays_25 rfl (z_callS dX12_laysWays_26 (tX12_at) (Nat.le_of_ble_eq_true rfl) cdX12_at naX12_at lkX12_193 stX12_at rfl rfl (Nat.le_of_ble_eq_true rfl) (z_iload dX12_laysWays_29 rfl (z_iload dX12_laysWays_30 rfl (z_icmp_ne dX12_laysWays_31 (fun c2 => ?_) (fun c2 => ?_))))))))
      · have h := ziF h (c2)
        obtain ⟨r4, l3, h⟩ := zbd_some h
        exact z_aload dX12_laysWays_38 rfl (z_iload dX12_laysWays_39 rfl (z_iload dX12_laysWays_40 rfl (z_callV dX12_laysWays_41 (tX12_delayOf l3) (Nat.le_of_ble_eq_true rfl) cdX12_delayOf naX12_delayOf lkX12_196 imX12_delayOf seX12_delayOf in1_0 sh1_0 rfl rfl rfl (Nat.le_of_ble_eq_true rfl) (z_mask [true, true, true, false] (sX12_laysWays_44 hK2 hK12 h)))))
      · have h := ziT h (c2)
        exact z_const dX12_laysWays_34 (z_goto dX12_laysWays_35 (z_mask [true, true, true, false] (sX12_laysWays_44 hK2 hK12 h)))
def hX12_laysWays_79 (F : Nat) (K59 : Int32 → zX → Option (zX)) (K69 : Int32 → Int32 → zX → Option (zX)) : Nat → Int32 → Int32 → Int32 → zX → Option (zX)
  | 0, _, _, _, _ => none
  | n + 1, a1, a2, a3, X => if (X 1 0) ≤ a3 then K69 a1 (a2 + (nI 1)) X else zchk (zin (((nI 6) * a2) + a3) 36) (zchk (zin (((nI 6) * a2) + a1) 36) (zchk (zin (((nI 6) * a1) + a3) 36) (zchk (zin (((nI 6) * a2) + a3) 36) (zlet (zw X 7 (zn (((nI 6) * a2) + a3)) (zmn (X 7 (zn (((nI 6) * a2) + a3))) ((X 7 (zn (((nI 6) * a2) + a1))) + (X 7 (zn (((nI 6) * a1) + a3)))))) fun X6 => (hX12_laysWays_79 F K59 K69 n) a1 a2 (a3 + (nI 1)) X6))))
set_option maxRecDepth 20000 in
set_option maxHeartbeats 4000000 in
theorem sX12_laysWays_79 {μ : zM} {F : Nat} {K59 : Int32 → zX → Option (zX)} {K69 : Int32 → Int32 → zX → Option (zX)} (hK59 : ∀ {xa1 : Int32} {xX : zX} {ρ : zX}, K59 xa1 xX = some ρ → zJ mX12_laysWays 6 (0, 0) (0, 0) (zQ none (zg μ 1 ρ)) 59 [some (zq 1 0), some (zi xa1), none, none] [] (zg μ 1 xX)) (hK69 : ∀ {xa1 xa2 : Int32} {xX : zX} {ρ : zX}, K69 xa1 xa2 xX = some ρ → zJ mX12_laysWays 6 (0, 0) (0, 0) (zQ none (zg μ 1 ρ)) 69 [some (zq 1 0), some (zi xa1), some (zi xa2), none] [] (zg μ 1 xX)) : ∀ {n : Nat} {a1 a2 a3 : Int32} {X : zX} {ρ : zX}, hX12_laysWays_79 F K59 K69 n a1 a2 a3 X = some ρ → zJ mX12_laysWays 6 (0, 0) (0, 0) (zQ none (zg μ 1 ρ)) 79 [some (zq 1 0), some (zi a1), some (zi a2), some (zi a3)] [] (zg μ 1 X) := by
  intro n
  induction n with
  | zero => intro a1 a2 a3 X ρ h; exact nomatch (show (none : Option _) = some ρ from h)
  | succ n ih =>
    intro a1 a2 a3 X ρ h
    have hK79 := @ih
    rw [hX12_laysWays_79] at h
    refine z_iload dX12_laysWays_79 rfl (z_aload dX12_laysWays_80 rfl (z_callV dX12_laysWays_81 (tX12_nodes) (Nat.le_of_ble_eq_true rfl) cdX12_nodes naX12_nodes lkX12_67 imX12_nodes seX12_nodes in1_0 sh1_0 rfl rfl rfl (Nat.le_of_ble_eq_true rfl) (z_icmp_ge dX12_laysWays_84 (fun c1 => ?_) (fun c1 => ?_))))
    · have h := ziT h (c1)
      exact z_iinc dX12_laysWays_137 (Nat.le_of_ble_eq_true rfl) rfl (z_goto dX12_laysWays_140 (z_mask [true, true, true, false] (hK69 h)))
    · have h := ziF h (c1)
      obtain ⟨s2, h⟩ := zchk_some h
      refine z_aload dX12_laysWays_87 rfl (z_getR dX12_laysWays_88 fkX12_36 in1_0 sh1_0 rfl (z_iload dX12_laysWays_91 rfl (z_iload dX12_laysWays_92 rfl (z_callS dX12_laysWays_93 (tX12_at) (Nat.le_of_ble_eq_true rfl) cdX12_at naX12_at lkX12_193 stX12_at rfl rfl (Nat.le_of_ble_eq_true rfl) (z_aload dX12_laysWays_96 rfl (z_getR dX12_laysWays_97 fkX12_36 in1_0 sh1_0 rfl (z_iload dX12_laysWays_100 rfl (z_iload dX12_laysWays_101 rfl (z_callS dX12_laysWays_102 (tX12_at) (Nat.le_of_ble_eq_true rfl) cdX12_at naX12_at lkX12_193 stX12_at rfl rfl (Nat.le_of_ble_eq_true rfl) (z_iald dX12_laysWays_105 in1_7 sh1_7 (zin_vp s2) (z_aload dX12_laysWays_106 rfl ?_)))))))))))
      obtain ⟨s3, h⟩ := zchk_some h
      obtain ⟨s4, h⟩ := zchk_some h
      refine z_getR dX12_laysWays_107 fkX12_36 in1_0 sh1_0 rfl (z_iload dX12_laysWays_110 rfl (z_iload dX12_laysWays_111 rfl (z_callS dX12_laysWays_112 (tX12_at) (Nat.le_of_ble_eq_true rfl) cdX12_at naX12_at lkX12_193 stX12_at rfl rfl (Nat.le_of_ble_eq_true rfl) (z_iald dX12_laysWays_115 in1_7 sh1_7 (zin_vp s3) (z_aload dX12_laysWays_116 rfl (z_getR dX12_laysWays_117 fkX12_36 in1_0 sh1_0 rfl (z_iload dX12_laysWays_120 rfl (z_iload dX12_laysWays_121 rfl (z_callS dX12_laysWays_122 (tX12_at) (Nat.le_of_ble_eq_true rfl) cdX12_at naX12_at lkX12_193 stX12_at rfl rfl (Nat.le_of_ble_eq_true rfl) (z_iald dX12_laysWays_125 in1_7 sh1_7 (zin_vp s4) (z_iadd dX12_laysWays_126 ?_)))))))))))
      obtain ⟨s5, h⟩ := zchk_some h
      have h := zlet_h h
      exact z_min dX12_laysWays_127 lkX12_199 (Nat.le_of_ble_eq_true rfl) (Nat.le_of_ble_eq_true rfl) (z_iast dX12_laysWays_130 in1_7 sh1_7 (zin_vp s5) (z_iinc dX12_laysWays_131 (Nat.le_of_ble_eq_true rfl) rfl (z_goto dX12_laysWays_134 (z_mask [true, true, true, true] (hK79 h)))))
def hX12_laysWays_69 (F : Nat) (K59 : Int32 → zX → Option (zX)) : Nat → Int32 → Int32 → zX → Option (zX)
  | 0, _, _, _ => none
  | n + 1, a1, a2, X => if (X 1 0) ≤ a2 then K59 (a1 + (nI 1)) X else hX12_laysWays_79 F K59 (hX12_laysWays_69 F K59 n) F a1 a2 (nI 0) X
set_option maxRecDepth 20000 in
set_option maxHeartbeats 4000000 in
theorem sX12_laysWays_69 {μ : zM} {F : Nat} {K59 : Int32 → zX → Option (zX)} (hK59 : ∀ {xa1 : Int32} {xX : zX} {ρ : zX}, K59 xa1 xX = some ρ → zJ mX12_laysWays 6 (0, 0) (0, 0) (zQ none (zg μ 1 ρ)) 59 [some (zq 1 0), some (zi xa1), none, none] [] (zg μ 1 xX)) : ∀ {n : Nat} {a1 a2 : Int32} {X : zX} {ρ : zX}, hX12_laysWays_69 F K59 n a1 a2 X = some ρ → zJ mX12_laysWays 6 (0, 0) (0, 0) (zQ none (zg μ 1 ρ)) 69 [some (zq 1 0), some (zi a1), some (zi a2), none] [] (zg μ 1 X) := by
  intro n
  induction n with
  | zero => intro a1 a2 X ρ h; exact nomatch (show (none : Option _) = some ρ from h)
  | succ n ih =>
    intro a1 a2 X ρ h
    have hK69 := @ih
    rw [hX12_laysWays_69] at h
    refine z_iload dX12_laysWays_69 rfl (z_aload dX12_laysWays_70 rfl (z_callV dX12_laysWays_71 (tX12_nodes) (Nat.le_of_ble_eq_true rfl) cdX12_nodes naX12_nodes lkX12_67 imX12_nodes seX12_nodes in1_0 sh1_0 rfl rfl rfl (Nat.le_of_ble_eq_true rfl) (z_icmp_ge dX12_laysWays_74 (fun c1 => ?_) (fun c1 => ?_))))
    · have h := ziT h (c1)
      exact z_iinc dX12_laysWays_143 (Nat.le_of_ble_eq_true rfl) rfl (z_goto dX12_laysWays_146 (z_mask [true, true, false, false] (hK59 h)))
    · have h := ziF h (c1)
      exact z_const dX12_laysWays_77 (z_istore dX12_laysWays_78 (Nat.le_of_ble_eq_true rfl) (z_mask [true, true, true, true] (sX12_laysWays_79 hK59 hK69 h)))
def jX12_laysWays_197 (F : Nat) (K151 : Int32 → zX → Option (zX)) (K161 : Int32 → Int32 → zX → Option (zX)) (a1 a2 b0 b1 : Int32) (X : zX) : Option (zX) := zchk (zin b1 36) (K161 a1 (a2 + (nI 1)) (zw X 8 (zn b1) b0))
set_option maxRecDepth 20000 in
set_option maxHeartbeats 4000000 in
theorem sX12_laysWays_197 {μ : zM} {F : Nat} {K151 : Int32 → zX → Option (zX)} {K161 : Int32 → Int32 → zX → Option (zX)} (hK151 : ∀ {xa1 : Int32} {xX : zX} {ρ : zX}, K151 xa1 xX = some ρ → zJ mX12_laysWays 6 (0, 0) (0, 0) (zQ none (zg μ 1 ρ)) 151 [some (zq 1 0), some (zi xa1), none, none] [] (zg μ 1 xX)) (hK161 : ∀ {xa1 xa2 : Int32} {xX : zX} {ρ : zX}, K161 xa1 xa2 xX = some ρ → zJ mX12_laysWays 6 (0, 0) (0, 0) (zQ none (zg μ 1 ρ)) 161 [some (zq 1 0), some (zi xa1), some (zi xa2), none] [] (zg μ 1 xX)) {a1 a2 b0 b1 : Int32} {X : zX} {ρ : zX} (h : jX12_laysWays_197 F K151 K161 a1 a2 b0 b1 X = some ρ) : zJ mX12_laysWays 6 (0, 0) (0, 0) (zQ none (zg μ 1 ρ)) 197 [some (zq 1 0), some (zi a1), some (zi a2), none] [zi b0, zi b1, zq 1 8] (zg μ 1 X) := by
  unfold jX12_laysWays_197 at h
  obtain ⟨s1, h⟩ := zchk_some h
  exact z_iast dX12_laysWays_197 in1_8 sh1_8 (zin_vp s1) (z_iinc dX12_laysWays_198 (Nat.le_of_ble_eq_true rfl) rfl (z_goto dX12_laysWays_201 (z_mask [true, true, true, false] (hK161 h))))
def hX12_laysWays_161 (F : Nat) (K151 : Int32 → zX → Option (zX)) : Nat → Int32 → Int32 → zX → Option (zX)
  | 0, _, _, _ => none
  | n + 1, a1, a2, X => if (X 1 0) ≤ a2 then K151 (a1 + (nI 1)) X else zbd (eX12_isWay a1 a2 X) fun r3 => if r3 = 0 then jX12_laysWays_197 F K151 (hX12_laysWays_161 F K151 n) a1 a2 (-1) (((nI 6) * a1) + a2) X else zbd (eX12_aboveOf F a1 a2 X) fun r6 => jX12_laysWays_197 F K151 (hX12_laysWays_161 F K151 n) a1 a2 r6 (((nI 6) * a1) + a2) X
set_option maxRecDepth 20000 in
set_option maxHeartbeats 4000000 in
theorem sX12_laysWays_161 {μ : zM} {F : Nat} {K151 : Int32 → zX → Option (zX)} (hK151 : ∀ {xa1 : Int32} {xX : zX} {ρ : zX}, K151 xa1 xX = some ρ → zJ mX12_laysWays 6 (0, 0) (0, 0) (zQ none (zg μ 1 ρ)) 151 [some (zq 1 0), some (zi xa1), none, none] [] (zg μ 1 xX)) : ∀ {n : Nat} {a1 a2 : Int32} {X : zX} {ρ : zX}, hX12_laysWays_161 F K151 n a1 a2 X = some ρ → zJ mX12_laysWays 6 (0, 0) (0, 0) (zQ none (zg μ 1 ρ)) 161 [some (zq 1 0), some (zi a1), some (zi a2), none] [] (zg μ 1 X) := by
  intro n
  induction n with
  | zero => intro a1 a2 X ρ h; exact nomatch (show (none : Option _) = some ρ from h)
  | succ n ih =>
    intro a1 a2 X ρ h
    have hK161 := @ih
    rw [hX12_laysWays_161] at h
    refine z_iload dX12_laysWays_161 rfl (z_aload dX12_laysWays_162 rfl (z_callV dX12_laysWays_163 (tX12_nodes) (Nat.le_of_ble_eq_true rfl) cdX12_nodes naX12_nodes lkX12_67 imX12_nodes seX12_nodes in1_0 sh1_0 rfl rfl rfl (Nat.le_of_ble_eq_true rfl) (z_icmp_ge dX12_laysWays_166 (fun c1 => ?_) (fun c1 => ?_))))
    · have h := ziT h (c1)
      exact z_iinc dX12_laysWays_204 (Nat.le_of_ble_eq_true rfl) rfl (z_goto dX12_laysWays_207 (z_mask [true, true, false, false] (hK151 h)))
    · have h := ziF h (c1)
      obtain ⟨r3, l2, h⟩ := zbd_some h
      refine z_aload dX12_laysWays_169 rfl (z_getR dX12_laysWays_170 fkX12_39 in1_0 sh1_0 rfl (z_iload dX12_laysWays_173 rfl (z_iload dX12_laysWays_174 rfl (z_callS dX12_laysWays_175 (tX12_at) (Nat.le_of_ble_eq_true rfl) cdX12_at naX12_at lkX12_193 stX12_at rfl rfl (Nat.le_of_ble_eq_true rfl) (z_aload dX12_laysWays_178 rfl (z_iload dX12_laysWays_179 rfl (z_iload dX12_laysWays_180 rfl (z_callV dX12_laysWays_181 (tX12_isWay l2) (Nat.le_of_ble_eq_true rfl) cdX12_isWay naX12_isWay lkX12_204 imX12_isWay seX12_isWay in1_0 sh1_0 rfl rfl rfl (Nat.le_of_ble_eq_true rfl) (z_if_eq dX12_laysWays_184 (fun c4 => ?_) (fun c4 => ?_))))))))))
      · have h := ziT h (c4)
        exact z_const dX12_laysWays_196 (z_mask [true, true, true, false] (sX12_laysWays_197 hK151 hK161 h))
      · have h := ziF h (c4)
        obtain ⟨r6, l5, h⟩ := zbd_some h
        exact z_aload dX12_laysWays_187 rfl (z_iload dX12_laysWays_188 rfl (z_iload dX12_laysWays_189 rfl (z_callV dX12_laysWays_190 (tX12_aboveOf l5) (Nat.le_of_ble_eq_true rfl) cdX12_aboveOf naX12_aboveOf lkX12_207 imX12_aboveOf seX12_aboveOf in1_0 sh1_0 rfl rfl rfl (Nat.le_of_ble_eq_true rfl) (z_goto dX12_laysWays_193 (z_mask [true, true, true, false] (sX12_laysWays_197 hK151 hK161 h))))))
def jX12_laysWays_258 (F : Nat) (K212 : Int32 → zX → Option (zX)) (K222 : Int32 → Int32 → zX → Option (zX)) (a1 a2 b0 b1 : Int32) (X : zX) : Option (zX) := zchk (zin b1 36) (K222 a1 (a2 + (nI 1)) (zw X 9 (zn b1) b0))
set_option maxRecDepth 20000 in
set_option maxHeartbeats 4000000 in
theorem sX12_laysWays_258 {μ : zM} {F : Nat} {K212 : Int32 → zX → Option (zX)} {K222 : Int32 → Int32 → zX → Option (zX)} (hK212 : ∀ {xa1 : Int32} {xX : zX} {ρ : zX}, K212 xa1 xX = some ρ → zJ mX12_laysWays 6 (0, 0) (0, 0) (zQ none (zg μ 1 ρ)) 212 [some (zq 1 0), some (zi xa1), none, none] [] (zg μ 1 xX)) (hK222 : ∀ {xa1 xa2 : Int32} {xX : zX} {ρ : zX}, K222 xa1 xa2 xX = some ρ → zJ mX12_laysWays 6 (0, 0) (0, 0) (zQ none (zg μ 1 ρ)) 222 [some (zq 1 0), some (zi xa1), some (zi xa2), none] [] (zg μ 1 xX)) {a1 a2 b0 b1 : Int32} {X : zX} {ρ : zX} (h : jX12_laysWays_258 F K212 K222 a1 a2 b0 b1 X = some ρ) : zJ mX12_laysWays 6 (0, 0) (0, 0) (zQ none (zg μ 1 ρ)) 258 [some (zq 1 0), some (zi a1), some (zi a2), none] [zi b0, zi b1, zq 1 9] (zg μ 1 X) := by
  unfold jX12_laysWays_258 at h
  obtain ⟨s1, h⟩ := zchk_some h
  exact z_iast dX12_laysWays_258 in1_9 sh1_9 (zin_vp s1) (z_iinc dX12_laysWays_259 (Nat.le_of_ble_eq_true rfl) rfl (z_goto dX12_laysWays_262 (z_mask [true, true, true, false] (hK222 h))))
def hX12_laysWays_222 (F : Nat) (K212 : Int32 → zX → Option (zX)) : Nat → Int32 → Int32 → zX → Option (zX)
  | 0, _, _, _ => none
  | n + 1, a1, a2, X => if (X 1 0) ≤ a2 then K212 (a1 + (nI 1)) X else zbd (eX12_isWay a1 a2 X) fun r3 => if r3 = 0 then jX12_laysWays_258 F K212 (hX12_laysWays_222 F K212 n) a1 a2 (-1) (((nI 6) * a1) + a2) X else zbd (eX12_hopsOf F a1 a2 X) fun r6 => jX12_laysWays_258 F K212 (hX12_laysWays_222 F K212 n) a1 a2 r6 (((nI 6) * a1) + a2) X
set_option maxRecDepth 20000 in
set_option maxHeartbeats 4000000 in
theorem sX12_laysWays_222 {μ : zM} {F : Nat} {K212 : Int32 → zX → Option (zX)} (hK212 : ∀ {xa1 : Int32} {xX : zX} {ρ : zX}, K212 xa1 xX = some ρ → zJ mX12_laysWays 6 (0, 0) (0, 0) (zQ none (zg μ 1 ρ)) 212 [some (zq 1 0), some (zi xa1), none, none] [] (zg μ 1 xX)) : ∀ {n : Nat} {a1 a2 : Int32} {X : zX} {ρ : zX}, hX12_laysWays_222 F K212 n a1 a2 X = some ρ → zJ mX12_laysWays 6 (0, 0) (0, 0) (zQ none (zg μ 1 ρ)) 222 [some (zq 1 0), some (zi a1), some (zi a2), none] [] (zg μ 1 X) := by
  intro n
  induction n with
  | zero => intro a1 a2 X ρ h; exact nomatch (show (none : Option _) = some ρ from h)
  | succ n ih =>
    intro a1 a2 X ρ h
    have hK222 := @ih
    rw [hX12_laysWays_222] at h
    refine z_iload dX12_laysWays_222 rfl (z_aload dX12_laysWays_223 rfl (z_callV dX12_laysWays_224 (tX12_nodes) (Nat.le_of_ble_eq_true rfl) cdX12_nodes naX12_nodes lkX12_67 imX12_nodes seX12_nodes in1_0 sh1_0 rfl rfl rfl (Nat.le_of_ble_eq_true rfl) (z_icmp_ge dX12_laysWays_227 (fun c1 => ?_) (fun c1 => ?_))))
    · have h := ziT h (c1)
      exact z_iinc dX12_laysWays_265 (Nat.le_of_ble_eq_true rfl) rfl (z_goto dX12_laysWays_268 (z_mask [true, true, false, false] (hK212 h)))
    · have h := ziF h (c1)
      obtain ⟨r3, l2, h⟩ := zbd_some h
      refine z_aload dX12_laysWays_230 rfl (z_getR dX12_laysWays_231 fkX12_42 in1_0 sh1_0 rfl (z_iload dX12_laysWays_234 rfl (z_iload dX12_laysWays_235 rfl (z_callS dX12_laysWays_236 (tX12_at) (Nat.le_of_ble_eq_true rfl) cdX12_at naX12_at lkX12_193 stX12_at rfl rfl (Nat.le_of_ble_eq_true rfl) (z_aload dX12_laysWays_239 rfl (z_iload dX12_laysWays_240 rfl (z_iload dX12_laysWays_241 rfl (z_callV dX12_laysWays_242 (tX12_isWay l2) (Nat.le_of_ble_eq_true rfl) cdX12_isWay naX12_isWay lkX12_204 imX12_isWay seX12_isWay in1_0 sh1_0 rfl rfl rfl (Nat.le_of_ble_eq_true rfl) (z_if_eq dX12_laysWays_245 (fun c4 => ?_) (fun c4 => ?_))))))))))
      · have h := ziT h (c4)
        exact z_const dX12_laysWays_257 (z_mask [true, true, true, false] (sX12_laysWays_258 hK212 hK222 h))
      · have h := ziF h (c4)
        obtain ⟨r6, l5, h⟩ := zbd_some h
        exact z_aload dX12_laysWays_248 rfl (z_iload dX12_laysWays_249 rfl (z_iload dX12_laysWays_250 rfl (z_callV dX12_laysWays_251 (tX12_hopsOf l5) (Nat.le_of_ble_eq_true rfl) cdX12_hopsOf naX12_hopsOf lkX12_210 imX12_hopsOf seX12_hopsOf in1_0 sh1_0 rfl rfl rfl (Nat.le_of_ble_eq_true rfl) (z_goto dX12_laysWays_254 (z_mask [true, true, true, false] (sX12_laysWays_258 hK212 hK222 h))))))
def hX12_laysWays_212 (F : Nat) : Nat → Int32 → zX → Option (zX)
  | 0, _, _ => none
  | n + 1, a1, X => if (X 1 0) ≤ a1 then some X else hX12_laysWays_222 F (hX12_laysWays_212 F n) F a1 (nI 0) X
set_option maxRecDepth 20000 in
set_option maxHeartbeats 4000000 in
theorem sX12_laysWays_212 {μ : zM} {F : Nat} : ∀ {n : Nat} {a1 : Int32} {X : zX} {ρ : zX}, hX12_laysWays_212 F n a1 X = some ρ → zJ mX12_laysWays 6 (0, 0) (0, 0) (zQ none (zg μ 1 ρ)) 212 [some (zq 1 0), some (zi a1), none, none] [] (zg μ 1 X) := by
  intro n
  induction n with
  | zero => intro a1 X ρ h; exact nomatch (show (none : Option _) = some ρ from h)
  | succ n ih =>
    intro a1 X ρ h
    have hK212 := @ih
    rw [hX12_laysWays_212] at h
    refine z_iload dX12_laysWays_212 rfl (z_aload dX12_laysWays_213 rfl (z_callV dX12_laysWays_214 (tX12_nodes) (Nat.le_of_ble_eq_true rfl) cdX12_nodes naX12_nodes lkX12_67 imX12_nodes seX12_nodes in1_0 sh1_0 rfl rfl rfl (Nat.le_of_ble_eq_true rfl) (z_icmp_ge dX12_laysWays_217 (fun c1 => ?_) (fun c1 => ?_))))
    · have h := ziT h (c1)
      exact z_vretQ dX12_laysWays_271 rfl (by cases h; rfl)
    · have h := ziF h (c1)
      exact z_const dX12_laysWays_220 (z_istore dX12_laysWays_221 (Nat.le_of_ble_eq_true rfl) (z_mask [true, true, true, false] (sX12_laysWays_222 hK212 h)))
def hX12_laysWays_151 (F : Nat) : Nat → Int32 → zX → Option (zX)
  | 0, _, _ => none
  | n + 1, a1, X => if (X 1 0) ≤ a1 then hX12_laysWays_212 F F (nI 0) X else hX12_laysWays_161 F (hX12_laysWays_151 F n) F a1 (nI 0) X
set_option maxRecDepth 20000 in
set_option maxHeartbeats 4000000 in
theorem sX12_laysWays_151 {μ : zM} {F : Nat} : ∀ {n : Nat} {a1 : Int32} {X : zX} {ρ : zX}, hX12_laysWays_151 F n a1 X = some ρ → zJ mX12_laysWays 6 (0, 0) (0, 0) (zQ none (zg μ 1 ρ)) 151 [some (zq 1 0), some (zi a1), none, none] [] (zg μ 1 X) := by
  intro n
  induction n with
  | zero => intro a1 X ρ h; exact nomatch (show (none : Option _) = some ρ from h)
  | succ n ih =>
    intro a1 X ρ h
    have hK151 := @ih
    rw [hX12_laysWays_151] at h
    refine z_iload dX12_laysWays_151 rfl (z_aload dX12_laysWays_152 rfl (z_callV dX12_laysWays_153 (tX12_nodes) (Nat.le_of_ble_eq_true rfl) cdX12_nodes naX12_nodes lkX12_67 imX12_nodes seX12_nodes in1_0 sh1_0 rfl rfl rfl (Nat.le_of_ble_eq_true rfl) (z_icmp_ge dX12_laysWays_156 (fun c1 => ?_) (fun c1 => ?_))))
    · have h := ziT h (c1)
      exact z_const dX12_laysWays_210 (z_istore dX12_laysWays_211 (Nat.le_of_ble_eq_true rfl) (z_mask [true, true, false, false] (sX12_laysWays_212 h)))
    · have h := ziF h (c1)
      exact z_const dX12_laysWays_159 (z_istore dX12_laysWays_160 (Nat.le_of_ble_eq_true rfl) (z_mask [true, true, true, false] (sX12_laysWays_161 hK151 h)))
def hX12_laysWays_59 (F : Nat) : Nat → Int32 → zX → Option (zX)
  | 0, _, _ => none
  | n + 1, a1, X => if (X 1 0) ≤ a1 then hX12_laysWays_151 F F (nI 0) X else hX12_laysWays_69 F (hX12_laysWays_59 F n) F a1 (nI 0) X
set_option maxRecDepth 20000 in
set_option maxHeartbeats 4000000 in
theorem sX12_laysWays_59 {μ : zM} {F : Nat} : ∀ {n : Nat} {a1 : Int32} {X : zX} {ρ : zX}, hX12_laysWays_59 F n a1 X = some ρ → zJ mX12_laysWays 6 (0, 0) (0, 0) (zQ none (zg μ 1 ρ)) 59 [some (zq 1 0), some (zi a1), none, none] [] (zg μ 1 X) := by
  intro n
  induction n with
  | zero => intro a1 X ρ h; exact nomatch (show (none : Option _) = some ρ from h)
  | succ n ih =>
    intro a1 X ρ h
    have hK59 := @ih
    rw [hX12_laysWays_59] at h
    refine z_iload dX12_laysWays_59 rfl (z_aload dX12_laysWays_60 rfl (z_callV dX12_laysWays_61 (tX12_nodes) (Nat.le_of_ble_eq_true rfl) cdX12_nodes naX12_nodes lkX12_67 imX12_nodes seX12_nodes in1_0 sh1_0 rfl rfl rfl (Nat.le_of_ble_eq_true rfl) (z_icmp_ge dX12_laysWays_64 (fun c1 => ?_) (fun c1 => ?_))))
    · have h := ziT h (c1)
      exact z_const dX12_laysWays_149 (z_istore dX12_laysWays_150 (Nat.le_of_ble_eq_true rfl) (z_mask [true, true, false, false] (sX12_laysWays_151 h)))
    · have h := ziF h (c1)
      exact z_const dX12_laysWays_67 (z_istore dX12_laysWays_68 (Nat.le_of_ble_eq_true rfl) (z_mask [true, true, true, false] (sX12_laysWays_69 hK59 h)))
def hX12_laysWays_2 (F : Nat) : Nat → Int32 → zX → Option (zX)
  | 0, _, _ => none
  | n + 1, a1, X => if (X 1 0) ≤ a1 then hX12_laysWays_59 F F (nI 0) X else hX12_laysWays_12 F (hX12_laysWays_2 F n) F a1 (nI 0) X
set_option maxRecDepth 20000 in
set_option maxHeartbeats 4000000 in
theorem sX12_laysWays_2 {μ : zM} {F : Nat} : ∀ {n : Nat} {a1 : Int32} {X : zX} {ρ : zX}, hX12_laysWays_2 F n a1 X = some ρ → zJ mX12_laysWays 6 (0, 0) (0, 0) (zQ none (zg μ 1 ρ)) 2 [some (zq 1 0), some (zi a1), none, none] [] (zg μ 1 X) := by
  intro n
  induction n with
  | zero => intro a1 X ρ h; exact nomatch (show (none : Option _) = some ρ from h)
  | succ n ih =>
    intro a1 X ρ h
    have hK2 := @ih
    rw [hX12_laysWays_2] at h
    refine z_iload dX12_laysWays_2 rfl (z_aload dX12_laysWays_3 rfl (z_callV dX12_laysWays_4 (tX12_nodes) (Nat.le_of_ble_eq_true rfl) cdX12_nodes naX12_nodes lkX12_67 imX12_nodes seX12_nodes in1_0 sh1_0 rfl rfl rfl (Nat.le_of_ble_eq_true rfl) (z_icmp_ge dX12_laysWays_7 (fun c1 => ?_) (fun c1 => ?_))))
    · have h := ziT h (c1)
      exact z_const dX12_laysWays_57 (z_istore dX12_laysWays_58 (Nat.le_of_ble_eq_true rfl) (z_mask [true, true, false, false] (sX12_laysWays_59 h)))
    · have h := ziF h (c1)
      exact z_const dX12_laysWays_10 (z_istore dX12_laysWays_11 (Nat.le_of_ble_eq_true rfl) (z_mask [true, true, true, false] (sX12_laysWays_12 hK2 h)))
def eX12_laysWays (F : Nat) (X : zX) : Option (zX) := hX12_laysWays_2 F F (nI 0) X
set_option maxRecDepth 20000 in
set_option maxHeartbeats 4000000 in
theorem tX12_laysWays {μ : zM} {F : Nat} {X : zX} {ρ : zX} (h : eX12_laysWays F X = some ρ) : LM mX12_laysWays 6 [zq 1 0] (zg μ 1 X) none (zg μ 1 ρ) := by
  unfold eX12_laysWays at h
  refine LM.of (by decide +kernel) rfl (Nat.le_of_ble_eq_true rfl) ?_
  show zJ mX12_laysWays 6 (0, 0) (0, 0) _ 0 [some (zq 1 0), none, none, none] [] _
  exact z_const dX12_laysWays_0 (z_istore dX12_laysWays_1 (Nat.le_of_ble_eq_true rfl) (z_mask [true, true, false, false] (sX12_laysWays_2 h)))
-- X12_behinds33
def eX12_behinds33 (F : Nat) (x1 x2 : Int32) (X : zX) : Option (Int32 × zX) := zbd (eX12_letters F X) fun y2 => zbd (eX12_isWords33 F y2) fun r4 => if r4 = 0 then some ((-1), y2) else zbd (eX12_number F x1 x2 y2) fun y7 => some (y7.1, y7.2)
set_option maxRecDepth 20000 in
set_option maxHeartbeats 4000000 in
theorem tX12_behinds33 {μ : zM} {F : Nat} {x1 x2 : Int32} {X : zX} {ρ : Int32 × zX} (h : eX12_behinds33 F x1 x2 X = some ρ) : LM mX12_behind 7 [zq 1 0, zq 3 34, zi x1, zi x2] (zg μ 1 X) (some (zi ρ.1)) (zg μ 1 ρ.2) := by
  unfold eX12_behinds33 at h
  refine LM.of (by decide +kernel) rfl (Nat.le_of_ble_eq_true rfl) ?_
  show zJ mX12_behind 7 (0, 0) (0, 0) _ 0 [some (zq 1 0), some (zq 3 34), some (zi x1), some (zi x2)] [] _
  obtain ⟨y2, l1, h⟩ := zbd_some h
  obtain ⟨r4, l3, h⟩ := zbd_some h
  refine z_aload dX12_behind_0 rfl (z_callV dX12_behind_1 (tX12_letters l1) (Nat.le_of_ble_eq_true rfl) cdX12_letters naX12_letters lkX12_113 imX12_letters seX12_letters in1_0 sh1_0 rfl rfl rfl (Nat.le_of_ble_eq_true rfl) (z_aload dX12_behind_4 rfl (z_aload dX12_behind_5 rfl (z_callV dX12_behind_6 (tX12_isWords33 l3) (Nat.le_of_ble_eq_true rfl) cdX12_isWord naX12_isWord lkX12_116 imX12_isWord seX12_isWord in1_0 sh1_0 rfl rfl rfl (Nat.le_of_ble_eq_true rfl) (z_if_eq dX12_behind_9 (fun c5 => ?_) (fun c5 => ?_))))))
  · have h := ziT h (c5)
    exact z_const dX12_behind_21 (z_iretQ dX12_behind_22 rfl (by cases h; rfl))
  · have h := ziF h (c5)
    obtain ⟨y7, l6, h⟩ := zbd_some h
    exact z_aload dX12_behind_12 rfl (z_iload dX12_behind_13 rfl (z_iload dX12_behind_14 rfl (z_callV dX12_behind_15 (tX12_number l6) (Nat.le_of_ble_eq_true rfl) cdX12_number naX12_number lkX12_120 imX12_number seX12_number in1_0 sh1_0 rfl rfl rfl (Nat.le_of_ble_eq_true rfl) (z_goto dX12_behind_18 (z_iretQ dX12_behind_22 rfl (by cases h; rfl))))))
-- X12_behinds34
def eX12_behinds34 (F : Nat) (x1 x2 : Int32) (X : zX) : Option (Int32 × zX) := zbd (eX12_letters F X) fun y2 => zbd (eX12_isWords34 F y2) fun r4 => if r4 = 0 then some ((-1), y2) else zbd (eX12_number F x1 x2 y2) fun y7 => some (y7.1, y7.2)
set_option maxRecDepth 20000 in
set_option maxHeartbeats 4000000 in
theorem tX12_behinds34 {μ : zM} {F : Nat} {x1 x2 : Int32} {X : zX} {ρ : Int32 × zX} (h : eX12_behinds34 F x1 x2 X = some ρ) : LM mX12_behind 7 [zq 1 0, zq 3 35, zi x1, zi x2] (zg μ 1 X) (some (zi ρ.1)) (zg μ 1 ρ.2) := by
  unfold eX12_behinds34 at h
  refine LM.of (by decide +kernel) rfl (Nat.le_of_ble_eq_true rfl) ?_
  show zJ mX12_behind 7 (0, 0) (0, 0) _ 0 [some (zq 1 0), some (zq 3 35), some (zi x1), some (zi x2)] [] _
  obtain ⟨y2, l1, h⟩ := zbd_some h
  obtain ⟨r4, l3, h⟩ := zbd_some h
  refine z_aload dX12_behind_0 rfl (z_callV dX12_behind_1 (tX12_letters l1) (Nat.le_of_ble_eq_true rfl) cdX12_letters naX12_letters lkX12_113 imX12_letters seX12_letters in1_0 sh1_0 rfl rfl rfl (Nat.le_of_ble_eq_true rfl) (z_aload dX12_behind_4 rfl (z_aload dX12_behind_5 rfl (z_callV dX12_behind_6 (tX12_isWords34 l3) (Nat.le_of_ble_eq_true rfl) cdX12_isWord naX12_isWord lkX12_116 imX12_isWord seX12_isWord in1_0 sh1_0 rfl rfl rfl (Nat.le_of_ble_eq_true rfl) (z_if_eq dX12_behind_9 (fun c5 => ?_) (fun c5 => ?_))))))
  · have h := ziT h (c5)
    exact z_const dX12_behind_21 (z_iretQ dX12_behind_22 rfl (by cases h; rfl))
  · have h := ziF h (c5)
    obtain ⟨y7, l6, h⟩ := zbd_some h
    exact z_aload dX12_behind_12 rfl (z_iload dX12_behind_13 rfl (z_iload dX12_behind_14 rfl (z_callV dX12_behind_15 (tX12_number l6) (Nat.le_of_ble_eq_true rfl) cdX12_number naX12_number lkX12_120 imX12_number seX12_number in1_0 sh1_0 rfl rfl rfl (Nat.le_of_ble_eq_true rfl) (z_goto dX12_behind_18 (z_iretQ dX12_behind_22 rfl (by cases h; rfl))))))
-- X12_center
def jX12_center_70 (F : Nat) (K13 : Int32 → Int32 → zX → Option (Int32 × zX)) (a1 a2 b0 : Int32) (X : zX) : Option (Int32 × zX) := if b0 = 0 then K13 a1 (a2 + (nI 1)) X else K13 a2 (a2 + (nI 1)) X
set_option maxRecDepth 20000 in
set_option maxHeartbeats 4000000 in
theorem sX12_center_70 {μ : zM} {F : Nat} {K13 : Int32 → Int32 → zX → Option (Int32 × zX)} (hK13 : ∀ {xa1 xa2 : Int32} {xX : zX} {ρ : Int32 × zX}, K13 xa1 xa2 xX = some ρ → zJ mX12_center 7 (0, 0) (0, 0) (zQ (some (zi ρ.1)) (zg μ 1 ρ.2)) 13 [some (zq 1 0), some (zi xa1), some (zi xa2), none] [] (zg μ 1 xX)) {a1 a2 b0 : Int32} {X : zX} {ρ : Int32 × zX} (h : jX12_center_70 F K13 a1 a2 b0 X = some ρ) : zJ mX12_center 7 (0, 0) (0, 0) (zQ (some (zi ρ.1)) (zg μ 1 ρ.2)) 70 [some (zq 1 0), some (zi a1), some (zi a2), none] [zi b0] (zg μ 1 X) := by
  unfold jX12_center_70 at h
  refine z_istore dX12_center_70 (Nat.le_of_ble_eq_true rfl) (z_iload dX12_center_71 rfl (z_if_eq dX12_center_72 (fun c1 => ?_) (fun c1 => ?_)))
  · have h := ziT h (c1)
    exact z_iload dX12_center_79 rfl (z_istore dX12_center_80 (Nat.le_of_ble_eq_true rfl) (z_iinc dX12_center_81 (Nat.le_of_ble_eq_true rfl) rfl (z_goto dX12_center_84 (z_mask [true, true, true, false] (hK13 h)))))
  · have h := ziF h (c1)
    exact z_iload dX12_center_75 rfl (z_goto dX12_center_76 (z_istore dX12_center_80 (Nat.le_of_ble_eq_true rfl) (z_iinc dX12_center_81 (Nat.le_of_ble_eq_true rfl) rfl (z_goto dX12_center_84 (z_mask [true, true, true, false] (hK13 h))))))
def jX12_center_65 (F : Nat) (K13 : Int32 → Int32 → zX → Option (Int32 × zX)) (a1 a2 : Int32) (X : zX) : Option (Int32 × zX) := jX12_center_70 F K13 a1 a2 (nI 1) X
set_option maxRecDepth 20000 in
set_option maxHeartbeats 4000000 in
theorem sX12_center_65 {μ : zM} {F : Nat} {K13 : Int32 → Int32 → zX → Option (Int32 × zX)} (hK13 : ∀ {xa1 xa2 : Int32} {xX : zX} {ρ : Int32 × zX}, K13 xa1 xa2 xX = some ρ → zJ mX12_center 7 (0, 0) (0, 0) (zQ (some (zi ρ.1)) (zg μ 1 ρ.2)) 13 [some (zq 1 0), some (zi xa1), some (zi xa2), none] [] (zg μ 1 xX)) {a1 a2 : Int32} {X : zX} {ρ : Int32 × zX} (h : jX12_center_65 F K13 a1 a2 X = some ρ) : zJ mX12_center 7 (0, 0) (0, 0) (zQ (some (zi ρ.1)) (zg μ 1 ρ.2)) 65 [some (zq 1 0), some (zi a1), some (zi a2), none] [] (zg μ 1 X) := by
  unfold jX12_center_65 at h
  exact z_const dX12_center_65 (z_goto dX12_center_66 (z_mask [true, true, true, false] (sX12_center_70 hK13 h)))
def jX12_center_69 (F : Nat) (K13 : Int32 → Int32 → zX → Option (Int32 × zX)) (a1 a2 : Int32) (X : zX) : Option (Int32 × zX) := jX12_center_70 F K13 a1 a2 (nI 0) X
set_option maxRecDepth 20000 in
set_option maxHeartbeats 4000000 in
theorem sX12_center_69 {μ : zM} {F : Nat} {K13 : Int32 → Int32 → zX → Option (Int32 × zX)} (hK13 : ∀ {xa1 xa2 : Int32} {xX : zX} {ρ : Int32 × zX}, K13 xa1 xa2 xX = some ρ → zJ mX12_center 7 (0, 0) (0, 0) (zQ (some (zi ρ.1)) (zg μ 1 ρ.2)) 13 [some (zq 1 0), some (zi xa1), some (zi xa2), none] [] (zg μ 1 xX)) {a1 a2 : Int32} {X : zX} {ρ : Int32 × zX} (h : jX12_center_69 F K13 a1 a2 X = some ρ) : zJ mX12_center 7 (0, 0) (0, 0) (zQ (some (zi ρ.1)) (zg μ 1 ρ.2)) 69 [some (zq 1 0), some (zi a1), some (zi a2), none] [] (zg μ 1 X) := by
  unfold jX12_center_69 at h
  exact z_const dX12_center_69 (z_mask [true, true, true, false] (sX12_center_70 hK13 h))
def hX12_center_13 (F : Nat) : Nat → Int32 → Int32 → zX → Option (Int32 × zX)
  | 0, _, _, _ => none
  | n + 1, a1, a2, X => if (X 1 0) ≤ a2 then some (a1, X) else if a1 = (-1) then jX12_center_65 F (hX12_center_13 F n) a1 a2 X else zbd (eX12_waysOf F a2 X) fun r4 => zbd (eX12_waysOf F a1 X) fun r6 => if r6 < r4 then jX12_center_65 F (hX12_center_13 F n) a1 a2 X else zbd (eX12_waysOf F a2 X) fun r9 => zbd (eX12_waysOf F a1 X) fun r11 => if r9 = r11 then zbd (eX12_greatestWay F a2 X) fun r14 => zbd (eX12_greatestWay F a1 X) fun r16 => if r16 ≤ r14 then jX12_center_69 F (hX12_center_13 F n) a1 a2 X else jX12_center_65 F (hX12_center_13 F n) a1 a2 X else jX12_center_69 F (hX12_center_13 F n) a1 a2 X
set_option maxRecDepth 20000 in
set_option maxHeartbeats 4000000 in
theorem sX12_center_13 {μ : zM} {F : Nat} : ∀ {n : Nat} {a1 a2 : Int32} {X : zX} {ρ : Int32 × zX}, hX12_center_13 F n a1 a2 X = some ρ → zJ mX12_center 7 (0, 0) (0, 0) (zQ (some (zi ρ.1)) (zg μ 1 ρ.2)) 13 [some (zq 1 0), some (zi a1), some (zi a2), none] [] (zg μ 1 X) := by
  intro n
  induction n with
  | zero => intro a1 a2 X ρ h; exact nomatch (show (none : Option _) = some ρ from h)
  | succ n ih =>
    intro a1 a2 X ρ h
    have hK13 := @ih
    rw [hX12_center_13] at h
    refine z_iload dX12_center_13 rfl (z_aload dX12_center_14 rfl (z_callV dX12_center_15 (tX12_nodes) (Nat.le_of_ble_eq_true rfl) cdX12_nodes naX12_nodes lkX12_67 imX12_nodes seX12_nodes in1_0 sh1_0 rfl rfl rfl (Nat.le_of_ble_eq_true rfl) (z_icmp_ge dX12_center_18 (fun c1 => ?_) (fun c1 => ?_))))
    · have h := ziT h (c1)
      exact z_iload dX12_center_87 rfl (z_iretQ dX12_center_88 rfl (by cases h; rfl))
    · have h := ziF h (c1)
      refine z_iload dX12_center_21 rfl (z_const dX12_center_22 (z_icmp_eq dX12_center_23 (fun c2 => ?_) (fun c2 => ?_)))
      · have h := ziT h (c2)
        exact z_mask [true, true, true, false] (sX12_center_65 hK13 h)
      · have h := ziF h (c2)
        obtain ⟨r4, l3, h⟩ := zbd_some h
        obtain ⟨r6, l5, h⟩ := zbd_some h
        refine z_aload dX12_center_26 rfl (z_iload dX12_center_27 rfl (z_callV dX12_center_28 (tX12_waysOf l3) (Nat.le_of_ble_eq_true rfl) cdX12_waysOf naX12_waysOf lkX12_372 imX12_waysOf seX12_waysOf in1_0 sh1_0 rfl rfl rfl (Nat.le_of_ble_eq_true rfl) (z_aload dX12_center_31 rfl (z_iload dX12_center_32 rfl (z_callV dX12_center_33 (tX12_waysOf l5) (Nat.le_of_ble_eq_true rfl) cdX12_waysOf naX12_waysOf lkX12_372 imX12_waysOf seX12_waysOf in1_0 sh1_0 rfl rfl rfl (Nat.le_of_ble_eq_true rfl) (z_icmp_gt dX12_center_36 (fun c7 => ?_) (fun c7 => ?_)))))))
        · have h := ziT h (c7)
          exact z_mask [true, true, true, false] (sX12_center_65 hK13 h)
        · have h := ziF h (c7)
          obtain ⟨r9, l8, h⟩ := zbd_some h
          obtain ⟨r11, l10, h⟩ := zbd_some h
          refine z_aload dX12_center_39 rfl (z_iload dX12_center_40 rfl (z_callV dX12_center_41 (tX12_waysOf l8) (Nat.le_of_ble_eq_true rfl) cdX12_waysOf naX12_waysOf lkX12_372 imX12_waysOf seX12_waysOf in1_0 sh1_0 rfl rfl rfl (Nat.le_of_ble_eq_true rfl) (z_aload dX12_center_44 rfl (z_iload dX12_center_45 rfl (z_callV dX12_center_46 (tX12_waysOf l10) (Nat.le_of_ble_eq_true rfl) cdX12_waysOf naX12_waysOf lkX12_372 imX12_waysOf seX12_waysOf in1_0 sh1_0 rfl rfl rfl (Nat.le_of_ble_eq_true rfl) (z_icmp_ne dX12_center_49 (fun c12 => ?_) (fun c12 => ?_)))))))
          · have h := ziF h (c12)
            exact z_mask [true, true, true, false] (sX12_center_69 hK13 h)
          · have h := ziT h (c12)
            obtain ⟨r14, l13, h⟩ := zbd_some h
            obtain ⟨r16, l15, h⟩ := zbd_some h
            refine z_aload dX12_center_52 rfl (z_iload dX12_center_53 rfl (z_callV dX12_center_54 (tX12_greatestWay l13) (Nat.le_of_ble_eq_true rfl) cdX12_greatestWay naX12_greatestWay lkX12_375 imX12_greatestWay seX12_greatestWay in1_0 sh1_0 rfl rfl rfl (Nat.le_of_ble_eq_true rfl) (z_aload dX12_center_57 rfl (z_iload dX12_center_58 rfl (z_callV dX12_center_59 (tX12_greatestWay l15) (Nat.le_of_ble_eq_true rfl) cdX12_greatestWay naX12_greatestWay lkX12_375 imX12_greatestWay seX12_greatestWay in1_0 sh1_0 rfl rfl rfl (Nat.le_of_ble_eq_true rfl) (z_icmp_ge dX12_center_62 (fun c17 => ?_) (fun c17 => ?_)))))))
            · have h := ziT h (c17)
              exact z_mask [true, true, true, false] (sX12_center_69 hK13 h)
            · have h := ziF h (c17)
              exact z_mask [true, true, true, false] (sX12_center_65 hK13 h)
def eX12_center (F : Nat) (X : zX) : Option (Int32 × zX) := zbd (eX12_laysWays F (zw X 0 0 (nI 0))) fun y2 => hX12_center_13 F F (-1) (nI 0) y2
set_option maxRecDepth 20000 in
set_option maxHeartbeats 4000000 in
theorem tX12_center {μ : zM} {F : Nat} {X : zX} {ρ : Int32 × zX} (h : eX12_center F X = some ρ) : LM mX12_center 7 [zq 1 0] (zg μ 1 X) (some (zi ρ.1)) (zg μ 1 ρ.2) := by
  unfold eX12_center at h
  refine LM.of (by decide +kernel) rfl (Nat.le_of_ble_eq_true rfl) ?_
  show zJ mX12_center 7 (0, 0) (0, 0) _ 0 [some (zq 1 0), none, none, none] [] _
  obtain ⟨y2, l1, h⟩ := zbd_some h
  exact z_aload dX12_center_0 rfl (z_const dX12_center_1 (z_putI dX12_center_2 fkX12_3 in1_0 sh1_0 rfl (fun _ _ _ h => by cases h; rfl) ⟨_, rfl, rfl, rfl⟩ (z_aload dX12_center_5 rfl (z_callV dX12_center_6 (tX12_laysWays l1) (Nat.le_of_ble_eq_true rfl) cdX12_laysWays naX12_laysWays lkX12_233 imX12_laysWays seX12_laysWays in1_0 sh1_0 rfl rfl rfl (Nat.le_of_ble_eq_true rfl) (z_const dX12_center_9 (z_istore dX12_center_10 (Nat.le_of_ble_eq_true rfl) (z_const dX12_center_11 (z_istore dX12_center_12 (Nat.le_of_ble_eq_true rfl) (z_mask [true, true, true, false] (sX12_center_13 h))))))))))
-- X12_crossed
def hX12_crossed_51 (F : Nat) : Nat → Int32 → Int32 → Int32 → Int32 → zX → Option (Int32 × zX)
  | 0, _, _, _, _, _ => none
  | n + 1, a1, a2, a3, a4, X => if (X 1 0) ≤ a4 then some (a3, X) else zbd (eX12_isWay a1 a4 X) fun r3 => if r3 = 0 then (hX12_crossed_51 F n) a1 a2 a3 (a4 + (nI 1)) X else zchk (zin (((nI 6) * a1) + a4) 36) (if a2 < (X 9 (zn (((nI 6) * a1) + a4))) then (hX12_crossed_51 F n) a1 a2 a3 (a4 + (nI 1)) X else zchk (zin (((nI 6) * a1) + a4) 36) (zbd (eX12_between F a4 (X 8 (zn (((nI 6) * a1) + a4))) X) fun r9 => (hX12_crossed_51 F n) a1 a2 (a3 ||| ((nI 1) <<< (r9 &&& 31))) (a4 + (nI 1)) X))
set_option maxRecDepth 20000 in
set_option maxHeartbeats 4000000 in
theorem sX12_crossed_51 {μ : zM} {F : Nat} : ∀ {n : Nat} {a1 a2 a3 a4 : Int32} {X : zX} {ρ : Int32 × zX}, hX12_crossed_51 F n a1 a2 a3 a4 X = some ρ → zJ mX12_crossed 7 (0, 0) (0, 0) (zQ (some (zi ρ.1)) (zg μ 1 ρ.2)) 51 [some (zq 1 0), some (zi a1), some (zi a2), some (zi a3), some (zi a4)] [] (zg μ 1 X) := by
  intro n
  induction n with
  | zero => intro a1 a2 a3 a4 X ρ h; exact nomatch (show (none : Option _) = some ρ from h)
  | succ n ih =>
    intro a1 a2 a3 a4 X ρ h
    have hK51 := @ih
    rw [hX12_crossed_51] at h
    refine z_iload dX12_crossed_51 rfl (z_aload dX12_crossed_53 rfl (z_callV dX12_crossed_54 (tX12_nodes) (Nat.le_of_ble_eq_true rfl) cdX12_nodes naX12_nodes lkX12_67 imX12_nodes seX12_nodes in1_0 sh1_0 rfl rfl rfl (Nat.le_of_ble_eq_true rfl) (z_icmp_ge dX12_crossed_57 (fun c1 => ?_) (fun c1 => ?_))))
    · have h := ziT h (c1)
      exact z_iload dX12_crossed_113 rfl (z_iretQ dX12_crossed_114 rfl (by cases h; rfl))
    · have h := ziF h (c1)
      obtain ⟨r3, l2, h⟩ := zbd_some h
      refine z_aload dX12_crossed_60 rfl (z_iload dX12_crossed_61 rfl (z_iload dX12_crossed_62 rfl (z_callV dX12_crossed_64 (tX12_isWay l2) (Nat.le_of_ble_eq_true rfl) cdX12_isWay naX12_isWay lkX12_204 imX12_isWay seX12_isWay in1_0 sh1_0 rfl rfl rfl (Nat.le_of_ble_eq_true rfl) (z_if_eq dX12_crossed_67 (fun c4 => ?_) (fun c4 => ?_)))))
      · have h := ziT h (c4)
        exact z_iinc dX12_crossed_107 (Nat.le_of_ble_eq_true rfl) rfl (z_goto dX12_crossed_110 (z_mask [true, true, true, true, true] (hK51 h)))
      · have h := ziF h (c4)
        obtain ⟨s5, h⟩ := zchk_some h
        refine z_aload dX12_crossed_70 rfl (z_getR dX12_crossed_71 fkX12_42 in1_0 sh1_0 rfl (z_iload dX12_crossed_74 rfl (z_iload dX12_crossed_75 rfl (z_callS dX12_crossed_77 (tX12_at) (Nat.le_of_ble_eq_true rfl) cdX12_at naX12_at lkX12_193 stX12_at rfl rfl (Nat.le_of_ble_eq_true rfl) (z_iald dX12_crossed_80 in1_9 sh1_9 (zin_vp s5) (z_iload dX12_crossed_81 rfl (z_icmp_gt dX12_crossed_82 (fun c6 => ?_) (fun c6 => ?_))))))))
        · have h := ziT h (c6)
          exact z_iinc dX12_crossed_107 (Nat.le_of_ble_eq_true rfl) rfl (z_goto dX12_crossed_110 (z_mask [true, true, true, true, true] (hK51 h)))
        · have h := ziF h (c6)
          obtain ⟨s7, h⟩ := zchk_some h
          obtain ⟨r9, l8, h⟩ := zbd_some h
          refine z_iload dX12_crossed_85 rfl (z_const dX12_crossed_86 (z_aload dX12_crossed_87 rfl (z_iload dX12_crossed_88 rfl (z_aload dX12_crossed_90 rfl (z_getR dX12_crossed_91 fkX12_39 in1_0 sh1_0 rfl (z_iload dX12_crossed_94 rfl (z_iload dX12_crossed_95 rfl (z_callS dX12_crossed_97 (tX12_at) (Nat.le_of_ble_eq_true rfl) cdX12_at naX12_at lkX12_193 stX12_at rfl rfl (Nat.le_of_ble_eq_true rfl) (z_iald dX12_crossed_100 in1_8 sh1_8 (zin_vp s7) (z_callV dX12_crossed_101 (tX12_between l8) (Nat.le_of_ble_eq_true rfl) cdX12_between naX12_between lkX12_142 imX12_between seX12_between in1_0 sh1_0 rfl rfl rfl (Nat.le_of_ble_eq_true rfl) (z_ishl dX12_crossed_104 ?_)))))))))))
          exact z_ior dX12_crossed_105 (z_istore dX12_crossed_106 (Nat.le_of_ble_eq_true rfl) (z_iinc dX12_crossed_107 (Nat.le_of_ble_eq_true rfl) rfl (z_goto dX12_crossed_110 (z_mask [true, true, true, true, true] (hK51 h)))))
def jX12_crossed_33 (F : Nat) (a1 a2 b0 : Int32) (X : zX) : Option (Int32 × zX) := zbd (eX12_throwsIf b0 (nI 2) X) fun y2 => if y2.1 = 0 then zbd (eX12_laysWays F y2.2) fun y5 => hX12_crossed_51 F F a1 a2 (nI 0) (nI 0) y5 else some ((nI 0), y2.2)
set_option maxRecDepth 20000 in
set_option maxHeartbeats 4000000 in
theorem sX12_crossed_33 {μ : zM} {F : Nat} {a1 a2 b0 : Int32} {X : zX} {ρ : Int32 × zX} (h : jX12_crossed_33 F a1 a2 b0 X = some ρ) : zJ mX12_crossed 7 (0, 0) (0, 0) (zQ (some (zi ρ.1)) (zg μ 1 ρ.2)) 33 [some (zq 1 0), some (zi a1), some (zi a2), none, none] [zi b0, zq 1 0] (zg μ 1 X) := by
  unfold jX12_crossed_33 at h
  obtain ⟨y2, l1, h⟩ := zbd_some h
  refine z_const dX12_crossed_33 (z_callV dX12_crossed_34 (tX12_throwsIf l1) (Nat.le_of_ble_eq_true rfl) cdX12_throwsIf naX12_throwsIf lkX12_188 imX12_throwsIf seX12_throwsIf in1_0 sh1_0 rfl rfl rfl (Nat.le_of_ble_eq_true rfl) (z_if_eq dX12_crossed_37 (fun c3 => ?_) (fun c3 => ?_)))
  · have h := ziT h (c3)
    obtain ⟨y5, l4, h⟩ := zbd_some h
    exact z_aload dX12_crossed_42 rfl (z_callV dX12_crossed_43 (tX12_laysWays l4) (Nat.le_of_ble_eq_true rfl) cdX12_laysWays naX12_laysWays lkX12_233 imX12_laysWays seX12_laysWays in1_0 sh1_0 rfl rfl rfl (Nat.le_of_ble_eq_true rfl) (z_const dX12_crossed_46 (z_istore dX12_crossed_47 (Nat.le_of_ble_eq_true rfl) (z_const dX12_crossed_48 (z_istore dX12_crossed_49 (Nat.le_of_ble_eq_true rfl) (z_mask [true, true, true, true, true] (sX12_crossed_51 h)))))))
  · have h := ziF h (c3)
    exact z_const dX12_crossed_40 (z_iretQ dX12_crossed_41 rfl (by cases h; rfl))
def eX12_crossed (F : Nat) (x0 x1 : Int32) (X : zX) : Option (Int32 × zX) := zbd (eX12_noNode x0 (zw X 0 0 (nI 0))) fun r2 => zbd (eX12_throwsIf r2 (nI 1) (zw X 0 0 (nI 0))) fun y4 => if y4.1 = 0 then if (¬ (x1 < (nI 0))) ∧ (¬ ((nI 5) < x1)) then jX12_crossed_33 F x0 x1 (nI 0) y4.2 else jX12_crossed_33 F x0 x1 (nI 1) y4.2 else some ((nI 0), y4.2)
set_option maxRecDepth 20000 in
set_option maxHeartbeats 4000000 in
theorem tX12_crossed {μ : zM} {F : Nat} {x0 x1 : Int32} {X : zX} {ρ : Int32 × zX} (h : eX12_crossed F x0 x1 X = some ρ) : LM mX12_crossed 7 [zq 1 0, zi x0, zi x1] (zg μ 1 X) (some (zi ρ.1)) (zg μ 1 ρ.2) := by
  unfold eX12_crossed at h
  refine LM.of (by decide +kernel) rfl (Nat.le_of_ble_eq_true rfl) ?_
  show zJ mX12_crossed 7 (0, 0) (0, 0) _ 0 [some (zq 1 0), some (zi x0), some (zi x1), none, none] [] _
  obtain ⟨r2, l1, h⟩ := zbd_some h
  obtain ⟨y4, l3, h⟩ := zbd_some h
  refine z_aload dX12_crossed_0 rfl (z_const dX12_crossed_1 (z_putI dX12_crossed_2 fkX12_3 in1_0 sh1_0 rfl (fun _ _ _ h => by cases h; rfl) ⟨_, rfl, rfl, rfl⟩ (z_aload dX12_crossed_5 rfl (z_aload dX12_crossed_6 rfl (z_iload dX12_crossed_7 rfl (z_callV dX12_crossed_8 (tX12_noNode l1) (Nat.le_of_ble_eq_true rfl) cdX12_noNode naX12_noNode lkX12_330 imX12_noNode seX12_noNode in1_0 sh1_0 rfl rfl rfl (Nat.le_of_ble_eq_true rfl) (z_const dX12_crossed_11 (z_callV dX12_crossed_12 (tX12_throwsIf l3) (Nat.le_of_ble_eq_true rfl) cdX12_throwsIf naX12_throwsIf lkX12_188 imX12_throwsIf seX12_throwsIf in1_0 sh1_0 rfl rfl rfl (Nat.le_of_ble_eq_true rfl) (z_if_ne dX12_crossed_15 (fun c5 => ?_) (fun c5 => ?_))))))))))
  · have h := ziF h (c5)
    exact z_const dX12_crossed_40 (z_iretQ dX12_crossed_41 rfl (by cases h; rfl))
  · have h := ziT h (c5)
    refine z_aload dX12_crossed_18 rfl (z_iload dX12_crossed_19 rfl (z_const dX12_crossed_20 (z_const dX12_crossed_21 (z_callS dX12_crossed_22 (tX12_in) (Nat.le_of_ble_eq_true rfl) cdX12_in naX12_in lkX12_71 stX12_in rfl rfl (Nat.le_of_ble_eq_true rfl) (z_if_ne dX12_crossed_25 (fun c6 => ?_) (fun c6 => ?_))))))
    · have h := ziT h (zB_n0.mp c6)
      exact z_const dX12_crossed_32 (z_mask [true, true, true, false, false] (sX12_crossed_33 h))
    · have h := ziF h (zB_0.mp c6)
      exact z_const dX12_crossed_28 (z_goto dX12_crossed_29 (z_mask [true, true, true, false, false] (sX12_crossed_33 h)))
-- X12_far
def jX12_far_43 (F : Nat) (a3 : Int32) (X : zX) : Option (Int32 × zX) := if a3 ≤ (nI 5) then some (a3, X) else some ((-1), X)
set_option maxRecDepth 20000 in
set_option maxHeartbeats 4000000 in
theorem sX12_far_43 {μ : zM} {F : Nat} {a3 : Int32} {X : zX} {ρ : Int32 × zX} (h : jX12_far_43 F a3 X = some ρ) : zJ mX12_far 7 (0, 0) (0, 0) (zQ (some (zi ρ.1)) (zg μ 1 ρ.2)) 43 [none, none, none, some (zi a3)] [] (zg μ 1 X) := by
  unfold jX12_far_43 at h
  refine z_iload dX12_far_43 rfl (z_const dX12_far_44 (z_icmp_le dX12_far_45 (fun c1 => ?_) (fun c1 => ?_)))
  · have h := ziT h (c1)
    exact z_iload dX12_far_52 rfl (z_iretQ dX12_far_53 rfl (by cases h; rfl))
  · have h := ziF h (c1)
    exact z_const dX12_far_48 (z_goto dX12_far_49 (z_iretQ dX12_far_53 rfl (by cases h; rfl)))
def hX12_far_17 (F : Nat) : Nat → Int32 → Int32 → Int32 → zX → Option (Int32 × zX)
  | 0, _, _, _, _ => none
  | n + 1, a1, a2, a3, X => if (nI 5) < a3 then jX12_far_43 F a3 X else zbd (eX12_reachOf F a1 a3 X) fun r3 => zbd (eX12_holdersOf F a2 X) fun r5 => if (r3 &&& r5) = 0 then (hX12_far_17 F n) a1 a2 (a3 + (nI 1)) X else jX12_far_43 F a3 X
set_option maxRecDepth 20000 in
set_option maxHeartbeats 4000000 in
theorem sX12_far_17 {μ : zM} {F : Nat} : ∀ {n : Nat} {a1 a2 a3 : Int32} {X : zX} {ρ : Int32 × zX}, hX12_far_17 F n a1 a2 a3 X = some ρ → zJ mX12_far 7 (0, 0) (0, 0) (zQ (some (zi ρ.1)) (zg μ 1 ρ.2)) 17 [some (zq 1 0), some (zi a1), some (zi a2), some (zi a3)] [] (zg μ 1 X) := by
  intro n
  induction n with
  | zero => intro a1 a2 a3 X ρ h; exact nomatch (show (none : Option _) = some ρ from h)
  | succ n ih =>
    intro a1 a2 a3 X ρ h
    have hK17 := @ih
    rw [hX12_far_17] at h
    refine z_iload dX12_far_17 rfl (z_const dX12_far_18 (z_icmp_gt dX12_far_19 (fun c1 => ?_) (fun c1 => ?_)))
    · have h := ziT h (c1)
      exact z_mask [false, false, false, true] (sX12_far_43 h)
    · have h := ziF h (c1)
      obtain ⟨r3, l2, h⟩ := zbd_some h
      obtain ⟨r5, l4, h⟩ := zbd_some h
      refine z_aload dX12_far_22 rfl (z_iload dX12_far_23 rfl (z_iload dX12_far_24 rfl (z_callV dX12_far_25 (tX12_reachOf l2) (Nat.le_of_ble_eq_true rfl) cdX12_reachOf naX12_reachOf lkX12_348 imX12_reachOf seX12_reachOf in1_0 sh1_0 rfl rfl rfl (Nat.le_of_ble_eq_true rfl) (z_aload dX12_far_28 rfl (z_iload dX12_far_29 rfl (z_callV dX12_far_30 (tX12_holdersOf l4) (Nat.le_of_ble_eq_true rfl) cdX12_holdersOf naX12_holdersOf lkX12_351 imX12_holdersOf seX12_holdersOf in1_0 sh1_0 rfl rfl rfl (Nat.le_of_ble_eq_true rfl) (z_iand dX12_far_33 (z_if_ne dX12_far_34 (fun c6 => ?_) (fun c6 => ?_)))))))))
      · have h := ziF h (c6)
        exact z_mask [false, false, false, true] (sX12_far_43 h)
      · have h := ziT h (c6)
        exact z_iinc dX12_far_37 (Nat.le_of_ble_eq_true rfl) rfl (z_goto dX12_far_40 (z_mask [true, true, true, true] (hK17 h)))
def eX12_far (F : Nat) (x0 x1 : Int32) (X : zX) : Option (Int32 × zX) := zbd (eX12_noNodePacket x0 x1 X) fun y2 => if y2.1 = 0 then zbd (eX12_laysWays F y2.2) fun y5 => hX12_far_17 F F x0 x1 (nI 0) y5 else some ((nI 0), y2.2)
set_option maxRecDepth 20000 in
set_option maxHeartbeats 4000000 in
theorem tX12_far {μ : zM} {F : Nat} {x0 x1 : Int32} {X : zX} {ρ : Int32 × zX} (h : eX12_far F x0 x1 X = some ρ) : LM mX12_far 7 [zq 1 0, zi x0, zi x1] (zg μ 1 X) (some (zi ρ.1)) (zg μ 1 ρ.2) := by
  unfold eX12_far at h
  refine LM.of (by decide +kernel) rfl (Nat.le_of_ble_eq_true rfl) ?_
  show zJ mX12_far 7 (0, 0) (0, 0) _ 0 [some (zq 1 0), some (zi x0), some (zi x1), none] [] _
  obtain ⟨y2, l1, h⟩ := zbd_some h
  refine z_aload dX12_far_0 rfl (z_iload dX12_far_1 rfl (z_iload dX12_far_2 rfl (z_callV dX12_far_3 (tX12_noNodePacket l1) (Nat.le_of_ble_eq_true rfl) cdX12_noNodePacket naX12_noNodePacket lkX12_339 imX12_noNodePacket seX12_noNodePacket in1_0 sh1_0 rfl rfl rfl (Nat.le_of_ble_eq_true rfl) (z_if_eq dX12_far_6 (fun c3 => ?_) (fun c3 => ?_)))))
  · have h := ziT h (c3)
    obtain ⟨y5, l4, h⟩ := zbd_some h
    exact z_aload dX12_far_11 rfl (z_callV dX12_far_12 (tX12_laysWays l4) (Nat.le_of_ble_eq_true rfl) cdX12_laysWays naX12_laysWays lkX12_233 imX12_laysWays seX12_laysWays in1_0 sh1_0 rfl rfl rfl (Nat.le_of_ble_eq_true rfl) (z_const dX12_far_15 (z_istore dX12_far_16 (Nat.le_of_ble_eq_true rfl) (z_mask [true, true, true, true] (sX12_far_17 h)))))
  · have h := ziF h (c3)
    exact z_const dX12_far_9 (z_iretQ dX12_far_10 rfl (by cases h; rfl))
-- X12_flood
def jX12_flood_62 (F : Nat) (K36 : Int32 → Int32 → Int32 → Int32 → Int32 → Int32 → zX → Option (zX)) (a1 a2 a3 a4 a5 a6 b0 b1 : Int32) (X : zX) : Option (zX) := zchk (zin b1 6) (if a2 = 0 then if a6 = a1 then K36 a1 a2 a3 a4 a5 (a6 + (nI 1)) (zw X 10 (zn b1) (vp_nar .boolean b0)) else zbd (eX12_isWay a1 a6 (zw X 10 (zn b1) (vp_nar .boolean b0))) fun r5 => if r5 = 0 then zbd (eX12_hasGap a6 a3 (nI 2) (zw X 10 (zn b1) (vp_nar .boolean b0))) fun y8 => K36 a1 a2 a3 a4 a5 (a6 + (nI 1)) y8 else K36 a1 a2 a3 a4 a5 (a6 + (nI 1)) (zw X 10 (zn b1) (vp_nar .boolean b0)) else K36 a1 a2 a3 a4 a5 (a6 + (nI 1)) (zw X 10 (zn b1) (vp_nar .boolean b0)))
set_option maxRecDepth 20000 in
set_option maxHeartbeats 4000000 in
theorem sX12_flood_62 {μ : zM} {F : Nat} {K36 : Int32 → Int32 → Int32 → Int32 → Int32 → Int32 → zX → Option (zX)} (hK36 : ∀ {xa1 xa2 xa3 xa4 xa5 xa6 : Int32} {xX : zX} {ρ : zX}, K36 xa1 xa2 xa3 xa4 xa5 xa6 xX = some ρ → zJ mX12_flood 7 (0, 0) (0, 0) (zQ none (zg μ 1 ρ)) 36 [some (zq 1 0), some (zi xa1), some (zi xa2), some (zi xa3), some (zi xa4), some (zi xa5), some (zi xa6), none, none, none, none] [] (zg μ 1 xX)) {a1 a2 a3 a4 a5 a6 b0 b1 : Int32} {X : zX} {ρ : zX} (h : jX12_flood_62 F K36 a1 a2 a3 a4 a5 a6 b0 b1 X = some ρ) : zJ mX12_flood 7 (0, 0) (0, 0) (zQ none (zg μ 1 ρ)) 62 [some (zq 1 0), some (zi a1), some (zi a2), some (zi a3), some (zi a4), some (zi a5), some (zi a6), none, none, none, none] [zi b0, zi b1, zq 1 10] (zg μ 1 X) := by
  unfold jX12_flood_62 at h
  obtain ⟨s1, h⟩ := zchk_some h
  refine z_zast dX12_flood_62 in1_10 sh1_10 (zin_vp s1) (z_iload dX12_flood_63 rfl (z_if_ne dX12_flood_64 (fun c2 => ?_) (fun c2 => ?_)))
  · have h := ziF h (c2)
    exact z_iinc dX12_flood_91 (Nat.le_of_ble_eq_true rfl) rfl (z_goto dX12_flood_94 (z_mask [true, true, true, true, true, true, true, false, false, false, false] (hK36 h)))
  · have h := ziT h (c2)
    refine z_iload dX12_flood_67 rfl (z_iload dX12_flood_69 rfl (z_icmp_eq dX12_flood_70 (fun c3 => ?_) (fun c3 => ?_)))
    · have h := ziT h (c3)
      exact z_iinc dX12_flood_91 (Nat.le_of_ble_eq_true rfl) rfl (z_goto dX12_flood_94 (z_mask [true, true, true, true, true, true, true, false, false, false, false] (hK36 h)))
    · have h := ziF h (c3)
      obtain ⟨r5, l4, h⟩ := zbd_some h
      refine z_aload dX12_flood_73 rfl (z_iload dX12_flood_74 rfl (z_iload dX12_flood_75 rfl (z_callV dX12_flood_77 (tX12_isWay l4) (Nat.le_of_ble_eq_true rfl) cdX12_isWay naX12_isWay lkX12_204 imX12_isWay seX12_isWay in1_0 sh1_0 rfl rfl rfl (Nat.le_of_ble_eq_true rfl) (z_if_ne dX12_flood_80 (fun c6 => ?_) (fun c6 => ?_)))))
      · have h := ziF h (c6)
        exact z_iinc dX12_flood_91 (Nat.le_of_ble_eq_true rfl) rfl (z_goto dX12_flood_94 (z_mask [true, true, true, true, true, true, true, false, false, false, false] (hK36 h)))
      · have h := ziT h (c6)
        obtain ⟨y8, l7, h⟩ := zbd_some h
        exact z_aload dX12_flood_83 rfl (z_iload dX12_flood_84 rfl (z_iload dX12_flood_86 rfl (z_const dX12_flood_87 (z_callV dX12_flood_88 (tX12_hasGap l7) (Nat.le_of_ble_eq_true rfl) cdX12_hasGap naX12_hasGap lkX12_216 imX12_hasGap seX12_hasGap in1_0 sh1_0 rfl rfl rfl (Nat.le_of_ble_eq_true rfl) (z_iinc dX12_flood_91 (Nat.le_of_ble_eq_true rfl) rfl (z_goto dX12_flood_94 (z_mask [true, true, true, true, true, true, true, false, false, false, false] (hK36 h))))))))
def jX12_flood_341 (F : Nat) (K101 : Int32 → Int32 → Int32 → Int32 → Int32 → zX → Option (zX)) (a1 a2 a3 a4 a6 : Int32) (X : zX) : Option (zX) := zbd (eX12_behindIn F a1 a6 X) fun r2 => K101 a1 a2 a3 a4 r2 X
set_option maxRecDepth 20000 in
set_option maxHeartbeats 4000000 in
theorem sX12_flood_341 {μ : zM} {F : Nat} {K101 : Int32 → Int32 → Int32 → Int32 → Int32 → zX → Option (zX)} (hK101 : ∀ {xa1 xa2 xa3 xa4 xa6 : Int32} {xX : zX} {ρ : zX}, K101 xa1 xa2 xa3 xa4 xa6 xX = some ρ → zJ mX12_flood 7 (0, 0) (0, 0) (zQ none (zg μ 1 ρ)) 101 [some (zq 1 0), some (zi xa1), some (zi xa2), some (zi xa3), some (zi xa4), none, some (zi xa6), none, none, none, none] [] (zg μ 1 xX)) {a1 a2 a3 a4 a6 : Int32} {X : zX} {ρ : zX} (h : jX12_flood_341 F K101 a1 a2 a3 a4 a6 X = some ρ) : zJ mX12_flood 7 (0, 0) (0, 0) (zQ none (zg μ 1 ρ)) 341 [some (zq 1 0), some (zi a1), some (zi a2), some (zi a3), some (zi a4), none, some (zi a6), none, none, none, none] [] (zg μ 1 X) := by
  unfold jX12_flood_341 at h
  obtain ⟨r2, l1, h⟩ := zbd_some h
  exact z_aload dX12_flood_341 rfl (z_iload dX12_flood_342 rfl (z_iload dX12_flood_343 rfl (z_callV dX12_flood_345 (tX12_behindIn l1) (Nat.le_of_ble_eq_true rfl) cdX12_behindIn naX12_behindIn lkX12_236 imX12_behindIn seX12_behindIn in1_0 sh1_0 rfl rfl rfl (Nat.le_of_ble_eq_true rfl) (z_istore dX12_flood_348 (Nat.le_of_ble_eq_true rfl) (z_goto dX12_flood_350 (z_mask [true, true, true, true, true, false, true, false, false, false, false] (hK101 h)))))))
def jX12_flood_273 (F : Nat) (K101 : Int32 → Int32 → Int32 → Int32 → Int32 → zX → Option (zX)) (a1 a2 a3 a4 a6 a7 a9 a10 : Int32) (X : zX) : Option (zX) := if a2 = 0 then if a9 = 0 then zchk (zin a6 6) (if (X 10 (zn a6)) = 0 then zbd (eX12_hasGapBehind F a6 a3 a7 X) fun y11 => jX12_flood_341 F K101 a1 a2 a3 a4 a6 y11 else if a10 = 0 then zbd (eX12_hasGap a6 a3 (nI 3) X) fun y9 => jX12_flood_341 F K101 a1 a2 a3 a4 a6 y9 else zbd (eX12_noGap a6 a3 X) fun y7 => jX12_flood_341 F K101 a1 a2 a3 a4 a6 y7) else zbd (eX12_hasGap a6 a3 (nI 0) X) fun y13 => jX12_flood_341 F K101 a1 a2 a3 a4 a6 y13 else jX12_flood_341 F K101 a1 a2 a3 a4 a6 X
set_option maxRecDepth 20000 in
set_option maxHeartbeats 4000000 in
theorem sX12_flood_273 {μ : zM} {F : Nat} {K101 : Int32 → Int32 → Int32 → Int32 → Int32 → zX → Option (zX)} (hK101 : ∀ {xa1 xa2 xa3 xa4 xa6 : Int32} {xX : zX} {ρ : zX}, K101 xa1 xa2 xa3 xa4 xa6 xX = some ρ → zJ mX12_flood 7 (0, 0) (0, 0) (zQ none (zg μ 1 ρ)) 101 [some (zq 1 0), some (zi xa1), some (zi xa2), some (zi xa3), some (zi xa4), none, some (zi xa6), none, none, none, none] [] (zg μ 1 xX)) {a1 a2 a3 a4 a6 a7 a9 a10 : Int32} {X : zX} {ρ : zX} (h : jX12_flood_273 F K101 a1 a2 a3 a4 a6 a7 a9 a10 X = some ρ) : zJ mX12_flood 7 (0, 0) (0, 0) (zQ none (zg μ 1 ρ)) 273 [some (zq 1 0), some (zi a1), some (zi a2), some (zi a3), some (zi a4), none, some (zi a6), some (zi a7), none, some (zi a9), some (zi a10)] [] (zg μ 1 X) := by
  unfold jX12_flood_273 at h
  refine z_iload dX12_flood_273 rfl (z_if_eq dX12_flood_274 (fun c1 => ?_) (fun c1 => ?_))
  · have h := ziT h (c1)
    refine z_iload dX12_flood_280 rfl (z_if_eq dX12_flood_282 (fun c2 => ?_) (fun c2 => ?_))
    · have h := ziT h (c2)
      obtain ⟨s3, h⟩ := zchk_some h
      refine z_aload dX12_flood_296 rfl (z_getR dX12_flood_297 fkX12_45 in1_0 sh1_0 rfl (z_iload dX12_flood_300 rfl (z_zald dX12_flood_302 in1_10 sh1_10 (zin_vp s3) (z_if_ne dX12_flood_303 (fun c4 => ?_) (fun c4 => ?_)))))
      · have h := ziF h (c4)
        refine z_iload dX12_flood_318 rfl (z_if_ne dX12_flood_320 (fun c5 => ?_) (fun c5 => ?_))
        · have h := ziF h (c5)
          obtain ⟨y7, l6, h⟩ := zbd_some h
          exact z_aload dX12_flood_334 rfl (z_iload dX12_flood_335 rfl (z_iload dX12_flood_337 rfl (z_callV dX12_flood_338 (tX12_noGap l6) (Nat.le_of_ble_eq_true rfl) cdX12_noGap naX12_noGap lkX12_250 imX12_noGap seX12_noGap in1_0 sh1_0 rfl rfl rfl (Nat.le_of_ble_eq_true rfl) (z_mask [true, true, true, true, true, false, true, false, false, false, false] (sX12_flood_341 hK101 h)))))
        · have h := ziT h (c5)
          obtain ⟨y9, l8, h⟩ := zbd_some h
          exact z_aload dX12_flood_323 rfl (z_iload dX12_flood_324 rfl (z_iload dX12_flood_326 rfl (z_const dX12_flood_327 (z_callV dX12_flood_328 (tX12_hasGap l8) (Nat.le_of_ble_eq_true rfl) cdX12_hasGap naX12_hasGap lkX12_216 imX12_hasGap seX12_hasGap in1_0 sh1_0 rfl rfl rfl (Nat.le_of_ble_eq_true rfl) (z_goto dX12_flood_331 (z_mask [true, true, true, true, true, false, true, false, false, false, false] (sX12_flood_341 hK101 h)))))))
      · have h := ziT h (c4)
        obtain ⟨y11, l10, h⟩ := zbd_some h
        exact z_aload dX12_flood_306 rfl (z_iload dX12_flood_307 rfl (z_iload dX12_flood_309 rfl (z_iload dX12_flood_310 rfl (z_callV dX12_flood_312 (tX12_hasGapBehind l10) (Nat.le_of_ble_eq_true rfl) cdX12_hasGapBehind naX12_hasGapBehind lkX12_247 imX12_hasGapBehind seX12_hasGapBehind in1_0 sh1_0 rfl rfl rfl (Nat.le_of_ble_eq_true rfl) (z_goto dX12_flood_315 (z_mask [true, true, true, true, true, false, true, false, false, false, false] (sX12_flood_341 hK101 h)))))))
    · have h := ziF h (c2)
      obtain ⟨y13, l12, h⟩ := zbd_some h
      exact z_aload dX12_flood_285 rfl (z_iload dX12_flood_286 rfl (z_iload dX12_flood_288 rfl (z_const dX12_flood_289 (z_callV dX12_flood_290 (tX12_hasGap l12) (Nat.le_of_ble_eq_true rfl) cdX12_hasGap naX12_hasGap lkX12_216 imX12_hasGap seX12_hasGap in1_0 sh1_0 rfl rfl rfl (Nat.le_of_ble_eq_true rfl) (z_goto dX12_flood_293 (z_mask [true, true, true, true, true, false, true, false, false, false, false] (sX12_flood_341 hK101 h)))))))
  · have h := ziF h (c1)
    exact z_goto dX12_flood_277 (z_mask [true, true, true, true, true, false, true, false, false, false, false] (sX12_flood_341 hK101 h))
def jX12_flood_247 (F : Nat) (K101 : Int32 → Int32 → Int32 → Int32 → Int32 → zX → Option (zX)) (a1 a2 a3 a4 a6 a7 a9 a10 : Int32) (X : zX) : Option (zX) := zchk (zin a6 6) (if (X 10 (zn a6)) = 0 then jX12_flood_273 F K101 a1 a2 a3 a4 a6 a7 a9 a10 X else if a10 = 0 then jX12_flood_273 F K101 a1 a2 a3 a4 a6 a7 a9 a10 (zw X 1 13 ((X 1 13) + (nI 1))) else jX12_flood_273 F K101 a1 a2 a3 a4 a6 a7 a9 a10 X)
set_option maxRecDepth 20000 in
set_option maxHeartbeats 4000000 in
theorem sX12_flood_247 {μ : zM} {F : Nat} {K101 : Int32 → Int32 → Int32 → Int32 → Int32 → zX → Option (zX)} (hK101 : ∀ {xa1 xa2 xa3 xa4 xa6 : Int32} {xX : zX} {ρ : zX}, K101 xa1 xa2 xa3 xa4 xa6 xX = some ρ → zJ mX12_flood 7 (0, 0) (0, 0) (zQ none (zg μ 1 ρ)) 101 [some (zq 1 0), some (zi xa1), some (zi xa2), some (zi xa3), some (zi xa4), none, some (zi xa6), none, none, none, none] [] (zg μ 1 xX)) {a1 a2 a3 a4 a6 a7 a9 a10 : Int32} {X : zX} {ρ : zX} (h : jX12_flood_247 F K101 a1 a2 a3 a4 a6 a7 a9 a10 X = some ρ) : zJ mX12_flood 7 (0, 0) (0, 0) (zQ none (zg μ 1 ρ)) 247 [some (zq 1 0), some (zi a1), some (zi a2), some (zi a3), some (zi a4), none, some (zi a6), some (zi a7), none, some (zi a9), some (zi a10)] [] (zg μ 1 X) := by
  unfold jX12_flood_247 at h
  obtain ⟨s1, h⟩ := zchk_some h
  refine z_aload dX12_flood_247 rfl (z_getR dX12_flood_248 fkX12_45 in1_0 sh1_0 rfl (z_iload dX12_flood_251 rfl (z_zald dX12_flood_253 in1_10 sh1_10 (zin_vp s1) (z_if_eq dX12_flood_254 (fun c2 => ?_) (fun c2 => ?_)))))
  · have h := ziT h (c2)
    exact z_mask [true, true, true, true, true, false, true, true, false, true, true] (sX12_flood_273 hK101 h)
  · have h := ziF h (c2)
    refine z_iload dX12_flood_257 rfl (z_if_ne dX12_flood_259 (fun c3 => ?_) (fun c3 => ?_))
    · have h := ziF h (c3)
      exact z_mask [true, true, true, true, true, false, true, true, false, true, true] (sX12_flood_273 hK101 h)
    · have h := ziT h (c3)
      exact z_aload dX12_flood_262 rfl (z_getR dX12_flood_263 fkX12_13 in1_0 sh1_0 rfl (z_const dX12_flood_266 (z_dup2 dX12_flood_268 rfl rfl (z_ialdN dX12_flood_269 in1_1 sh1_1 (Nat.le_of_ble_eq_true rfl) (Nat.le_of_ble_eq_true rfl) (z_const dX12_flood_270 (z_iadd dX12_flood_271 (z_iastN dX12_flood_272 in1_1 sh1_1 (Nat.le_of_ble_eq_true rfl) (Nat.le_of_ble_eq_true rfl) (z_mask [true, true, true, true, true, false, true, true, false, true, true] (sX12_flood_273 hK101 h)))))))))
def jX12_flood_219 (F : Nat) (K101 : Int32 → Int32 → Int32 → Int32 → Int32 → zX → Option (zX)) (a1 a2 a3 a4 a6 a7 a9 b0 : Int32) (X : zX) : Option (zX) := zchk (zin a6 6) (if (X 10 (zn a6)) = 0 then jX12_flood_247 F K101 a1 a2 a3 a4 a6 a7 a9 b0 X else if b0 = 0 then jX12_flood_247 F K101 a1 a2 a3 a4 a6 a7 a9 b0 X else zbd (eX12_isOnWay a1 a6 a2 a3 a4 X) fun y5 => jX12_flood_247 F K101 a1 a2 a3 a4 a6 a7 a9 b0 y5)
set_option maxRecDepth 20000 in
set_option maxHeartbeats 4000000 in
theorem sX12_flood_219 {μ : zM} {F : Nat} {K101 : Int32 → Int32 → Int32 → Int32 → Int32 → zX → Option (zX)} (hK101 : ∀ {xa1 xa2 xa3 xa4 xa6 : Int32} {xX : zX} {ρ : zX}, K101 xa1 xa2 xa3 xa4 xa6 xX = some ρ → zJ mX12_flood 7 (0, 0) (0, 0) (zQ none (zg μ 1 ρ)) 101 [some (zq 1 0), some (zi xa1), some (zi xa2), some (zi xa3), some (zi xa4), none, some (zi xa6), none, none, none, none] [] (zg μ 1 xX)) {a1 a2 a3 a4 a6 a7 a9 b0 : Int32} {X : zX} {ρ : zX} (h : jX12_flood_219 F K101 a1 a2 a3 a4 a6 a7 a9 b0 X = some ρ) : zJ mX12_flood 7 (0, 0) (0, 0) (zQ none (zg μ 1 ρ)) 219 [some (zq 1 0), some (zi a1), some (zi a2), some (zi a3), some (zi a4), none, some (zi a6), some (zi a7), none, some (zi a9), none] [zi b0] (zg μ 1 X) := by
  unfold jX12_flood_219 at h
  obtain ⟨s1, h⟩ := zchk_some h
  refine z_istore dX12_flood_219 (Nat.le_of_ble_eq_true rfl) (z_aload dX12_flood_221 rfl (z_getR dX12_flood_222 fkX12_45 in1_0 sh1_0 rfl (z_iload dX12_flood_225 rfl (z_zald dX12_flood_227 in1_10 sh1_10 (zin_vp s1) (z_if_eq dX12_flood_228 (fun c2 => ?_) (fun c2 => ?_))))))
  · have h := ziT h (c2)
    exact z_mask [true, true, true, true, true, false, true, true, false, true, true] (sX12_flood_247 hK101 h)
  · have h := ziF h (c2)
    refine z_iload dX12_flood_231 rfl (z_if_eq dX12_flood_233 (fun c3 => ?_) (fun c3 => ?_))
    · have h := ziT h (c3)
      exact z_mask [true, true, true, true, true, false, true, true, false, true, true] (sX12_flood_247 hK101 h)
    · have h := ziF h (c3)
      obtain ⟨y5, l4, h⟩ := zbd_some h
      exact z_aload dX12_flood_236 rfl (z_iload dX12_flood_237 rfl (z_iload dX12_flood_238 rfl (z_iload dX12_flood_240 rfl (z_iload dX12_flood_241 rfl (z_iload dX12_flood_242 rfl (z_callV dX12_flood_244 (tX12_isOnWay l4) (Nat.le_of_ble_eq_true rfl) cdX12_isOnWay naX12_isOnWay lkX12_243 imX12_isOnWay seX12_isOnWay in1_0 sh1_0 rfl rfl rfl (Nat.le_of_ble_eq_true rfl) (z_mask [true, true, true, true, true, false, true, true, false, true, true] (sX12_flood_247 hK101 h))))))))
def jX12_flood_201 (F : Nat) (K101 : Int32 → Int32 → Int32 → Int32 → Int32 → zX → Option (zX)) (a1 a2 a3 a4 a6 a7 a9 b0 b1 : Int32) (X : zX) : Option (zX) := zchk (zin b1 6) (if (nI 64) ≤ (X 1 12) then jX12_flood_219 F K101 a1 a2 a3 a4 a6 a7 a9 (nI 0) (zw X 10 (zn b1) (vp_nar .boolean b0)) else jX12_flood_219 F K101 a1 a2 a3 a4 a6 a7 a9 (nI 1) (zw X 10 (zn b1) (vp_nar .boolean b0)))
set_option maxRecDepth 20000 in
set_option maxHeartbeats 4000000 in
theorem sX12_flood_201 {μ : zM} {F : Nat} {K101 : Int32 → Int32 → Int32 → Int32 → Int32 → zX → Option (zX)} (hK101 : ∀ {xa1 xa2 xa3 xa4 xa6 : Int32} {xX : zX} {ρ : zX}, K101 xa1 xa2 xa3 xa4 xa6 xX = some ρ → zJ mX12_flood 7 (0, 0) (0, 0) (zQ none (zg μ 1 ρ)) 101 [some (zq 1 0), some (zi xa1), some (zi xa2), some (zi xa3), some (zi xa4), none, some (zi xa6), none, none, none, none] [] (zg μ 1 xX)) {a1 a2 a3 a4 a6 a7 a9 b0 b1 : Int32} {X : zX} {ρ : zX} (h : jX12_flood_201 F K101 a1 a2 a3 a4 a6 a7 a9 b0 b1 X = some ρ) : zJ mX12_flood 7 (0, 0) (0, 0) (zQ none (zg μ 1 ρ)) 201 [some (zq 1 0), some (zi a1), some (zi a2), some (zi a3), some (zi a4), none, some (zi a6), some (zi a7), none, some (zi a9), none] [zi b0, zi b1, zq 1 10] (zg μ 1 X) := by
  unfold jX12_flood_201 at h
  obtain ⟨s1, h⟩ := zchk_some h
  refine z_zast dX12_flood_201 in1_10 sh1_10 (zin_vp s1) (z_aload dX12_flood_202 rfl (z_getR dX12_flood_203 fkX12_13 in1_0 sh1_0 rfl (z_const dX12_flood_206 (z_ialdN dX12_flood_208 in1_1 sh1_1 (Nat.le_of_ble_eq_true rfl) (Nat.le_of_ble_eq_true rfl) (z_const dX12_flood_209 (z_icmp_ge dX12_flood_211 (fun c2 => ?_) (fun c2 => ?_)))))))
  · have h := ziT h (c2)
    exact z_const dX12_flood_218 (z_mask [true, true, true, true, true, false, true, true, false, true, false] (sX12_flood_219 hK101 h))
  · have h := ziF h (c2)
    exact z_const dX12_flood_214 (z_goto dX12_flood_215 (z_mask [true, true, true, true, true, false, true, true, false, true, false] (sX12_flood_219 hK101 h)))
def jX12_flood_200 (F : Nat) (K101 : Int32 → Int32 → Int32 → Int32 → Int32 → zX → Option (zX)) (a1 a2 a3 a4 a6 a7 a9 b0 : Int32) (X : zX) : Option (zX) := jX12_flood_201 F K101 a1 a2 a3 a4 a6 a7 a9 (nI 0) b0 X
set_option maxRecDepth 20000 in
set_option maxHeartbeats 4000000 in
theorem sX12_flood_200 {μ : zM} {F : Nat} {K101 : Int32 → Int32 → Int32 → Int32 → Int32 → zX → Option (zX)} (hK101 : ∀ {xa1 xa2 xa3 xa4 xa6 : Int32} {xX : zX} {ρ : zX}, K101 xa1 xa2 xa3 xa4 xa6 xX = some ρ → zJ mX12_flood 7 (0, 0) (0, 0) (zQ none (zg μ 1 ρ)) 101 [some (zq 1 0), some (zi xa1), some (zi xa2), some (zi xa3), some (zi xa4), none, some (zi xa6), none, none, none, none] [] (zg μ 1 xX)) {a1 a2 a3 a4 a6 a7 a9 b0 : Int32} {X : zX} {ρ : zX} (h : jX12_flood_200 F K101 a1 a2 a3 a4 a6 a7 a9 b0 X = some ρ) : zJ mX12_flood 7 (0, 0) (0, 0) (zQ none (zg μ 1 ρ)) 200 [some (zq 1 0), some (zi a1), some (zi a2), some (zi a3), some (zi a4), none, some (zi a6), some (zi a7), none, some (zi a9), none] [zi b0, zq 1 10] (zg μ 1 X) := by
  unfold jX12_flood_200 at h
  exact z_const dX12_flood_200 (z_mask [true, true, true, true, true, false, true, true, false, true, false] (sX12_flood_201 hK101 h))
def jX12_flood_178 (F : Nat) (K101 : Int32 → Int32 → Int32 → Int32 → Int32 → zX → Option (zX)) (a1 a2 a3 a4 a6 a7 a8 b0 : Int32) (X : zX) : Option (zX) := if a8 = 0 then jX12_flood_200 F K101 a1 a2 a3 a4 a6 a7 b0 a6 X else if b0 = 0 then jX12_flood_201 F K101 a1 a2 a3 a4 a6 a7 b0 (nI 1) a6 X else jX12_flood_200 F K101 a1 a2 a3 a4 a6 a7 b0 a6 X
set_option maxRecDepth 20000 in
set_option maxHeartbeats 4000000 in
theorem sX12_flood_178 {μ : zM} {F : Nat} {K101 : Int32 → Int32 → Int32 → Int32 → Int32 → zX → Option (zX)} (hK101 : ∀ {xa1 xa2 xa3 xa4 xa6 : Int32} {xX : zX} {ρ : zX}, K101 xa1 xa2 xa3 xa4 xa6 xX = some ρ → zJ mX12_flood 7 (0, 0) (0, 0) (zQ none (zg μ 1 ρ)) 101 [some (zq 1 0), some (zi xa1), some (zi xa2), some (zi xa3), some (zi xa4), none, some (zi xa6), none, none, none, none] [] (zg μ 1 xX)) {a1 a2 a3 a4 a6 a7 a8 b0 : Int32} {X : zX} {ρ : zX} (h : jX12_flood_178 F K101 a1 a2 a3 a4 a6 a7 a8 b0 X = some ρ) : zJ mX12_flood 7 (0, 0) (0, 0) (zQ none (zg μ 1 ρ)) 178 [some (zq 1 0), some (zi a1), some (zi a2), some (zi a3), some (zi a4), none, some (zi a6), some (zi a7), some (zi a8), none, none] [zi b0] (zg μ 1 X) := by
  unfold jX12_flood_178 at h
  refine z_istore dX12_flood_178 (Nat.le_of_ble_eq_true rfl) (z_aload dX12_flood_180 rfl (z_getR dX12_flood_181 fkX12_45 in1_0 sh1_0 rfl (z_iload dX12_flood_184 rfl (z_iload dX12_flood_186 rfl (z_if_eq dX12_flood_188 (fun c1 => ?_) (fun c1 => ?_))))))
  · have h := ziT h (c1)
    exact z_mask [true, true, true, true, true, false, true, true, false, true, false] (sX12_flood_200 hK101 h)
  · have h := ziF h (c1)
    refine z_iload dX12_flood_191 rfl (z_if_ne dX12_flood_193 (fun c2 => ?_) (fun c2 => ?_))
    · have h := ziF h (c2)
      exact z_mask [true, true, true, true, true, false, true, true, false, true, false] (sX12_flood_200 hK101 h)
    · have h := ziT h (c2)
      exact z_const dX12_flood_196 (z_goto dX12_flood_197 (z_mask [true, true, true, true, true, false, true, true, false, true, false] (sX12_flood_201 hK101 h)))
def jX12_flood_177 (F : Nat) (K101 : Int32 → Int32 → Int32 → Int32 → Int32 → zX → Option (zX)) (a1 a2 a3 a4 a6 a7 a8 : Int32) (X : zX) : Option (zX) := jX12_flood_178 F K101 a1 a2 a3 a4 a6 a7 a8 (nI 0) X
set_option maxRecDepth 20000 in
set_option maxHeartbeats 4000000 in
theorem sX12_flood_177 {μ : zM} {F : Nat} {K101 : Int32 → Int32 → Int32 → Int32 → Int32 → zX → Option (zX)} (hK101 : ∀ {xa1 xa2 xa3 xa4 xa6 : Int32} {xX : zX} {ρ : zX}, K101 xa1 xa2 xa3 xa4 xa6 xX = some ρ → zJ mX12_flood 7 (0, 0) (0, 0) (zQ none (zg μ 1 ρ)) 101 [some (zq 1 0), some (zi xa1), some (zi xa2), some (zi xa3), some (zi xa4), none, some (zi xa6), none, none, none, none] [] (zg μ 1 xX)) {a1 a2 a3 a4 a6 a7 a8 : Int32} {X : zX} {ρ : zX} (h : jX12_flood_177 F K101 a1 a2 a3 a4 a6 a7 a8 X = some ρ) : zJ mX12_flood 7 (0, 0) (0, 0) (zQ none (zg μ 1 ρ)) 177 [some (zq 1 0), some (zi a1), some (zi a2), some (zi a3), some (zi a4), none, some (zi a6), some (zi a7), some (zi a8), none, none] [] (zg μ 1 X) := by
  unfold jX12_flood_177 at h
  exact z_const dX12_flood_177 (z_mask [true, true, true, true, true, false, true, true, true, false, false] (sX12_flood_178 hK101 h))
def jX12_flood_151 (F : Nat) (K101 : Int32 → Int32 → Int32 → Int32 → Int32 → zX → Option (zX)) (a1 a2 a3 a4 a6 a7 b0 : Int32) (X : zX) : Option (zX) := if b0 = 0 then jX12_flood_177 F K101 a1 a2 a3 a4 a6 a7 b0 X else zbd (eX12_between F a7 a6 X) fun r3 => zbd (eX12_isLost r3 X) fun y5 => if y5.1 = 0 then jX12_flood_177 F K101 a1 a2 a3 a4 a6 a7 b0 y5.2 else jX12_flood_178 F K101 a1 a2 a3 a4 a6 a7 b0 (nI 1) y5.2
set_option maxRecDepth 20000 in
set_option maxHeartbeats 4000000 in
theorem sX12_flood_151 {μ : zM} {F : Nat} {K101 : Int32 → Int32 → Int32 → Int32 → Int32 → zX → Option (zX)} (hK101 : ∀ {xa1 xa2 xa3 xa4 xa6 : Int32} {xX : zX} {ρ : zX}, K101 xa1 xa2 xa3 xa4 xa6 xX = some ρ → zJ mX12_flood 7 (0, 0) (0, 0) (zQ none (zg μ 1 ρ)) 101 [some (zq 1 0), some (zi xa1), some (zi xa2), some (zi xa3), some (zi xa4), none, some (zi xa6), none, none, none, none] [] (zg μ 1 xX)) {a1 a2 a3 a4 a6 a7 b0 : Int32} {X : zX} {ρ : zX} (h : jX12_flood_151 F K101 a1 a2 a3 a4 a6 a7 b0 X = some ρ) : zJ mX12_flood 7 (0, 0) (0, 0) (zQ none (zg μ 1 ρ)) 151 [some (zq 1 0), some (zi a1), some (zi a2), some (zi a3), some (zi a4), none, some (zi a6), some (zi a7), none, none, none] [zi b0] (zg μ 1 X) := by
  unfold jX12_flood_151 at h
  refine z_istore dX12_flood_151 (Nat.le_of_ble_eq_true rfl) (z_iload dX12_flood_153 rfl (z_if_eq dX12_flood_155 (fun c1 => ?_) (fun c1 => ?_)))
  · have h := ziT h (c1)
    exact z_mask [true, true, true, true, true, false, true, true, true, false, false] (sX12_flood_177 hK101 h)
  · have h := ziF h (c1)
    obtain ⟨r3, l2, h⟩ := zbd_some h
    obtain ⟨y5, l4, h⟩ := zbd_some h
    refine z_aload dX12_flood_158 rfl (z_aload dX12_flood_159 rfl (z_iload dX12_flood_160 rfl (z_iload dX12_flood_162 rfl (z_callV dX12_flood_164 (tX12_between l2) (Nat.le_of_ble_eq_true rfl) cdX12_between naX12_between lkX12_142 imX12_between seX12_between in1_0 sh1_0 rfl rfl rfl (Nat.le_of_ble_eq_true rfl) (z_callV dX12_flood_167 (tX12_isLost l4) (Nat.le_of_ble_eq_true rfl) cdX12_isLost naX12_isLost lkX12_239 imX12_isLost seX12_isLost in1_0 sh1_0 rfl rfl rfl (Nat.le_of_ble_eq_true rfl) (z_if_eq dX12_flood_170 (fun c6 => ?_) (fun c6 => ?_)))))))
    · have h := ziT h (c6)
      exact z_mask [true, true, true, true, true, false, true, true, true, false, false] (sX12_flood_177 hK101 h)
    · have h := ziF h (c6)
      exact z_const dX12_flood_173 (z_goto dX12_flood_174 (z_mask [true, true, true, true, true, false, true, true, true, false, false] (sX12_flood_178 hK101 h)))
def jX12_flood_150 (F : Nat) (K101 : Int32 → Int32 → Int32 → Int32 → Int32 → zX → Option (zX)) (a1 a2 a3 a4 a6 a7 : Int32) (X : zX) : Option (zX) := jX12_flood_151 F K101 a1 a2 a3 a4 a6 a7 (nI 0) X
set_option maxRecDepth 20000 in
set_option maxHeartbeats 4000000 in
theorem sX12_flood_150 {μ : zM} {F : Nat} {K101 : Int32 → Int32 → Int32 → Int32 → Int32 → zX → Option (zX)} (hK101 : ∀ {xa1 xa2 xa3 xa4 xa6 : Int32} {xX : zX} {ρ : zX}, K101 xa1 xa2 xa3 xa4 xa6 xX = some ρ → zJ mX12_flood 7 (0, 0) (0, 0) (zQ none (zg μ 1 ρ)) 101 [some (zq 1 0), some (zi xa1), some (zi xa2), some (zi xa3), some (zi xa4), none, some (zi xa6), none, none, none, none] [] (zg μ 1 xX)) {a1 a2 a3 a4 a6 a7 : Int32} {X : zX} {ρ : zX} (h : jX12_flood_150 F K101 a1 a2 a3 a4 a6 a7 X = some ρ) : zJ mX12_flood 7 (0, 0) (0, 0) (zQ none (zg μ 1 ρ)) 150 [some (zq 1 0), some (zi a1), some (zi a2), some (zi a3), some (zi a4), none, some (zi a6), some (zi a7), none, none, none] [] (zg μ 1 X) := by
  unfold jX12_flood_150 at h
  exact z_const dX12_flood_150 (z_mask [true, true, true, true, true, false, true, true, false, false, false] (sX12_flood_151 hK101 h))
def hX12_flood_101 (F : Nat) : Nat → Int32 → Int32 → Int32 → Int32 → Int32 → zX → Option (zX)
  | 0, _, _, _, _, _, _ => none
  | n + 1, a1, a2, a3, a4, a6, X => if a6 = (-1) then some X else zchk (zin (((nI 6) * a1) + a6) 36) (zchk (zin (X 8 (zn (((nI 6) * a1) + a6))) 6) (if (X 10 (zn (X 8 (zn (((nI 6) * a1) + a6))))) = 0 then jX12_flood_150 F (hX12_flood_101 F n) a1 a2 a3 a4 a6 (X 8 (zn (((nI 6) * a1) + a6))) X else zchk (zin (((nI 6) * a1) + a6) 36) (if a4 < (X 9 (zn (((nI 6) * a1) + a6))) then jX12_flood_150 F (hX12_flood_101 F n) a1 a2 a3 a4 a6 (X 8 (zn (((nI 6) * a1) + a6))) X else jX12_flood_151 F (hX12_flood_101 F n) a1 a2 a3 a4 a6 (X 8 (zn (((nI 6) * a1) + a6))) (nI 1) X)))
set_option maxRecDepth 20000 in
set_option maxHeartbeats 4000000 in
theorem sX12_flood_101 {μ : zM} {F : Nat} : ∀ {n : Nat} {a1 a2 a3 a4 a6 : Int32} {X : zX} {ρ : zX}, hX12_flood_101 F n a1 a2 a3 a4 a6 X = some ρ → zJ mX12_flood 7 (0, 0) (0, 0) (zQ none (zg μ 1 ρ)) 101 [some (zq 1 0), some (zi a1), some (zi a2), some (zi a3), some (zi a4), none, some (zi a6), none, none, none, none] [] (zg μ 1 X) := by
  intro n
  induction n with
  | zero => intro a1 a2 a3 a4 a6 X ρ h; exact nomatch (show (none : Option _) = some ρ from h)
  | succ n ih =>
    intro a1 a2 a3 a4 a6 X ρ h
    have hK101 := @ih
    rw [hX12_flood_101] at h
    refine z_iload dX12_flood_101 rfl (z_const dX12_flood_103 (z_icmp_eq dX12_flood_104 (fun c1 => ?_) (fun c1 => ?_)))
    · have h := ziT h (c1)
      exact z_vretQ dX12_flood_353 rfl (by cases h; rfl)
    · have h := ziF h (c1)
      obtain ⟨s2, h⟩ := zchk_some h
      obtain ⟨s3, h⟩ := zchk_some h
      refine z_aload dX12_flood_107 rfl (z_getR dX12_flood_108 fkX12_39 in1_0 sh1_0 rfl (z_iload dX12_flood_111 rfl (z_iload dX12_flood_112 rfl (z_callS dX12_flood_114 (tX12_at) (Nat.le_of_ble_eq_true rfl) cdX12_at naX12_at lkX12_193 stX12_at rfl rfl (Nat.le_of_ble_eq_true rfl) (z_iald dX12_flood_117 in1_8 sh1_8 (zin_vp s2) (z_istore dX12_flood_118 (Nat.le_of_ble_eq_true rfl) (z_aload dX12_flood_120 rfl (z_getR dX12_flood_121 fkX12_45 in1_0 sh1_0 rfl (z_iload dX12_flood_124 rfl (z_zald dX12_flood_126 in1_10 sh1_10 (zin_vp s3) (z_if_eq dX12_flood_127 (fun c4 => ?_) (fun c4 => ?_))))))))))))
      · have h := ziT h (c4)
        exact z_mask [true, true, true, true, true, false, true, true, false, false, false] (sX12_flood_150 hK101 h)
      · have h := ziF h (c4)
        obtain ⟨s5, h⟩ := zchk_some h
        refine z_aload dX12_flood_130 rfl (z_getR dX12_flood_131 fkX12_42 in1_0 sh1_0 rfl (z_iload dX12_flood_134 rfl (z_iload dX12_flood_135 rfl (z_callS dX12_flood_137 (tX12_at) (Nat.le_of_ble_eq_true rfl) cdX12_at naX12_at lkX12_193 stX12_at rfl rfl (Nat.le_of_ble_eq_true rfl) (z_iald dX12_flood_140 in1_9 sh1_9 (zin_vp s5) (z_iload dX12_flood_141 rfl (z_icmp_gt dX12_flood_143 (fun c6 => ?_) (fun c6 => ?_))))))))
        · have h := ziT h (c6)
          exact z_mask [true, true, true, true, true, false, true, true, false, false, false] (sX12_flood_150 hK101 h)
        · have h := ziF h (c6)
          exact z_const dX12_flood_146 (z_goto dX12_flood_147 (z_mask [true, true, true, true, true, false, true, true, false, false, false] (sX12_flood_151 hK101 h)))
def hX12_flood_36 (F : Nat) : Nat → Int32 → Int32 → Int32 → Int32 → Int32 → Int32 → zX → Option (zX)
  | 0, _, _, _, _, _, _, _ => none
  | n + 1, a1, a2, a3, a4, a5, a6, X => if (X 1 0) ≤ a6 then hX12_flood_101 F F a1 a2 a3 a4 a5 X else if a6 = a1 then jX12_flood_62 F (hX12_flood_36 F n) a1 a2 a3 a4 a5 a6 (nI 1) a6 X else jX12_flood_62 F (hX12_flood_36 F n) a1 a2 a3 a4 a5 a6 (nI 0) a6 X
set_option maxRecDepth 20000 in
set_option maxHeartbeats 4000000 in
theorem sX12_flood_36 {μ : zM} {F : Nat} : ∀ {n : Nat} {a1 a2 a3 a4 a5 a6 : Int32} {X : zX} {ρ : zX}, hX12_flood_36 F n a1 a2 a3 a4 a5 a6 X = some ρ → zJ mX12_flood 7 (0, 0) (0, 0) (zQ none (zg μ 1 ρ)) 36 [some (zq 1 0), some (zi a1), some (zi a2), some (zi a3), some (zi a4), some (zi a5), some (zi a6), none, none, none, none] [] (zg μ 1 X) := by
  intro n
  induction n with
  | zero => intro a1 a2 a3 a4 a5 a6 X ρ h; exact nomatch (show (none : Option _) = some ρ from h)
  | succ n ih =>
    intro a1 a2 a3 a4 a5 a6 X ρ h
    have hK36 := @ih
    rw [hX12_flood_36] at h
    refine z_iload dX12_flood_36 rfl (z_aload dX12_flood_38 rfl (z_callV dX12_flood_39 (tX12_nodes) (Nat.le_of_ble_eq_true rfl) cdX12_nodes naX12_nodes lkX12_67 imX12_nodes seX12_nodes in1_0 sh1_0 rfl rfl rfl (Nat.le_of_ble_eq_true rfl) (z_icmp_ge dX12_flood_42 (fun c1 => ?_) (fun c1 => ?_))))
    · have h := ziT h (c1)
      exact z_iload dX12_flood_97 rfl (z_istore dX12_flood_99 (Nat.le_of_ble_eq_true rfl) (z_mask [true, true, true, true, true, false, true, false, false, false, false] (sX12_flood_101 h)))
    · have h := ziF h (c1)
      refine z_aload dX12_flood_45 rfl (z_getR dX12_flood_46 fkX12_45 in1_0 sh1_0 rfl (z_iload dX12_flood_49 rfl (z_iload dX12_flood_51 rfl (z_iload dX12_flood_53 rfl (z_icmp_ne dX12_flood_54 (fun c2 => ?_) (fun c2 => ?_))))))
      · have h := ziF h (c2)
        exact z_const dX12_flood_61 (z_mask [true, true, true, true, true, true, true, false, false, false, false] (sX12_flood_62 hK36 h))
      · have h := ziT h (c2)
        exact z_const dX12_flood_57 (z_goto dX12_flood_58 (z_mask [true, true, true, true, true, true, true, false, false, false, false] (sX12_flood_62 hK36 h)))
def jX12_flood_31 (F : Nat) (a1 a2 a3 a4 a5 b0 b1 b2 : Int32) (X : zX) : Option (zX) := zchk (zin b2 2422) (hX12_flood_36 F F a1 a2 a3 a4 a5 (nI 0) (zw X 1 (zn b2) (b1 + b0)))
set_option maxRecDepth 20000 in
set_option maxHeartbeats 4000000 in
theorem sX12_flood_31 {μ : zM} {F : Nat} {a1 a2 a3 a4 a5 b0 b1 b2 : Int32} {X : zX} {ρ : zX} (h : jX12_flood_31 F a1 a2 a3 a4 a5 b0 b1 b2 X = some ρ) : zJ mX12_flood 7 (0, 0) (0, 0) (zQ none (zg μ 1 ρ)) 31 [some (zq 1 0), some (zi a1), some (zi a2), some (zi a3), some (zi a4), some (zi a5), none, none, none, none, none] [zi b0, zi b1, zi b2, zq 1 1] (zg μ 1 X) := by
  unfold jX12_flood_31 at h
  obtain ⟨s1, h⟩ := zchk_some h
  exact z_iadd dX12_flood_31 (z_iast dX12_flood_32 in1_1 sh1_1 (zin_vp s1) (z_const dX12_flood_33 (z_istore dX12_flood_34 (Nat.le_of_ble_eq_true rfl) (z_mask [true, true, true, true, true, true, true, false, false, false, false] (sX12_flood_36 h)))))
def eX12_flood (F : Nat) (x0 x1 x2 x3 : Int32) (X : zX) : Option (zX) := zbd (eX12_laysWays F X) fun y2 => zbd (eX12_behindIn F x0 (-1) y2) fun r4 => if r4 = (-1) then jX12_flood_31 F x0 x1 x2 x3 r4 (nI 1) (y2 1 16) (nI 16) y2 else jX12_flood_31 F x0 x1 x2 x3 r4 (nI 0) (y2 1 16) (nI 16) y2
set_option maxRecDepth 20000 in
set_option maxHeartbeats 4000000 in
theorem tX12_flood {μ : zM} {F : Nat} {x0 x1 x2 x3 : Int32} {X : zX} {ρ : zX} (h : eX12_flood F x0 x1 x2 x3 X = some ρ) : LM mX12_flood 7 [zq 1 0, zi x0, zi x1, zi x2, zi x3] (zg μ 1 X) none (zg μ 1 ρ) := by
  unfold eX12_flood at h
  refine LM.of (by decide +kernel) rfl (Nat.le_of_ble_eq_true rfl) ?_
  show zJ mX12_flood 7 (0, 0) (0, 0) _ 0 [some (zq 1 0), some (zi x0), some (zi x1), some (zi x2), some (zi x3), none, none, none, none, none, none] [] _
  obtain ⟨y2, l1, h⟩ := zbd_some h
  obtain ⟨r4, l3, h⟩ := zbd_some h
  refine z_aload dX12_flood_0 rfl (z_callV dX12_flood_1 (tX12_laysWays l1) (Nat.le_of_ble_eq_true rfl) cdX12_laysWays naX12_laysWays lkX12_233 imX12_laysWays seX12_laysWays in1_0 sh1_0 rfl rfl rfl (Nat.le_of_ble_eq_true rfl) (z_aload dX12_flood_4 rfl (z_iload dX12_flood_5 rfl (z_const dX12_flood_6 (z_callV dX12_flood_7 (tX12_behindIn l3) (Nat.le_of_ble_eq_true rfl) cdX12_behindIn naX12_behindIn lkX12_236 imX12_behindIn seX12_behindIn in1_0 sh1_0 rfl rfl rfl (Nat.le_of_ble_eq_true rfl) (z_istore dX12_flood_10 (Nat.le_of_ble_eq_true rfl) (z_aload dX12_flood_12 rfl (z_getR dX12_flood_13 fkX12_13 in1_0 sh1_0 rfl (z_const dX12_flood_16 (z_dup2 dX12_flood_18 rfl rfl (z_ialdN dX12_flood_19 in1_1 sh1_1 (Nat.le_of_ble_eq_true rfl) (Nat.le_of_ble_eq_true rfl) ?_)))))))))))
  refine z_iload dX12_flood_20 rfl (z_const dX12_flood_22 (z_icmp_ne dX12_flood_23 (fun c5 => ?_) (fun c5 => ?_)))
  · have h := ziF h (c5)
    exact z_const dX12_flood_30 (z_mask [true, true, true, true, true, true, false, false, false, false, false] (sX12_flood_31 h))
  · have h := ziT h (c5)
    exact z_const dX12_flood_26 (z_goto dX12_flood_27 (z_mask [true, true, true, true, true, true, false, false, false, false, false] (sX12_flood_31 h)))
-- X12_isHeard
def jX12_isHeard_125 (F : Nat) (a1 a2 a3 a4 a5 b0 : Int32) (X : zX) : Option (Int32 × zX) := zchk (zin (((nI 1542) + ((nI 10) * a1)) + (nI 5)) 2422) (zbd (eX12_hearsHow F a2 (X 1 (zn (((nI 1542) + ((nI 10) * a1)) + (nI 5)))) X) fun y3 => if a3 = (nI 1) then zchk (zin (((nI 1542) + ((nI 10) * a1)) + (nI 6)) 2422) (zbd (eX12_hearsRequest a2 a4 a5 (y3 1 (zn (((nI 1542) + ((nI 10) * a1)) + (nI 6)))) y3) fun y8 => zchk (zbl b0) (some (b0, y8))) else zchk (zbl b0) (some (b0, y3)))
set_option maxRecDepth 20000 in
set_option maxHeartbeats 4000000 in
theorem sX12_isHeard_125 {μ : zM} {F : Nat} {a1 a2 a3 a4 a5 b0 : Int32} {X : zX} {ρ : Int32 × zX} (h : jX12_isHeard_125 F a1 a2 a3 a4 a5 b0 X = some ρ) : zJ mX12_isHeard 7 (0, 0) (0, 0) (zQ (some (zi ρ.1)) (zg μ 1 ρ.2)) 125 [some (zq 1 0), some (zi a1), some (zi a2), some (zi a3), some (zi a4), some (zi a5), none] [zi b0] (zg μ 1 X) := by
  unfold jX12_isHeard_125 at h
  obtain ⟨s1, h⟩ := zchk_some h
  obtain ⟨y3, l2, h⟩ := zbd_some h
  refine z_istore dX12_isHeard_125 (Nat.le_of_ble_eq_true rfl) (z_aload dX12_isHeard_127 rfl (z_iload dX12_isHeard_128 rfl (z_aload dX12_isHeard_129 rfl (z_getR dX12_isHeard_130 fkX12_13 in1_0 sh1_0 rfl (z_iload dX12_isHeard_133 rfl (z_const dX12_isHeard_134 (z_callS dX12_isHeard_135 (tX12_messageAt) (Nat.le_of_ble_eq_true rfl) cdX12_messageAt naX12_messageAt lkX12_227 stX12_messageAt rfl rfl (Nat.le_of_ble_eq_true rfl) (z_iald dX12_isHeard_138 in1_1 sh1_1 (zin_vp s1) (z_callV dX12_isHeard_139 (tX12_hearsHow l2) (Nat.le_of_ble_eq_true rfl) cdX12_hearsHow naX12_hearsHow lkX12_297 imX12_hearsHow seX12_hearsHow in1_0 sh1_0 rfl rfl rfl (Nat.le_of_ble_eq_true rfl) (z_iload dX12_isHeard_142 rfl (z_const dX12_isHeard_143 ?_)))))))))))
  refine z_icmp_ne dX12_isHeard_144 (fun c4 => ?_) (fun c4 => ?_)
  · have h := ziF h (c4)
    obtain ⟨s5, h⟩ := zchk_some h
    exact z_iload dX12_isHeard_167 rfl (z_zretQ dX12_isHeard_169 rfl (zbl_n (id s5)) (by cases h; rfl))
  · have h := ziT h (c4)
    obtain ⟨s6, h⟩ := zchk_some h
    obtain ⟨y8, l7, h⟩ := zbd_some h
    refine z_aload dX12_isHeard_147 rfl (z_iload dX12_isHeard_148 rfl (z_iload dX12_isHeard_149 rfl (z_iload dX12_isHeard_151 rfl (z_aload dX12_isHeard_153 rfl (z_getR dX12_isHeard_154 fkX12_13 in1_0 sh1_0 rfl (z_iload dX12_isHeard_157 rfl (z_const dX12_isHeard_158 (z_callS dX12_isHeard_160 (tX12_messageAt) (Nat.le_of_ble_eq_true rfl) cdX12_messageAt naX12_messageAt lkX12_227 stX12_messageAt rfl rfl (Nat.le_of_ble_eq_true rfl) (z_iald dX12_isHeard_163 in1_1 sh1_1 (zin_vp s6) (z_callV dX12_isHeard_164 (tX12_hearsRequest l7) (Nat.le_of_ble_eq_true rfl) cdX12_hearsRequest naX12_hearsRequest lkX12_300 imX12_hearsRequest seX12_hearsRequest in1_0 sh1_0 rfl rfl rfl (Nat.le_of_ble_eq_true rfl) (z_iload dX12_isHeard_167 rfl ?_)))))))))))
    obtain ⟨s9, h⟩ := zchk_some h
    exact z_zretQ dX12_isHeard_169 rfl (zbl_n (id s9)) (by cases h; rfl)
def jX12_isHeard_124 (F : Nat) (a1 a2 a3 a4 a5 : Int32) (X : zX) : Option (Int32 × zX) := jX12_isHeard_125 F a1 a2 a3 a4 a5 (nI 0) X
set_option maxRecDepth 20000 in
set_option maxHeartbeats 4000000 in
theorem sX12_isHeard_124 {μ : zM} {F : Nat} {a1 a2 a3 a4 a5 : Int32} {X : zX} {ρ : Int32 × zX} (h : jX12_isHeard_124 F a1 a2 a3 a4 a5 X = some ρ) : zJ mX12_isHeard 7 (0, 0) (0, 0) (zQ (some (zi ρ.1)) (zg μ 1 ρ.2)) 124 [some (zq 1 0), some (zi a1), some (zi a2), some (zi a3), some (zi a4), some (zi a5), none] [] (zg μ 1 X) := by
  unfold jX12_isHeard_124 at h
  exact z_const dX12_isHeard_124 (z_mask [true, true, true, true, true, true, false] (sX12_isHeard_125 h))
def jX12_isHeard_112 (F : Nat) (a1 a2 a3 a4 a5 b0 b1 b2 : Int32) (X : zX) : Option (Int32 × zX) := zbd (eX12_hearsPacket F b2 b1 b0 a5 X) fun y2 => if y2.1 = 0 then jX12_isHeard_124 F a1 a2 a3 a4 a5 y2.2 else jX12_isHeard_125 F a1 a2 a3 a4 a5 (nI 1) y2.2
set_option maxRecDepth 20000 in
set_option maxHeartbeats 4000000 in
theorem sX12_isHeard_112 {μ : zM} {F : Nat} {a1 a2 a3 a4 a5 b0 b1 b2 : Int32} {X : zX} {ρ : Int32 × zX} (h : jX12_isHeard_112 F a1 a2 a3 a4 a5 b0 b1 b2 X = some ρ) : zJ mX12_isHeard 7 (0, 0) (0, 0) (zQ (some (zi ρ.1)) (zg μ 1 ρ.2)) 112 [some (zq 1 0), some (zi a1), some (zi a2), some (zi a3), some (zi a4), some (zi a5), none] [zi b0, zi b1, zi b2, zq 1 0] (zg μ 1 X) := by
  unfold jX12_isHeard_112 at h
  obtain ⟨y2, l1, h⟩ := zbd_some h
  refine z_iload dX12_isHeard_112 rfl (z_callV dX12_isHeard_114 (tX12_hearsPacket l1) (Nat.le_of_ble_eq_true rfl) cdX12_hearsPacket naX12_hearsPacket lkX12_293 imX12_hearsPacket seX12_hearsPacket in1_0 sh1_0 rfl rfl rfl (Nat.le_of_ble_eq_true rfl) (z_if_eq dX12_isHeard_117 (fun c3 => ?_) (fun c3 => ?_)))
  · have h := ziT h (c3)
    exact z_mask [true, true, true, true, true, true, false] (sX12_isHeard_124 h)
  · have h := ziF h (c3)
    exact z_const dX12_isHeard_120 (z_goto dX12_isHeard_121 (z_mask [true, true, true, true, true, true, false] (sX12_isHeard_125 h)))
def jX12_isHeard_98 (F : Nat) (a1 a2 a3 a4 a5 : Int32) (X : zX) : Option (Int32 × zX) := if a3 = (nI 2) then jX12_isHeard_112 F a1 a2 a3 a4 a5 (nI 1) a4 a2 X else jX12_isHeard_112 F a1 a2 a3 a4 a5 (nI 0) a4 a2 X
set_option maxRecDepth 20000 in
set_option maxHeartbeats 4000000 in
theorem sX12_isHeard_98 {μ : zM} {F : Nat} {a1 a2 a3 a4 a5 : Int32} {X : zX} {ρ : Int32 × zX} (h : jX12_isHeard_98 F a1 a2 a3 a4 a5 X = some ρ) : zJ mX12_isHeard 7 (0, 0) (0, 0) (zQ (some (zi ρ.1)) (zg μ 1 ρ.2)) 98 [some (zq 1 0), some (zi a1), some (zi a2), some (zi a3), some (zi a4), some (zi a5), none] [] (zg μ 1 X) := by
  unfold jX12_isHeard_98 at h
  refine z_aload dX12_isHeard_98 rfl (z_iload dX12_isHeard_99 rfl (z_iload dX12_isHeard_100 rfl (z_iload dX12_isHeard_102 rfl (z_const dX12_isHeard_103 (z_icmp_ne dX12_isHeard_104 (fun c1 => ?_) (fun c1 => ?_))))))
  · have h := ziF h (c1)
    exact z_const dX12_isHeard_111 (z_mask [true, true, true, true, true, true, false] (sX12_isHeard_112 h))
  · have h := ziT h (c1)
    exact z_const dX12_isHeard_107 (z_goto dX12_isHeard_108 (z_mask [true, true, true, true, true, true, false] (sX12_isHeard_112 h)))
def jX12_isHeard_89 (F : Nat) (a1 a2 a3 a4 a5 : Int32) (X : zX) : Option (Int32 × zX) := if a3 = 0 then jX12_isHeard_98 F a1 a2 a3 a4 a5 X else if a3 = (nI 2) then jX12_isHeard_98 F a1 a2 a3 a4 a5 X else jX12_isHeard_124 F a1 a2 a3 a4 a5 X
set_option maxRecDepth 20000 in
set_option maxHeartbeats 4000000 in
theorem sX12_isHeard_89 {μ : zM} {F : Nat} {a1 a2 a3 a4 a5 : Int32} {X : zX} {ρ : Int32 × zX} (h : jX12_isHeard_89 F a1 a2 a3 a4 a5 X = some ρ) : zJ mX12_isHeard 7 (0, 0) (0, 0) (zQ (some (zi ρ.1)) (zg μ 1 ρ.2)) 89 [some (zq 1 0), some (zi a1), some (zi a2), some (zi a3), some (zi a4), some (zi a5), none] [] (zg μ 1 X) := by
  unfold jX12_isHeard_89 at h
  refine z_iload dX12_isHeard_89 rfl (z_if_eq dX12_isHeard_90 (fun c1 => ?_) (fun c1 => ?_))
  · have h := ziT h (c1)
    exact z_mask [true, true, true, true, true, true, false] (sX12_isHeard_98 h)
  · have h := ziF h (c1)
    refine z_iload dX12_isHeard_93 rfl (z_const dX12_isHeard_94 (z_icmp_ne dX12_isHeard_95 (fun c2 => ?_) (fun c2 => ?_)))
    · have h := ziF h (c2)
      exact z_mask [true, true, true, true, true, true, false] (sX12_isHeard_124 h)
    · have h := ziT h (c2)
      exact z_mask [true, true, true, true, true, true, false] (sX12_isHeard_98 h)
def eX12_isHeard (F : Nat) (x0 : Int32) (X : zX) : Option (Int32 × zX) := zchk (zin (((nI 1542) + ((nI 10) * x0)) + (nI 1)) 2422) (zlet (X 1 (zn (((nI 1542) + ((nI 10) * x0)) + (nI 1)))) fun v2 => zchk (zin (((nI 1542) + ((nI 10) * x0)) + (nI 3)) 2422) (zlet (X 1 (zn (((nI 1542) + ((nI 10) * x0)) + (nI 3)))) fun v4 => zchk (zin (((nI 1542) + ((nI 10) * x0)) + (nI 4)) 2422) (zlet (X 1 (zn (((nI 1542) + ((nI 10) * x0)) + (nI 4)))) fun v6 => zchk (zin (((nI 1542) + ((nI 10) * x0)) + (nI 2)) 2422) (zlet (X 1 (zn (((nI 1542) + ((nI 10) * x0)) + (nI 2)))) fun v8 => zbd (eX12_isUp v2 X) fun r10 => if r10 = 0 then if v4 = 0 then zbd (eX12_hasIt v2 v6 X) fun r17 => if r17 = 0 then zbd (eX12_hasGap v2 v6 (nI 4) X) fun y20 => some ((nI 0), y20) else some ((nI 0), X) else some ((nI 0), X) else if v4 = (nI 3) then zbd (eX12_hearsReport v2 x0 X) fun y14 => jX12_isHeard_89 F x0 v2 v4 v6 v8 y14 else jX12_isHeard_89 F x0 v2 v4 v6 v8 X))))
set_option maxRecDepth 20000 in
set_option maxHeartbeats 4000000 in
theorem tX12_isHeard {μ : zM} {F : Nat} {x0 : Int32} {X : zX} {ρ : Int32 × zX} (h : eX12_isHeard F x0 X = some ρ) : LM mX12_isHeard 7 [zq 1 0, zi x0] (zg μ 1 X) (some (zi ρ.1)) (zg μ 1 ρ.2) := by
  unfold eX12_isHeard at h
  refine LM.of (by decide +kernel) rfl (Nat.le_of_ble_eq_true rfl) ?_
  show zJ mX12_isHeard 7 (0, 0) (0, 0) _ 0 [some (zq 1 0), some (zi x0), none, none, none, none, none] [] _
  obtain ⟨s1, h⟩ := zchk_some h
  have h := zlet_h h
  refine z_aload dX12_isHeard_0 rfl (z_getR dX12_isHeard_1 fkX12_13 in1_0 sh1_0 rfl (z_iload dX12_isHeard_4 rfl (z_const dX12_isHeard_5 (z_callS dX12_isHeard_6 (tX12_messageAt) (Nat.le_of_ble_eq_true rfl) cdX12_messageAt naX12_messageAt lkX12_227 stX12_messageAt rfl rfl (Nat.le_of_ble_eq_true rfl) (z_iald dX12_isHeard_9 in1_1 sh1_1 (zin_vp s1) (z_istore dX12_isHeard_10 (Nat.le_of_ble_eq_true rfl) (z_aload dX12_isHeard_11 rfl (z_getR dX12_isHeard_12 fkX12_13 in1_0 sh1_0 rfl (z_iload dX12_isHeard_15 rfl (z_const dX12_isHeard_16 (z_callS dX12_isHeard_17 (tX12_messageAt) (Nat.le_of_ble_eq_true rfl) cdX12_messageAt naX12_messageAt lkX12_227 stX12_messageAt rfl rfl (Nat.le_of_ble_eq_true rfl) ?_)))))))))))
  obtain ⟨s3, h⟩ := zchk_some h
  have h := zlet_h h
  obtain ⟨s5, h⟩ := zchk_some h
  have h := zlet_h h
  refine z_iald dX12_isHeard_20 in1_1 sh1_1 (zin_vp s3) (z_istore dX12_isHeard_21 (Nat.le_of_ble_eq_true rfl) (z_aload dX12_isHeard_22 rfl (z_getR dX12_isHeard_23 fkX12_13 in1_0 sh1_0 rfl (z_iload dX12_isHeard_26 rfl (z_const dX12_isHeard_27 (z_callS dX12_isHeard_28 (tX12_messageAt) (Nat.le_of_ble_eq_true rfl) cdX12_messageAt naX12_messageAt lkX12_227 stX12_messageAt rfl rfl (Nat.le_of_ble_eq_true rfl) (z_iald dX12_isHeard_31 in1_1 sh1_1 (zin_vp s5) (z_istore dX12_isHeard_32 (Nat.le_of_ble_eq_true rfl) (z_aload dX12_isHeard_34 rfl (z_getR dX12_isHeard_35 fkX12_13 in1_0 sh1_0 rfl (z_iload dX12_isHeard_38 rfl ?_)))))))))))
  obtain ⟨s7, h⟩ := zchk_some h
  have h := zlet_h h
  obtain ⟨r10, l9, h⟩ := zbd_some h
  refine z_const dX12_isHeard_39 (z_callS dX12_isHeard_40 (tX12_messageAt) (Nat.le_of_ble_eq_true rfl) cdX12_messageAt naX12_messageAt lkX12_227 stX12_messageAt rfl rfl (Nat.le_of_ble_eq_true rfl) (z_iald dX12_isHeard_43 in1_1 sh1_1 (zin_vp s7) (z_istore dX12_isHeard_44 (Nat.le_of_ble_eq_true rfl) (z_aload dX12_isHeard_46 rfl (z_iload dX12_isHeard_47 rfl (z_callV dX12_isHeard_48 (tX12_isUp l9) (Nat.le_of_ble_eq_true rfl) cdX12_isUp naX12_isUp lkX12_287 imX12_isUp seX12_isUp in1_0 sh1_0 rfl rfl rfl (Nat.le_of_ble_eq_true rfl) (z_if_ne dX12_isHeard_51 (fun c11 => ?_) (fun c11 => ?_))))))))
  · have h := ziF h (c11)
    refine z_iload dX12_isHeard_78 rfl (z_const dX12_isHeard_79 (z_icmp_ne dX12_isHeard_80 (fun c12 => ?_) (fun c12 => ?_)))
    · have h := ziF h (c12)
      exact z_mask [true, true, true, true, true, true, false] (sX12_isHeard_89 h)
    · have h := ziT h (c12)
      obtain ⟨y14, l13, h⟩ := zbd_some h
      exact z_aload dX12_isHeard_83 rfl (z_iload dX12_isHeard_84 rfl (z_iload dX12_isHeard_85 rfl (z_callV dX12_isHeard_86 (tX12_hearsReport l13) (Nat.le_of_ble_eq_true rfl) cdX12_hearsReport naX12_hearsReport lkX12_290 imX12_hearsReport seX12_hearsReport in1_0 sh1_0 rfl rfl rfl (Nat.le_of_ble_eq_true rfl) (z_mask [true, true, true, true, true, true, false] (sX12_isHeard_89 h)))))
  · have h := ziT h (c11)
    refine z_iload dX12_isHeard_54 rfl (z_if_ne dX12_isHeard_55 (fun c15 => ?_) (fun c15 => ?_))
    · have h := ziF h (c15)
      exact z_const dX12_isHeard_76 (z_zretQ dX12_isHeard_77 rfl rfl (by cases h; rfl))
    · have h := ziT h (c15)
      obtain ⟨r17, l16, h⟩ := zbd_some h
      refine z_aload dX12_isHeard_58 rfl (z_iload dX12_isHeard_59 rfl (z_iload dX12_isHeard_60 rfl (z_callV dX12_isHeard_62 (tX12_hasIt l16) (Nat.le_of_ble_eq_true rfl) cdX12_hasIt naX12_hasIt lkX12_272 imX12_hasIt seX12_hasIt in1_0 sh1_0 rfl rfl rfl (Nat.le_of_ble_eq_true rfl) (z_if_ne dX12_isHeard_65 (fun c18 => ?_) (fun c18 => ?_)))))
      · have h := ziF h (c18)
        exact z_const dX12_isHeard_76 (z_zretQ dX12_isHeard_77 rfl rfl (by cases h; rfl))
      · have h := ziT h (c18)
        obtain ⟨y20, l19, h⟩ := zbd_some h
        exact z_aload dX12_isHeard_68 rfl (z_iload dX12_isHeard_69 rfl (z_iload dX12_isHeard_70 rfl (z_const dX12_isHeard_72 (z_callV dX12_isHeard_73 (tX12_hasGap l19) (Nat.le_of_ble_eq_true rfl) cdX12_hasGap naX12_hasGap lkX12_216 imX12_hasGap seX12_hasGap in1_0 sh1_0 rfl rfl rfl (Nat.le_of_ble_eq_true rfl) (z_const dX12_isHeard_76 (z_zretQ dX12_isHeard_77 rfl rfl (by cases h; rfl)))))))
-- X12_isNearOne
def jX12_isNearOne_42 (F : Nat) (K9 : Int32 → Int32 → Int32 → Int32 → zX → Option (Int32 × zX)) (a1 a2 a4 : Int32) (X : zX) : Option (Int32 × zX) := K9 a1 a2 (nI 1) (a4 + (nI 1)) X
set_option maxRecDepth 20000 in
set_option maxHeartbeats 4000000 in
theorem sX12_isNearOne_42 {μ : zM} {F : Nat} {K9 : Int32 → Int32 → Int32 → Int32 → zX → Option (Int32 × zX)} (hK9 : ∀ {xa1 xa2 xa3 xa4 : Int32} {xX : zX} {ρ : Int32 × zX}, K9 xa1 xa2 xa3 xa4 xX = some ρ → zJ mX12_isNearOne 7 (0, 0) (0, 0) (zQ (some (zi ρ.1)) (zg μ 1 ρ.2)) 9 [some (zq 1 0), some (zi xa1), some (zi xa2), some (zi xa3), some (zi xa4)] [] (zg μ 1 xX)) {a1 a2 a4 : Int32} {X : zX} {ρ : Int32 × zX} (h : jX12_isNearOne_42 F K9 a1 a2 a4 X = some ρ) : zJ mX12_isNearOne 7 (0, 0) (0, 0) (zQ (some (zi ρ.1)) (zg μ 1 ρ.2)) 42 [some (zq 1 0), some (zi a1), some (zi a2), none, some (zi a4)] [] (zg μ 1 X) := by
  unfold jX12_isNearOne_42 at h
  exact z_const dX12_isNearOne_42 (z_goto dX12_isNearOne_43 (z_istore dX12_isNearOne_47 (Nat.le_of_ble_eq_true rfl) (z_iinc dX12_isNearOne_48 (Nat.le_of_ble_eq_true rfl) rfl (z_goto dX12_isNearOne_51 (z_mask [true, true, true, true, true] (hK9 h))))))
def jX12_isNearOne_46 (F : Nat) (K9 : Int32 → Int32 → Int32 → Int32 → zX → Option (Int32 × zX)) (a1 a2 a4 : Int32) (X : zX) : Option (Int32 × zX) := K9 a1 a2 (nI 0) (a4 + (nI 1)) X
set_option maxRecDepth 20000 in
set_option maxHeartbeats 4000000 in
theorem sX12_isNearOne_46 {μ : zM} {F : Nat} {K9 : Int32 → Int32 → Int32 → Int32 → zX → Option (Int32 × zX)} (hK9 : ∀ {xa1 xa2 xa3 xa4 : Int32} {xX : zX} {ρ : Int32 × zX}, K9 xa1 xa2 xa3 xa4 xX = some ρ → zJ mX12_isNearOne 7 (0, 0) (0, 0) (zQ (some (zi ρ.1)) (zg μ 1 ρ.2)) 9 [some (zq 1 0), some (zi xa1), some (zi xa2), some (zi xa3), some (zi xa4)] [] (zg μ 1 xX)) {a1 a2 a4 : Int32} {X : zX} {ρ : Int32 × zX} (h : jX12_isNearOne_46 F K9 a1 a2 a4 X = some ρ) : zJ mX12_isNearOne 7 (0, 0) (0, 0) (zQ (some (zi ρ.1)) (zg μ 1 ρ.2)) 46 [some (zq 1 0), some (zi a1), some (zi a2), none, some (zi a4)] [] (zg μ 1 X) := by
  unfold jX12_isNearOne_46 at h
  exact z_const dX12_isNearOne_46 (z_istore dX12_isNearOne_47 (Nat.le_of_ble_eq_true rfl) (z_iinc dX12_isNearOne_48 (Nat.le_of_ble_eq_true rfl) rfl (z_goto dX12_isNearOne_51 (z_mask [true, true, true, true, true] (hK9 h)))))
def hX12_isNearOne_9 (F : Nat) : Nat → Int32 → Int32 → Int32 → Int32 → zX → Option (Int32 × zX)
  | 0, _, _, _, _, _ => none
  | n + 1, a1, a2, a3, a4, X => if (X 1 0) ≤ a4 then zchk (zbl a3) (some (a3, X)) else if a3 = 0 then zbd (eX12_isWay a1 a4 X) fun r5 => if r5 = 0 then jX12_isNearOne_46 F (hX12_isNearOne_9 F n) a1 a2 a4 X else zbd (eX12_isHolder a4 a2 X) fun r8 => if r8 = 0 then jX12_isNearOne_46 F (hX12_isNearOne_9 F n) a1 a2 a4 X else jX12_isNearOne_42 F (hX12_isNearOne_9 F n) a1 a2 a4 X else jX12_isNearOne_42 F (hX12_isNearOne_9 F n) a1 a2 a4 X
set_option maxRecDepth 20000 in
set_option maxHeartbeats 4000000 in
theorem sX12_isNearOne_9 {μ : zM} {F : Nat} : ∀ {n : Nat} {a1 a2 a3 a4 : Int32} {X : zX} {ρ : Int32 × zX}, hX12_isNearOne_9 F n a1 a2 a3 a4 X = some ρ → zJ mX12_isNearOne 7 (0, 0) (0, 0) (zQ (some (zi ρ.1)) (zg μ 1 ρ.2)) 9 [some (zq 1 0), some (zi a1), some (zi a2), some (zi a3), some (zi a4)] [] (zg μ 1 X) := by
  intro n
  induction n with
  | zero => intro a1 a2 a3 a4 X ρ h; exact nomatch (show (none : Option _) = some ρ from h)
  | succ n ih =>
    intro a1 a2 a3 a4 X ρ h
    have hK9 := @ih
    rw [hX12_isNearOne_9] at h
    refine z_iload dX12_isNearOne_9 rfl (z_aload dX12_isNearOne_11 rfl (z_callV dX12_isNearOne_12 (tX12_nodes) (Nat.le_of_ble_eq_true rfl) cdX12_nodes naX12_nodes lkX12_67 imX12_nodes seX12_nodes in1_0 sh1_0 rfl rfl rfl (Nat.le_of_ble_eq_true rfl) (z_icmp_ge dX12_isNearOne_15 (fun c1 => ?_) (fun c1 => ?_))))
    · have h := ziT h (c1)
      obtain ⟨s2, h⟩ := zchk_some h
      exact z_iload dX12_isNearOne_54 rfl (z_zretQ dX12_isNearOne_55 rfl (zbl_n (id s2)) (by cases h; rfl))
    · have h := ziF h (c1)
      refine z_iload dX12_isNearOne_18 rfl (z_if_ne dX12_isNearOne_19 (fun c3 => ?_) (fun c3 => ?_))
      · have h := ziF h (c3)
        exact z_mask [true, true, true, false, true] (sX12_isNearOne_42 hK9 h)
      · have h := ziT h (c3)
        obtain ⟨r5, l4, h⟩ := zbd_some h
        refine z_aload dX12_isNearOne_22 rfl (z_iload dX12_isNearOne_23 rfl (z_iload dX12_isNearOne_24 rfl (z_callV dX12_isNearOne_26 (tX12_isWay l4) (Nat.le_of_ble_eq_true rfl) cdX12_isWay naX12_isWay lkX12_204 imX12_isWay seX12_isWay in1_0 sh1_0 rfl rfl rfl (Nat.le_of_ble_eq_true rfl) (z_if_eq dX12_isNearOne_29 (fun c6 => ?_) (fun c6 => ?_)))))
        · have h := ziT h (c6)
          exact z_mask [true, true, true, false, true] (sX12_isNearOne_46 hK9 h)
        · have h := ziF h (c6)
          obtain ⟨r8, l7, h⟩ := zbd_some h
          refine z_aload dX12_isNearOne_32 rfl (z_iload dX12_isNearOne_33 rfl (z_iload dX12_isNearOne_35 rfl (z_callV dX12_isNearOne_36 (tX12_isHolder l7) (Nat.le_of_ble_eq_true rfl) cdX12_isHolder naX12_isHolder lkX12_345 imX12_isHolder seX12_isHolder in1_0 sh1_0 rfl rfl rfl (Nat.le_of_ble_eq_true rfl) (z_if_eq dX12_isNearOne_39 (fun c9 => ?_) (fun c9 => ?_)))))
          · have h := ziT h (c9)
            exact z_mask [true, true, true, false, true] (sX12_isNearOne_46 hK9 h)
          · have h := ziF h (c9)
            exact z_mask [true, true, true, false, true] (sX12_isNearOne_42 hK9 h)
def eX12_isNearOne (F : Nat) (x0 x1 : Int32) (X : zX) : Option (Int32 × zX) := zbd (eX12_laysWays F X) fun y2 => hX12_isNearOne_9 F F x0 x1 (nI 0) (nI 0) y2
set_option maxRecDepth 20000 in
set_option maxHeartbeats 4000000 in
theorem tX12_isNearOne {μ : zM} {F : Nat} {x0 x1 : Int32} {X : zX} {ρ : Int32 × zX} (h : eX12_isNearOne F x0 x1 X = some ρ) : LM mX12_isNearOne 7 [zq 1 0, zi x0, zi x1] (zg μ 1 X) (some (zi ρ.1)) (zg μ 1 ρ.2) := by
  unfold eX12_isNearOne at h
  refine LM.of (by decide +kernel) rfl (Nat.le_of_ble_eq_true rfl) ?_
  show zJ mX12_isNearOne 7 (0, 0) (0, 0) _ 0 [some (zq 1 0), some (zi x0), some (zi x1), none, none] [] _
  obtain ⟨y2, l1, h⟩ := zbd_some h
  exact z_aload dX12_isNearOne_0 rfl (z_callV dX12_isNearOne_1 (tX12_laysWays l1) (Nat.le_of_ble_eq_true rfl) cdX12_laysWays naX12_laysWays lkX12_233 imX12_laysWays seX12_laysWays in1_0 sh1_0 rfl rfl rfl (Nat.le_of_ble_eq_true rfl) (z_const dX12_isNearOne_4 (z_istore dX12_isNearOne_5 (Nat.le_of_ble_eq_true rfl) (z_const dX12_isNearOne_6 (z_istore dX12_isNearOne_7 (Nat.le_of_ble_eq_true rfl) (z_mask [true, true, true, true, true] (sX12_isNearOne_9 h)))))))
-- X12_near
def jX12_near_84 (F : Nat) (K20 : Int32 → Int32 → Int32 → Int32 → zX → Option (Int32 × zX)) (a1 a2 a4 : Int32) (X : zX) : Option (Int32 × zX) := K20 a1 a2 a4 (a4 + (nI 1)) X
set_option maxRecDepth 20000 in
set_option maxHeartbeats 4000000 in
theorem sX12_near_84 {μ : zM} {F : Nat} {K20 : Int32 → Int32 → Int32 → Int32 → zX → Option (Int32 × zX)} (hK20 : ∀ {xa1 xa2 xa3 xa4 : Int32} {xX : zX} {ρ : Int32 × zX}, K20 xa1 xa2 xa3 xa4 xX = some ρ → zJ mX12_near 7 (0, 0) (0, 0) (zQ (some (zi ρ.1)) (zg μ 1 ρ.2)) 20 [some (zq 1 0), some (zi xa1), some (zi xa2), some (zi xa3), some (zi xa4)] [] (zg μ 1 xX)) {a1 a2 a4 : Int32} {X : zX} {ρ : Int32 × zX} (h : jX12_near_84 F K20 a1 a2 a4 X = some ρ) : zJ mX12_near 7 (0, 0) (0, 0) (zQ (some (zi ρ.1)) (zg μ 1 ρ.2)) 84 [some (zq 1 0), some (zi a1), some (zi a2), none, some (zi a4)] [] (zg μ 1 X) := by
  unfold jX12_near_84 at h
  exact z_iload dX12_near_84 rfl (z_istore dX12_near_86 (Nat.le_of_ble_eq_true rfl) (z_iinc dX12_near_87 (Nat.le_of_ble_eq_true rfl) rfl (z_goto dX12_near_90 (z_mask [true, true, true, true, true] (hK20 h)))))
def hX12_near_20 (F : Nat) : Nat → Int32 → Int32 → Int32 → Int32 → zX → Option (Int32 × zX)
  | 0, _, _, _, _, _ => none
  | n + 1, a1, a2, a3, a4, X => if (X 1 0) ≤ a4 then some (a3, X) else zbd (eX12_isHolder a4 a2 X) fun r3 => if r3 = 0 then (hX12_near_20 F n) a1 a2 a3 (a4 + (nI 1)) X else zchk (zin (((nI 6) * a1) + a4) 36) (if 1000000 ≤ (X 7 (zn (((nI 6) * a1) + a4))) then (hX12_near_20 F n) a1 a2 a3 (a4 + (nI 1)) X else if a3 = (-1) then jX12_near_84 F (hX12_near_20 F n) a1 a2 a4 X else zchk (zin (((nI 6) * a1) + a4) 36) (zchk (zin (((nI 6) * a1) + a3) 36) (if (X 7 (zn (((nI 6) * a1) + a3))) ≤ (X 7 (zn (((nI 6) * a1) + a4))) then (hX12_near_20 F n) a1 a2 a3 (a4 + (nI 1)) X else jX12_near_84 F (hX12_near_20 F n) a1 a2 a4 X)))
set_option maxRecDepth 20000 in
set_option maxHeartbeats 4000000 in
theorem sX12_near_20 {μ : zM} {F : Nat} : ∀ {n : Nat} {a1 a2 a3 a4 : Int32} {X : zX} {ρ : Int32 × zX}, hX12_near_20 F n a1 a2 a3 a4 X = some ρ → zJ mX12_near 7 (0, 0) (0, 0) (zQ (some (zi ρ.1)) (zg μ 1 ρ.2)) 20 [some (zq 1 0), some (zi a1), some (zi a2), some (zi a3), some (zi a4)] [] (zg μ 1 X) := by
  intro n
  induction n with
  | zero => intro a1 a2 a3 a4 X ρ h; exact nomatch (show (none : Option _) = some ρ from h)
  | succ n ih =>
    intro a1 a2 a3 a4 X ρ h
    have hK20 := @ih
    rw [hX12_near_20] at h
    refine z_iload dX12_near_20 rfl (z_aload dX12_near_22 rfl (z_callV dX12_near_23 (tX12_nodes) (Nat.le_of_ble_eq_true rfl) cdX12_nodes naX12_nodes lkX12_67 imX12_nodes seX12_nodes in1_0 sh1_0 rfl rfl rfl (Nat.le_of_ble_eq_true rfl) (z_icmp_ge dX12_near_26 (fun c1 => ?_) (fun c1 => ?_))))
    · have h := ziT h (c1)
      exact z_iload dX12_near_93 rfl (z_iretQ dX12_near_94 rfl (by cases h; rfl))
    · have h := ziF h (c1)
      obtain ⟨r3, l2, h⟩ := zbd_some h
      refine z_aload dX12_near_29 rfl (z_iload dX12_near_30 rfl (z_iload dX12_near_32 rfl (z_callV dX12_near_33 (tX12_isHolder l2) (Nat.le_of_ble_eq_true rfl) cdX12_isHolder naX12_isHolder lkX12_345 imX12_isHolder seX12_isHolder in1_0 sh1_0 rfl rfl rfl (Nat.le_of_ble_eq_true rfl) (z_if_eq dX12_near_36 (fun c4 => ?_) (fun c4 => ?_)))))
      · have h := ziT h (c4)
        exact z_iinc dX12_near_87 (Nat.le_of_ble_eq_true rfl) rfl (z_goto dX12_near_90 (z_mask [true, true, true, true, true] (hK20 h)))
      · have h := ziF h (c4)
        obtain ⟨s5, h⟩ := zchk_some h
        refine z_aload dX12_near_39 rfl (z_getR dX12_near_40 fkX12_36 in1_0 sh1_0 rfl (z_iload dX12_near_43 rfl (z_iload dX12_near_44 rfl (z_callS dX12_near_46 (tX12_at) (Nat.le_of_ble_eq_true rfl) cdX12_at naX12_at lkX12_193 stX12_at rfl rfl (Nat.le_of_ble_eq_true rfl) (z_iald dX12_near_49 in1_7 sh1_7 (zin_vp s5) (z_ldc dX12_near_50 ckX12_192 (z_icmp_ge dX12_near_52 (fun c6 => ?_) (fun c6 => ?_))))))))
        · have h := ziT h (c6)
          exact z_iinc dX12_near_87 (Nat.le_of_ble_eq_true rfl) rfl (z_goto dX12_near_90 (z_mask [true, true, true, true, true] (hK20 h)))
        · have h := ziF h (c6)
          refine z_iload dX12_near_55 rfl (z_const dX12_near_56 (z_icmp_eq dX12_near_57 (fun c7 => ?_) (fun c7 => ?_)))
          · have h := ziT h (c7)
            exact z_mask [true, true, true, false, true] (sX12_near_84 hK20 h)
          · have h := ziF h (c7)
            obtain ⟨s8, h⟩ := zchk_some h
            obtain ⟨s9, h⟩ := zchk_some h
            refine z_aload dX12_near_60 rfl (z_getR dX12_near_61 fkX12_36 in1_0 sh1_0 rfl (z_iload dX12_near_64 rfl (z_iload dX12_near_65 rfl (z_callS dX12_near_67 (tX12_at) (Nat.le_of_ble_eq_true rfl) cdX12_at naX12_at lkX12_193 stX12_at rfl rfl (Nat.le_of_ble_eq_true rfl) (z_iald dX12_near_70 in1_7 sh1_7 (zin_vp s8) (z_aload dX12_near_71 rfl (z_getR dX12_near_72 fkX12_36 in1_0 sh1_0 rfl (z_iload dX12_near_75 rfl (z_iload dX12_near_76 rfl (z_callS dX12_near_77 (tX12_at) (Nat.le_of_ble_eq_true rfl) cdX12_at naX12_at lkX12_193 stX12_at rfl rfl (Nat.le_of_ble_eq_true rfl) (z_iald dX12_near_80 in1_7 sh1_7 (zin_vp s9) ?_)))))))))))
            refine z_icmp_ge dX12_near_81 (fun c10 => ?_) (fun c10 => ?_)
            · have h := ziT h (c10)
              exact z_iinc dX12_near_87 (Nat.le_of_ble_eq_true rfl) rfl (z_goto dX12_near_90 (z_mask [true, true, true, true, true] (hK20 h)))
            · have h := ziF h (c10)
              exact z_mask [true, true, true, false, true] (sX12_near_84 hK20 h)
def eX12_near (F : Nat) (x0 x1 : Int32) (X : zX) : Option (Int32 × zX) := zbd (eX12_noNodePacket x0 x1 X) fun y2 => if y2.1 = 0 then zbd (eX12_laysWays F y2.2) fun y5 => hX12_near_20 F F x0 x1 (-1) (nI 0) y5 else some ((nI 0), y2.2)
set_option maxRecDepth 20000 in
set_option maxHeartbeats 4000000 in
theorem tX12_near {μ : zM} {F : Nat} {x0 x1 : Int32} {X : zX} {ρ : Int32 × zX} (h : eX12_near F x0 x1 X = some ρ) : LM mX12_near 7 [zq 1 0, zi x0, zi x1] (zg μ 1 X) (some (zi ρ.1)) (zg μ 1 ρ.2) := by
  unfold eX12_near at h
  refine LM.of (by decide +kernel) rfl (Nat.le_of_ble_eq_true rfl) ?_
  show zJ mX12_near 7 (0, 0) (0, 0) _ 0 [some (zq 1 0), some (zi x0), some (zi x1), none, none] [] _
  obtain ⟨y2, l1, h⟩ := zbd_some h
  refine z_aload dX12_near_0 rfl (z_iload dX12_near_1 rfl (z_iload dX12_near_2 rfl (z_callV dX12_near_3 (tX12_noNodePacket l1) (Nat.le_of_ble_eq_true rfl) cdX12_noNodePacket naX12_noNodePacket lkX12_339 imX12_noNodePacket seX12_noNodePacket in1_0 sh1_0 rfl rfl rfl (Nat.le_of_ble_eq_true rfl) (z_if_eq dX12_near_6 (fun c3 => ?_) (fun c3 => ?_)))))
  · have h := ziT h (c3)
    obtain ⟨y5, l4, h⟩ := zbd_some h
    exact z_aload dX12_near_11 rfl (z_callV dX12_near_12 (tX12_laysWays l4) (Nat.le_of_ble_eq_true rfl) cdX12_laysWays naX12_laysWays lkX12_233 imX12_laysWays seX12_laysWays in1_0 sh1_0 rfl rfl rfl (Nat.le_of_ble_eq_true rfl) (z_const dX12_near_15 (z_istore dX12_near_16 (Nat.le_of_ble_eq_true rfl) (z_const dX12_near_17 (z_istore dX12_near_18 (Nat.le_of_ble_eq_true rfl) (z_mask [true, true, true, true, true] (sX12_near_20 h)))))))
  · have h := ziF h (c3)
    exact z_const dX12_near_9 (z_iretQ dX12_near_10 rfl (by cases h; rfl))
-- X12_noTwo
def jX12_noTwo_31 (F : Nat) (b0 : Int32) (X : zX) : Option (Int32 × zX) := zbd (eX12_throwsIf b0 (nI 1) X) fun y2 => zchk (zbl y2.1) (some (y2.1, y2.2))
set_option maxRecDepth 20000 in
set_option maxHeartbeats 4000000 in
theorem sX12_noTwo_31 {μ : zM} {F : Nat} {b0 : Int32} {X : zX} {ρ : Int32 × zX} (h : jX12_noTwo_31 F b0 X = some ρ) : zJ mX12_noTwo 7 (0, 0) (0, 0) (zQ (some (zi ρ.1)) (zg μ 1 ρ.2)) 31 [none, none, none] [zi b0, zq 1 0] (zg μ 1 X) := by
  unfold jX12_noTwo_31 at h
  obtain ⟨y2, l1, h⟩ := zbd_some h
  obtain ⟨s3, h⟩ := zchk_some h
  exact z_const dX12_noTwo_31 (z_callV dX12_noTwo_32 (tX12_throwsIf l1) (Nat.le_of_ble_eq_true rfl) cdX12_throwsIf naX12_throwsIf lkX12_188 imX12_throwsIf seX12_throwsIf in1_0 sh1_0 rfl rfl rfl (Nat.le_of_ble_eq_true rfl) (z_zretQ dX12_noTwo_35 rfl (zbl_n (id s3)) (by cases h; rfl)))
def jX12_noTwo_26 (F : Nat) (X : zX) : Option (Int32 × zX) := jX12_noTwo_31 F (nI 1) X
set_option maxRecDepth 20000 in
set_option maxHeartbeats 4000000 in
theorem sX12_noTwo_26 {μ : zM} {F : Nat} {X : zX} {ρ : Int32 × zX} (h : jX12_noTwo_26 F  X = some ρ) : zJ mX12_noTwo 7 (0, 0) (0, 0) (zQ (some (zi ρ.1)) (zg μ 1 ρ.2)) 26 [none, none, none] [zq 1 0] (zg μ 1 X) := by
  unfold jX12_noTwo_26 at h
  exact z_const dX12_noTwo_26 (z_goto dX12_noTwo_27 (z_mask [false, false, false] (sX12_noTwo_31 h)))
def eX12_noTwo (F : Nat) (x0 x1 : Int32) (X : zX) : Option (Int32 × zX) := zbd (eX12_laysWays F (zw X 0 0 (nI 0))) fun y2 => zbd (eX12_noNode x0 y2) fun r4 => if r4 = 0 then zbd (eX12_noNode x1 y2) fun r7 => if r7 = 0 then jX12_noTwo_31 F (nI 0) y2 else jX12_noTwo_26 F y2 else jX12_noTwo_26 F y2
set_option maxRecDepth 20000 in
set_option maxHeartbeats 4000000 in
theorem tX12_noTwo {μ : zM} {F : Nat} {x0 x1 : Int32} {X : zX} {ρ : Int32 × zX} (h : eX12_noTwo F x0 x1 X = some ρ) : LM mX12_noTwo 7 [zq 1 0, zi x0, zi x1] (zg μ 1 X) (some (zi ρ.1)) (zg μ 1 ρ.2) := by
  unfold eX12_noTwo at h
  refine LM.of (by decide +kernel) rfl (Nat.le_of_ble_eq_true rfl) ?_
  show zJ mX12_noTwo 7 (0, 0) (0, 0) _ 0 [some (zq 1 0), some (zi x0), some (zi x1)] [] _
  obtain ⟨y2, l1, h⟩ := zbd_some h
  obtain ⟨r4, l3, h⟩ := zbd_some h
  refine z_aload dX12_noTwo_0 rfl (z_const dX12_noTwo_1 (z_putI dX12_noTwo_2 fkX12_3 in1_0 sh1_0 rfl (fun _ _ _ h => by cases h; rfl) ⟨_, rfl, rfl, rfl⟩ (z_aload dX12_noTwo_5 rfl (z_callV dX12_noTwo_6 (tX12_laysWays l1) (Nat.le_of_ble_eq_true rfl) cdX12_laysWays naX12_laysWays lkX12_233 imX12_laysWays seX12_laysWays in1_0 sh1_0 rfl rfl rfl (Nat.le_of_ble_eq_true rfl) (z_aload dX12_noTwo_9 rfl (z_aload dX12_noTwo_10 rfl (z_iload dX12_noTwo_11 rfl (z_callV dX12_noTwo_12 (tX12_noNode l3) (Nat.le_of_ble_eq_true rfl) cdX12_noNode naX12_noNode lkX12_330 imX12_noNode seX12_noNode in1_0 sh1_0 rfl rfl rfl (Nat.le_of_ble_eq_true rfl) (z_if_ne dX12_noTwo_15 (fun c5 => ?_) (fun c5 => ?_))))))))))
  · have h := ziF h (c5)
    exact z_mask [false, false, false] (sX12_noTwo_26 h)
  · have h := ziT h (c5)
    obtain ⟨r7, l6, h⟩ := zbd_some h
    refine z_aload dX12_noTwo_18 rfl (z_iload dX12_noTwo_19 rfl (z_callV dX12_noTwo_20 (tX12_noNode l6) (Nat.le_of_ble_eq_true rfl) cdX12_noNode naX12_noNode lkX12_330 imX12_noNode seX12_noNode in1_0 sh1_0 rfl rfl rfl (Nat.le_of_ble_eq_true rfl) (z_if_eq dX12_noTwo_23 (fun c8 => ?_) (fun c8 => ?_))))
    · have h := ziT h (c8)
      exact z_const dX12_noTwo_30 (z_mask [false, false, false] (sX12_noTwo_31 h))
    · have h := ziF h (c8)
      exact z_mask [false, false, false] (sX12_noTwo_26 h)
-- X12_passess31
def eX12_passess31 (F : Nat) (X : zX) : Option (Int32 × zX) := zbd (eX12_letters F X) fun y2 => zbd (eX12_isWords31 F y2) fun r4 => if r4 = 0 then some ((nI 0), zw y2 0 8 (y2 0 10)) else some ((nI 1), y2)
set_option maxRecDepth 20000 in
set_option maxHeartbeats 4000000 in
theorem tX12_passess31 {μ : zM} {F : Nat} {X : zX} {ρ : Int32 × zX} (h : eX12_passess31 F X = some ρ) : LM mX12_passes 7 [zq 1 0, zq 3 32] (zg μ 1 X) (some (zi ρ.1)) (zg μ 1 ρ.2) := by
  unfold eX12_passess31 at h
  refine LM.of (by decide +kernel) rfl (Nat.le_of_ble_eq_true rfl) ?_
  show zJ mX12_passes 7 (0, 0) (0, 0) _ 0 [some (zq 1 0), some (zq 3 32)] [] _
  obtain ⟨y2, l1, h⟩ := zbd_some h
  obtain ⟨r4, l3, h⟩ := zbd_some h
  refine z_aload dX12_passes_0 rfl (z_callV dX12_passes_1 (tX12_letters l1) (Nat.le_of_ble_eq_true rfl) cdX12_letters naX12_letters lkX12_113 imX12_letters seX12_letters in1_0 sh1_0 rfl rfl rfl (Nat.le_of_ble_eq_true rfl) (z_aload dX12_passes_4 rfl (z_aload dX12_passes_5 rfl (z_callV dX12_passes_6 (tX12_isWords31 l3) (Nat.le_of_ble_eq_true rfl) cdX12_isWord naX12_isWord lkX12_116 imX12_isWord seX12_isWord in1_0 sh1_0 rfl rfl rfl (Nat.le_of_ble_eq_true rfl) (z_if_eq dX12_passes_9 (fun c5 => ?_) (fun c5 => ?_))))))
  · have h := ziT h (c5)
    exact z_aload dX12_passes_14 rfl (z_aload dX12_passes_15 rfl (z_getI dX12_passes_16 fkX12_98 in1_0 sh1_0 rfl (z_putI dX12_passes_19 fkX12_89 in1_0 sh1_0 rfl (fun _ _ _ h => by cases h; rfl) ⟨_, rfl, rfl, rfl⟩ (z_const dX12_passes_22 (z_zretQ dX12_passes_23 rfl rfl (by cases h; rfl))))))
  · have h := ziF h (c5)
    exact z_const dX12_passes_12 (z_zretQ dX12_passes_13 rfl rfl (by cases h; rfl))
-- X12_reach
def jX12_reach_33 (F : Nat) (a1 a2 b0 : Int32) (X : zX) : Option (Int32 × zX) := zbd (eX12_throwsIf b0 (nI 2) X) fun y2 => if y2.1 = 0 then zbd (eX12_laysWays F y2.2) fun y5 => zbd (eX12_reachOf F a1 a2 y5) fun r7 => some (r7, y5) else some ((nI 0), y2.2)
set_option maxRecDepth 20000 in
set_option maxHeartbeats 4000000 in
theorem sX12_reach_33 {μ : zM} {F : Nat} {a1 a2 b0 : Int32} {X : zX} {ρ : Int32 × zX} (h : jX12_reach_33 F a1 a2 b0 X = some ρ) : zJ mX12_reach 7 (0, 0) (0, 0) (zQ (some (zi ρ.1)) (zg μ 1 ρ.2)) 33 [some (zq 1 0), some (zi a1), some (zi a2)] [zi b0, zq 1 0] (zg μ 1 X) := by
  unfold jX12_reach_33 at h
  obtain ⟨y2, l1, h⟩ := zbd_some h
  refine z_const dX12_reach_33 (z_callV dX12_reach_34 (tX12_throwsIf l1) (Nat.le_of_ble_eq_true rfl) cdX12_throwsIf naX12_throwsIf lkX12_188 imX12_throwsIf seX12_throwsIf in1_0 sh1_0 rfl rfl rfl (Nat.le_of_ble_eq_true rfl) (z_if_eq dX12_reach_37 (fun c3 => ?_) (fun c3 => ?_)))
  · have h := ziT h (c3)
    obtain ⟨y5, l4, h⟩ := zbd_some h
    obtain ⟨r7, l6, h⟩ := zbd_some h
    exact z_aload dX12_reach_42 rfl (z_callV dX12_reach_43 (tX12_laysWays l4) (Nat.le_of_ble_eq_true rfl) cdX12_laysWays naX12_laysWays lkX12_233 imX12_laysWays seX12_laysWays in1_0 sh1_0 rfl rfl rfl (Nat.le_of_ble_eq_true rfl) (z_aload dX12_reach_46 rfl (z_iload dX12_reach_47 rfl (z_iload dX12_reach_48 rfl (z_callV dX12_reach_49 (tX12_reachOf l6) (Nat.le_of_ble_eq_true rfl) cdX12_reachOf naX12_reachOf lkX12_348 imX12_reachOf seX12_reachOf in1_0 sh1_0 rfl rfl rfl (Nat.le_of_ble_eq_true rfl) (z_iretQ dX12_reach_52 rfl (by cases h; rfl)))))))
  · have h := ziF h (c3)
    exact z_const dX12_reach_40 (z_iretQ dX12_reach_41 rfl (by cases h; rfl))
def eX12_reach (F : Nat) (x0 x1 : Int32) (X : zX) : Option (Int32 × zX) := zbd (eX12_noNode x0 (zw X 0 0 (nI 0))) fun r2 => zbd (eX12_throwsIf r2 (nI 1) (zw X 0 0 (nI 0))) fun y4 => if y4.1 = 0 then if (¬ (x1 < (nI 0))) ∧ (¬ ((nI 5) < x1)) then jX12_reach_33 F x0 x1 (nI 0) y4.2 else jX12_reach_33 F x0 x1 (nI 1) y4.2 else some ((nI 0), y4.2)
set_option maxRecDepth 20000 in
set_option maxHeartbeats 4000000 in
theorem tX12_reach {μ : zM} {F : Nat} {x0 x1 : Int32} {X : zX} {ρ : Int32 × zX} (h : eX12_reach F x0 x1 X = some ρ) : LM mX12_reach 7 [zq 1 0, zi x0, zi x1] (zg μ 1 X) (some (zi ρ.1)) (zg μ 1 ρ.2) := by
  unfold eX12_reach at h
  refine LM.of (by decide +kernel) rfl (Nat.le_of_ble_eq_true rfl) ?_
  show zJ mX12_reach 7 (0, 0) (0, 0) _ 0 [some (zq 1 0), some (zi x0), some (zi x1)] [] _
  obtain ⟨r2, l1, h⟩ := zbd_some h
  obtain ⟨y4, l3, h⟩ := zbd_some h
  refine z_aload dX12_reach_0 rfl (z_const dX12_reach_1 (z_putI dX12_reach_2 fkX12_3 in1_0 sh1_0 rfl (fun _ _ _ h => by cases h; rfl) ⟨_, rfl, rfl, rfl⟩ (z_aload dX12_reach_5 rfl (z_aload dX12_reach_6 rfl (z_iload dX12_reach_7 rfl (z_callV dX12_reach_8 (tX12_noNode l1) (Nat.le_of_ble_eq_true rfl) cdX12_noNode naX12_noNode lkX12_330 imX12_noNode seX12_noNode in1_0 sh1_0 rfl rfl rfl (Nat.le_of_ble_eq_true rfl) (z_const dX12_reach_11 (z_callV dX12_reach_12 (tX12_throwsIf l3) (Nat.le_of_ble_eq_true rfl) cdX12_throwsIf naX12_throwsIf lkX12_188 imX12_throwsIf seX12_throwsIf in1_0 sh1_0 rfl rfl rfl (Nat.le_of_ble_eq_true rfl) (z_if_ne dX12_reach_15 (fun c5 => ?_) (fun c5 => ?_))))))))))
  · have h := ziF h (c5)
    exact z_const dX12_reach_40 (z_iretQ dX12_reach_41 rfl (by cases h; rfl))
  · have h := ziT h (c5)
    refine z_aload dX12_reach_18 rfl (z_iload dX12_reach_19 rfl (z_const dX12_reach_20 (z_const dX12_reach_21 (z_callS dX12_reach_22 (tX12_in) (Nat.le_of_ble_eq_true rfl) cdX12_in naX12_in lkX12_71 stX12_in rfl rfl (Nat.le_of_ble_eq_true rfl) (z_if_ne dX12_reach_25 (fun c6 => ?_) (fun c6 => ?_))))))
    · have h := ziT h (zB_n0.mp c6)
      exact z_const dX12_reach_32 (z_mask [true, true, true] (sX12_reach_33 h))
    · have h := ziF h (zB_0.mp c6)
      exact z_const dX12_reach_28 (z_goto dX12_reach_29 (z_mask [true, true, true] (sX12_reach_33 h)))
-- X12_spread
def jX12_spread_91 (F : Nat) (K47 : Int32 → Int32 → Int32 → Int32 → zX → Option (Int32 × zX)) (K59 : Int32 → Int32 → Int32 → Int32 → Int32 → Int32 → zX → Option (Int32 × zX)) (a1 a2 a3 a4 a6 b0 b1 : Int32) (X : zX) : Option (Int32 × zX) := K59 a1 a2 a3 a4 (b1 ||| b0) (a6 + (nI 1)) X
set_option maxRecDepth 20000 in
set_option maxHeartbeats 4000000 in
theorem sX12_spread_91 {μ : zM} {F : Nat} {K47 : Int32 → Int32 → Int32 → Int32 → zX → Option (Int32 × zX)} {K59 : Int32 → Int32 → Int32 → Int32 → Int32 → Int32 → zX → Option (Int32 × zX)} (hK47 : ∀ {xa1 xa2 xa3 xa4 : Int32} {xX : zX} {ρ : Int32 × zX}, K47 xa1 xa2 xa3 xa4 xX = some ρ → zJ mX12_spread 7 (0, 0) (0, 0) (zQ (some (zi ρ.1)) (zg μ 1 ρ.2)) 47 [some (zq 1 0), some (zi xa1), some (zi xa2), some (zi xa3), some (zi xa4), none, none] [] (zg μ 1 xX)) (hK59 : ∀ {xa1 xa2 xa3 xa4 xa5 xa6 : Int32} {xX : zX} {ρ : Int32 × zX}, K59 xa1 xa2 xa3 xa4 xa5 xa6 xX = some ρ → zJ mX12_spread 7 (0, 0) (0, 0) (zQ (some (zi ρ.1)) (zg μ 1 ρ.2)) 59 [some (zq 1 0), some (zi xa1), some (zi xa2), some (zi xa3), some (zi xa4), some (zi xa5), some (zi xa6)] [] (zg μ 1 xX)) {a1 a2 a3 a4 a6 b0 b1 : Int32} {X : zX} {ρ : Int32 × zX} (h : jX12_spread_91 F K47 K59 a1 a2 a3 a4 a6 b0 b1 X = some ρ) : zJ mX12_spread 7 (0, 0) (0, 0) (zQ (some (zi ρ.1)) (zg μ 1 ρ.2)) 91 [some (zq 1 0), some (zi a1), some (zi a2), some (zi a3), some (zi a4), none, some (zi a6)] [zi b0, zi b1] (zg μ 1 X) := by
  unfold jX12_spread_91 at h
  exact z_ior dX12_spread_91 (z_istore dX12_spread_92 (Nat.le_of_ble_eq_true rfl) (z_iinc dX12_spread_94 (Nat.le_of_ble_eq_true rfl) rfl (z_goto dX12_spread_97 (z_mask [true, true, true, true, true, true, true] (hK59 h)))))
def jX12_spread_136 (F : Nat) (K47 : Int32 → Int32 → Int32 → Int32 → zX → Option (Int32 × zX)) (a1 a2 a4 : Int32) (X : zX) : Option (Int32 × zX) := K47 a1 a2 a4 (a4 + (nI 1)) X
set_option maxRecDepth 20000 in
set_option maxHeartbeats 4000000 in
theorem sX12_spread_136 {μ : zM} {F : Nat} {K47 : Int32 → Int32 → Int32 → Int32 → zX → Option (Int32 × zX)} (hK47 : ∀ {xa1 xa2 xa3 xa4 : Int32} {xX : zX} {ρ : Int32 × zX}, K47 xa1 xa2 xa3 xa4 xX = some ρ → zJ mX12_spread 7 (0, 0) (0, 0) (zQ (some (zi ρ.1)) (zg μ 1 ρ.2)) 47 [some (zq 1 0), some (zi xa1), some (zi xa2), some (zi xa3), some (zi xa4), none, none] [] (zg μ 1 xX)) {a1 a2 a4 : Int32} {X : zX} {ρ : Int32 × zX} (h : jX12_spread_136 F K47 a1 a2 a4 X = some ρ) : zJ mX12_spread 7 (0, 0) (0, 0) (zQ (some (zi ρ.1)) (zg μ 1 ρ.2)) 136 [some (zq 1 0), some (zi a1), some (zi a2), none, some (zi a4), none, none] [] (zg μ 1 X) := by
  unfold jX12_spread_136 at h
  exact z_iload dX12_spread_136 rfl (z_istore dX12_spread_138 (Nat.le_of_ble_eq_true rfl) (z_iinc dX12_spread_139 (Nat.le_of_ble_eq_true rfl) rfl (z_goto dX12_spread_142 (z_mask [true, true, true, true, true, false, false] (hK47 h)))))
def hX12_spread_59 (F : Nat) (K47 : Int32 → Int32 → Int32 → Int32 → zX → Option (Int32 × zX)) : Nat → Int32 → Int32 → Int32 → Int32 → Int32 → Int32 → zX → Option (Int32 × zX)
  | 0, _, _, _, _, _, _, _ => none
  | n + 1, a1, a2, a3, a4, a5, a6, X => if (X 1 0) ≤ a6 then if a5 = a2 then zbd (eJ6_bitCount_0f7a4 a4) fun r4 => zbd (eJ6_bitCount_0f7a4 a3) fun r6 => if r4 < r6 then jX12_spread_136 F K47 a1 a2 a4 X else zbd (eJ6_bitCount_0f7a4 a4) fun r9 => zbd (eJ6_bitCount_0f7a4 a3) fun r11 => if r9 = r11 then if a3 ≤ a4 then K47 a1 a2 a3 (a4 + (nI 1)) X else jX12_spread_136 F K47 a1 a2 a4 X else K47 a1 a2 a3 (a4 + (nI 1)) X else K47 a1 a2 a3 (a4 + (nI 1)) X else if ((a4 >>> (a6 &&& 31)) &&& (nI 1)) = (nI 1) then zbd (eX12_reachOf F a6 a1 X) fun r16 => jX12_spread_91 F K47 (hX12_spread_59 F K47 n) a1 a2 a3 a4 a6 r16 a5 X else jX12_spread_91 F K47 (hX12_spread_59 F K47 n) a1 a2 a3 a4 a6 (nI 0) a5 X
set_option maxRecDepth 20000 in
set_option maxHeartbeats 4000000 in
theorem sX12_spread_59 {μ : zM} {F : Nat} {K47 : Int32 → Int32 → Int32 → Int32 → zX → Option (Int32 × zX)} (hK47 : ∀ {xa1 xa2 xa3 xa4 : Int32} {xX : zX} {ρ : Int32 × zX}, K47 xa1 xa2 xa3 xa4 xX = some ρ → zJ mX12_spread 7 (0, 0) (0, 0) (zQ (some (zi ρ.1)) (zg μ 1 ρ.2)) 47 [some (zq 1 0), some (zi xa1), some (zi xa2), some (zi xa3), some (zi xa4), none, none] [] (zg μ 1 xX)) : ∀ {n : Nat} {a1 a2 a3 a4 a5 a6 : Int32} {X : zX} {ρ : Int32 × zX}, hX12_spread_59 F K47 n a1 a2 a3 a4 a5 a6 X = some ρ → zJ mX12_spread 7 (0, 0) (0, 0) (zQ (some (zi ρ.1)) (zg μ 1 ρ.2)) 59 [some (zq 1 0), some (zi a1), some (zi a2), some (zi a3), some (zi a4), some (zi a5), some (zi a6)] [] (zg μ 1 X) := by
  intro n
  induction n with
  | zero => intro a1 a2 a3 a4 a5 a6 X ρ h; exact nomatch (show (none : Option _) = some ρ from h)
  | succ n ih =>
    intro a1 a2 a3 a4 a5 a6 X ρ h
    have hK59 := @ih
    rw [hX12_spread_59] at h
    refine z_iload dX12_spread_59 rfl (z_aload dX12_spread_61 rfl (z_callV dX12_spread_62 (tX12_nodes) (Nat.le_of_ble_eq_true rfl) cdX12_nodes naX12_nodes lkX12_67 imX12_nodes seX12_nodes in1_0 sh1_0 rfl rfl rfl (Nat.le_of_ble_eq_true rfl) (z_icmp_ge dX12_spread_65 (fun c1 => ?_) (fun c1 => ?_))))
    · have h := ziT h (c1)
      refine z_iload dX12_spread_100 rfl (z_iload dX12_spread_102 rfl (z_icmp_ne dX12_spread_103 (fun c2 => ?_) (fun c2 => ?_)))
      · have h := ziF h (c2)
        exact z_iinc dX12_spread_139 (Nat.le_of_ble_eq_true rfl) rfl (z_goto dX12_spread_142 (z_mask [true, true, true, true, true, false, false] (hK47 h)))
      · have h := ziT h (c2)
        obtain ⟨r4, l3, h⟩ := zbd_some h
        obtain ⟨r6, l5, h⟩ := zbd_some h
        refine z_iload dX12_spread_106 rfl (z_callS dX12_spread_108 (tJ6_bitCount_0f7a4 l3) (Nat.le_of_ble_eq_true rfl) cdJ6_bitCount_0f7a4 naJ6_bitCount_0f7a4 lkX12_384 stJ6_bitCount_0f7a4 rfl rfl (Nat.le_of_ble_eq_true rfl) (z_iload dX12_spread_111 rfl (z_callS dX12_spread_112 (tJ6_bitCount_0f7a4 l5) (Nat.le_of_ble_eq_true rfl) cdJ6_bitCount_0f7a4 naJ6_bitCount_0f7a4 lkX12_384 stJ6_bitCount_0f7a4 rfl rfl (Nat.le_of_ble_eq_true rfl) (z_icmp_lt dX12_spread_115 (fun c7 => ?_) (fun c7 => ?_)))))
        · have h := ziT h (c7)
          exact z_mask [true, true, true, false, true, false, false] (sX12_spread_136 hK47 h)
        · have h := ziF h (c7)
          obtain ⟨r9, l8, h⟩ := zbd_some h
          obtain ⟨r11, l10, h⟩ := zbd_some h
          refine z_iload dX12_spread_118 rfl (z_callS dX12_spread_120 (tJ6_bitCount_0f7a4 l8) (Nat.le_of_ble_eq_true rfl) cdJ6_bitCount_0f7a4 naJ6_bitCount_0f7a4 lkX12_384 stJ6_bitCount_0f7a4 rfl rfl (Nat.le_of_ble_eq_true rfl) (z_iload dX12_spread_123 rfl (z_callS dX12_spread_124 (tJ6_bitCount_0f7a4 l10) (Nat.le_of_ble_eq_true rfl) cdJ6_bitCount_0f7a4 naJ6_bitCount_0f7a4 lkX12_384 stJ6_bitCount_0f7a4 rfl rfl (Nat.le_of_ble_eq_true rfl) (z_icmp_ne dX12_spread_127 (fun c12 => ?_) (fun c12 => ?_)))))
          · have h := ziF h (c12)
            exact z_iinc dX12_spread_139 (Nat.le_of_ble_eq_true rfl) rfl (z_goto dX12_spread_142 (z_mask [true, true, true, true, true, false, false] (hK47 h)))
          · have h := ziT h (c12)
            refine z_iload dX12_spread_130 rfl (z_iload dX12_spread_132 rfl (z_icmp_ge dX12_spread_133 (fun c13 => ?_) (fun c13 => ?_)))
            · have h := ziT h (c13)
              exact z_iinc dX12_spread_139 (Nat.le_of_ble_eq_true rfl) rfl (z_goto dX12_spread_142 (z_mask [true, true, true, true, true, false, false] (hK47 h)))
            · have h := ziF h (c13)
              exact z_mask [true, true, true, false, true, false, false] (sX12_spread_136 hK47 h)
    · have h := ziF h (c1)
      refine z_iload dX12_spread_68 rfl (z_iload dX12_spread_70 rfl (z_iload dX12_spread_72 rfl (z_callS dX12_spread_74 (tX12_has) (Nat.le_of_ble_eq_true rfl) cdX12_has naX12_has lkX12_81 stX12_has rfl rfl (Nat.le_of_ble_eq_true rfl) (z_if_eq dX12_spread_77 (fun c14 => ?_) (fun c14 => ?_)))))
      · have h := ziF h (zB_0.mp c14)
        exact z_const dX12_spread_90 (z_mask [true, true, true, true, true, false, true] (sX12_spread_91 hK47 hK59 h))
      · have h := ziT h (zB_n0.mp c14)
        obtain ⟨r16, l15, h⟩ := zbd_some h
        exact z_aload dX12_spread_80 rfl (z_iload dX12_spread_81 rfl (z_iload dX12_spread_83 rfl (z_callV dX12_spread_84 (tX12_reachOf l15) (Nat.le_of_ble_eq_true rfl) cdX12_reachOf naX12_reachOf lkX12_348 imX12_reachOf seX12_reachOf in1_0 sh1_0 rfl rfl rfl (Nat.le_of_ble_eq_true rfl) (z_goto dX12_spread_87 (z_mask [true, true, true, true, true, false, true] (sX12_spread_91 hK47 hK59 h))))))
def hX12_spread_47 (F : Nat) : Nat → Int32 → Int32 → Int32 → Int32 → zX → Option (Int32 × zX)
  | 0, _, _, _, _, _ => none
  | n + 1, a1, a2, a3, a4, X => if a2 ≤ a4 then some (a3, X) else hX12_spread_59 F (hX12_spread_47 F n) F a1 a2 a3 a4 (nI 0) (nI 0) X
set_option maxRecDepth 20000 in
set_option maxHeartbeats 4000000 in
theorem sX12_spread_47 {μ : zM} {F : Nat} : ∀ {n : Nat} {a1 a2 a3 a4 : Int32} {X : zX} {ρ : Int32 × zX}, hX12_spread_47 F n a1 a2 a3 a4 X = some ρ → zJ mX12_spread 7 (0, 0) (0, 0) (zQ (some (zi ρ.1)) (zg μ 1 ρ.2)) 47 [some (zq 1 0), some (zi a1), some (zi a2), some (zi a3), some (zi a4), none, none] [] (zg μ 1 X) := by
  intro n
  induction n with
  | zero => intro a1 a2 a3 a4 X ρ h; exact nomatch (show (none : Option _) = some ρ from h)
  | succ n ih =>
    intro a1 a2 a3 a4 X ρ h
    have hK47 := @ih
    rw [hX12_spread_47] at h
    refine z_iload dX12_spread_47 rfl (z_iload dX12_spread_49 rfl (z_icmp_ge dX12_spread_50 (fun c1 => ?_) (fun c1 => ?_)))
    · have h := ziT h (c1)
      exact z_iload dX12_spread_145 rfl (z_iretQ dX12_spread_146 rfl (by cases h; rfl))
    · have h := ziF h (c1)
      exact z_const dX12_spread_53 (z_istore dX12_spread_54 (Nat.le_of_ble_eq_true rfl) (z_const dX12_spread_56 (z_istore dX12_spread_57 (Nat.le_of_ble_eq_true rfl) (z_mask [true, true, true, true, true, true, true] (sX12_spread_59 hK47 h)))))
def jX12_spread_20 (F : Nat) (a1 b0 : Int32) (X : zX) : Option (Int32 × zX) := zbd (eX12_throwsIf b0 (nI 1) X) fun y2 => if y2.1 = 0 then zbd (eX12_laysWays F y2.2) fun y5 => hX12_spread_47 F F a1 (((nI 1) <<< ((y5 1 0) &&& 31)) - (nI 1)) (((nI 1) <<< ((y5 1 0) &&& 31)) - (nI 1)) (nI 0) y5 else some ((nI 0), y2.2)
set_option maxRecDepth 20000 in
set_option maxHeartbeats 4000000 in
theorem sX12_spread_20 {μ : zM} {F : Nat} {a1 b0 : Int32} {X : zX} {ρ : Int32 × zX} (h : jX12_spread_20 F a1 b0 X = some ρ) : zJ mX12_spread 7 (0, 0) (0, 0) (zQ (some (zi ρ.1)) (zg μ 1 ρ.2)) 20 [some (zq 1 0), some (zi a1), none, none, none, none, none] [zi b0, zq 1 0] (zg μ 1 X) := by
  unfold jX12_spread_20 at h
  obtain ⟨y2, l1, h⟩ := zbd_some h
  refine z_const dX12_spread_20 (z_callV dX12_spread_21 (tX12_throwsIf l1) (Nat.le_of_ble_eq_true rfl) cdX12_throwsIf naX12_throwsIf lkX12_188 imX12_throwsIf seX12_throwsIf in1_0 sh1_0 rfl rfl rfl (Nat.le_of_ble_eq_true rfl) (z_if_eq dX12_spread_24 (fun c3 => ?_) (fun c3 => ?_)))
  · have h := ziT h (c3)
    obtain ⟨y5, l4, h⟩ := zbd_some h
    refine z_aload dX12_spread_29 rfl (z_callV dX12_spread_30 (tX12_laysWays l4) (Nat.le_of_ble_eq_true rfl) cdX12_laysWays naX12_laysWays lkX12_233 imX12_laysWays seX12_laysWays in1_0 sh1_0 rfl rfl rfl (Nat.le_of_ble_eq_true rfl) (z_const dX12_spread_33 (z_aload dX12_spread_34 rfl (z_callV dX12_spread_35 (tX12_nodes) (Nat.le_of_ble_eq_true rfl) cdX12_nodes naX12_nodes lkX12_67 imX12_nodes seX12_nodes in1_0 sh1_0 rfl rfl rfl (Nat.le_of_ble_eq_true rfl) (z_ishl dX12_spread_38 (z_const dX12_spread_39 (z_isub dX12_spread_40 (z_istore dX12_spread_41 (Nat.le_of_ble_eq_true rfl) (z_iload dX12_spread_42 rfl (z_istore dX12_spread_43 (Nat.le_of_ble_eq_true rfl) (z_const dX12_spread_44 ?_)))))))))))
    exact z_istore dX12_spread_45 (Nat.le_of_ble_eq_true rfl) (z_mask [true, true, true, true, true, false, false] (sX12_spread_47 h))
  · have h := ziF h (c3)
    exact z_const dX12_spread_27 (z_iretQ dX12_spread_28 rfl (by cases h; rfl))
def eX12_spread (F : Nat) (x0 : Int32) (X : zX) : Option (Int32 × zX) := if (¬ (x0 < (nI 0))) ∧ (¬ ((nI 5) < x0)) then jX12_spread_20 F x0 (nI 0) (zw X 0 0 (nI 0)) else jX12_spread_20 F x0 (nI 1) (zw X 0 0 (nI 0))
set_option maxRecDepth 20000 in
set_option maxHeartbeats 4000000 in
theorem tX12_spread {μ : zM} {F : Nat} {x0 : Int32} {X : zX} {ρ : Int32 × zX} (h : eX12_spread F x0 X = some ρ) : LM mX12_spread 7 [zq 1 0, zi x0] (zg μ 1 X) (some (zi ρ.1)) (zg μ 1 ρ.2) := by
  unfold eX12_spread at h
  refine LM.of (by decide +kernel) rfl (Nat.le_of_ble_eq_true rfl) ?_
  show zJ mX12_spread 7 (0, 0) (0, 0) _ 0 [some (zq 1 0), some (zi x0), none, none, none, none, none] [] _
  refine z_aload dX12_spread_0 rfl (z_const dX12_spread_1 (z_putI dX12_spread_2 fkX12_3 in1_0 sh1_0 rfl (fun _ _ _ h => by cases h; rfl) ⟨_, rfl, rfl, rfl⟩ (z_aload dX12_spread_5 rfl (z_iload dX12_spread_6 rfl (z_const dX12_spread_7 (z_const dX12_spread_8 (z_callS dX12_spread_9 (tX12_in) (Nat.le_of_ble_eq_true rfl) cdX12_in naX12_in lkX12_71 stX12_in rfl rfl (Nat.le_of_ble_eq_true rfl) (z_if_ne dX12_spread_12 (fun c1 => ?_) (fun c1 => ?_)))))))))
  · have h := ziT h (zB_n0.mp c1)
    exact z_const dX12_spread_19 (z_mask [true, true, false, false, false, false, false] (sX12_spread_20 h))
  · have h := ziF h (zB_0.mp c1)
    exact z_const dX12_spread_15 (z_goto dX12_spread_16 (z_mask [true, true, false, false, false, false, false] (sX12_spread_20 h)))
-- X12_waysMany
def jX12_waysMany_41 (F : Nat) (K8 : Int32 → Int32 → zX → Option (Int32 × zX)) (K18 : Int32 → Int32 → Int32 → zX → Option (Int32 × zX)) (a2 a3 b0 b1 : Int32) (X : zX) : Option (Int32 × zX) := K18 (b1 + b0) a2 (a3 + (nI 1)) X
set_option maxRecDepth 20000 in
set_option maxHeartbeats 4000000 in
theorem sX12_waysMany_41 {μ : zM} {F : Nat} {K8 : Int32 → Int32 → zX → Option (Int32 × zX)} {K18 : Int32 → Int32 → Int32 → zX → Option (Int32 × zX)} (hK8 : ∀ {xa1 xa2 : Int32} {xX : zX} {ρ : Int32 × zX}, K8 xa1 xa2 xX = some ρ → zJ mX12_waysMany 7 (0, 0) (0, 0) (zQ (some (zi ρ.1)) (zg μ 1 ρ.2)) 8 [some (zq 1 0), some (zi xa1), some (zi xa2), none] [] (zg μ 1 xX)) (hK18 : ∀ {xa1 xa2 xa3 : Int32} {xX : zX} {ρ : Int32 × zX}, K18 xa1 xa2 xa3 xX = some ρ → zJ mX12_waysMany 7 (0, 0) (0, 0) (zQ (some (zi ρ.1)) (zg μ 1 ρ.2)) 18 [some (zq 1 0), some (zi xa1), some (zi xa2), some (zi xa3)] [] (zg μ 1 xX)) {a2 a3 b0 b1 : Int32} {X : zX} {ρ : Int32 × zX} (h : jX12_waysMany_41 F K8 K18 a2 a3 b0 b1 X = some ρ) : zJ mX12_waysMany 7 (0, 0) (0, 0) (zQ (some (zi ρ.1)) (zg μ 1 ρ.2)) 41 [some (zq 1 0), none, some (zi a2), some (zi a3)] [zi b0, zi b1] (zg μ 1 X) := by
  unfold jX12_waysMany_41 at h
  exact z_iadd dX12_waysMany_41 (z_istore dX12_waysMany_42 (Nat.le_of_ble_eq_true rfl) (z_iinc dX12_waysMany_43 (Nat.le_of_ble_eq_true rfl) rfl (z_goto dX12_waysMany_46 (z_mask [true, true, true, true] (hK18 h)))))
def hX12_waysMany_18 (F : Nat) (K8 : Int32 → Int32 → zX → Option (Int32 × zX)) : Nat → Int32 → Int32 → Int32 → zX → Option (Int32 × zX)
  | 0, _, _, _, _ => none
  | n + 1, a1, a2, a3, X => if (X 1 0) ≤ a3 then K8 a1 (a2 + (nI 1)) X else zbd (eX12_isWay a2 a3 X) fun r3 => if r3 = 0 then jX12_waysMany_41 F K8 (hX12_waysMany_18 F K8 n) a2 a3 (nI 0) a1 X else jX12_waysMany_41 F K8 (hX12_waysMany_18 F K8 n) a2 a3 (nI 1) a1 X
set_option maxRecDepth 20000 in
set_option maxHeartbeats 4000000 in
theorem sX12_waysMany_18 {μ : zM} {F : Nat} {K8 : Int32 → Int32 → zX → Option (Int32 × zX)} (hK8 : ∀ {xa1 xa2 : Int32} {xX : zX} {ρ : Int32 × zX}, K8 xa1 xa2 xX = some ρ → zJ mX12_waysMany 7 (0, 0) (0, 0) (zQ (some (zi ρ.1)) (zg μ 1 ρ.2)) 8 [some (zq 1 0), some (zi xa1), some (zi xa2), none] [] (zg μ 1 xX)) : ∀ {n : Nat} {a1 a2 a3 : Int32} {X : zX} {ρ : Int32 × zX}, hX12_waysMany_18 F K8 n a1 a2 a3 X = some ρ → zJ mX12_waysMany 7 (0, 0) (0, 0) (zQ (some (zi ρ.1)) (zg μ 1 ρ.2)) 18 [some (zq 1 0), some (zi a1), some (zi a2), some (zi a3)] [] (zg μ 1 X) := by
  intro n
  induction n with
  | zero => intro a1 a2 a3 X ρ h; exact nomatch (show (none : Option _) = some ρ from h)
  | succ n ih =>
    intro a1 a2 a3 X ρ h
    have hK18 := @ih
    rw [hX12_waysMany_18] at h
    refine z_iload dX12_waysMany_18 rfl (z_aload dX12_waysMany_19 rfl (z_callV dX12_waysMany_20 (tX12_nodes) (Nat.le_of_ble_eq_true rfl) cdX12_nodes naX12_nodes lkX12_67 imX12_nodes seX12_nodes in1_0 sh1_0 rfl rfl rfl (Nat.le_of_ble_eq_true rfl) (z_icmp_ge dX12_waysMany_23 (fun c1 => ?_) (fun c1 => ?_))))
    · have h := ziT h (c1)
      exact z_iinc dX12_waysMany_49 (Nat.le_of_ble_eq_true rfl) rfl (z_goto dX12_waysMany_52 (z_mask [true, true, true, false] (hK8 h)))
    · have h := ziF h (c1)
      obtain ⟨r3, l2, h⟩ := zbd_some h
      refine z_iload dX12_waysMany_26 rfl (z_aload dX12_waysMany_27 rfl (z_iload dX12_waysMany_28 rfl (z_iload dX12_waysMany_29 rfl (z_callV dX12_waysMany_30 (tX12_isWay l2) (Nat.le_of_ble_eq_true rfl) cdX12_isWay naX12_isWay lkX12_204 imX12_isWay seX12_isWay in1_0 sh1_0 rfl rfl rfl (Nat.le_of_ble_eq_true rfl) (z_if_eq dX12_waysMany_33 (fun c4 => ?_) (fun c4 => ?_))))))
      · have h := ziT h (c4)
        exact z_const dX12_waysMany_40 (z_mask [true, false, true, true] (sX12_waysMany_41 hK8 hK18 h))
      · have h := ziF h (c4)
        exact z_const dX12_waysMany_36 (z_goto dX12_waysMany_37 (z_mask [true, false, true, true] (sX12_waysMany_41 hK8 hK18 h)))
def hX12_waysMany_8 (F : Nat) : Nat → Int32 → Int32 → zX → Option (Int32 × zX)
  | 0, _, _, _ => none
  | n + 1, a1, a2, X => if (X 1 0) ≤ a2 then some (a1, X) else hX12_waysMany_18 F (hX12_waysMany_8 F n) F a1 a2 (nI 0) X
set_option maxRecDepth 20000 in
set_option maxHeartbeats 4000000 in
theorem sX12_waysMany_8 {μ : zM} {F : Nat} : ∀ {n : Nat} {a1 a2 : Int32} {X : zX} {ρ : Int32 × zX}, hX12_waysMany_8 F n a1 a2 X = some ρ → zJ mX12_waysMany 7 (0, 0) (0, 0) (zQ (some (zi ρ.1)) (zg μ 1 ρ.2)) 8 [some (zq 1 0), some (zi a1), some (zi a2), none] [] (zg μ 1 X) := by
  intro n
  induction n with
  | zero => intro a1 a2 X ρ h; exact nomatch (show (none : Option _) = some ρ from h)
  | succ n ih =>
    intro a1 a2 X ρ h
    have hK8 := @ih
    rw [hX12_waysMany_8] at h
    refine z_iload dX12_waysMany_8 rfl (z_aload dX12_waysMany_9 rfl (z_callV dX12_waysMany_10 (tX12_nodes) (Nat.le_of_ble_eq_true rfl) cdX12_nodes naX12_nodes lkX12_67 imX12_nodes seX12_nodes in1_0 sh1_0 rfl rfl rfl (Nat.le_of_ble_eq_true rfl) (z_icmp_ge dX12_waysMany_13 (fun c1 => ?_) (fun c1 => ?_))))
    · have h := ziT h (c1)
      exact z_iload dX12_waysMany_55 rfl (z_iretQ dX12_waysMany_56 rfl (by cases h; rfl))
    · have h := ziF h (c1)
      exact z_const dX12_waysMany_16 (z_istore dX12_waysMany_17 (Nat.le_of_ble_eq_true rfl) (z_mask [true, true, true, true] (sX12_waysMany_18 hK8 h)))
def eX12_waysMany (F : Nat) (X : zX) : Option (Int32 × zX) := zbd (eX12_laysWays F X) fun y2 => hX12_waysMany_8 F F (nI 0) (nI 0) y2
set_option maxRecDepth 20000 in
set_option maxHeartbeats 4000000 in
theorem tX12_waysMany {μ : zM} {F : Nat} {X : zX} {ρ : Int32 × zX} (h : eX12_waysMany F X = some ρ) : LM mX12_waysMany 7 [zq 1 0] (zg μ 1 X) (some (zi ρ.1)) (zg μ 1 ρ.2) := by
  unfold eX12_waysMany at h
  refine LM.of (by decide +kernel) rfl (Nat.le_of_ble_eq_true rfl) ?_
  show zJ mX12_waysMany 7 (0, 0) (0, 0) _ 0 [some (zq 1 0), none, none, none] [] _
  obtain ⟨y2, l1, h⟩ := zbd_some h
  exact z_aload dX12_waysMany_0 rfl (z_callV dX12_waysMany_1 (tX12_laysWays l1) (Nat.le_of_ble_eq_true rfl) cdX12_laysWays naX12_laysWays lkX12_233 imX12_laysWays seX12_laysWays in1_0 sh1_0 rfl rfl rfl (Nat.le_of_ble_eq_true rfl) (z_const dX12_waysMany_4 (z_istore dX12_waysMany_5 (Nat.le_of_ble_eq_true rfl) (z_const dX12_waysMany_6 (z_istore dX12_waysMany_7 (Nat.le_of_ble_eq_true rfl) (z_mask [true, true, true, false] (sX12_waysMany_8 h)))))))
-- X12_above
def eX12_above (F : Nat) (x0 x1 : Int32) (X : zX) : Option (Int32 × zX) := zbd (eX12_noTwo F x0 x1 X) fun y2 => if y2.1 = 0 then zchk (zin (((nI 6) * x0) + x1) 36) (some ((y2.2 8 (zn (((nI 6) * x0) + x1))), y2.2)) else some ((nI 0), y2.2)
set_option maxRecDepth 20000 in
set_option maxHeartbeats 4000000 in
theorem tX12_above {μ : zM} {F : Nat} {x0 x1 : Int32} {X : zX} {ρ : Int32 × zX} (h : eX12_above F x0 x1 X = some ρ) : LM mX12_above 8 [zq 1 0, zi x0, zi x1] (zg μ 1 X) (some (zi ρ.1)) (zg μ 1 ρ.2) := by
  unfold eX12_above at h
  refine LM.of (by decide +kernel) rfl (Nat.le_of_ble_eq_true rfl) ?_
  show zJ mX12_above 8 (0, 0) (0, 0) _ 0 [some (zq 1 0), some (zi x0), some (zi x1)] [] _
  obtain ⟨y2, l1, h⟩ := zbd_some h
  refine z_aload dX12_above_0 rfl (z_iload dX12_above_1 rfl (z_iload dX12_above_2 rfl (z_callV dX12_above_3 (tX12_noTwo l1) (Nat.le_of_ble_eq_true rfl) cdX12_noTwo naX12_noTwo lkX12_342 imX12_noTwo seX12_noTwo in1_0 sh1_0 rfl rfl rfl (Nat.le_of_ble_eq_true rfl) (z_if_eq dX12_above_6 (fun c3 => ?_) (fun c3 => ?_)))))
  · have h := ziT h (c3)
    obtain ⟨s4, h⟩ := zchk_some h
    exact z_aload dX12_above_13 rfl (z_getR dX12_above_14 fkX12_39 in1_0 sh1_0 rfl (z_iload dX12_above_17 rfl (z_iload dX12_above_18 rfl (z_callS dX12_above_19 (tX12_at) (Nat.le_of_ble_eq_true rfl) cdX12_at naX12_at lkX12_193 stX12_at rfl rfl (Nat.le_of_ble_eq_true rfl) (z_iald dX12_above_22 in1_8 sh1_8 (zin_vp s4) (z_iretQ dX12_above_23 rfl (by cases h; rfl)))))))
  · have h := ziF h (c3)
    exact z_const dX12_above_9 (z_goto dX12_above_10 (z_iretQ dX12_above_23 rfl (by cases h; rfl)))
-- X12_allCome
def jX12_allCome_57 (F : Nat) (K15 : Int32 → Int32 → Int32 → Int32 → zX → Option (Int32 × zX)) (a1 a2 a4 b0 b1 : Int32) (X : zX) : Option (Int32 × zX) := K15 a1 a2 (b1 + b0) (a4 + (nI 1)) X
set_option maxRecDepth 20000 in
set_option maxHeartbeats 4000000 in
theorem sX12_allCome_57 {μ : zM} {F : Nat} {K15 : Int32 → Int32 → Int32 → Int32 → zX → Option (Int32 × zX)} (hK15 : ∀ {xa1 xa2 xa3 xa4 : Int32} {xX : zX} {ρ : Int32 × zX}, K15 xa1 xa2 xa3 xa4 xX = some ρ → zJ mX12_allCome 8 (0, 0) (0, 0) (zQ (some (zi ρ.1)) (zg μ 1 ρ.2)) 15 [some (zq 1 0), some (zi xa1), some (zi xa2), some (zi xa3), some (zi xa4), none] [] (zg μ 1 xX)) {a1 a2 a4 b0 b1 : Int32} {X : zX} {ρ : Int32 × zX} (h : jX12_allCome_57 F K15 a1 a2 a4 b0 b1 X = some ρ) : zJ mX12_allCome 8 (0, 0) (0, 0) (zQ (some (zi ρ.1)) (zg μ 1 ρ.2)) 57 [some (zq 1 0), some (zi a1), some (zi a2), none, some (zi a4), none] [zi b0, zi b1] (zg μ 1 X) := by
  unfold jX12_allCome_57 at h
  exact z_iadd dX12_allCome_57 (z_istore dX12_allCome_58 (Nat.le_of_ble_eq_true rfl) (z_goto dX12_allCome_59 (z_iinc dX12_allCome_104 (Nat.le_of_ble_eq_true rfl) rfl (z_goto dX12_allCome_107 (z_mask [true, true, true, true, true, false] (hK15 h))))))
def hX12_allCome_65 (F : Nat) (K15 : Int32 → Int32 → Int32 → Int32 → zX → Option (Int32 × zX)) : Nat → Int32 → Int32 → Int32 → Int32 → Int32 → zX → Option (Int32 × zX)
  | 0, _, _, _, _, _, _ => none
  | n + 1, a1, a2, a3, a4, a5, X => if (nI 10) ≤ a5 then K15 a1 (a2 + (nI 1)) a3 (a4 + (nI 1)) X else zchk (zin (((nI 1542) + ((nI 10) * a4)) + a5) 2422) (zchk (zin (((nI 1542) + ((nI 10) * a2)) + a5) 2422) (zlet (zw X 1 (zn (((nI 1542) + ((nI 10) * a2)) + a5)) (X 1 (zn (((nI 1542) + ((nI 10) * a4)) + a5)))) fun X4 => (hX12_allCome_65 F K15 n) a1 a2 a3 a4 (a5 + (nI 1)) X4))
set_option maxRecDepth 20000 in
set_option maxHeartbeats 4000000 in
theorem sX12_allCome_65 {μ : zM} {F : Nat} {K15 : Int32 → Int32 → Int32 → Int32 → zX → Option (Int32 × zX)} (hK15 : ∀ {xa1 xa2 xa3 xa4 : Int32} {xX : zX} {ρ : Int32 × zX}, K15 xa1 xa2 xa3 xa4 xX = some ρ → zJ mX12_allCome 8 (0, 0) (0, 0) (zQ (some (zi ρ.1)) (zg μ 1 ρ.2)) 15 [some (zq 1 0), some (zi xa1), some (zi xa2), some (zi xa3), some (zi xa4), none] [] (zg μ 1 xX)) : ∀ {n : Nat} {a1 a2 a3 a4 a5 : Int32} {X : zX} {ρ : Int32 × zX}, hX12_allCome_65 F K15 n a1 a2 a3 a4 a5 X = some ρ → zJ mX12_allCome 8 (0, 0) (0, 0) (zQ (some (zi ρ.1)) (zg μ 1 ρ.2)) 65 [some (zq 1 0), some (zi a1), some (zi a2), some (zi a3), some (zi a4), some (zi a5)] [] (zg μ 1 X) := by
  intro n
  induction n with
  | zero => intro a1 a2 a3 a4 a5 X ρ h; exact nomatch (show (none : Option _) = some ρ from h)
  | succ n ih =>
    intro a1 a2 a3 a4 a5 X ρ h
    have hK65 := @ih
    rw [hX12_allCome_65] at h
    refine z_iload dX12_allCome_65 rfl (z_const dX12_allCome_67 (z_icmp_ge dX12_allCome_69 (fun c1 => ?_) (fun c1 => ?_)))
    · have h := ziT h (c1)
      exact z_iinc dX12_allCome_101 (Nat.le_of_ble_eq_true rfl) rfl (z_iinc dX12_allCome_104 (Nat.le_of_ble_eq_true rfl) rfl (z_goto dX12_allCome_107 (z_mask [true, true, true, true, true, false] (hK15 h))))
    · have h := ziF h (c1)
      obtain ⟨s2, h⟩ := zchk_some h
      obtain ⟨s3, h⟩ := zchk_some h
      have h := zlet_h h
      refine z_aload dX12_allCome_72 rfl (z_getR dX12_allCome_73 fkX12_13 in1_0 sh1_0 rfl (z_iload dX12_allCome_76 rfl (z_iload dX12_allCome_77 rfl (z_callS dX12_allCome_79 (tX12_messageAt) (Nat.le_of_ble_eq_true rfl) cdX12_messageAt naX12_messageAt lkX12_227 stX12_messageAt rfl rfl (Nat.le_of_ble_eq_true rfl) (z_aload dX12_allCome_82 rfl (z_getR dX12_allCome_83 fkX12_13 in1_0 sh1_0 rfl (z_iload dX12_allCome_86 rfl (z_iload dX12_allCome_88 rfl (z_callS dX12_allCome_90 (tX12_messageAt) (Nat.le_of_ble_eq_true rfl) cdX12_messageAt naX12_messageAt lkX12_227 stX12_messageAt rfl rfl (Nat.le_of_ble_eq_true rfl) (z_iald dX12_allCome_93 in1_1 sh1_1 (zin_vp s2) (z_iast dX12_allCome_94 in1_1 sh1_1 (zin_vp s3) ?_)))))))))))
      exact z_iinc dX12_allCome_95 (Nat.le_of_ble_eq_true rfl) rfl (z_goto dX12_allCome_98 (z_mask [true, true, true, true, true, true] (hK65 h)))
def hX12_allCome_15 (F : Nat) : Nat → Int32 → Int32 → Int32 → Int32 → zX → Option (Int32 × zX)
  | 0, _, _, _, _, _ => none
  | n + 1, a1, a2, a3, a4, X => if a1 ≤ a4 then some (a3, zw X 1 12 a2) else zchk (zin (((nI 1542) + ((nI 10) * a4)) + (nI 0)) 2422) (if (X 1 14) < (X 1 (zn (((nI 1542) + ((nI 10) * a4)) + (nI 0)))) then hX12_allCome_65 F (hX12_allCome_15 F n) F a1 a2 a3 a4 (nI 0) X else zbd (eX12_isHeard F a4 X) fun y5 => if y5.1 = 0 then jX12_allCome_57 F (hX12_allCome_15 F n) a1 a2 a4 (nI 0) a3 y5.2 else jX12_allCome_57 F (hX12_allCome_15 F n) a1 a2 a4 (nI 1) a3 y5.2)
set_option maxRecDepth 20000 in
set_option maxHeartbeats 4000000 in
theorem sX12_allCome_15 {μ : zM} {F : Nat} : ∀ {n : Nat} {a1 a2 a3 a4 : Int32} {X : zX} {ρ : Int32 × zX}, hX12_allCome_15 F n a1 a2 a3 a4 X = some ρ → zJ mX12_allCome 8 (0, 0) (0, 0) (zQ (some (zi ρ.1)) (zg μ 1 ρ.2)) 15 [some (zq 1 0), some (zi a1), some (zi a2), some (zi a3), some (zi a4), none] [] (zg μ 1 X) := by
  intro n
  induction n with
  | zero => intro a1 a2 a3 a4 X ρ h; exact nomatch (show (none : Option _) = some ρ from h)
  | succ n ih =>
    intro a1 a2 a3 a4 X ρ h
    have hK15 := @ih
    rw [hX12_allCome_15] at h
    refine z_iload dX12_allCome_15 rfl (z_iload dX12_allCome_17 rfl (z_icmp_ge dX12_allCome_18 (fun c1 => ?_) (fun c1 => ?_)))
    · have h := ziT h (c1)
      exact z_aload dX12_allCome_110 rfl (z_getR dX12_allCome_111 fkX12_13 in1_0 sh1_0 rfl (z_const dX12_allCome_114 (z_iload dX12_allCome_116 rfl (z_iastN dX12_allCome_117 in1_1 sh1_1 (Nat.le_of_ble_eq_true rfl) (Nat.le_of_ble_eq_true rfl) (z_iload dX12_allCome_118 rfl (z_iretQ dX12_allCome_119 rfl (by cases h; rfl)))))))
    · have h := ziF h (c1)
      obtain ⟨s2, h⟩ := zchk_some h
      refine z_aload dX12_allCome_21 rfl (z_getR dX12_allCome_22 fkX12_13 in1_0 sh1_0 rfl (z_iload dX12_allCome_25 rfl (z_const dX12_allCome_27 (z_callS dX12_allCome_28 (tX12_messageAt) (Nat.le_of_ble_eq_true rfl) cdX12_messageAt naX12_messageAt lkX12_227 stX12_messageAt rfl rfl (Nat.le_of_ble_eq_true rfl) (z_iald dX12_allCome_31 in1_1 sh1_1 (zin_vp s2) (z_aload dX12_allCome_32 rfl (z_getR dX12_allCome_33 fkX12_13 in1_0 sh1_0 rfl (z_const dX12_allCome_36 (z_ialdN dX12_allCome_38 in1_1 sh1_1 (Nat.le_of_ble_eq_true rfl) (Nat.le_of_ble_eq_true rfl) (z_icmp_gt dX12_allCome_39 (fun c3 => ?_) (fun c3 => ?_)))))))))))
      · have h := ziT h (c3)
        exact z_const dX12_allCome_62 (z_istore dX12_allCome_63 (Nat.le_of_ble_eq_true rfl) (z_mask [true, true, true, true, true, true] (sX12_allCome_65 hK15 h)))
      · have h := ziF h (c3)
        obtain ⟨y5, l4, h⟩ := zbd_some h
        refine z_iload dX12_allCome_42 rfl (z_aload dX12_allCome_43 rfl (z_iload dX12_allCome_44 rfl (z_callV dX12_allCome_46 (tX12_isHeard l4) (Nat.le_of_ble_eq_true rfl) cdX12_isHeard naX12_isHeard lkX12_303 imX12_isHeard seX12_isHeard in1_0 sh1_0 rfl rfl rfl (Nat.le_of_ble_eq_true rfl) (z_if_eq dX12_allCome_49 (fun c6 => ?_) (fun c6 => ?_)))))
        · have h := ziT h (c6)
          exact z_const dX12_allCome_56 (z_mask [true, true, true, false, true, false] (sX12_allCome_57 hK15 h))
        · have h := ziF h (c6)
          exact z_const dX12_allCome_52 (z_goto dX12_allCome_53 (z_mask [true, true, true, false, true, false] (sX12_allCome_57 hK15 h)))
def eX12_allCome (F : Nat) (X : zX) : Option (Int32 × zX) := hX12_allCome_15 F F (X 1 12) (nI 0) (nI 0) (nI 0) X
set_option maxRecDepth 20000 in
set_option maxHeartbeats 4000000 in
theorem tX12_allCome {μ : zM} {F : Nat} {X : zX} {ρ : Int32 × zX} (h : eX12_allCome F X = some ρ) : LM mX12_allCome 8 [zq 1 0] (zg μ 1 X) (some (zi ρ.1)) (zg μ 1 ρ.2) := by
  unfold eX12_allCome at h
  refine LM.of (by decide +kernel) rfl (Nat.le_of_ble_eq_true rfl) ?_
  show zJ mX12_allCome 8 (0, 0) (0, 0) _ 0 [some (zq 1 0), none, none, none, none, none] [] _
  exact z_aload dX12_allCome_0 rfl (z_getR dX12_allCome_1 fkX12_13 in1_0 sh1_0 rfl (z_const dX12_allCome_4 (z_ialdN dX12_allCome_6 in1_1 sh1_1 (Nat.le_of_ble_eq_true rfl) (Nat.le_of_ble_eq_true rfl) (z_istore dX12_allCome_7 (Nat.le_of_ble_eq_true rfl) (z_const dX12_allCome_8 (z_istore dX12_allCome_9 (Nat.le_of_ble_eq_true rfl) (z_const dX12_allCome_10 (z_istore dX12_allCome_11 (Nat.le_of_ble_eq_true rfl) (z_const dX12_allCome_12 (z_istore dX12_allCome_13 (Nat.le_of_ble_eq_true rfl) (z_mask [true, true, true, true, true, false] (sX12_allCome_15 h))))))))))))
-- X12_guard
def jX12_guard_82 (F : Nat) (K42 : Int32 → Int32 → Int32 → Int32 → Int32 → zX → Option (Int32 × zX)) (a1 a2 a3 a4 a5 : Int32) (X : zX) : Option (Int32 × zX) := zbd (eX12_isCut F (a3 ||| a5) X) fun y2 => zbd (eX12_isNearOne F a1 a2 y2) fun y4 => if y4.1 = 0 then K42 a1 a2 a3 a5 (a5 + (nI 1)) y4.2 else K42 a1 a2 a3 a4 (a5 + (nI 1)) y4.2
set_option maxRecDepth 20000 in
set_option maxHeartbeats 4000000 in
theorem sX12_guard_82 {μ : zM} {F : Nat} {K42 : Int32 → Int32 → Int32 → Int32 → Int32 → zX → Option (Int32 × zX)} (hK42 : ∀ {xa1 xa2 xa3 xa4 xa5 : Int32} {xX : zX} {ρ : Int32 × zX}, K42 xa1 xa2 xa3 xa4 xa5 xX = some ρ → zJ mX12_guard 8 (0, 0) (0, 0) (zQ (some (zi ρ.1)) (zg μ 1 ρ.2)) 42 [some (zq 1 0), some (zi xa1), some (zi xa2), some (zi xa3), some (zi xa4), some (zi xa5)] [] (zg μ 1 xX)) {a1 a2 a3 a4 a5 : Int32} {X : zX} {ρ : Int32 × zX} (h : jX12_guard_82 F K42 a1 a2 a3 a4 a5 X = some ρ) : zJ mX12_guard 8 (0, 0) (0, 0) (zQ (some (zi ρ.1)) (zg μ 1 ρ.2)) 82 [some (zq 1 0), some (zi a1), some (zi a2), some (zi a3), some (zi a4), some (zi a5)] [] (zg μ 1 X) := by
  unfold jX12_guard_82 at h
  obtain ⟨y2, l1, h⟩ := zbd_some h
  obtain ⟨y4, l3, h⟩ := zbd_some h
  refine z_aload dX12_guard_82 rfl (z_iload dX12_guard_83 rfl (z_iload dX12_guard_84 rfl (z_ior dX12_guard_86 (z_callV dX12_guard_87 (tX12_isCut l1) (Nat.le_of_ble_eq_true rfl) cdX12_isCut naX12_isCut lkX12_389 imX12_isCut seX12_isCut in1_0 sh1_0 rfl rfl rfl (Nat.le_of_ble_eq_true rfl) (z_aload dX12_guard_90 rfl (z_iload dX12_guard_91 rfl (z_iload dX12_guard_92 rfl (z_callV dX12_guard_93 (tX12_isNearOne l3) (Nat.le_of_ble_eq_true rfl) cdX12_isNearOne naX12_isNearOne lkX12_378 imX12_isNearOne seX12_isNearOne in1_0 sh1_0 rfl rfl rfl (Nat.le_of_ble_eq_true rfl) (z_if_ne dX12_guard_96 (fun c5 => ?_) (fun c5 => ?_))))))))))
  · have h := ziF h (c5)
    exact z_iinc dX12_guard_103 (Nat.le_of_ble_eq_true rfl) rfl (z_goto dX12_guard_106 (z_mask [true, true, true, true, true, true] (hK42 h)))
  · have h := ziT h (c5)
    exact z_iload dX12_guard_99 rfl (z_istore dX12_guard_101 (Nat.le_of_ble_eq_true rfl) (z_iinc dX12_guard_103 (Nat.le_of_ble_eq_true rfl) rfl (z_goto dX12_guard_106 (z_mask [true, true, true, true, true, true] (hK42 h)))))
def hX12_guard_42 (F : Nat) : Nat → Int32 → Int32 → Int32 → Int32 → Int32 → zX → Option (Int32 × zX)
  | 0, _, _, _, _, _, _ => none
  | n + 1, a1, a2, a3, a4, a5, X => if ((nI 1) <<< ((X 1 1) &&& 31)) ≤ a5 then zbd (eX12_isCut F a3 X) fun y3 => some (a4, y3) else if (a5 &&& a3) = 0 then if a4 = (-1) then jX12_guard_82 F (hX12_guard_42 F n) a1 a2 a3 a4 a5 X else zbd (eJ6_bitCount_0f7a4 a5) fun r7 => zbd (eJ6_bitCount_0f7a4 a4) fun r9 => if r7 < r9 then jX12_guard_82 F (hX12_guard_42 F n) a1 a2 a3 a4 a5 X else (hX12_guard_42 F n) a1 a2 a3 a4 (a5 + (nI 1)) X else (hX12_guard_42 F n) a1 a2 a3 a4 (a5 + (nI 1)) X
set_option maxRecDepth 20000 in
set_option maxHeartbeats 4000000 in
theorem sX12_guard_42 {μ : zM} {F : Nat} : ∀ {n : Nat} {a1 a2 a3 a4 a5 : Int32} {X : zX} {ρ : Int32 × zX}, hX12_guard_42 F n a1 a2 a3 a4 a5 X = some ρ → zJ mX12_guard 8 (0, 0) (0, 0) (zQ (some (zi ρ.1)) (zg μ 1 ρ.2)) 42 [some (zq 1 0), some (zi a1), some (zi a2), some (zi a3), some (zi a4), some (zi a5)] [] (zg μ 1 X) := by
  intro n
  induction n with
  | zero => intro a1 a2 a3 a4 a5 X ρ h; exact nomatch (show (none : Option _) = some ρ from h)
  | succ n ih =>
    intro a1 a2 a3 a4 a5 X ρ h
    have hK42 := @ih
    rw [hX12_guard_42] at h
    refine z_iload dX12_guard_42 rfl (z_const dX12_guard_44 (z_aload dX12_guard_45 rfl (z_callV dX12_guard_46 (tX12_links) (Nat.le_of_ble_eq_true rfl) cdX12_links naX12_links lkX12_75 imX12_links seX12_links in1_0 sh1_0 rfl rfl rfl (Nat.le_of_ble_eq_true rfl) (z_ishl dX12_guard_49 (z_icmp_ge dX12_guard_50 (fun c1 => ?_) (fun c1 => ?_))))))
    · have h := ziT h (c1)
      obtain ⟨y3, l2, h⟩ := zbd_some h
      exact z_aload dX12_guard_109 rfl (z_iload dX12_guard_110 rfl (z_callV dX12_guard_111 (tX12_isCut l2) (Nat.le_of_ble_eq_true rfl) cdX12_isCut naX12_isCut lkX12_389 imX12_isCut seX12_isCut in1_0 sh1_0 rfl rfl rfl (Nat.le_of_ble_eq_true rfl) (z_iload dX12_guard_114 rfl (z_iretQ dX12_guard_116 rfl (by cases h; rfl)))))
    · have h := ziF h (c1)
      refine z_iload dX12_guard_53 rfl (z_iload dX12_guard_55 rfl (z_iand dX12_guard_56 (z_if_ne dX12_guard_57 (fun c4 => ?_) (fun c4 => ?_))))
      · have h := ziF h (c4)
        exact z_iinc dX12_guard_103 (Nat.le_of_ble_eq_true rfl) rfl (z_goto dX12_guard_106 (z_mask [true, true, true, true, true, true] (hK42 h)))
      · have h := ziT h (c4)
        refine z_iload dX12_guard_60 rfl (z_const dX12_guard_62 (z_icmp_eq dX12_guard_63 (fun c5 => ?_) (fun c5 => ?_)))
        · have h := ziT h (c5)
          exact z_mask [true, true, true, true, true, true] (sX12_guard_82 hK42 h)
        · have h := ziF h (c5)
          obtain ⟨r7, l6, h⟩ := zbd_some h
          obtain ⟨r9, l8, h⟩ := zbd_some h
          refine z_iload dX12_guard_66 rfl (z_callS dX12_guard_68 (tJ6_bitCount_0f7a4 l6) (Nat.le_of_ble_eq_true rfl) cdJ6_bitCount_0f7a4 naJ6_bitCount_0f7a4 lkX12_384 stJ6_bitCount_0f7a4 rfl rfl (Nat.le_of_ble_eq_true rfl) (z_iload dX12_guard_71 rfl (z_callS dX12_guard_73 (tJ6_bitCount_0f7a4 l8) (Nat.le_of_ble_eq_true rfl) cdJ6_bitCount_0f7a4 naJ6_bitCount_0f7a4 lkX12_384 stJ6_bitCount_0f7a4 rfl rfl (Nat.le_of_ble_eq_true rfl) (z_icmp_lt dX12_guard_76 (fun c10 => ?_) (fun c10 => ?_)))))
          · have h := ziT h (c10)
            exact z_mask [true, true, true, true, true, true] (sX12_guard_82 hK42 h)
          · have h := ziF h (c10)
            exact z_goto dX12_guard_79 (z_iinc dX12_guard_103 (Nat.le_of_ble_eq_true rfl) rfl (z_goto dX12_guard_106 (z_mask [true, true, true, true, true, true] (hK42 h))))
def eX12_guard (F : Nat) (x0 x1 : Int32) (X : zX) : Option (Int32 × zX) := zbd (eX12_noNodePacket x0 x1 X) fun y2 => if y2.1 = 0 then zbd (eX12_isHolder x0 x1 y2.2) fun r5 => if r5 = 0 then zbd (eX12_isNearOne F x0 x1 y2.2) fun y8 => if y8.1 = 0 then some ((-1), y8.2) else zbd (eX12_cuts F y8.2) fun r11 => hX12_guard_42 F F x0 x1 r11 (-1) (nI 1) y8.2 else some ((-1), y2.2) else some ((nI 0), y2.2)
set_option maxRecDepth 20000 in
set_option maxHeartbeats 4000000 in
theorem tX12_guard {μ : zM} {F : Nat} {x0 x1 : Int32} {X : zX} {ρ : Int32 × zX} (h : eX12_guard F x0 x1 X = some ρ) : LM mX12_guard 8 [zq 1 0, zi x0, zi x1] (zg μ 1 X) (some (zi ρ.1)) (zg μ 1 ρ.2) := by
  unfold eX12_guard at h
  refine LM.of (by decide +kernel) rfl (Nat.le_of_ble_eq_true rfl) ?_
  show zJ mX12_guard 8 (0, 0) (0, 0) _ 0 [some (zq 1 0), some (zi x0), some (zi x1), none, none, none] [] _
  obtain ⟨y2, l1, h⟩ := zbd_some h
  refine z_aload dX12_guard_0 rfl (z_iload dX12_guard_1 rfl (z_iload dX12_guard_2 rfl (z_callV dX12_guard_3 (tX12_noNodePacket l1) (Nat.le_of_ble_eq_true rfl) cdX12_noNodePacket naX12_noNodePacket lkX12_339 imX12_noNodePacket seX12_noNodePacket in1_0 sh1_0 rfl rfl rfl (Nat.le_of_ble_eq_true rfl) (z_if_eq dX12_guard_6 (fun c3 => ?_) (fun c3 => ?_)))))
  · have h := ziT h (c3)
    obtain ⟨r5, l4, h⟩ := zbd_some h
    refine z_aload dX12_guard_11 rfl (z_iload dX12_guard_12 rfl (z_iload dX12_guard_13 rfl (z_callV dX12_guard_14 (tX12_isHolder l4) (Nat.le_of_ble_eq_true rfl) cdX12_isHolder naX12_isHolder lkX12_345 imX12_isHolder seX12_isHolder in1_0 sh1_0 rfl rfl rfl (Nat.le_of_ble_eq_true rfl) (z_if_ne dX12_guard_17 (fun c6 => ?_) (fun c6 => ?_)))))
    · have h := ziF h (c6)
      exact z_const dX12_guard_29 (z_iretQ dX12_guard_30 rfl (by cases h; rfl))
    · have h := ziT h (c6)
      obtain ⟨y8, l7, h⟩ := zbd_some h
      refine z_aload dX12_guard_20 rfl (z_iload dX12_guard_21 rfl (z_iload dX12_guard_22 rfl (z_callV dX12_guard_23 (tX12_isNearOne l7) (Nat.le_of_ble_eq_true rfl) cdX12_isNearOne naX12_isNearOne lkX12_378 imX12_isNearOne seX12_isNearOne in1_0 sh1_0 rfl rfl rfl (Nat.le_of_ble_eq_true rfl) (z_if_ne dX12_guard_26 (fun c9 => ?_) (fun c9 => ?_)))))
      · have h := ziF h (c9)
        obtain ⟨r11, l10, h⟩ := zbd_some h
        exact z_aload dX12_guard_31 rfl (z_callV dX12_guard_32 (tX12_cuts l10) (Nat.le_of_ble_eq_true rfl) cdX12_cuts naX12_cuts lkX12_381 imX12_cuts seX12_cuts in1_0 sh1_0 rfl rfl rfl (Nat.le_of_ble_eq_true rfl) (z_istore dX12_guard_35 (Nat.le_of_ble_eq_true rfl) (z_const dX12_guard_36 (z_istore dX12_guard_37 (Nat.le_of_ble_eq_true rfl) (z_const dX12_guard_39 (z_istore dX12_guard_40 (Nat.le_of_ble_eq_true rfl) (z_mask [true, true, true, true, true, true] (sX12_guard_42 h))))))))
      · have h := ziT h (c9)
        exact z_const dX12_guard_29 (z_iretQ dX12_guard_30 rfl (by cases h; rfl))
  · have h := ziF h (c3)
    exact z_const dX12_guard_9 (z_iretQ dX12_guard_10 rfl (by cases h; rfl))
-- X12_isSent
def eX12_isSent (F : Nat) (X : zX) : Option (Int32 × zX) := zchk (zin (((nI 18) + ((nI 244) * (X 1 3))) + (nI 1)) 2422) (zchk (zin (((nI 18) + ((nI 244) * (X 1 3))) + (nI 1)) 2422) (zlet (zw (zw X 1 4 ((X 1 4) + (nI 1))) 1 (zn (((nI 18) + ((nI 244) * (X 1 3))) + (nI 1))) (((zw X 1 4 ((X 1 4) + (nI 1))) 1 (zn (((nI 18) + ((nI 244) * (X 1 3))) + (nI 1)))) ||| ((nI 1) <<< ((X 1 4) &&& 31)))) fun X3 => zbd (eX12_hasItFrom (X 1 3) (X 1 4) (X 1 3) (X3 1 14) X3) fun y5 => zchk (zin (((nI 18) + ((nI 244) * (X 1 3))) + (nI 2)) 2422) (zlet (zw y5 1 (zn (((nI 18) + ((nI 244) * (X 1 3))) + (nI 2))) (X 1 4)) fun X7 => zbd (eX12_isTold F (X 1 3) (nI 0) (X 1 4) X7) fun y9 => zbd (eX12_flood F (X 1 3) (nI 0) (X 1 4) (nI 5) y9) fun y11 => some ((X 1 4), y11))))
set_option maxRecDepth 20000 in
set_option maxHeartbeats 4000000 in
theorem tX12_isSent {μ : zM} {F : Nat} {X : zX} {ρ : Int32 × zX} (h : eX12_isSent F X = some ρ) : LM mX12_isSent 8 [zq 1 0] (zg μ 1 X) (some (zi ρ.1)) (zg μ 1 ρ.2) := by
  unfold eX12_isSent at h
  refine LM.of (by decide +kernel) rfl (Nat.le_of_ble_eq_true rfl) ?_
  show zJ mX12_isSent 8 (0, 0) (0, 0) _ 0 [some (zq 1 0), none, none] [] _
  refine z_aload dX12_isSent_0 rfl (z_getR dX12_isSent_1 fkX12_13 in1_0 sh1_0 rfl (z_const dX12_isSent_4 (z_ialdN dX12_isSent_5 in1_1 sh1_1 (Nat.le_of_ble_eq_true rfl) (Nat.le_of_ble_eq_true rfl) (z_istore dX12_isSent_6 (Nat.le_of_ble_eq_true rfl) (z_aload dX12_isSent_7 rfl (z_getR dX12_isSent_8 fkX12_13 in1_0 sh1_0 rfl (z_const dX12_isSent_11 (z_ialdN dX12_isSent_12 in1_1 sh1_1 (Nat.le_of_ble_eq_true rfl) (Nat.le_of_ble_eq_true rfl) (z_istore dX12_isSent_13 (Nat.le_of_ble_eq_true rfl) (z_aload dX12_isSent_14 rfl (z_getR dX12_isSent_15 fkX12_13 in1_0 sh1_0 rfl ?_)))))))))))
  refine z_const dX12_isSent_18 (z_dup2 dX12_isSent_19 rfl rfl (z_ialdN dX12_isSent_20 in1_1 sh1_1 (Nat.le_of_ble_eq_true rfl) (Nat.le_of_ble_eq_true rfl) (z_const dX12_isSent_21 (z_iadd dX12_isSent_22 (z_iastN dX12_isSent_23 in1_1 sh1_1 (Nat.le_of_ble_eq_true rfl) (Nat.le_of_ble_eq_true rfl) (z_aload dX12_isSent_24 rfl (z_getR dX12_isSent_25 fkX12_13 in1_0 sh1_0 rfl (z_iload dX12_isSent_28 rfl (z_const dX12_isSent_29 (z_callS dX12_isSent_30 (tX12_nodeAt) (Nat.le_of_ble_eq_true rfl) cdX12_nodeAt naX12_nodeAt lkX12_56 stX12_nodeAt rfl rfl (Nat.le_of_ble_eq_true rfl) (z_dup2 dX12_isSent_33 rfl rfl ?_)))))))))))
  obtain ⟨s1, h⟩ := zchk_some h
  obtain ⟨s2, h⟩ := zchk_some h
  have h := zlet_h h
  refine z_iald dX12_isSent_34 in1_1 sh1_1 (zin_vp s1) (z_const dX12_isSent_35 (z_iload dX12_isSent_36 rfl (z_ishl dX12_isSent_37 (z_ior dX12_isSent_38 (z_iast dX12_isSent_39 in1_1 sh1_1 (zin_vp s2) (z_aload dX12_isSent_40 rfl (z_iload dX12_isSent_41 rfl (z_iload dX12_isSent_42 rfl (z_iload dX12_isSent_43 rfl (z_aload dX12_isSent_44 rfl (z_getR dX12_isSent_45 fkX12_13 in1_0 sh1_0 rfl ?_)))))))))))
  obtain ⟨y5, l4, h⟩ := zbd_some h
  obtain ⟨s6, h⟩ := zchk_some h
  have h := zlet_h h
  refine z_const dX12_isSent_48 (z_ialdN dX12_isSent_50 in1_1 sh1_1 (Nat.le_of_ble_eq_true rfl) (Nat.le_of_ble_eq_true rfl) (z_callV dX12_isSent_51 (tX12_hasItFrom l4) (Nat.le_of_ble_eq_true rfl) cdX12_hasItFrom naX12_hasItFrom lkX12_132 imX12_hasItFrom seX12_hasItFrom in1_0 sh1_0 rfl rfl rfl (Nat.le_of_ble_eq_true rfl) (z_aload dX12_isSent_54 rfl (z_getR dX12_isSent_55 fkX12_13 in1_0 sh1_0 rfl (z_iload dX12_isSent_58 rfl (z_const dX12_isSent_59 (z_callS dX12_isSent_60 (tX12_nodeAt) (Nat.le_of_ble_eq_true rfl) cdX12_nodeAt naX12_nodeAt lkX12_56 stX12_nodeAt rfl rfl (Nat.le_of_ble_eq_true rfl) (z_iload dX12_isSent_63 rfl (z_iast dX12_isSent_64 in1_1 sh1_1 (zin_vp s6) (z_aload dX12_isSent_65 rfl (z_iload dX12_isSent_66 rfl ?_)))))))))))
  obtain ⟨y9, l8, h⟩ := zbd_some h
  obtain ⟨y11, l10, h⟩ := zbd_some h
  exact z_const dX12_isSent_67 (z_iload dX12_isSent_68 rfl (z_callV dX12_isSent_69 (tX12_isTold l8) (Nat.le_of_ble_eq_true rfl) cdX12_isTold naX12_isTold lkX12_278 imX12_isTold seX12_isTold in1_0 sh1_0 rfl rfl rfl (Nat.le_of_ble_eq_true rfl) (z_aload dX12_isSent_72 rfl (z_iload dX12_isSent_73 rfl (z_const dX12_isSent_74 (z_iload dX12_isSent_75 rfl (z_const dX12_isSent_76 (z_callV dX12_isSent_77 (tX12_flood l10) (Nat.le_of_ble_eq_true rfl) cdX12_flood naX12_flood lkX12_309 imX12_flood seX12_flood in1_0 sh1_0 rfl rfl rfl (Nat.le_of_ble_eq_true rfl) (z_iload dX12_isSent_80 rfl (z_iretQ dX12_isSent_81 rfl (by cases h; rfl)))))))))))
-- X12_parts
def jX12_parts_62 (F : Nat) (K14 : Int32 → Int32 → Int32 → zX → Option (Int32 × zX)) (a1 a3 b0 b1 : Int32) (X : zX) : Option (Int32 × zX) := zchk (zin (((nI 1482) + ((nI 6) * a3)) + (nI 4)) 2422) (zlet (zw X 1 (zn (((nI 1482) + ((nI 6) * a3)) + (nI 4))) (nI 0)) fun X2 => K14 a1 (b1 ||| b0) (a3 + (nI 1)) X2)
set_option maxRecDepth 20000 in
set_option maxHeartbeats 4000000 in
theorem sX12_parts_62 {μ : zM} {F : Nat} {K14 : Int32 → Int32 → Int32 → zX → Option (Int32 × zX)} (hK14 : ∀ {xa1 xa2 xa3 : Int32} {xX : zX} {ρ : Int32 × zX}, K14 xa1 xa2 xa3 xX = some ρ → zJ mX12_parts 8 (0, 0) (0, 0) (zQ (some (zi ρ.1)) (zg μ 1 ρ.2)) 14 [some (zq 1 0), some (zi xa1), some (zi xa2), some (zi xa3)] [] (zg μ 1 xX)) {a1 a3 b0 b1 : Int32} {X : zX} {ρ : Int32 × zX} (h : jX12_parts_62 F K14 a1 a3 b0 b1 X = some ρ) : zJ mX12_parts 8 (0, 0) (0, 0) (zQ (some (zi ρ.1)) (zg μ 1 ρ.2)) 62 [some (zq 1 0), some (zi a1), none, some (zi a3)] [zi b0, zi b1] (zg μ 1 X) := by
  unfold jX12_parts_62 at h
  obtain ⟨s1, h⟩ := zchk_some h
  have h := zlet_h h
  exact z_ior dX12_parts_62 (z_istore dX12_parts_63 (Nat.le_of_ble_eq_true rfl) (z_aload dX12_parts_64 rfl (z_getR dX12_parts_65 fkX12_13 in1_0 sh1_0 rfl (z_iload dX12_parts_68 rfl (z_const dX12_parts_69 (z_callS dX12_parts_70 (tX12_linkAt) (Nat.le_of_ble_eq_true rfl) cdX12_linkAt naX12_linkAt lkX12_64 stX12_linkAt rfl rfl (Nat.le_of_ble_eq_true rfl) (z_const dX12_parts_73 (z_iast dX12_parts_74 in1_1 sh1_1 (zin_vp s1) (z_iinc dX12_parts_75 (Nat.le_of_ble_eq_true rfl) rfl (z_goto dX12_parts_78 (z_mask [true, true, true, true] (hK14 h))))))))))))
def hX12_parts_14 (F : Nat) : Nat → Int32 → Int32 → Int32 → zX → Option (Int32 × zX)
  | 0, _, _, _, _ => none
  | n + 1, a1, a2, a3, X => if (X 1 1) ≤ a3 then some (a2, X) else zbd (eX12_ofLink a3 (nI 4) X) fun r3 => if r3 = (nI 1) then (hX12_parts_14 F n) a1 a2 (a3 + (nI 1)) X else zchk (zin (((nI 1482) + ((nI 6) * a3)) + (nI 4)) 2422) (zlet (zw X 1 (zn (((nI 1482) + ((nI 6) * a3)) + (nI 4))) (nI 1)) fun X6 => zbd (eX12_waysMany F X6) fun y8 => if a1 ≤ y8.1 then jX12_parts_62 F (hX12_parts_14 F n) a1 a3 (nI 0) a2 y8.2 else jX12_parts_62 F (hX12_parts_14 F n) a1 a3 ((nI 1) <<< (a3 &&& 31)) a2 y8.2)
set_option maxRecDepth 20000 in
set_option maxHeartbeats 4000000 in
theorem sX12_parts_14 {μ : zM} {F : Nat} : ∀ {n : Nat} {a1 a2 a3 : Int32} {X : zX} {ρ : Int32 × zX}, hX12_parts_14 F n a1 a2 a3 X = some ρ → zJ mX12_parts 8 (0, 0) (0, 0) (zQ (some (zi ρ.1)) (zg μ 1 ρ.2)) 14 [some (zq 1 0), some (zi a1), some (zi a2), some (zi a3)] [] (zg μ 1 X) := by
  intro n
  induction n with
  | zero => intro a1 a2 a3 X ρ h; exact nomatch (show (none : Option _) = some ρ from h)
  | succ n ih =>
    intro a1 a2 a3 X ρ h
    have hK14 := @ih
    rw [hX12_parts_14] at h
    refine z_iload dX12_parts_14 rfl (z_aload dX12_parts_15 rfl (z_callV dX12_parts_16 (tX12_links) (Nat.le_of_ble_eq_true rfl) cdX12_links naX12_links lkX12_75 imX12_links seX12_links in1_0 sh1_0 rfl rfl rfl (Nat.le_of_ble_eq_true rfl) (z_icmp_ge dX12_parts_19 (fun c1 => ?_) (fun c1 => ?_))))
    · have h := ziT h (c1)
      exact z_iload dX12_parts_81 rfl (z_iretQ dX12_parts_82 rfl (by cases h; rfl))
    · have h := ziF h (c1)
      obtain ⟨r3, l2, h⟩ := zbd_some h
      refine z_aload dX12_parts_22 rfl (z_iload dX12_parts_23 rfl (z_const dX12_parts_24 (z_callV dX12_parts_25 (tX12_ofLink l2) (Nat.le_of_ble_eq_true rfl) cdX12_ofLink naX12_ofLink lkX12_139 imX12_ofLink seX12_ofLink in1_0 sh1_0 rfl rfl rfl (Nat.le_of_ble_eq_true rfl) (z_const dX12_parts_28 (z_icmp_ne dX12_parts_29 (fun c4 => ?_) (fun c4 => ?_))))))
      · have h := ziF h (c4)
        obtain ⟨s5, h⟩ := zchk_some h
        have h := zlet_h h
        obtain ⟨y8, l7, h⟩ := zbd_some h
        refine z_aload dX12_parts_35 rfl (z_getR dX12_parts_36 fkX12_13 in1_0 sh1_0 rfl (z_iload dX12_parts_39 rfl (z_const dX12_parts_40 (z_callS dX12_parts_41 (tX12_linkAt) (Nat.le_of_ble_eq_true rfl) cdX12_linkAt naX12_linkAt lkX12_64 stX12_linkAt rfl rfl (Nat.le_of_ble_eq_true rfl) (z_const dX12_parts_44 (z_iast dX12_parts_45 in1_1 sh1_1 (zin_vp s5) (z_iload dX12_parts_46 rfl (z_aload dX12_parts_47 rfl (z_callV dX12_parts_48 (tX12_waysMany l7) (Nat.le_of_ble_eq_true rfl) cdX12_waysMany naX12_waysMany lkX12_393 imX12_waysMany seX12_waysMany in1_0 sh1_0 rfl rfl rfl (Nat.le_of_ble_eq_true rfl) (z_iload dX12_parts_51 rfl (z_icmp_ge dX12_parts_52 (fun c9 => ?_) (fun c9 => ?_))))))))))))
        · have h := ziT h (c9)
          exact z_const dX12_parts_61 (z_mask [true, true, false, true] (sX12_parts_62 hK14 h))
        · have h := ziF h (c9)
          exact z_const dX12_parts_55 (z_iload dX12_parts_56 rfl (z_ishl dX12_parts_57 (z_goto dX12_parts_58 (z_mask [true, true, false, true] (sX12_parts_62 hK14 h)))))
      · have h := ziT h (c4)
        exact z_goto dX12_parts_32 (z_iinc dX12_parts_75 (Nat.le_of_ble_eq_true rfl) rfl (z_goto dX12_parts_78 (z_mask [true, true, true, true] (hK14 h))))
def eX12_parts (F : Nat) (X : zX) : Option (Int32 × zX) := zbd (eX12_waysMany F (zw X 0 0 (nI 0))) fun y2 => hX12_parts_14 F F y2.1 (nI 0) (nI 0) y2.2
set_option maxRecDepth 20000 in
set_option maxHeartbeats 4000000 in
theorem tX12_parts {μ : zM} {F : Nat} {X : zX} {ρ : Int32 × zX} (h : eX12_parts F X = some ρ) : LM mX12_parts 8 [zq 1 0] (zg μ 1 X) (some (zi ρ.1)) (zg μ 1 ρ.2) := by
  unfold eX12_parts at h
  refine LM.of (by decide +kernel) rfl (Nat.le_of_ble_eq_true rfl) ?_
  show zJ mX12_parts 8 (0, 0) (0, 0) _ 0 [some (zq 1 0), none, none, none] [] _
  obtain ⟨y2, l1, h⟩ := zbd_some h
  exact z_aload dX12_parts_0 rfl (z_const dX12_parts_1 (z_putI dX12_parts_2 fkX12_3 in1_0 sh1_0 rfl (fun _ _ _ h => by cases h; rfl) ⟨_, rfl, rfl, rfl⟩ (z_aload dX12_parts_5 rfl (z_callV dX12_parts_6 (tX12_waysMany l1) (Nat.le_of_ble_eq_true rfl) cdX12_waysMany naX12_waysMany lkX12_393 imX12_waysMany seX12_waysMany in1_0 sh1_0 rfl rfl rfl (Nat.le_of_ble_eq_true rfl) (z_istore dX12_parts_9 (Nat.le_of_ble_eq_true rfl) (z_const dX12_parts_10 (z_istore dX12_parts_11 (Nat.le_of_ble_eq_true rfl) (z_const dX12_parts_12 (z_istore dX12_parts_13 (Nat.le_of_ble_eq_true rfl) (z_mask [true, true, true, true] (sX12_parts_14 h)))))))))))
-- X12_readLink
def jX12_readLink_95 (F : Nat) (a1 a2 a3 a4 b0 : Int32) (X : zX) : Option (Int32 × zX) := if 0 ≤ b0 then zchk (zin (((nI 1482) + ((nI 6) * a1)) + (nI 0)) 2422) (zlet (zw X 1 (zn (((nI 1482) + ((nI 6) * a1)) + (nI 0))) a2) fun X3 => zchk (zin (((nI 1482) + ((nI 6) * a1)) + (nI 1)) 2422) (zlet (zw X3 1 (zn (((nI 1482) + ((nI 6) * a1)) + (nI 1))) a3) fun X5 => zchk (zin (((nI 1482) + ((nI 6) * a1)) + (nI 2)) 2422) (zlet (zw X5 1 (zn (((nI 1482) + ((nI 6) * a1)) + (nI 2))) a4) fun X7 => zchk (zin (((nI 1482) + ((nI 6) * a1)) + (nI 3)) 2422) (zlet (zw X7 1 (zn (((nI 1482) + ((nI 6) * a1)) + (nI 3))) b0) fun X9 => zchk (zin (((nI 1482) + ((nI 6) * a1)) + (nI 4)) 2422) (zlet (zw X9 1 (zn (((nI 1482) + ((nI 6) * a1)) + (nI 4))) (nI 0)) fun X11 => zchk (zin (((nI 1482) + ((nI 6) * a1)) + (nI 5)) 2422) (zlet (zw X11 1 (zn (((nI 1482) + ((nI 6) * a1)) + (nI 5))) (nI 0)) fun X13 => some ((nI 1), zw X13 1 1 ((X13 1 1) + (nI 1))))))))) else some ((nI 0), X)
set_option maxRecDepth 20000 in
set_option maxHeartbeats 4000000 in
theorem sX12_readLink_95 {μ : zM} {F : Nat} {a1 a2 a3 a4 b0 : Int32} {X : zX} {ρ : Int32 × zX} (h : jX12_readLink_95 F a1 a2 a3 a4 b0 X = some ρ) : zJ mX12_readLink 8 (0, 0) (0, 0) (zQ (some (zi ρ.1)) (zg μ 1 ρ.2)) 95 [some (zq 1 0), some (zi a1), some (zi a2), some (zi a3), some (zi a4), none] [zi b0] (zg μ 1 X) := by
  unfold jX12_readLink_95 at h
  refine z_istore dX12_readLink_95 (Nat.le_of_ble_eq_true rfl) (z_iload dX12_readLink_97 rfl (z_if_ge dX12_readLink_99 (fun c1 => ?_) (fun c1 => ?_)))
  · have h := ziT h (c1)
    obtain ⟨s2, h⟩ := zchk_some h
    have h := zlet_h h
    refine z_aload dX12_readLink_104 rfl (z_getR dX12_readLink_105 fkX12_13 in1_0 sh1_0 rfl (z_iload dX12_readLink_108 rfl (z_const dX12_readLink_109 (z_callS dX12_readLink_110 (tX12_linkAt) (Nat.le_of_ble_eq_true rfl) cdX12_linkAt naX12_linkAt lkX12_64 stX12_linkAt rfl rfl (Nat.le_of_ble_eq_true rfl) (z_iload dX12_readLink_113 rfl (z_iast dX12_readLink_114 in1_1 sh1_1 (zin_vp s2) (z_aload dX12_readLink_115 rfl (z_getR dX12_readLink_116 fkX12_13 in1_0 sh1_0 rfl (z_iload dX12_readLink_119 rfl (z_const dX12_readLink_120 (z_callS dX12_readLink_121 (tX12_linkAt) (Nat.le_of_ble_eq_true rfl) cdX12_linkAt naX12_linkAt lkX12_64 stX12_linkAt rfl rfl (Nat.le_of_ble_eq_true rfl) ?_)))))))))))
    obtain ⟨s4, h⟩ := zchk_some h
    have h := zlet_h h
    obtain ⟨s6, h⟩ := zchk_some h
    have h := zlet_h h
    refine z_iload dX12_readLink_124 rfl (z_iast dX12_readLink_125 in1_1 sh1_1 (zin_vp s4) (z_aload dX12_readLink_126 rfl (z_getR dX12_readLink_127 fkX12_13 in1_0 sh1_0 rfl (z_iload dX12_readLink_130 rfl (z_const dX12_readLink_131 (z_callS dX12_readLink_132 (tX12_linkAt) (Nat.le_of_ble_eq_true rfl) cdX12_linkAt naX12_linkAt lkX12_64 stX12_linkAt rfl rfl (Nat.le_of_ble_eq_true rfl) (z_iload dX12_readLink_135 rfl (z_iast dX12_readLink_137 in1_1 sh1_1 (zin_vp s6) (z_aload dX12_readLink_138 rfl (z_getR dX12_readLink_139 fkX12_13 in1_0 sh1_0 rfl (z_iload dX12_readLink_142 rfl ?_)))))))))))
    obtain ⟨s8, h⟩ := zchk_some h
    have h := zlet_h h
    obtain ⟨s10, h⟩ := zchk_some h
    have h := zlet_h h
    refine z_const dX12_readLink_143 (z_callS dX12_readLink_144 (tX12_linkAt) (Nat.le_of_ble_eq_true rfl) cdX12_linkAt naX12_linkAt lkX12_64 stX12_linkAt rfl rfl (Nat.le_of_ble_eq_true rfl) (z_iload dX12_readLink_147 rfl (z_iast dX12_readLink_149 in1_1 sh1_1 (zin_vp s8) (z_aload dX12_readLink_150 rfl (z_getR dX12_readLink_151 fkX12_13 in1_0 sh1_0 rfl (z_iload dX12_readLink_154 rfl (z_const dX12_readLink_155 (z_callS dX12_readLink_156 (tX12_linkAt) (Nat.le_of_ble_eq_true rfl) cdX12_linkAt naX12_linkAt lkX12_64 stX12_linkAt rfl rfl (Nat.le_of_ble_eq_true rfl) (z_const dX12_readLink_159 (z_iast dX12_readLink_160 in1_1 sh1_1 (zin_vp s10) (z_aload dX12_readLink_161 rfl ?_)))))))))))
    obtain ⟨s12, h⟩ := zchk_some h
    have h := zlet_h h
    refine z_getR dX12_readLink_162 fkX12_13 in1_0 sh1_0 rfl (z_iload dX12_readLink_165 rfl (z_const dX12_readLink_166 (z_callS dX12_readLink_167 (tX12_linkAt) (Nat.le_of_ble_eq_true rfl) cdX12_linkAt naX12_linkAt lkX12_64 stX12_linkAt rfl rfl (Nat.le_of_ble_eq_true rfl) (z_const dX12_readLink_170 (z_iast dX12_readLink_171 in1_1 sh1_1 (zin_vp s12) (z_aload dX12_readLink_172 rfl (z_getR dX12_readLink_173 fkX12_13 in1_0 sh1_0 rfl (z_const dX12_readLink_176 (z_dup2 dX12_readLink_177 rfl rfl (z_ialdN dX12_readLink_178 in1_1 sh1_1 (Nat.le_of_ble_eq_true rfl) (Nat.le_of_ble_eq_true rfl) (z_const dX12_readLink_179 ?_)))))))))))
    exact z_iadd dX12_readLink_180 (z_iastN dX12_readLink_181 in1_1 sh1_1 (Nat.le_of_ble_eq_true rfl) (Nat.le_of_ble_eq_true rfl) (z_const dX12_readLink_182 (z_zretQ dX12_readLink_183 rfl rfl (by cases h; rfl))))
  · have h := ziF h (c1)
    exact z_const dX12_readLink_102 (z_zretQ dX12_readLink_103 rfl rfl (by cases h; rfl))
def jX12_readLink_44 (F : Nat) (a1 a2 b0 : Int32) (X : zX) : Option (Int32 × zX) := if b0 < 0 then some ((nI 0), X) else if a2 = b0 then some ((nI 0), X) else zbd (eX12_between F a2 b0 X) fun r4 => if r4 = (-1) then zbd (eX12_behinds33 F (nI 1) (nI 9) X) fun y7 => if 0 ≤ y7.1 then zbd (eX12_behinds34 F (nI 0) (nI 100) y7.2) fun y10 => jX12_readLink_95 F a1 a2 b0 y7.1 y10.1 y10.2 else jX12_readLink_95 F a1 a2 b0 y7.1 (-1) y7.2 else some ((nI 0), X)
set_option maxRecDepth 20000 in
set_option maxHeartbeats 4000000 in
theorem sX12_readLink_44 {μ : zM} {F : Nat} {a1 a2 b0 : Int32} {X : zX} {ρ : Int32 × zX} (h : jX12_readLink_44 F a1 a2 b0 X = some ρ) : zJ mX12_readLink 8 (0, 0) (0, 0) (zQ (some (zi ρ.1)) (zg μ 1 ρ.2)) 44 [some (zq 1 0), some (zi a1), some (zi a2), none, none, none] [zi b0] (zg μ 1 X) := by
  unfold jX12_readLink_44 at h
  refine z_istore dX12_readLink_44 (Nat.le_of_ble_eq_true rfl) (z_iload dX12_readLink_45 rfl (z_if_lt dX12_readLink_46 (fun c1 => ?_) (fun c1 => ?_)))
  · have h := ziT h (c1)
    exact z_const dX12_readLink_64 (z_zretQ dX12_readLink_65 rfl rfl (by cases h; rfl))
  · have h := ziF h (c1)
    refine z_iload dX12_readLink_49 rfl (z_iload dX12_readLink_50 rfl (z_icmp_eq dX12_readLink_51 (fun c2 => ?_) (fun c2 => ?_)))
    · have h := ziT h (c2)
      exact z_const dX12_readLink_64 (z_zretQ dX12_readLink_65 rfl rfl (by cases h; rfl))
    · have h := ziF h (c2)
      obtain ⟨r4, l3, h⟩ := zbd_some h
      refine z_aload dX12_readLink_54 rfl (z_iload dX12_readLink_55 rfl (z_iload dX12_readLink_56 rfl (z_callV dX12_readLink_57 (tX12_between l3) (Nat.le_of_ble_eq_true rfl) cdX12_between naX12_between lkX12_142 imX12_between seX12_between in1_0 sh1_0 rfl rfl rfl (Nat.le_of_ble_eq_true rfl) (z_const dX12_readLink_60 (z_icmp_eq dX12_readLink_61 (fun c5 => ?_) (fun c5 => ?_))))))
      · have h := ziT h (c5)
        obtain ⟨y7, l6, h⟩ := zbd_some h
        refine z_aload dX12_readLink_66 rfl (z_ldcs dX12_readLink_67 (i := 33) rfl rfl rfl (z_const dX12_readLink_69 (z_const dX12_readLink_70 (z_callV dX12_readLink_72 (tX12_behinds33 l6) (Nat.le_of_ble_eq_true rfl) cdX12_behind naX12_behind lkX12_147 imX12_behind seX12_behind in1_0 sh1_0 rfl rfl rfl (Nat.le_of_ble_eq_true rfl) (z_istore dX12_readLink_75 (Nat.le_of_ble_eq_true rfl) (z_iload dX12_readLink_77 rfl (z_if_ge dX12_readLink_79 (fun c8 => ?_) (fun c8 => ?_))))))))
        · have h := ziT h (c8)
          obtain ⟨y10, l9, h⟩ := zbd_some h
          exact z_aload dX12_readLink_86 rfl (z_ldcs dX12_readLink_87 (i := 34) rfl rfl rfl (z_const dX12_readLink_89 (z_const dX12_readLink_90 (z_callV dX12_readLink_92 (tX12_behinds34 l9) (Nat.le_of_ble_eq_true rfl) cdX12_behind naX12_behind lkX12_147 imX12_behind seX12_behind in1_0 sh1_0 rfl rfl rfl (Nat.le_of_ble_eq_true rfl) (z_mask [true, true, true, true, true, false] (sX12_readLink_95 h))))))
        · have h := ziF h (c8)
          exact z_const dX12_readLink_82 (z_goto dX12_readLink_83 (z_mask [true, true, true, true, true, false] (sX12_readLink_95 h)))
      · have h := ziF h (c5)
        exact z_const dX12_readLink_64 (z_zretQ dX12_readLink_65 rfl rfl (by cases h; rfl))
def eX12_readLink (F : Nat) (X : zX) : Option (Int32 × zX) := if (X 1 1) = (nI 10) then some ((nI 0), X) else zbd (eX12_number F (nI 0) ((X 1 0) - (nI 1)) X) fun y3 => if 0 ≤ y3.1 then zbd (eX12_number F (nI 0) ((y3.2 1 0) - (nI 1)) y3.2) fun y6 => jX12_readLink_44 F (X 1 1) y3.1 y6.1 y6.2 else jX12_readLink_44 F (X 1 1) y3.1 (-1) y3.2
set_option maxRecDepth 20000 in
set_option maxHeartbeats 4000000 in
theorem tX12_readLink {μ : zM} {F : Nat} {X : zX} {ρ : Int32 × zX} (h : eX12_readLink F X = some ρ) : LM mX12_readLink 8 [zq 1 0] (zg μ 1 X) (some (zi ρ.1)) (zg μ 1 ρ.2) := by
  unfold eX12_readLink at h
  refine LM.of (by decide +kernel) rfl (Nat.le_of_ble_eq_true rfl) ?_
  show zJ mX12_readLink 8 (0, 0) (0, 0) _ 0 [some (zq 1 0), none, none, none, none, none] [] _
  refine z_aload dX12_readLink_0 rfl (z_callV dX12_readLink_1 (tX12_links) (Nat.le_of_ble_eq_true rfl) cdX12_links naX12_links lkX12_75 imX12_links seX12_links in1_0 sh1_0 rfl rfl rfl (Nat.le_of_ble_eq_true rfl) (z_istore dX12_readLink_4 (Nat.le_of_ble_eq_true rfl) (z_iload dX12_readLink_5 rfl (z_const dX12_readLink_6 (z_icmp_ne dX12_readLink_8 (fun c1 => ?_) (fun c1 => ?_))))))
  · have h := ziF h (c1)
    obtain ⟨y3, l2, h⟩ := zbd_some h
    refine z_aload dX12_readLink_13 rfl (z_const dX12_readLink_14 (z_aload dX12_readLink_15 rfl (z_callV dX12_readLink_16 (tX12_nodes) (Nat.le_of_ble_eq_true rfl) cdX12_nodes naX12_nodes lkX12_67 imX12_nodes seX12_nodes in1_0 sh1_0 rfl rfl rfl (Nat.le_of_ble_eq_true rfl) (z_const dX12_readLink_19 (z_isub dX12_readLink_20 (z_callV dX12_readLink_21 (tX12_number l2) (Nat.le_of_ble_eq_true rfl) cdX12_number naX12_number lkX12_120 imX12_number seX12_number in1_0 sh1_0 rfl rfl rfl (Nat.le_of_ble_eq_true rfl) (z_istore dX12_readLink_24 (Nat.le_of_ble_eq_true rfl) (z_iload dX12_readLink_25 rfl (z_if_ge dX12_readLink_26 (fun c4 => ?_) (fun c4 => ?_))))))))))
    · have h := ziT h (c4)
      obtain ⟨y6, l5, h⟩ := zbd_some h
      exact z_aload dX12_readLink_33 rfl (z_const dX12_readLink_34 (z_aload dX12_readLink_35 rfl (z_callV dX12_readLink_36 (tX12_nodes) (Nat.le_of_ble_eq_true rfl) cdX12_nodes naX12_nodes lkX12_67 imX12_nodes seX12_nodes in1_0 sh1_0 rfl rfl rfl (Nat.le_of_ble_eq_true rfl) (z_const dX12_readLink_39 (z_isub dX12_readLink_40 (z_callV dX12_readLink_41 (tX12_number l5) (Nat.le_of_ble_eq_true rfl) cdX12_number naX12_number lkX12_120 imX12_number seX12_number in1_0 sh1_0 rfl rfl rfl (Nat.le_of_ble_eq_true rfl) (z_mask [true, true, true, false, false, false] (sX12_readLink_44 h))))))))
    · have h := ziF h (c4)
      exact z_const dX12_readLink_29 (z_goto dX12_readLink_30 (z_mask [true, true, true, false, false, false] (sX12_readLink_44 h)))
  · have h := ziT h (c1)
    exact z_const dX12_readLink_11 (z_zretQ dX12_readLink_12 rfl rfl (by cases h; rfl))
-- X12_readNode
def hX12_readNode_148 (F : Nat) : Nat → Int32 → Int32 → zX → Option (Int32 × zX)
  | 0, _, _, _ => none
  | n + 1, a1, a2, X => if (nI 12) ≤ a2 then some ((nI 1), zw X 1 0 ((X 1 0) + (nI 1))) else zchk (zin (((nI 18) + ((nI 244) * a1)) + (((nI 28) + ((nI 18) * a2)) + (nI 0))) 2422) (zlet (zw X 1 (zn (((nI 18) + ((nI 244) * a1)) + (((nI 28) + ((nI 18) * a2)) + (nI 0)))) (-1)) fun X3 => zchk (zin (((nI 18) + ((nI 244) * a1)) + (((nI 28) + ((nI 18) * a2)) + (nI 5))) 2422) (zlet (zw X3 1 (zn (((nI 18) + ((nI 244) * a1)) + (((nI 28) + ((nI 18) * a2)) + (nI 5)))) (-1)) fun X5 => zbd (eX12_hasItFrom a1 a2 (-1) (-1) X5) fun y7 => (hX12_readNode_148 F n) a1 (a2 + (nI 1)) y7))
set_option maxRecDepth 20000 in
set_option maxHeartbeats 4000000 in
theorem sX12_readNode_148 {μ : zM} {F : Nat} : ∀ {n : Nat} {a1 a2 : Int32} {X : zX} {ρ : Int32 × zX}, hX12_readNode_148 F n a1 a2 X = some ρ → zJ mX12_readNode 8 (0, 0) (0, 0) (zQ (some (zi ρ.1)) (zg μ 1 ρ.2)) 148 [some (zq 1 0), some (zi a1), some (zi a2)] [] (zg μ 1 X) := by
  intro n
  induction n with
  | zero => intro a1 a2 X ρ h; exact nomatch (show (none : Option _) = some ρ from h)
  | succ n ih =>
    intro a1 a2 X ρ h
    have hK148 := @ih
    rw [hX12_readNode_148] at h
    refine z_iload dX12_readNode_148 rfl (z_const dX12_readNode_149 (z_icmp_ge dX12_readNode_151 (fun c1 => ?_) (fun c1 => ?_)))
    · have h := ziT h (c1)
      exact z_aload dX12_readNode_192 rfl (z_getR dX12_readNode_193 fkX12_13 in1_0 sh1_0 rfl (z_const dX12_readNode_196 (z_dup2 dX12_readNode_197 rfl rfl (z_ialdN dX12_readNode_198 in1_1 sh1_1 (Nat.le_of_ble_eq_true rfl) (Nat.le_of_ble_eq_true rfl) (z_const dX12_readNode_199 (z_iadd dX12_readNode_200 (z_iastN dX12_readNode_201 in1_1 sh1_1 (Nat.le_of_ble_eq_true rfl) (Nat.le_of_ble_eq_true rfl) (z_const dX12_readNode_202 (z_zretQ dX12_readNode_203 rfl rfl (by cases h; rfl))))))))))
    · have h := ziF h (c1)
      obtain ⟨s2, h⟩ := zchk_some h
      have h := zlet_h h
      refine z_aload dX12_readNode_154 rfl (z_getR dX12_readNode_155 fkX12_13 in1_0 sh1_0 rfl (z_iload dX12_readNode_158 rfl (z_iload dX12_readNode_159 rfl (z_const dX12_readNode_160 (z_callS dX12_readNode_161 (tX12_packetAt) (Nat.le_of_ble_eq_true rfl) cdX12_packetAt naX12_packetAt lkX12_60 stX12_packetAt rfl rfl (Nat.le_of_ble_eq_true rfl) (z_const dX12_readNode_164 (z_iast dX12_readNode_165 in1_1 sh1_1 (zin_vp s2) (z_aload dX12_readNode_166 rfl (z_getR dX12_readNode_167 fkX12_13 in1_0 sh1_0 rfl (z_iload dX12_readNode_170 rfl (z_iload dX12_readNode_171 rfl ?_)))))))))))
      obtain ⟨s4, h⟩ := zchk_some h
      have h := zlet_h h
      obtain ⟨y7, l6, h⟩ := zbd_some h
      refine z_const dX12_readNode_172 (z_callS dX12_readNode_173 (tX12_packetAt) (Nat.le_of_ble_eq_true rfl) cdX12_packetAt naX12_packetAt lkX12_60 stX12_packetAt rfl rfl (Nat.le_of_ble_eq_true rfl) (z_const dX12_readNode_176 (z_iast dX12_readNode_177 in1_1 sh1_1 (zin_vp s4) (z_aload dX12_readNode_178 rfl (z_iload dX12_readNode_179 rfl (z_iload dX12_readNode_180 rfl (z_const dX12_readNode_181 (z_const dX12_readNode_182 (z_callV dX12_readNode_183 (tX12_hasItFrom l6) (Nat.le_of_ble_eq_true rfl) cdX12_hasItFrom naX12_hasItFrom lkX12_132 imX12_hasItFrom seX12_hasItFrom in1_0 sh1_0 rfl rfl rfl (Nat.le_of_ble_eq_true rfl) (z_iinc dX12_readNode_186 (Nat.le_of_ble_eq_true rfl) rfl (z_goto dX12_readNode_189 ?_)))))))))))
      exact z_mask [true, true, true] (hK148 h)
def hX12_readNode_122 (F : Nat) : Nat → Int32 → Int32 → zX → Option (Int32 × zX)
  | 0, _, _, _ => none
  | n + 1, a1, a2, X => if (nI 6) ≤ a2 then hX12_readNode_148 F F a1 (nI 0) X else zbd (eX12_knows a1 a2 X) fun y3 => zbd (eX12_knows a2 a1 y3) fun y5 => (hX12_readNode_122 F n) a1 (a2 + (nI 1)) y5
set_option maxRecDepth 20000 in
set_option maxHeartbeats 4000000 in
theorem sX12_readNode_122 {μ : zM} {F : Nat} : ∀ {n : Nat} {a1 a2 : Int32} {X : zX} {ρ : Int32 × zX}, hX12_readNode_122 F n a1 a2 X = some ρ → zJ mX12_readNode 8 (0, 0) (0, 0) (zQ (some (zi ρ.1)) (zg μ 1 ρ.2)) 122 [some (zq 1 0), some (zi a1), some (zi a2)] [] (zg μ 1 X) := by
  intro n
  induction n with
  | zero => intro a1 a2 X ρ h; exact nomatch (show (none : Option _) = some ρ from h)
  | succ n ih =>
    intro a1 a2 X ρ h
    have hK122 := @ih
    rw [hX12_readNode_122] at h
    refine z_iload dX12_readNode_122 rfl (z_const dX12_readNode_123 (z_icmp_ge dX12_readNode_125 (fun c1 => ?_) (fun c1 => ?_)))
    · have h := ziT h (c1)
      exact z_const dX12_readNode_146 (z_istore dX12_readNode_147 (Nat.le_of_ble_eq_true rfl) (z_mask [true, true, true] (sX12_readNode_148 h)))
    · have h := ziF h (c1)
      obtain ⟨y3, l2, h⟩ := zbd_some h
      obtain ⟨y5, l4, h⟩ := zbd_some h
      exact z_aload dX12_readNode_128 rfl (z_iload dX12_readNode_129 rfl (z_iload dX12_readNode_130 rfl (z_callV dX12_readNode_131 (tX12_knows l2) (Nat.le_of_ble_eq_true rfl) cdX12_knows naX12_knows lkX12_128 imX12_knows seX12_knows in1_0 sh1_0 rfl rfl rfl (Nat.le_of_ble_eq_true rfl) (z_aload dX12_readNode_134 rfl (z_iload dX12_readNode_135 rfl (z_iload dX12_readNode_136 rfl (z_callV dX12_readNode_137 (tX12_knows l4) (Nat.le_of_ble_eq_true rfl) cdX12_knows naX12_knows lkX12_128 imX12_knows seX12_knows in1_0 sh1_0 rfl rfl rfl (Nat.le_of_ble_eq_true rfl) (z_iinc dX12_readNode_140 (Nat.le_of_ble_eq_true rfl) rfl (z_goto dX12_readNode_143 (z_mask [true, true, true] (hK122 h)))))))))))
def jX12_readNode_62 (F : Nat) (a1 b0 b1 : Int32) (X : zX) : Option (Int32 × zX) := zchk (zin b1 2422) (zchk (zin (((nI 18) + ((nI 244) * a1)) + (nI 2)) 2422) (zlet (zw (zw X 1 (zn b1) b0) 1 (zn (((nI 18) + ((nI 244) * a1)) + (nI 2))) (-1)) fun X3 => zchk (zin (((nI 18) + ((nI 244) * a1)) + (nI 3)) 2422) (zlet (zw X3 1 (zn (((nI 18) + ((nI 244) * a1)) + (nI 3))) (X3 1 8)) fun X5 => zchk (zin (((nI 18) + ((nI 244) * a1)) + (nI 4)) 2422) (zlet (zw X5 1 (zn (((nI 18) + ((nI 244) * a1)) + (nI 4))) (X5 1 9)) fun X7 => zchk (zin (((nI 18) + ((nI 244) * a1)) + (nI 5)) 2422) (zlet (zw X7 1 (zn (((nI 18) + ((nI 244) * a1)) + (nI 5))) (nI 16)) fun X9 => hX12_readNode_122 F F a1 (nI 0) X9)))))
set_option maxRecDepth 20000 in
set_option maxHeartbeats 4000000 in
theorem sX12_readNode_62 {μ : zM} {F : Nat} {a1 b0 b1 : Int32} {X : zX} {ρ : Int32 × zX} (h : jX12_readNode_62 F a1 b0 b1 X = some ρ) : zJ mX12_readNode 8 (0, 0) (0, 0) (zQ (some (zi ρ.1)) (zg μ 1 ρ.2)) 62 [some (zq 1 0), some (zi a1), none] [zi b0, zi b1, zq 1 1] (zg μ 1 X) := by
  unfold jX12_readNode_62 at h
  obtain ⟨s1, h⟩ := zchk_some h
  obtain ⟨s2, h⟩ := zchk_some h
  have h := zlet_h h
  refine z_iast dX12_readNode_62 in1_1 sh1_1 (zin_vp s1) (z_aload dX12_readNode_63 rfl (z_getR dX12_readNode_64 fkX12_13 in1_0 sh1_0 rfl (z_iload dX12_readNode_67 rfl (z_const dX12_readNode_68 (z_callS dX12_readNode_69 (tX12_nodeAt) (Nat.le_of_ble_eq_true rfl) cdX12_nodeAt naX12_nodeAt lkX12_56 stX12_nodeAt rfl rfl (Nat.le_of_ble_eq_true rfl) (z_const dX12_readNode_72 (z_iast dX12_readNode_73 in1_1 sh1_1 (zin_vp s2) (z_aload dX12_readNode_74 rfl (z_getR dX12_readNode_75 fkX12_13 in1_0 sh1_0 rfl (z_iload dX12_readNode_78 rfl (z_const dX12_readNode_79 ?_)))))))))))
  obtain ⟨s4, h⟩ := zchk_some h
  have h := zlet_h h
  refine z_callS dX12_readNode_80 (tX12_nodeAt) (Nat.le_of_ble_eq_true rfl) cdX12_nodeAt naX12_nodeAt lkX12_56 stX12_nodeAt rfl rfl (Nat.le_of_ble_eq_true rfl) (z_aload dX12_readNode_83 rfl (z_getR dX12_readNode_84 fkX12_13 in1_0 sh1_0 rfl (z_const dX12_readNode_87 (z_ialdN dX12_readNode_89 in1_1 sh1_1 (Nat.le_of_ble_eq_true rfl) (Nat.le_of_ble_eq_true rfl) (z_iast dX12_readNode_90 in1_1 sh1_1 (zin_vp s4) (z_aload dX12_readNode_91 rfl (z_getR dX12_readNode_92 fkX12_13 in1_0 sh1_0 rfl (z_iload dX12_readNode_95 rfl (z_const dX12_readNode_96 (z_callS dX12_readNode_97 (tX12_nodeAt) (Nat.le_of_ble_eq_true rfl) cdX12_nodeAt naX12_nodeAt lkX12_56 stX12_nodeAt rfl rfl (Nat.le_of_ble_eq_true rfl) (z_aload dX12_readNode_100 rfl ?_)))))))))))
  obtain ⟨s6, h⟩ := zchk_some h
  have h := zlet_h h
  obtain ⟨s8, h⟩ := zchk_some h
  have h := zlet_h h
  refine z_getR dX12_readNode_101 fkX12_13 in1_0 sh1_0 rfl (z_const dX12_readNode_104 (z_ialdN dX12_readNode_106 in1_1 sh1_1 (Nat.le_of_ble_eq_true rfl) (Nat.le_of_ble_eq_true rfl) (z_iast dX12_readNode_107 in1_1 sh1_1 (zin_vp s6) (z_aload dX12_readNode_108 rfl (z_getR dX12_readNode_109 fkX12_13 in1_0 sh1_0 rfl (z_iload dX12_readNode_112 rfl (z_const dX12_readNode_113 (z_callS dX12_readNode_114 (tX12_nodeAt) (Nat.le_of_ble_eq_true rfl) cdX12_nodeAt naX12_nodeAt lkX12_56 stX12_nodeAt rfl rfl (Nat.le_of_ble_eq_true rfl) (z_const dX12_readNode_117 (z_iast dX12_readNode_119 in1_1 sh1_1 (zin_vp s8) (z_const dX12_readNode_120 ?_)))))))))))
  exact z_istore dX12_readNode_121 (Nat.le_of_ble_eq_true rfl) (z_mask [true, true, true] (sX12_readNode_122 h))
def hX12_readNode_15 (F : Nat) : Nat → Int32 → Int32 → zX → Option (Int32 × zX)
  | 0, _, _, _ => none
  | n + 1, a1, a2, X => if (nI 244) ≤ a2 then zbd (eX12_passess31 F X) fun y3 => if y3.1 = 0 then jX12_readNode_62 F a1 (nI 1) (((nI 18) + ((nI 244) * a1)) + (nI 0)) y3.2 else jX12_readNode_62 F a1 (nI 0) (((nI 18) + ((nI 244) * a1)) + (nI 0)) y3.2 else zchk (zin (((nI 18) + ((nI 244) * a1)) + a2) 2422) (zlet (zw X 1 (zn (((nI 18) + ((nI 244) * a1)) + a2)) (nI 0)) fun X6 => (hX12_readNode_15 F n) a1 (a2 + (nI 1)) X6)
set_option maxRecDepth 20000 in
set_option maxHeartbeats 4000000 in
theorem sX12_readNode_15 {μ : zM} {F : Nat} : ∀ {n : Nat} {a1 a2 : Int32} {X : zX} {ρ : Int32 × zX}, hX12_readNode_15 F n a1 a2 X = some ρ → zJ mX12_readNode 8 (0, 0) (0, 0) (zQ (some (zi ρ.1)) (zg μ 1 ρ.2)) 15 [some (zq 1 0), some (zi a1), some (zi a2)] [] (zg μ 1 X) := by
  intro n
  induction n with
  | zero => intro a1 a2 X ρ h; exact nomatch (show (none : Option _) = some ρ from h)
  | succ n ih =>
    intro a1 a2 X ρ h
    have hK15 := @ih
    rw [hX12_readNode_15] at h
    refine z_iload dX12_readNode_15 rfl (z_const dX12_readNode_16 (z_icmp_ge dX12_readNode_19 (fun c1 => ?_) (fun c1 => ?_)))
    · have h := ziT h (c1)
      obtain ⟨y3, l2, h⟩ := zbd_some h
      refine z_aload dX12_readNode_39 rfl (z_getR dX12_readNode_40 fkX12_13 in1_0 sh1_0 rfl (z_iload dX12_readNode_43 rfl (z_const dX12_readNode_44 (z_callS dX12_readNode_45 (tX12_nodeAt) (Nat.le_of_ble_eq_true rfl) cdX12_nodeAt naX12_nodeAt lkX12_56 stX12_nodeAt rfl rfl (Nat.le_of_ble_eq_true rfl) (z_aload dX12_readNode_48 rfl (z_ldcs dX12_readNode_49 (i := 31) rfl rfl rfl (z_callV dX12_readNode_51 (tX12_passess31 l2) (Nat.le_of_ble_eq_true rfl) cdX12_passes naX12_passes lkX12_125 imX12_passes seX12_passes in1_0 sh1_0 rfl rfl rfl (Nat.le_of_ble_eq_true rfl) (z_if_eq dX12_readNode_54 (fun c4 => ?_) (fun c4 => ?_)))))))))
      · have h := ziT h (c4)
        exact z_const dX12_readNode_61 (z_mask [true, true, false] (sX12_readNode_62 h))
      · have h := ziF h (c4)
        exact z_const dX12_readNode_57 (z_goto dX12_readNode_58 (z_mask [true, true, false] (sX12_readNode_62 h)))
    · have h := ziF h (c1)
      obtain ⟨s5, h⟩ := zchk_some h
      have h := zlet_h h
      exact z_aload dX12_readNode_22 rfl (z_getR dX12_readNode_23 fkX12_13 in1_0 sh1_0 rfl (z_iload dX12_readNode_26 rfl (z_iload dX12_readNode_27 rfl (z_callS dX12_readNode_28 (tX12_nodeAt) (Nat.le_of_ble_eq_true rfl) cdX12_nodeAt naX12_nodeAt lkX12_56 stX12_nodeAt rfl rfl (Nat.le_of_ble_eq_true rfl) (z_const dX12_readNode_31 (z_iast dX12_readNode_32 in1_1 sh1_1 (zin_vp s5) (z_iinc dX12_readNode_33 (Nat.le_of_ble_eq_true rfl) rfl (z_goto dX12_readNode_36 (z_mask [true, true, true] (hK15 h))))))))))
def eX12_readNode (F : Nat) (X : zX) : Option (Int32 × zX) := if (X 1 0) = (nI 6) then some ((nI 0), X) else hX12_readNode_15 F F (X 1 0) (nI 0) X
set_option maxRecDepth 20000 in
set_option maxHeartbeats 4000000 in
theorem tX12_readNode {μ : zM} {F : Nat} {X : zX} {ρ : Int32 × zX} (h : eX12_readNode F X = some ρ) : LM mX12_readNode 8 [zq 1 0] (zg μ 1 X) (some (zi ρ.1)) (zg μ 1 ρ.2) := by
  unfold eX12_readNode at h
  refine LM.of (by decide +kernel) rfl (Nat.le_of_ble_eq_true rfl) ?_
  show zJ mX12_readNode 8 (0, 0) (0, 0) _ 0 [some (zq 1 0), none, none] [] _
  refine z_aload dX12_readNode_0 rfl (z_callV dX12_readNode_1 (tX12_nodes) (Nat.le_of_ble_eq_true rfl) cdX12_nodes naX12_nodes lkX12_67 imX12_nodes seX12_nodes in1_0 sh1_0 rfl rfl rfl (Nat.le_of_ble_eq_true rfl) (z_istore dX12_readNode_4 (Nat.le_of_ble_eq_true rfl) (z_iload dX12_readNode_5 rfl (z_const dX12_readNode_6 (z_icmp_ne dX12_readNode_8 (fun c1 => ?_) (fun c1 => ?_))))))
  · have h := ziF h (c1)
    exact z_const dX12_readNode_13 (z_istore dX12_readNode_14 (Nat.le_of_ble_eq_true rfl) (z_mask [true, true, true] (sX12_readNode_15 h)))
  · have h := ziT h (c1)
    exact z_const dX12_readNode_11 (z_zretQ dX12_readNode_12 rfl rfl (by cases h; rfl))
-- X12_route
def hX12_route_70 (F : Nat) : Nat → Int32 → Int32 → Int32 → Int32 → zX → Option (Int32 × zX)
  | 0, _, _, _, _, _ => none
  | n + 1, a1, a4, a5, a6, X => if a4 ≤ a6 then some (a5, X) else zchk (zin (((nI 6) * a1) + a5) 36) ((hX12_route_70 F n) a1 a4 (X 8 (zn (((nI 6) * a1) + a5))) (a6 + (nI 1)) X)
set_option maxRecDepth 20000 in
set_option maxHeartbeats 4000000 in
theorem sX12_route_70 {μ : zM} {F : Nat} : ∀ {n : Nat} {a1 a4 a5 a6 : Int32} {X : zX} {ρ : Int32 × zX}, hX12_route_70 F n a1 a4 a5 a6 X = some ρ → zJ mX12_route 8 (0, 0) (0, 0) (zQ (some (zi ρ.1)) (zg μ 1 ρ.2)) 70 [some (zq 1 0), some (zi a1), none, none, some (zi a4), some (zi a5), some (zi a6)] [] (zg μ 1 X) := by
  intro n
  induction n with
  | zero => intro a1 a4 a5 a6 X ρ h; exact nomatch (show (none : Option _) = some ρ from h)
  | succ n ih =>
    intro a1 a4 a5 a6 X ρ h
    have hK70 := @ih
    rw [hX12_route_70] at h
    refine z_iload dX12_route_70 rfl (z_iload dX12_route_72 rfl (z_icmp_ge dX12_route_74 (fun c1 => ?_) (fun c1 => ?_)))
    · have h := ziT h (c1)
      exact z_iload dX12_route_96 rfl (z_iretQ dX12_route_98 rfl (by cases h; rfl))
    · have h := ziF h (c1)
      obtain ⟨s2, h⟩ := zchk_some h
      exact z_aload dX12_route_77 rfl (z_getR dX12_route_78 fkX12_39 in1_0 sh1_0 rfl (z_iload dX12_route_81 rfl (z_iload dX12_route_82 rfl (z_callS dX12_route_84 (tX12_at) (Nat.le_of_ble_eq_true rfl) cdX12_at naX12_at lkX12_193 stX12_at rfl rfl (Nat.le_of_ble_eq_true rfl) (z_iald dX12_route_87 in1_8 sh1_8 (zin_vp s2) (z_istore dX12_route_88 (Nat.le_of_ble_eq_true rfl) (z_iinc dX12_route_90 (Nat.le_of_ble_eq_true rfl) rfl (z_goto dX12_route_93 (z_mask [true, true, false, false, true, true, true] (hK70 h))))))))))
def jX12_route_51 (F : Nat) (a1 a2 a3 b0 : Int32) (X : zX) : Option (Int32 × zX) := if a3 < 0 then some ((-1), X) else if 0 ≤ b0 then hX12_route_70 F F a1 b0 a2 (nI 0) X else some ((-1), X)
set_option maxRecDepth 20000 in
set_option maxHeartbeats 4000000 in
theorem sX12_route_51 {μ : zM} {F : Nat} {a1 a2 a3 b0 : Int32} {X : zX} {ρ : Int32 × zX} (h : jX12_route_51 F a1 a2 a3 b0 X = some ρ) : zJ mX12_route 8 (0, 0) (0, 0) (zQ (some (zi ρ.1)) (zg μ 1 ρ.2)) 51 [some (zq 1 0), some (zi a1), some (zi a2), some (zi a3), none, none, none] [zi b0] (zg μ 1 X) := by
  unfold jX12_route_51 at h
  refine z_istore dX12_route_51 (Nat.le_of_ble_eq_true rfl) (z_iload dX12_route_53 rfl (z_if_lt dX12_route_54 (fun c1 => ?_) (fun c1 => ?_)))
  · have h := ziT h (c1)
    exact z_const dX12_route_62 (z_iretQ dX12_route_63 rfl (by cases h; rfl))
  · have h := ziF h (c1)
    refine z_iload dX12_route_57 rfl (z_if_ge dX12_route_59 (fun c2 => ?_) (fun c2 => ?_))
    · have h := ziT h (c2)
      exact z_iload dX12_route_64 rfl (z_istore dX12_route_65 (Nat.le_of_ble_eq_true rfl) (z_const dX12_route_67 (z_istore dX12_route_68 (Nat.le_of_ble_eq_true rfl) (z_mask [true, true, false, false, true, true, true] (sX12_route_70 h)))))
    · have h := ziF h (c2)
      exact z_const dX12_route_62 (z_iretQ dX12_route_63 rfl (by cases h; rfl))
def eX12_route (F : Nat) (x0 x1 x2 : Int32) (X : zX) : Option (Int32 × zX) := zbd (eX12_noTwo F x0 x1 X) fun y2 => if y2.1 = 0 then if x0 = x1 then if x2 = 0 then some (x0, y2.2) else some ((-1), y2.2) else zbd (eX12_isWay x0 x1 y2.2) fun r6 => if r6 = 0 then jX12_route_51 F x0 x1 x2 (-1) y2.2 else zchk (zin (((nI 6) * x0) + x1) 36) (jX12_route_51 F x0 x1 x2 ((y2.2 9 (zn (((nI 6) * x0) + x1))) - x2) y2.2) else some ((nI 0), y2.2)
set_option maxRecDepth 20000 in
set_option maxHeartbeats 4000000 in
theorem tX12_route {μ : zM} {F : Nat} {x0 x1 x2 : Int32} {X : zX} {ρ : Int32 × zX} (h : eX12_route F x0 x1 x2 X = some ρ) : LM mX12_route 8 [zq 1 0, zi x0, zi x1, zi x2] (zg μ 1 X) (some (zi ρ.1)) (zg μ 1 ρ.2) := by
  unfold eX12_route at h
  refine LM.of (by decide +kernel) rfl (Nat.le_of_ble_eq_true rfl) ?_
  show zJ mX12_route 8 (0, 0) (0, 0) _ 0 [some (zq 1 0), some (zi x0), some (zi x1), some (zi x2), none, none, none] [] _
  obtain ⟨y2, l1, h⟩ := zbd_some h
  refine z_aload dX12_route_0 rfl (z_iload dX12_route_1 rfl (z_iload dX12_route_2 rfl (z_callV dX12_route_3 (tX12_noTwo l1) (Nat.le_of_ble_eq_true rfl) cdX12_noTwo naX12_noTwo lkX12_342 imX12_noTwo seX12_noTwo in1_0 sh1_0 rfl rfl rfl (Nat.le_of_ble_eq_true rfl) (z_if_eq dX12_route_6 (fun c3 => ?_) (fun c3 => ?_)))))
  · have h := ziT h (c3)
    refine z_iload dX12_route_11 rfl (z_iload dX12_route_12 rfl (z_icmp_ne dX12_route_13 (fun c4 => ?_) (fun c4 => ?_)))
    · have h := ziF h (c4)
      obtain ⟨r6, l5, h⟩ := zbd_some h
      refine z_aload dX12_route_26 rfl (z_iload dX12_route_27 rfl (z_iload dX12_route_28 rfl (z_callV dX12_route_29 (tX12_isWay l5) (Nat.le_of_ble_eq_true rfl) cdX12_isWay naX12_isWay lkX12_204 imX12_isWay seX12_isWay in1_0 sh1_0 rfl rfl rfl (Nat.le_of_ble_eq_true rfl) (z_if_eq dX12_route_32 (fun c7 => ?_) (fun c7 => ?_)))))
      · have h := ziT h (c7)
        exact z_const dX12_route_50 (z_mask [true, true, true, true, false, false, false] (sX12_route_51 h))
      · have h := ziF h (c7)
        obtain ⟨s8, h⟩ := zchk_some h
        exact z_aload dX12_route_35 rfl (z_getR dX12_route_36 fkX12_42 in1_0 sh1_0 rfl (z_iload dX12_route_39 rfl (z_iload dX12_route_40 rfl (z_callS dX12_route_41 (tX12_at) (Nat.le_of_ble_eq_true rfl) cdX12_at naX12_at lkX12_193 stX12_at rfl rfl (Nat.le_of_ble_eq_true rfl) (z_iald dX12_route_44 in1_9 sh1_9 (zin_vp s8) (z_iload dX12_route_45 rfl (z_isub dX12_route_46 (z_goto dX12_route_47 (z_mask [true, true, true, true, false, false, false] (sX12_route_51 h))))))))))
    · have h := ziT h (c4)
      refine z_iload dX12_route_16 rfl (z_if_ne dX12_route_17 (fun c9 => ?_) (fun c9 => ?_))
      · have h := ziF h (c9)
        exact z_const dX12_route_24 (z_iretQ dX12_route_25 rfl (by cases h; rfl))
      · have h := ziT h (c9)
        exact z_iload dX12_route_20 rfl (z_goto dX12_route_21 (z_iretQ dX12_route_25 rfl (by cases h; rfl)))
  · have h := ziF h (c3)
    exact z_const dX12_route_9 (z_iretQ dX12_route_10 rfl (by cases h; rfl))
-- X12_talks
def eX12_talks (F : Nat) (x0 x1 : Int32) (X : zX) : Option (zX) := zbd (eX12_ofPacket x0 x1 (nI 0) X) fun r2 => if (¬ r2 = (-1)) ∧ (¬ ((X 1 14) < r2)) then zbd (eX12_backsOff x0 x1 X) fun y24 => zbd (eX12_isTold F x0 (nI 1) x1 y24) fun y26 => zbd (eX12_ofPacket x0 x1 (nI 2) y26) fun r28 => zbd (eX12_flood F x0 (nI 1) x1 (zmn (nI 5) ((y26 1 5) + r28)) y26) fun y30 => zchk (zin (((nI 18) + ((nI 244) * x0)) + (((nI 28) + ((nI 18) * x1)) + (nI 2))) 2422) (zchk (zin (((nI 18) + ((nI 244) * x0)) + (((nI 28) + ((nI 18) * x1)) + (nI 2))) 2422) (zlet (zw y30 1 (zn (((nI 18) + ((nI 244) * x0)) + (((nI 28) + ((nI 18) * x1)) + (nI 2)))) ((y30 1 (zn (((nI 18) + ((nI 244) * x0)) + (((nI 28) + ((nI 18) * x1)) + (nI 2))))) + (nI 1))) fun X33 => zchk (zin (((nI 18) + ((nI 244) * x0)) + (((nI 28) + ((nI 18) * x1)) + (nI 3))) 2422) (zchk (zin (((nI 18) + ((nI 244) * x0)) + (((nI 28) + ((nI 18) * x1)) + (nI 3))) 2422) (zlet (zw X33 1 (zn (((nI 18) + ((nI 244) * x0)) + (((nI 28) + ((nI 18) * x1)) + (nI 3)))) ((X33 1 (zn (((nI 18) + ((nI 244) * x0)) + (((nI 28) + ((nI 18) * x1)) + (nI 3))))) + (nI 1))) fun X36 => zbd (eX12_more x0 (nI 6) X36) fun y38 => some y38)))) else zbd (eX12_ofPacket x0 x1 (nI 5) X) fun r5 => if (¬ r5 = (-1)) ∧ (¬ ((X 1 14) < r5)) then zchk (zin (((nI 18) + ((nI 244) * x0)) + (((nI 28) + ((nI 18) * x1)) + (nI 5))) 2422) (zlet (zw X 1 (zn (((nI 18) + ((nI 244) * x0)) + (((nI 28) + ((nI 18) * x1)) + (nI 5)))) (-1)) fun X8 => zbd (eX12_ofPacket x0 x1 (nI 6) X8) fun r10 => zbd (eX12_estOf x0 r10 X8) fun r12 => zchk (zin (((nI 18) + ((nI 244) * x0)) + (((nI 28) + ((nI 18) * x1)) + (nI 8))) 2422) (zlet (zw X8 1 (zn (((nI 18) + ((nI 244) * x0)) + (((nI 28) + ((nI 18) * x1)) + (nI 8)))) ((X8 1 14) + ((nI 3) * r12))) fun X14 => zbd (eX12_more x0 (nI 7) X14) fun y16 => zbd (eX12_isTold F x0 (nI 2) x1 y16) fun y18 => zbd (eX12_ofPacket x0 x1 (nI 7) y18) fun r20 => zbd (eX12_flood F x0 (nI 2) x1 r20 y18) fun y22 => some y22)) else some X
set_option maxRecDepth 20000 in
set_option maxHeartbeats 4000000 in
theorem tX12_talks {μ : zM} {F : Nat} {x0 x1 : Int32} {X : zX} {ρ : zX} (h : eX12_talks F x0 x1 X = some ρ) : LM mX12_talks 8 [zq 1 0, zi x0, zi x1] (zg μ 1 X) none (zg μ 1 ρ) := by
  unfold eX12_talks at h
  refine LM.of (by decide +kernel) rfl (Nat.le_of_ble_eq_true rfl) ?_
  show zJ mX12_talks 8 (0, 0) (0, 0) _ 0 [some (zq 1 0), some (zi x0), some (zi x1)] [] _
  obtain ⟨r2, l1, h⟩ := zbd_some h
  refine z_aload dX12_talks_0 rfl (z_iload dX12_talks_1 rfl (z_iload dX12_talks_2 rfl (z_const dX12_talks_3 (z_callV dX12_talks_4 (tX12_ofPacket l1) (Nat.le_of_ble_eq_true rfl) cdX12_ofPacket naX12_ofPacket lkX12_213 imX12_ofPacket seX12_ofPacket in1_0 sh1_0 rfl rfl rfl (Nat.le_of_ble_eq_true rfl) (z_aload dX12_talks_7 rfl (z_getR dX12_talks_8 fkX12_13 in1_0 sh1_0 rfl (z_const dX12_talks_11 (z_ialdN dX12_talks_13 in1_1 sh1_1 (Nat.le_of_ble_eq_true rfl) (Nat.le_of_ble_eq_true rfl) (z_callS dX12_talks_14 (tX12_isDue) (Nat.le_of_ble_eq_true rfl) cdX12_isDue naX12_isDue lkX12_306 stX12_isDue rfl rfl (Nat.le_of_ble_eq_true rfl) (z_if_eq dX12_talks_17 (fun c3 => ?_) (fun c3 => ?_)))))))))))
  · have h := ziF h (zB_0.mp c3)
    obtain ⟨r5, l4, h⟩ := zbd_some h
    refine z_aload dX12_talks_98 rfl (z_iload dX12_talks_99 rfl (z_iload dX12_talks_100 rfl (z_const dX12_talks_101 (z_callV dX12_talks_102 (tX12_ofPacket l4) (Nat.le_of_ble_eq_true rfl) cdX12_ofPacket naX12_ofPacket lkX12_213 imX12_ofPacket seX12_ofPacket in1_0 sh1_0 rfl rfl rfl (Nat.le_of_ble_eq_true rfl) (z_aload dX12_talks_105 rfl (z_getR dX12_talks_106 fkX12_13 in1_0 sh1_0 rfl (z_const dX12_talks_109 (z_ialdN dX12_talks_111 in1_1 sh1_1 (Nat.le_of_ble_eq_true rfl) (Nat.le_of_ble_eq_true rfl) (z_callS dX12_talks_112 (tX12_isDue) (Nat.le_of_ble_eq_true rfl) cdX12_isDue naX12_isDue lkX12_306 stX12_isDue rfl rfl (Nat.le_of_ble_eq_true rfl) (z_if_eq dX12_talks_115 (fun c6 => ?_) (fun c6 => ?_)))))))))))
    · have h := ziF h (zB_0.mp c6)
      exact z_vretQ dX12_talks_194 rfl (by cases h; rfl)
    · have h := ziT h (zB_n0.mp c6)
      obtain ⟨s7, h⟩ := zchk_some h
      have h := zlet_h h
      refine z_aload dX12_talks_118 rfl (z_getR dX12_talks_119 fkX12_13 in1_0 sh1_0 rfl (z_iload dX12_talks_122 rfl (z_iload dX12_talks_123 rfl (z_const dX12_talks_124 (z_callS dX12_talks_125 (tX12_packetAt) (Nat.le_of_ble_eq_true rfl) cdX12_packetAt naX12_packetAt lkX12_60 stX12_packetAt rfl rfl (Nat.le_of_ble_eq_true rfl) (z_const dX12_talks_128 (z_iast dX12_talks_129 in1_1 sh1_1 (zin_vp s7) (z_aload dX12_talks_130 rfl (z_getR dX12_talks_131 fkX12_13 in1_0 sh1_0 rfl (z_iload dX12_talks_134 rfl (z_iload dX12_talks_135 rfl ?_)))))))))))
      refine z_const dX12_talks_136 (z_callS dX12_talks_138 (tX12_packetAt) (Nat.le_of_ble_eq_true rfl) cdX12_packetAt naX12_packetAt lkX12_60 stX12_packetAt rfl rfl (Nat.le_of_ble_eq_true rfl) (z_aload dX12_talks_141 rfl (z_getR dX12_talks_142 fkX12_13 in1_0 sh1_0 rfl (z_const dX12_talks_145 (z_ialdN dX12_talks_147 in1_1 sh1_1 (Nat.le_of_ble_eq_true rfl) (Nat.le_of_ble_eq_true rfl) (z_const dX12_talks_148 (z_aload dX12_talks_149 rfl (z_iload dX12_talks_150 rfl (z_aload dX12_talks_151 rfl (z_iload dX12_talks_152 rfl (z_iload dX12_talks_153 rfl ?_)))))))))))
      obtain ⟨r10, l9, h⟩ := zbd_some h
      obtain ⟨r12, l11, h⟩ := zbd_some h
      obtain ⟨s13, h⟩ := zchk_some h
      have h := zlet_h h
      obtain ⟨y16, l15, h⟩ := zbd_some h
      refine z_const dX12_talks_154 (z_callV dX12_talks_156 (tX12_ofPacket l9) (Nat.le_of_ble_eq_true rfl) cdX12_ofPacket naX12_ofPacket lkX12_213 imX12_ofPacket seX12_ofPacket in1_0 sh1_0 rfl rfl rfl (Nat.le_of_ble_eq_true rfl) (z_callV dX12_talks_159 (tX12_estOf l11) (Nat.le_of_ble_eq_true rfl) cdX12_estOf naX12_estOf lkX12_256 imX12_estOf seX12_estOf in1_0 sh1_0 rfl rfl rfl (Nat.le_of_ble_eq_true rfl) (z_imul dX12_talks_162 (z_iadd dX12_talks_163 (z_iast dX12_talks_164 in1_1 sh1_1 (zin_vp s13) (z_aload dX12_talks_165 rfl (z_iload dX12_talks_166 rfl (z_const dX12_talks_167 (z_callV dX12_talks_169 (tX12_more l15) (Nat.le_of_ble_eq_true rfl) cdX12_more naX12_more lkX12_275 imX12_more seX12_more in1_0 sh1_0 rfl rfl rfl (Nat.le_of_ble_eq_true rfl) (z_aload dX12_talks_172 rfl (z_iload dX12_talks_173 rfl ?_)))))))))))
      obtain ⟨y18, l17, h⟩ := zbd_some h
      obtain ⟨r20, l19, h⟩ := zbd_some h
      refine z_const dX12_talks_174 (z_iload dX12_talks_175 rfl (z_callV dX12_talks_176 (tX12_isTold l17) (Nat.le_of_ble_eq_true rfl) cdX12_isTold naX12_isTold lkX12_278 imX12_isTold seX12_isTold in1_0 sh1_0 rfl rfl rfl (Nat.le_of_ble_eq_true rfl) (z_aload dX12_talks_179 rfl (z_iload dX12_talks_180 rfl (z_const dX12_talks_181 (z_iload dX12_talks_182 rfl (z_aload dX12_talks_183 rfl (z_iload dX12_talks_184 rfl (z_iload dX12_talks_185 rfl (z_const dX12_talks_186 (z_callV dX12_talks_188 (tX12_ofPacket l19) (Nat.le_of_ble_eq_true rfl) cdX12_ofPacket naX12_ofPacket lkX12_213 imX12_ofPacket seX12_ofPacket in1_0 sh1_0 rfl rfl rfl (Nat.le_of_ble_eq_true rfl) ?_)))))))))))
      obtain ⟨y22, l21, h⟩ := zbd_some h
      exact z_callV dX12_talks_191 (tX12_flood l21) (Nat.le_of_ble_eq_true rfl) cdX12_flood naX12_flood lkX12_309 imX12_flood seX12_flood in1_0 sh1_0 rfl rfl rfl (Nat.le_of_ble_eq_true rfl) (z_vretQ dX12_talks_194 rfl (by cases h; rfl))
  · have h := ziT h (zB_n0.mp c3)
    obtain ⟨y24, l23, h⟩ := zbd_some h
    obtain ⟨y26, l25, h⟩ := zbd_some h
    refine z_aload dX12_talks_20 rfl (z_iload dX12_talks_21 rfl (z_iload dX12_talks_22 rfl (z_callV dX12_talks_23 (tX12_backsOff l23) (Nat.le_of_ble_eq_true rfl) cdX12_backsOff naX12_backsOff lkX12_284 imX12_backsOff seX12_backsOff in1_0 sh1_0 rfl rfl rfl (Nat.le_of_ble_eq_true rfl) (z_aload dX12_talks_26 rfl (z_iload dX12_talks_27 rfl (z_const dX12_talks_28 (z_iload dX12_talks_29 rfl (z_callV dX12_talks_30 (tX12_isTold l25) (Nat.le_of_ble_eq_true rfl) cdX12_isTold naX12_isTold lkX12_278 imX12_isTold seX12_isTold in1_0 sh1_0 rfl rfl rfl (Nat.le_of_ble_eq_true rfl) (z_aload dX12_talks_33 rfl (z_iload dX12_talks_34 rfl (z_const dX12_talks_35 ?_)))))))))))
    obtain ⟨r28, l27, h⟩ := zbd_some h
    refine z_iload dX12_talks_36 rfl (z_const dX12_talks_37 (z_aload dX12_talks_38 rfl (z_getR dX12_talks_39 fkX12_13 in1_0 sh1_0 rfl (z_const dX12_talks_42 (z_ialdN dX12_talks_43 in1_1 sh1_1 (Nat.le_of_ble_eq_true rfl) (Nat.le_of_ble_eq_true rfl) (z_aload dX12_talks_44 rfl (z_iload dX12_talks_45 rfl (z_iload dX12_talks_46 rfl (z_const dX12_talks_47 (z_callV dX12_talks_48 (tX12_ofPacket l27) (Nat.le_of_ble_eq_true rfl) cdX12_ofPacket naX12_ofPacket lkX12_213 imX12_ofPacket seX12_ofPacket in1_0 sh1_0 rfl rfl rfl (Nat.le_of_ble_eq_true rfl) (z_iadd dX12_talks_51 ?_)))))))))))
    obtain ⟨y30, l29, h⟩ := zbd_some h
    obtain ⟨s31, h⟩ := zchk_some h
    refine z_min dX12_talks_52 lkX12_199 (Nat.le_of_ble_eq_true rfl) (Nat.le_of_ble_eq_true rfl) (z_callV dX12_talks_55 (tX12_flood l29) (Nat.le_of_ble_eq_true rfl) cdX12_flood naX12_flood lkX12_309 imX12_flood seX12_flood in1_0 sh1_0 rfl rfl rfl (Nat.le_of_ble_eq_true rfl) (z_aload dX12_talks_58 rfl (z_getR dX12_talks_59 fkX12_13 in1_0 sh1_0 rfl (z_iload dX12_talks_62 rfl (z_iload dX12_talks_63 rfl (z_const dX12_talks_64 (z_callS dX12_talks_65 (tX12_packetAt) (Nat.le_of_ble_eq_true rfl) cdX12_packetAt naX12_packetAt lkX12_60 stX12_packetAt rfl rfl (Nat.le_of_ble_eq_true rfl) (z_dup2 dX12_talks_68 rfl rfl (z_iald dX12_talks_69 in1_1 sh1_1 (zin_vp s31) (z_const dX12_talks_70 (z_iadd dX12_talks_71 ?_)))))))))))
    obtain ⟨s32, h⟩ := zchk_some h
    have h := zlet_h h
    obtain ⟨s34, h⟩ := zchk_some h
    obtain ⟨s35, h⟩ := zchk_some h
    have h := zlet_h h
    refine z_iast dX12_talks_72 in1_1 sh1_1 (zin_vp s32) (z_aload dX12_talks_73 rfl (z_getR dX12_talks_74 fkX12_13 in1_0 sh1_0 rfl (z_iload dX12_talks_77 rfl (z_iload dX12_talks_78 rfl (z_const dX12_talks_79 (z_callS dX12_talks_80 (tX12_packetAt) (Nat.le_of_ble_eq_true rfl) cdX12_packetAt naX12_packetAt lkX12_60 stX12_packetAt rfl rfl (Nat.le_of_ble_eq_true rfl) (z_dup2 dX12_talks_83 rfl rfl (z_iald dX12_talks_84 in1_1 sh1_1 (zin_vp s34) (z_const dX12_talks_85 (z_iadd dX12_talks_86 (z_iast dX12_talks_87 in1_1 sh1_1 (zin_vp s35) ?_)))))))))))
    obtain ⟨y38, l37, h⟩ := zbd_some h
    exact z_aload dX12_talks_88 rfl (z_iload dX12_talks_89 rfl (z_const dX12_talks_90 (z_callV dX12_talks_92 (tX12_more l37) (Nat.le_of_ble_eq_true rfl) cdX12_more naX12_more lkX12_275 imX12_more seX12_more in1_0 sh1_0 rfl rfl rfl (Nat.le_of_ble_eq_true rfl) (z_goto dX12_talks_95 (z_vretQ dX12_talks_194 rfl (by cases h; rfl))))))
-- X12_way
def eX12_way (F : Nat) (x0 x1 x2 : Int32) (X : zX) : Option (Int32 × zX) := zbd (eX12_noTwo F x0 x1 X) fun y2 => if y2.1 = 0 then if x0 = x1 then some ((nI 0), y2.2) else zbd (eX12_isWay x0 x1 y2.2) fun r6 => if r6 = 0 then some ((-1), y2.2) else if x2 = 0 then zchk (zin (((nI 6) * x0) + x1) 36) (some ((y2.2 7 (zn (((nI 6) * x0) + x1))), y2.2)) else zchk (zin (((nI 6) * x0) + x1) 36) (some ((y2.2 9 (zn (((nI 6) * x0) + x1))), y2.2)) else some ((nI 0), y2.2)
set_option maxRecDepth 20000 in
set_option maxHeartbeats 4000000 in
theorem tX12_way {μ : zM} {F : Nat} {x0 x1 x2 : Int32} {X : zX} {ρ : Int32 × zX} (h : eX12_way F x0 x1 x2 X = some ρ) : LM mX12_way 8 [zq 1 0, zi x0, zi x1, zi x2] (zg μ 1 X) (some (zi ρ.1)) (zg μ 1 ρ.2) := by
  unfold eX12_way at h
  refine LM.of (by decide +kernel) rfl (Nat.le_of_ble_eq_true rfl) ?_
  show zJ mX12_way 8 (0, 0) (0, 0) _ 0 [some (zq 1 0), some (zi x0), some (zi x1), some (zi x2)] [] _
  obtain ⟨y2, l1, h⟩ := zbd_some h
  refine z_aload dX12_way_0 rfl (z_iload dX12_way_1 rfl (z_iload dX12_way_2 rfl (z_callV dX12_way_3 (tX12_noTwo l1) (Nat.le_of_ble_eq_true rfl) cdX12_noTwo naX12_noTwo lkX12_342 imX12_noTwo seX12_noTwo in1_0 sh1_0 rfl rfl rfl (Nat.le_of_ble_eq_true rfl) (z_if_eq dX12_way_6 (fun c3 => ?_) (fun c3 => ?_)))))
  · have h := ziT h (c3)
    refine z_iload dX12_way_11 rfl (z_iload dX12_way_12 rfl (z_icmp_ne dX12_way_13 (fun c4 => ?_) (fun c4 => ?_)))
    · have h := ziF h (c4)
      obtain ⟨r6, l5, h⟩ := zbd_some h
      refine z_aload dX12_way_18 rfl (z_iload dX12_way_19 rfl (z_iload dX12_way_20 rfl (z_callV dX12_way_21 (tX12_isWay l5) (Nat.le_of_ble_eq_true rfl) cdX12_isWay naX12_isWay lkX12_204 imX12_isWay seX12_isWay in1_0 sh1_0 rfl rfl rfl (Nat.le_of_ble_eq_true rfl) (z_if_ne dX12_way_24 (fun c7 => ?_) (fun c7 => ?_)))))
      · have h := ziF h (c7)
        refine z_iload dX12_way_31 rfl (z_if_eq dX12_way_32 (fun c8 => ?_) (fun c8 => ?_))
        · have h := ziT h (c8)
          obtain ⟨s9, h⟩ := zchk_some h
          exact z_aload dX12_way_48 rfl (z_getR dX12_way_49 fkX12_36 in1_0 sh1_0 rfl (z_iload dX12_way_52 rfl (z_iload dX12_way_53 rfl (z_callS dX12_way_54 (tX12_at) (Nat.le_of_ble_eq_true rfl) cdX12_at naX12_at lkX12_193 stX12_at rfl rfl (Nat.le_of_ble_eq_true rfl) (z_iald dX12_way_57 in1_7 sh1_7 (zin_vp s9) (z_iretQ dX12_way_58 rfl (by cases h; rfl)))))))
        · have h := ziF h (c8)
          obtain ⟨s10, h⟩ := zchk_some h
          exact z_aload dX12_way_35 rfl (z_getR dX12_way_36 fkX12_42 in1_0 sh1_0 rfl (z_iload dX12_way_39 rfl (z_iload dX12_way_40 rfl (z_callS dX12_way_41 (tX12_at) (Nat.le_of_ble_eq_true rfl) cdX12_at naX12_at lkX12_193 stX12_at rfl rfl (Nat.le_of_ble_eq_true rfl) (z_iald dX12_way_44 in1_9 sh1_9 (zin_vp s10) (z_goto dX12_way_45 (z_iretQ dX12_way_58 rfl (by cases h; rfl))))))))
      · have h := ziT h (c7)
        exact z_const dX12_way_27 (z_goto dX12_way_28 (z_iretQ dX12_way_58 rfl (by cases h; rfl)))
    · have h := ziT h (c4)
      exact z_const dX12_way_16 (z_iretQ dX12_way_17 rfl (by cases h; rfl))
  · have h := ziF h (c3)
    exact z_const dX12_way_9 (z_iretQ dX12_way_10 rfl (by cases h; rfl))
-- X12_oneTick
def hX12_oneTick_28 (F : Nat) (K7 : Int32 → Int32 → zX → Option (Int32 × zX)) : Nat → Int32 → Int32 → Int32 → zX → Option (Int32 × zX)
  | 0, _, _, _, _ => none
  | n + 1, a1, a2, a3, X => if (nI 12) ≤ a3 then if (X 1 6) ≤ 0 then K7 a1 (a2 + (nI 1)) X else zchk (znz (X 1 6)) (if (zrem ((X 1 14) + a2) (X 1 6)) = 0 then zbd (eX12_flood F a2 (nI 3) (-1) (nI 5) X) fun y6 => K7 a1 (a2 + (nI 1)) y6 else K7 a1 (a2 + (nI 1)) X) else zbd (eX12_talks F a2 a3 X) fun y8 => (hX12_oneTick_28 F K7 n) a1 a2 (a3 + (nI 1)) y8
set_option maxRecDepth 20000 in
set_option maxHeartbeats 4000000 in
theorem sX12_oneTick_28 {μ : zM} {F : Nat} {K7 : Int32 → Int32 → zX → Option (Int32 × zX)} (hK7 : ∀ {xa1 xa2 : Int32} {xX : zX} {ρ : Int32 × zX}, K7 xa1 xa2 xX = some ρ → zJ mX12_oneTick 9 (0, 0) (0, 0) (zQ (some (zi ρ.1)) (zg μ 1 ρ.2)) 7 [some (zq 1 0), some (zi xa1), some (zi xa2), none] [] (zg μ 1 xX)) : ∀ {n : Nat} {a1 a2 a3 : Int32} {X : zX} {ρ : Int32 × zX}, hX12_oneTick_28 F K7 n a1 a2 a3 X = some ρ → zJ mX12_oneTick 9 (0, 0) (0, 0) (zQ (some (zi ρ.1)) (zg μ 1 ρ.2)) 28 [some (zq 1 0), some (zi a1), some (zi a2), some (zi a3)] [] (zg μ 1 X) := by
  intro n
  induction n with
  | zero => intro a1 a2 a3 X ρ h; exact nomatch (show (none : Option _) = some ρ from h)
  | succ n ih =>
    intro a1 a2 a3 X ρ h
    have hK28 := @ih
    rw [hX12_oneTick_28] at h
    refine z_iload dX12_oneTick_28 rfl (z_const dX12_oneTick_29 (z_icmp_ge dX12_oneTick_31 (fun c1 => ?_) (fun c1 => ?_)))
    · have h := ziT h (c1)
      refine z_aload dX12_oneTick_46 rfl (z_getR dX12_oneTick_47 fkX12_13 in1_0 sh1_0 rfl (z_const dX12_oneTick_50 (z_ialdN dX12_oneTick_52 in1_1 sh1_1 (Nat.le_of_ble_eq_true rfl) (Nat.le_of_ble_eq_true rfl) (z_if_le dX12_oneTick_53 (fun c2 => ?_) (fun c2 => ?_)))))
      · have h := ziT h (c2)
        exact z_iinc dX12_oneTick_84 (Nat.le_of_ble_eq_true rfl) rfl (z_goto dX12_oneTick_87 (z_mask [true, true, true, false] (hK7 h)))
      · have h := ziF h (c2)
        obtain ⟨s3, h⟩ := zchk_some h
        refine z_aload dX12_oneTick_56 rfl (z_getR dX12_oneTick_57 fkX12_13 in1_0 sh1_0 rfl (z_const dX12_oneTick_60 (z_ialdN dX12_oneTick_62 in1_1 sh1_1 (Nat.le_of_ble_eq_true rfl) (Nat.le_of_ble_eq_true rfl) (z_iload dX12_oneTick_63 rfl (z_iadd dX12_oneTick_64 (z_aload dX12_oneTick_65 rfl (z_getR dX12_oneTick_66 fkX12_13 in1_0 sh1_0 rfl (z_const dX12_oneTick_69 (z_ialdN dX12_oneTick_71 in1_1 sh1_1 (Nat.le_of_ble_eq_true rfl) (Nat.le_of_ble_eq_true rfl) (z_irem dX12_oneTick_72 (znz_ne s3) (z_if_ne dX12_oneTick_73 (fun c4 => ?_) (fun c4 => ?_))))))))))))
        · have h := ziF h (c4)
          exact z_iinc dX12_oneTick_84 (Nat.le_of_ble_eq_true rfl) rfl (z_goto dX12_oneTick_87 (z_mask [true, true, true, false] (hK7 h)))
        · have h := ziT h (c4)
          obtain ⟨y6, l5, h⟩ := zbd_some h
          exact z_aload dX12_oneTick_76 rfl (z_iload dX12_oneTick_77 rfl (z_const dX12_oneTick_78 (z_const dX12_oneTick_79 (z_const dX12_oneTick_80 (z_callV dX12_oneTick_81 (tX12_flood l5) (Nat.le_of_ble_eq_true rfl) cdX12_flood naX12_flood lkX12_309 imX12_flood seX12_flood in1_0 sh1_0 rfl rfl rfl (Nat.le_of_ble_eq_true rfl) (z_iinc dX12_oneTick_84 (Nat.le_of_ble_eq_true rfl) rfl (z_goto dX12_oneTick_87 (z_mask [true, true, true, false] (hK7 h)))))))))
    · have h := ziF h (c1)
      obtain ⟨y8, l7, h⟩ := zbd_some h
      exact z_aload dX12_oneTick_34 rfl (z_iload dX12_oneTick_35 rfl (z_iload dX12_oneTick_36 rfl (z_callV dX12_oneTick_37 (tX12_talks l7) (Nat.le_of_ble_eq_true rfl) cdX12_talks naX12_talks lkX12_315 imX12_talks seX12_talks in1_0 sh1_0 rfl rfl rfl (Nat.le_of_ble_eq_true rfl) (z_iinc dX12_oneTick_40 (Nat.le_of_ble_eq_true rfl) rfl (z_goto dX12_oneTick_43 (z_mask [true, true, true, true] (hK28 h)))))))
def jX12_oneTick_130 (F : Nat) (a1 : Int32) (X : zX) : Option (Int32 × zX) := some (a1, zw X 1 14 ((X 1 14) + (nI 1)))
set_option maxRecDepth 20000 in
set_option maxHeartbeats 4000000 in
theorem sX12_oneTick_130 {μ : zM} {F : Nat} {a1 : Int32} {X : zX} {ρ : Int32 × zX} (h : jX12_oneTick_130 F a1 X = some ρ) : zJ mX12_oneTick 9 (0, 0) (0, 0) (zQ (some (zi ρ.1)) (zg μ 1 ρ.2)) 130 [some (zq 1 0), some (zi a1), none, none] [] (zg μ 1 X) := by
  unfold jX12_oneTick_130 at h
  exact z_aload dX12_oneTick_130 rfl (z_getR dX12_oneTick_131 fkX12_13 in1_0 sh1_0 rfl (z_const dX12_oneTick_134 (z_dup2 dX12_oneTick_136 rfl rfl (z_ialdN dX12_oneTick_137 in1_1 sh1_1 (Nat.le_of_ble_eq_true rfl) (Nat.le_of_ble_eq_true rfl) (z_const dX12_oneTick_138 (z_iadd dX12_oneTick_139 (z_iastN dX12_oneTick_140 in1_1 sh1_1 (Nat.le_of_ble_eq_true rfl) (Nat.le_of_ble_eq_true rfl) (z_iload dX12_oneTick_141 rfl (z_iretQ dX12_oneTick_142 rfl (by cases h; rfl))))))))))
def hX12_oneTick_7 (F : Nat) : Nat → Int32 → Int32 → zX → Option (Int32 × zX)
  | 0, _, _, _ => none
  | n + 1, a1, a2, X => if (X 1 0) ≤ a2 then if (X 1 7) ≤ 0 then jX12_oneTick_130 F a1 X else zchk (znz (X 1 7)) (if (zrem (X 1 14) (X 1 7)) = 0 then zbd (eX12_canSend X) fun r6 => if r6 = 0 then jX12_oneTick_130 F a1 X else zbd (eX12_isSent F X) fun y9 => jX12_oneTick_130 F a1 y9.2 else jX12_oneTick_130 F a1 X) else zbd (eX12_isUp a2 X) fun r11 => if r11 = 0 then (hX12_oneTick_7 F n) a1 (a2 + (nI 1)) X else hX12_oneTick_28 F (hX12_oneTick_7 F n) F a1 a2 (nI 0) X
set_option maxRecDepth 20000 in
set_option maxHeartbeats 4000000 in
theorem sX12_oneTick_7 {μ : zM} {F : Nat} : ∀ {n : Nat} {a1 a2 : Int32} {X : zX} {ρ : Int32 × zX}, hX12_oneTick_7 F n a1 a2 X = some ρ → zJ mX12_oneTick 9 (0, 0) (0, 0) (zQ (some (zi ρ.1)) (zg μ 1 ρ.2)) 7 [some (zq 1 0), some (zi a1), some (zi a2), none] [] (zg μ 1 X) := by
  intro n
  induction n with
  | zero => intro a1 a2 X ρ h; exact nomatch (show (none : Option _) = some ρ from h)
  | succ n ih =>
    intro a1 a2 X ρ h
    have hK7 := @ih
    rw [hX12_oneTick_7] at h
    refine z_iload dX12_oneTick_7 rfl (z_aload dX12_oneTick_8 rfl (z_callV dX12_oneTick_9 (tX12_nodes) (Nat.le_of_ble_eq_true rfl) cdX12_nodes naX12_nodes lkX12_67 imX12_nodes seX12_nodes in1_0 sh1_0 rfl rfl rfl (Nat.le_of_ble_eq_true rfl) (z_icmp_ge dX12_oneTick_12 (fun c1 => ?_) (fun c1 => ?_))))
    · have h := ziT h (c1)
      refine z_aload dX12_oneTick_90 rfl (z_getR dX12_oneTick_91 fkX12_13 in1_0 sh1_0 rfl (z_const dX12_oneTick_94 (z_ialdN dX12_oneTick_96 in1_1 sh1_1 (Nat.le_of_ble_eq_true rfl) (Nat.le_of_ble_eq_true rfl) (z_if_le dX12_oneTick_97 (fun c2 => ?_) (fun c2 => ?_)))))
      · have h := ziT h (c2)
        exact z_mask [true, true, false, false] (sX12_oneTick_130 h)
      · have h := ziF h (c2)
        obtain ⟨s3, h⟩ := zchk_some h
        refine z_aload dX12_oneTick_100 rfl (z_getR dX12_oneTick_101 fkX12_13 in1_0 sh1_0 rfl (z_const dX12_oneTick_104 (z_ialdN dX12_oneTick_106 in1_1 sh1_1 (Nat.le_of_ble_eq_true rfl) (Nat.le_of_ble_eq_true rfl) (z_aload dX12_oneTick_107 rfl (z_getR dX12_oneTick_108 fkX12_13 in1_0 sh1_0 rfl (z_const dX12_oneTick_111 (z_ialdN dX12_oneTick_113 in1_1 sh1_1 (Nat.le_of_ble_eq_true rfl) (Nat.le_of_ble_eq_true rfl) (z_irem dX12_oneTick_114 (znz_ne s3) (z_if_ne dX12_oneTick_115 (fun c4 => ?_) (fun c4 => ?_))))))))))
        · have h := ziF h (c4)
          exact z_mask [true, true, false, false] (sX12_oneTick_130 h)
        · have h := ziT h (c4)
          obtain ⟨r6, l5, h⟩ := zbd_some h
          refine z_aload dX12_oneTick_118 rfl (z_callV dX12_oneTick_119 (tX12_canSend l5) (Nat.le_of_ble_eq_true rfl) cdX12_canSend naX12_canSend lkX12_318 imX12_canSend seX12_canSend in1_0 sh1_0 rfl rfl rfl (Nat.le_of_ble_eq_true rfl) (z_if_eq dX12_oneTick_122 (fun c7 => ?_) (fun c7 => ?_)))
          · have h := ziT h (c7)
            exact z_mask [true, true, false, false] (sX12_oneTick_130 h)
          · have h := ziF h (c7)
            obtain ⟨y9, l8, h⟩ := zbd_some h
            exact z_aload dX12_oneTick_125 rfl (z_callV dX12_oneTick_126 (tX12_isSent l8) (Nat.le_of_ble_eq_true rfl) cdX12_isSent naX12_isSent lkX12_321 imX12_isSent seX12_isSent in1_0 sh1_0 rfl rfl rfl (Nat.le_of_ble_eq_true rfl) (z_pop dX12_oneTick_129 (z_mask [true, true, false, false] (sX12_oneTick_130 h))))
    · have h := ziF h (c1)
      obtain ⟨r11, l10, h⟩ := zbd_some h
      refine z_aload dX12_oneTick_15 rfl (z_iload dX12_oneTick_16 rfl (z_callV dX12_oneTick_17 (tX12_isUp l10) (Nat.le_of_ble_eq_true rfl) cdX12_isUp naX12_isUp lkX12_287 imX12_isUp seX12_isUp in1_0 sh1_0 rfl rfl rfl (Nat.le_of_ble_eq_true rfl) (z_if_ne dX12_oneTick_20 (fun c12 => ?_) (fun c12 => ?_))))
      · have h := ziF h (c12)
        exact z_const dX12_oneTick_26 (z_istore dX12_oneTick_27 (Nat.le_of_ble_eq_true rfl) (z_mask [true, true, true, true] (sX12_oneTick_28 hK7 h)))
      · have h := ziT h (c12)
        exact z_goto dX12_oneTick_23 (z_iinc dX12_oneTick_84 (Nat.le_of_ble_eq_true rfl) rfl (z_goto dX12_oneTick_87 (z_mask [true, true, true, false] (hK7 h))))
def eX12_oneTick (F : Nat) (X : zX) : Option (Int32 × zX) := zbd (eX12_allCome F X) fun y2 => hX12_oneTick_7 F F y2.1 (nI 0) y2.2
set_option maxRecDepth 20000 in
set_option maxHeartbeats 4000000 in
theorem tX12_oneTick {μ : zM} {F : Nat} {X : zX} {ρ : Int32 × zX} (h : eX12_oneTick F X = some ρ) : LM mX12_oneTick 9 [zq 1 0] (zg μ 1 X) (some (zi ρ.1)) (zg μ 1 ρ.2) := by
  unfold eX12_oneTick at h
  refine LM.of (by decide +kernel) rfl (Nat.le_of_ble_eq_true rfl) ?_
  show zJ mX12_oneTick 9 (0, 0) (0, 0) _ 0 [some (zq 1 0), none, none, none] [] _
  obtain ⟨y2, l1, h⟩ := zbd_some h
  exact z_aload dX12_oneTick_0 rfl (z_callV dX12_oneTick_1 (tX12_allCome l1) (Nat.le_of_ble_eq_true rfl) cdX12_allCome naX12_allCome lkX12_312 imX12_allCome seX12_allCome in1_0 sh1_0 rfl rfl rfl (Nat.le_of_ble_eq_true rfl) (z_istore dX12_oneTick_4 (Nat.le_of_ble_eq_true rfl) (z_const dX12_oneTick_5 (z_istore dX12_oneTick_6 (Nat.le_of_ble_eq_true rfl) (z_mask [true, true, true, false] (sX12_oneTick_7 h))))))
-- X12_readLine
def eX12_readLine (F : Nat) (X : zX) : Option (Int32 × zX) := zbd (eX12_isWords30 F X) fun r2 => if r2 = 0 then zbd (eX12_isWords32 F X) fun r5 => if r5 = 0 then zbd (eX12_isWords35 F X) fun r8 => if r8 = 0 then zbd (eX12_isWords36 F X) fun r11 => if r11 = 0 then zbd (eX12_isWords37 F X) fun r14 => if r14 = 0 then zbd (eX12_isWords38 F X) fun r17 => if r17 = 0 then zbd (eX12_isWords39 F X) fun r20 => if r20 = 0 then zbd (eX12_isWords40 F X) fun r23 => if r23 = 0 then some ((nI 0), X) else zbd (eX12_readNumber F (nI 7) (nI 0) (nI 20) X) fun y26 => if y26.1 = 0 then some ((nI 0), y26.2) else some ((nI 1), y26.2) else zbd (eX12_readNumber F (nI 6) (nI 0) (nI 20) X) fun y29 => zchk (zbl y29.1) (some (y29.1, y29.2)) else zbd (eX12_readNumber F (nI 5) (nI 1) (nI 5) X) fun y32 => zchk (zbl y32.1) (some (y32.1, y32.2)) else zbd (eX12_readNumber F (nI 10) (nI 0) (nI 32) X) fun y35 => if y35.1 = 0 then some ((nI 0), y35.2) else zbd (eX12_readNumber F (nI 11) (nI 0) (nI 32) y35.2) fun y38 => if y38.1 = 0 then some ((nI 0), y38.2) else some ((nI 1), y38.2) else zbd (eX12_readRequest F X) fun y41 => zchk (zbl y41.1) (some (y41.1, y41.2)) else zbd (eX12_readNumber F (nI 3) (nI 0) ((X 1 0) - (nI 1)) X) fun y44 => zchk (zbl y44.1) (some (y44.1, y44.2)) else zbd (eX12_readLink F X) fun y47 => zchk (zbl y47.1) (some (y47.1, y47.2)) else zbd (eX12_readNode F X) fun y50 => zchk (zbl y50.1) (some (y50.1, y50.2))
set_option maxRecDepth 20000 in
set_option maxHeartbeats 4000000 in
theorem tX12_readLine {μ : zM} {F : Nat} {X : zX} {ρ : Int32 × zX} (h : eX12_readLine F X = some ρ) : LM mX12_readLine 9 [zq 1 0] (zg μ 1 X) (some (zi ρ.1)) (zg μ 1 ρ.2) := by
  unfold eX12_readLine at h
  refine LM.of (by decide +kernel) rfl (Nat.le_of_ble_eq_true rfl) ?_
  show zJ mX12_readLine 9 (0, 0) (0, 0) _ 0 [some (zq 1 0)] [] _
  obtain ⟨r2, l1, h⟩ := zbd_some h
  refine z_aload dX12_readLine_0 rfl (z_ldcs dX12_readLine_1 (i := 30) rfl rfl rfl (z_callV dX12_readLine_3 (tX12_isWords30 l1) (Nat.le_of_ble_eq_true rfl) cdX12_isWord naX12_isWord lkX12_116 imX12_isWord seX12_isWord in1_0 sh1_0 rfl rfl rfl (Nat.le_of_ble_eq_true rfl) (z_if_eq dX12_readLine_6 (fun c3 => ?_) (fun c3 => ?_))))
  · have h := ziT h (c3)
    obtain ⟨r5, l4, h⟩ := zbd_some h
    refine z_aload dX12_readLine_14 rfl (z_ldcs dX12_readLine_15 (i := 32) rfl rfl rfl (z_callV dX12_readLine_17 (tX12_isWords32 l4) (Nat.le_of_ble_eq_true rfl) cdX12_isWord naX12_isWord lkX12_116 imX12_isWord seX12_isWord in1_0 sh1_0 rfl rfl rfl (Nat.le_of_ble_eq_true rfl) (z_if_eq dX12_readLine_20 (fun c6 => ?_) (fun c6 => ?_))))
    · have h := ziT h (c6)
      obtain ⟨r8, l7, h⟩ := zbd_some h
      refine z_aload dX12_readLine_28 rfl (z_ldcs dX12_readLine_29 (i := 35) rfl rfl rfl (z_callV dX12_readLine_31 (tX12_isWords35 l7) (Nat.le_of_ble_eq_true rfl) cdX12_isWord naX12_isWord lkX12_116 imX12_isWord seX12_isWord in1_0 sh1_0 rfl rfl rfl (Nat.le_of_ble_eq_true rfl) (z_if_eq dX12_readLine_34 (fun c9 => ?_) (fun c9 => ?_))))
      · have h := ziT h (c9)
        obtain ⟨r11, l10, h⟩ := zbd_some h
        refine z_aload dX12_readLine_50 rfl (z_ldcs dX12_readLine_51 (i := 36) rfl rfl rfl (z_callV dX12_readLine_53 (tX12_isWords36 l10) (Nat.le_of_ble_eq_true rfl) cdX12_isWord naX12_isWord lkX12_116 imX12_isWord seX12_isWord in1_0 sh1_0 rfl rfl rfl (Nat.le_of_ble_eq_true rfl) (z_if_eq dX12_readLine_56 (fun c12 => ?_) (fun c12 => ?_))))
        · have h := ziT h (c12)
          obtain ⟨r14, l13, h⟩ := zbd_some h
          refine z_aload dX12_readLine_64 rfl (z_ldcs dX12_readLine_65 (i := 37) rfl rfl rfl (z_callV dX12_readLine_67 (tX12_isWords37 l13) (Nat.le_of_ble_eq_true rfl) cdX12_isWord naX12_isWord lkX12_116 imX12_isWord seX12_isWord in1_0 sh1_0 rfl rfl rfl (Nat.le_of_ble_eq_true rfl) (z_if_eq dX12_readLine_70 (fun c15 => ?_) (fun c15 => ?_))))
          · have h := ziT h (c15)
            obtain ⟨r17, l16, h⟩ := zbd_some h
            refine z_aload dX12_readLine_103 rfl (z_ldcs dX12_readLine_104 (i := 38) rfl rfl rfl (z_callV dX12_readLine_106 (tX12_isWords38 l16) (Nat.le_of_ble_eq_true rfl) cdX12_isWord naX12_isWord lkX12_116 imX12_isWord seX12_isWord in1_0 sh1_0 rfl rfl rfl (Nat.le_of_ble_eq_true rfl) (z_if_eq dX12_readLine_109 (fun c18 => ?_) (fun c18 => ?_))))
            · have h := ziT h (c18)
              obtain ⟨r20, l19, h⟩ := zbd_some h
              refine z_aload dX12_readLine_120 rfl (z_ldcs dX12_readLine_121 (i := 39) rfl rfl rfl (z_callV dX12_readLine_123 (tX12_isWords39 l19) (Nat.le_of_ble_eq_true rfl) cdX12_isWord naX12_isWord lkX12_116 imX12_isWord seX12_isWord in1_0 sh1_0 rfl rfl rfl (Nat.le_of_ble_eq_true rfl) (z_if_eq dX12_readLine_126 (fun c21 => ?_) (fun c21 => ?_))))
              · have h := ziT h (c21)
                obtain ⟨r23, l22, h⟩ := zbd_some h
                refine z_aload dX12_readLine_139 rfl (z_ldcs dX12_readLine_140 (i := 40) rfl rfl rfl (z_callV dX12_readLine_142 (tX12_isWords40 l22) (Nat.le_of_ble_eq_true rfl) cdX12_isWord naX12_isWord lkX12_116 imX12_isWord seX12_isWord in1_0 sh1_0 rfl rfl rfl (Nat.le_of_ble_eq_true rfl) (z_if_eq dX12_readLine_145 (fun c24 => ?_) (fun c24 => ?_))))
                · have h := ziT h (c24)
                  exact z_const dX12_readLine_164 (z_zretQ dX12_readLine_165 rfl rfl (by cases h; rfl))
                · have h := ziF h (c24)
                  obtain ⟨y26, l25, h⟩ := zbd_some h
                  refine z_aload dX12_readLine_148 rfl (z_const dX12_readLine_149 (z_const dX12_readLine_151 (z_const dX12_readLine_152 (z_callV dX12_readLine_154 (tX12_readNumber l25) (Nat.le_of_ble_eq_true rfl) cdX12_readNumber naX12_readNumber lkX12_153 imX12_readNumber seX12_readNumber in1_0 sh1_0 rfl rfl rfl (Nat.le_of_ble_eq_true rfl) (z_if_eq dX12_readLine_157 (fun c27 => ?_) (fun c27 => ?_))))))
                  · have h := ziT h (c27)
                    exact z_const dX12_readLine_164 (z_zretQ dX12_readLine_165 rfl rfl (by cases h; rfl))
                  · have h := ziF h (c27)
                    exact z_const dX12_readLine_160 (z_goto dX12_readLine_161 (z_zretQ dX12_readLine_165 rfl rfl (by cases h; rfl)))
              · have h := ziF h (c21)
                obtain ⟨y29, l28, h⟩ := zbd_some h
                obtain ⟨s30, h⟩ := zchk_some h
                exact z_aload dX12_readLine_129 rfl (z_const dX12_readLine_130 (z_const dX12_readLine_132 (z_const dX12_readLine_133 (z_callV dX12_readLine_135 (tX12_readNumber l28) (Nat.le_of_ble_eq_true rfl) cdX12_readNumber naX12_readNumber lkX12_153 imX12_readNumber seX12_readNumber in1_0 sh1_0 rfl rfl rfl (Nat.le_of_ble_eq_true rfl) (z_zretQ dX12_readLine_138 rfl (zbl_n (id s30)) (by cases h; rfl))))))
            · have h := ziF h (c18)
              obtain ⟨y32, l31, h⟩ := zbd_some h
              obtain ⟨s33, h⟩ := zchk_some h
              exact z_aload dX12_readLine_112 rfl (z_const dX12_readLine_113 (z_const dX12_readLine_114 (z_const dX12_readLine_115 (z_callV dX12_readLine_116 (tX12_readNumber l31) (Nat.le_of_ble_eq_true rfl) cdX12_readNumber naX12_readNumber lkX12_153 imX12_readNumber seX12_readNumber in1_0 sh1_0 rfl rfl rfl (Nat.le_of_ble_eq_true rfl) (z_zretQ dX12_readLine_119 rfl (zbl_n (id s33)) (by cases h; rfl))))))
          · have h := ziF h (c15)
            obtain ⟨y35, l34, h⟩ := zbd_some h
            refine z_aload dX12_readLine_73 rfl (z_const dX12_readLine_74 (z_const dX12_readLine_76 (z_const dX12_readLine_77 (z_callV dX12_readLine_79 (tX12_readNumber l34) (Nat.le_of_ble_eq_true rfl) cdX12_readNumber naX12_readNumber lkX12_153 imX12_readNumber seX12_readNumber in1_0 sh1_0 rfl rfl rfl (Nat.le_of_ble_eq_true rfl) (z_if_eq dX12_readLine_82 (fun c36 => ?_) (fun c36 => ?_))))))
            · have h := ziT h (c36)
              exact z_const dX12_readLine_101 (z_zretQ dX12_readLine_102 rfl rfl (by cases h; rfl))
            · have h := ziF h (c36)
              obtain ⟨y38, l37, h⟩ := zbd_some h
              refine z_aload dX12_readLine_85 rfl (z_const dX12_readLine_86 (z_const dX12_readLine_88 (z_const dX12_readLine_89 (z_callV dX12_readLine_91 (tX12_readNumber l37) (Nat.le_of_ble_eq_true rfl) cdX12_readNumber naX12_readNumber lkX12_153 imX12_readNumber seX12_readNumber in1_0 sh1_0 rfl rfl rfl (Nat.le_of_ble_eq_true rfl) (z_if_eq dX12_readLine_94 (fun c39 => ?_) (fun c39 => ?_))))))
              · have h := ziT h (c39)
                exact z_const dX12_readLine_101 (z_zretQ dX12_readLine_102 rfl rfl (by cases h; rfl))
              · have h := ziF h (c39)
                exact z_const dX12_readLine_97 (z_goto dX12_readLine_98 (z_zretQ dX12_readLine_102 rfl rfl (by cases h; rfl)))
        · have h := ziF h (c12)
          obtain ⟨y41, l40, h⟩ := zbd_some h
          obtain ⟨s42, h⟩ := zchk_some h
          exact z_aload dX12_readLine_59 rfl (z_callV dX12_readLine_60 (tX12_readRequest l40) (Nat.le_of_ble_eq_true rfl) cdX12_readRequest naX12_readRequest lkX12_171 imX12_readRequest seX12_readRequest in1_0 sh1_0 rfl rfl rfl (Nat.le_of_ble_eq_true rfl) (z_zretQ dX12_readLine_63 rfl (zbl_n (id s42)) (by cases h; rfl)))
      · have h := ziF h (c9)
        obtain ⟨y44, l43, h⟩ := zbd_some h
        obtain ⟨s45, h⟩ := zchk_some h
        exact z_aload dX12_readLine_37 rfl (z_const dX12_readLine_38 (z_const dX12_readLine_39 (z_aload dX12_readLine_40 rfl (z_callV dX12_readLine_41 (tX12_nodes) (Nat.le_of_ble_eq_true rfl) cdX12_nodes naX12_nodes lkX12_67 imX12_nodes seX12_nodes in1_0 sh1_0 rfl rfl rfl (Nat.le_of_ble_eq_true rfl) (z_const dX12_readLine_44 (z_isub dX12_readLine_45 (z_callV dX12_readLine_46 (tX12_readNumber l43) (Nat.le_of_ble_eq_true rfl) cdX12_readNumber naX12_readNumber lkX12_153 imX12_readNumber seX12_readNumber in1_0 sh1_0 rfl rfl rfl (Nat.le_of_ble_eq_true rfl) (z_zretQ dX12_readLine_49 rfl (zbl_n (id s45)) (by cases h; rfl)))))))))
    · have h := ziF h (c6)
      obtain ⟨y47, l46, h⟩ := zbd_some h
      obtain ⟨s48, h⟩ := zchk_some h
      exact z_aload dX12_readLine_23 rfl (z_callV dX12_readLine_24 (tX12_readLink l46) (Nat.le_of_ble_eq_true rfl) cdX12_readLink naX12_readLink lkX12_164 imX12_readLink seX12_readLink in1_0 sh1_0 rfl rfl rfl (Nat.le_of_ble_eq_true rfl) (z_zretQ dX12_readLine_27 rfl (zbl_n (id s48)) (by cases h; rfl)))
  · have h := ziF h (c3)
    obtain ⟨y50, l49, h⟩ := zbd_some h
    obtain ⟨s51, h⟩ := zchk_some h
    exact z_aload dX12_readLine_9 rfl (z_callV dX12_readLine_10 (tX12_readNode l49) (Nat.le_of_ble_eq_true rfl) cdX12_readNode naX12_readNode lkX12_158 imX12_readNode seX12_readNode in1_0 sh1_0 rfl rfl rfl (Nat.le_of_ble_eq_true rfl) (z_zretQ dX12_readLine_13 rfl (zbl_n (id s51)) (by cases h; rfl)))
-- X12_send
def jX12_send_18 (F : Nat) (b0 : Int32) (X : zX) : Option (Int32 × zX) := zbd (eX12_throwsIf b0 (nI 1) X) fun y2 => if y2.1 = 0 then zbd (eX12_isSent F (zw y2.2 0 16 (nI 0))) fun y5 => some (y5.1, y5.2) else some ((nI 0), y2.2)
set_option maxRecDepth 20000 in
set_option maxHeartbeats 4000000 in
theorem sX12_send_18 {μ : zM} {F : Nat} {b0 : Int32} {X : zX} {ρ : Int32 × zX} (h : jX12_send_18 F b0 X = some ρ) : zJ mX12_send 9 (0, 0) (0, 0) (zQ (some (zi ρ.1)) (zg μ 1 ρ.2)) 18 [some (zq 1 0)] [zi b0, zq 1 0] (zg μ 1 X) := by
  unfold jX12_send_18 at h
  obtain ⟨y2, l1, h⟩ := zbd_some h
  refine z_const dX12_send_18 (z_callV dX12_send_19 (tX12_throwsIf l1) (Nat.le_of_ble_eq_true rfl) cdX12_throwsIf naX12_throwsIf lkX12_188 imX12_throwsIf seX12_throwsIf in1_0 sh1_0 rfl rfl rfl (Nat.le_of_ble_eq_true rfl) (z_if_eq dX12_send_22 (fun c3 => ?_) (fun c3 => ?_)))
  · have h := ziT h (c3)
    obtain ⟨y5, l4, h⟩ := zbd_some h
    exact z_aload dX12_send_27 rfl (z_const dX12_send_28 (z_putI dX12_send_29 fkX12_220 in1_0 sh1_0 rfl (fun _ _ _ h => by cases h; rfl) ⟨_, rfl, rfl, rfl⟩ (z_aload dX12_send_32 rfl (z_callV dX12_send_33 (tX12_isSent l4) (Nat.le_of_ble_eq_true rfl) cdX12_isSent naX12_isSent lkX12_321 imX12_isSent seX12_isSent in1_0 sh1_0 rfl rfl rfl (Nat.le_of_ble_eq_true rfl) (z_iretQ dX12_send_36 rfl (by cases h; rfl))))))
  · have h := ziF h (c3)
    exact z_const dX12_send_25 (z_iretQ dX12_send_26 rfl (by cases h; rfl))
def eX12_send (F : Nat) (X : zX) : Option (Int32 × zX) := zbd (eX12_canSend (zw X 0 0 (nI 0))) fun r2 => if r2 = 0 then jX12_send_18 F (nI 1) (zw X 0 0 (nI 0)) else jX12_send_18 F (nI 0) (zw X 0 0 (nI 0))
set_option maxRecDepth 20000 in
set_option maxHeartbeats 4000000 in
theorem tX12_send {μ : zM} {F : Nat} {X : zX} {ρ : Int32 × zX} (h : eX12_send F X = some ρ) : LM mX12_send 9 [zq 1 0] (zg μ 1 X) (some (zi ρ.1)) (zg μ 1 ρ.2) := by
  unfold eX12_send at h
  refine LM.of (by decide +kernel) rfl (Nat.le_of_ble_eq_true rfl) ?_
  show zJ mX12_send 9 (0, 0) (0, 0) _ 0 [some (zq 1 0)] [] _
  obtain ⟨r2, l1, h⟩ := zbd_some h
  refine z_aload dX12_send_0 rfl (z_const dX12_send_1 (z_putI dX12_send_2 fkX12_3 in1_0 sh1_0 rfl (fun _ _ _ h => by cases h; rfl) ⟨_, rfl, rfl, rfl⟩ (z_aload dX12_send_5 rfl (z_aload dX12_send_6 rfl (z_callV dX12_send_7 (tX12_canSend l1) (Nat.le_of_ble_eq_true rfl) cdX12_canSend naX12_canSend lkX12_318 imX12_canSend seX12_canSend in1_0 sh1_0 rfl rfl rfl (Nat.le_of_ble_eq_true rfl) (z_if_ne dX12_send_10 (fun c3 => ?_) (fun c3 => ?_)))))))
  · have h := ziF h (c3)
    exact z_const dX12_send_17 (z_mask [true] (sX12_send_18 h))
  · have h := ziT h (c3)
    exact z_const dX12_send_13 (z_goto dX12_send_14 (z_mask [true] (sX12_send_18 h)))
-- X12_goesOn
def hX12_goesOn_4 (F : Nat) : Nat → Int32 → Int32 → Int32 → zX → Option (Int32 × zX)
  | 0, _, _, _, _ => none
  | n + 1, a1, a2, a3, X => if a1 ≤ a3 then some (a2, X) else zbd (eX12_oneTick F X) fun y3 => (hX12_goesOn_4 F n) a1 (a2 + y3.1) (a3 + (nI 1)) y3.2
set_option maxRecDepth 20000 in
set_option maxHeartbeats 4000000 in
theorem sX12_goesOn_4 {μ : zM} {F : Nat} : ∀ {n : Nat} {a1 a2 a3 : Int32} {X : zX} {ρ : Int32 × zX}, hX12_goesOn_4 F n a1 a2 a3 X = some ρ → zJ mX12_goesOn 10 (0, 0) (0, 0) (zQ (some (zi ρ.1)) (zg μ 1 ρ.2)) 4 [some (zq 1 0), some (zi a1), some (zi a2), some (zi a3)] [] (zg μ 1 X) := by
  intro n
  induction n with
  | zero => intro a1 a2 a3 X ρ h; exact nomatch (show (none : Option _) = some ρ from h)
  | succ n ih =>
    intro a1 a2 a3 X ρ h
    have hK4 := @ih
    rw [hX12_goesOn_4] at h
    refine z_iload dX12_goesOn_4 rfl (z_iload dX12_goesOn_5 rfl (z_icmp_ge dX12_goesOn_6 (fun c1 => ?_) (fun c1 => ?_)))
    · have h := ziT h (c1)
      exact z_iload dX12_goesOn_22 rfl (z_iretQ dX12_goesOn_23 rfl (by cases h; rfl))
    · have h := ziF h (c1)
      obtain ⟨y3, l2, h⟩ := zbd_some h
      exact z_iload dX12_goesOn_9 rfl (z_aload dX12_goesOn_10 rfl (z_callV dX12_goesOn_11 (tX12_oneTick l2) (Nat.le_of_ble_eq_true rfl) cdX12_oneTick naX12_oneTick lkX12_324 imX12_oneTick seX12_oneTick in1_0 sh1_0 rfl rfl rfl (Nat.le_of_ble_eq_true rfl) (z_iadd dX12_goesOn_14 (z_istore dX12_goesOn_15 (Nat.le_of_ble_eq_true rfl) (z_iinc dX12_goesOn_16 (Nat.le_of_ble_eq_true rfl) rfl (z_goto dX12_goesOn_19 (z_mask [true, true, true, true] (hK4 h))))))))
def eX12_goesOn (F : Nat) (x0 : Int32) (X : zX) : Option (Int32 × zX) := hX12_goesOn_4 F F x0 (nI 0) (nI 0) X
set_option maxRecDepth 20000 in
set_option maxHeartbeats 4000000 in
theorem tX12_goesOn {μ : zM} {F : Nat} {x0 : Int32} {X : zX} {ρ : Int32 × zX} (h : eX12_goesOn F x0 X = some ρ) : LM mX12_goesOn 10 [zq 1 0, zi x0] (zg μ 1 X) (some (zi ρ.1)) (zg μ 1 ρ.2) := by
  unfold eX12_goesOn at h
  refine LM.of (by decide +kernel) rfl (Nat.le_of_ble_eq_true rfl) ?_
  show zJ mX12_goesOn 10 (0, 0) (0, 0) _ 0 [some (zq 1 0), some (zi x0), none, none] [] _
  exact z_const dX12_goesOn_0 (z_istore dX12_goesOn_1 (Nat.le_of_ble_eq_true rfl) (z_const dX12_goesOn_2 (z_istore dX12_goesOn_3 (Nat.le_of_ble_eq_true rfl) (z_mask [true, true, true, true] (sX12_goesOn_4 h)))))
-- X12_readGroup
def hX12_readGroup_19 (F : Nat) : Nat → Int32 → zX → Option (Int32 × zX)
  | 0, _, _ => none
  | n + 1, a1, X => zbd (eX12_letters F X) fun y2 => if a1 = (nI 14) then some ((nI 0), y2) else zbd (eX12_readLine F y2) fun y5 => if y5.1 = 0 then some ((nI 0), y5.2) else zbd (eX12_blanks F y5.2) fun y8 => if (y8 0 8) = (y8 0 9) then some ((nI 1), y8) else zbd (eX12_isAt (nI 59) (nI 59) y8) fun r11 => if r11 = 0 then some ((nI 0), y8) else (hX12_readGroup_19 F n) (a1 + (nI 1)) (zw y8 0 8 ((y8 0 8) + (nI 1)))
set_option maxRecDepth 20000 in
set_option maxHeartbeats 4000000 in
theorem sX12_readGroup_19 {μ : zM} {F : Nat} : ∀ {n : Nat} {a1 : Int32} {X : zX} {ρ : Int32 × zX}, hX12_readGroup_19 F n a1 X = some ρ → zJ mX12_readGroup 10 (0, 0) (0, 0) (zQ (some (zi ρ.1)) (zg μ 1 ρ.2)) 19 [some (zq 1 0), some (zi a1)] [] (zg μ 1 X) := by
  intro n
  induction n with
  | zero => intro a1 X ρ h; exact nomatch (show (none : Option _) = some ρ from h)
  | succ n ih =>
    intro a1 X ρ h
    have hK19 := @ih
    rw [hX12_readGroup_19] at h
    obtain ⟨y2, l1, h⟩ := zbd_some h
    refine z_aload dX12_readGroup_19 rfl (z_callV dX12_readGroup_20 (tX12_letters l1) (Nat.le_of_ble_eq_true rfl) cdX12_letters naX12_letters lkX12_113 imX12_letters seX12_letters in1_0 sh1_0 rfl rfl rfl (Nat.le_of_ble_eq_true rfl) (z_iload dX12_readGroup_23 rfl (z_const dX12_readGroup_24 (z_icmp_eq dX12_readGroup_26 (fun c3 => ?_) (fun c3 => ?_)))))
    · have h := ziT h (c3)
      exact z_const dX12_readGroup_36 (z_zretQ dX12_readGroup_37 rfl rfl (by cases h; rfl))
    · have h := ziF h (c3)
      obtain ⟨y5, l4, h⟩ := zbd_some h
      refine z_aload dX12_readGroup_29 rfl (z_callV dX12_readGroup_30 (tX12_readLine l4) (Nat.le_of_ble_eq_true rfl) cdX12_readLine naX12_readLine lkX12_182 imX12_readLine seX12_readLine in1_0 sh1_0 rfl rfl rfl (Nat.le_of_ble_eq_true rfl) (z_if_ne dX12_readGroup_33 (fun c6 => ?_) (fun c6 => ?_)))
      · have h := ziF h (c6)
        obtain ⟨y8, l7, h⟩ := zbd_some h
        refine z_aload dX12_readGroup_38 rfl (z_callV dX12_readGroup_39 (tX12_blanks l7) (Nat.le_of_ble_eq_true rfl) cdX12_blanks naX12_blanks lkX12_101 imX12_blanks seX12_blanks in1_0 sh1_0 rfl rfl rfl (Nat.le_of_ble_eq_true rfl) (z_aload dX12_readGroup_42 rfl (z_getI dX12_readGroup_43 fkX12_89 in1_0 sh1_0 rfl (z_aload dX12_readGroup_46 rfl (z_getI dX12_readGroup_47 fkX12_92 in1_0 sh1_0 rfl (z_icmp_ne dX12_readGroup_50 (fun c9 => ?_) (fun c9 => ?_)))))))
        · have h := ziF h (c9)
          obtain ⟨r11, l10, h⟩ := zbd_some h
          refine z_aload dX12_readGroup_55 rfl (z_const dX12_readGroup_56 (z_const dX12_readGroup_58 (z_callV dX12_readGroup_60 (tX12_isAt l10) (Nat.le_of_ble_eq_true rfl) cdX12_isAt naX12_isAt lkX12_95 imX12_isAt seX12_isAt in1_0 sh1_0 rfl rfl rfl (Nat.le_of_ble_eq_true rfl) (z_if_ne dX12_readGroup_63 (fun c12 => ?_) (fun c12 => ?_)))))
          · have h := ziF h (c12)
            exact z_aload dX12_readGroup_68 rfl (z_dup dX12_readGroup_69 rfl (z_getI dX12_readGroup_70 fkX12_89 in1_0 sh1_0 rfl (z_const dX12_readGroup_73 (z_iadd dX12_readGroup_74 (z_putI dX12_readGroup_75 fkX12_89 in1_0 sh1_0 rfl (fun _ _ _ h => by cases h; rfl) ⟨_, rfl, rfl, rfl⟩ (z_iinc dX12_readGroup_78 (Nat.le_of_ble_eq_true rfl) rfl (z_goto dX12_readGroup_81 (z_mask [true, true] (hK19 h)))))))))
          · have h := ziT h (c12)
            exact z_const dX12_readGroup_66 (z_zretQ dX12_readGroup_67 rfl rfl (by cases h; rfl))
        · have h := ziT h (c9)
          exact z_const dX12_readGroup_53 (z_zretQ dX12_readGroup_54 rfl rfl (by cases h; rfl))
      · have h := ziT h (c6)
        exact z_const dX12_readGroup_36 (z_zretQ dX12_readGroup_37 rfl rfl (by cases h; rfl))
def eX12_readGroup (F : Nat) (X : zX) : Option (Int32 × zX) := zbd (eX12_blanks F X) fun y2 => if (y2 0 8) = (y2 0 9) then some ((nI 1), y2) else hX12_readGroup_19 F F (nI 0) y2
set_option maxRecDepth 20000 in
set_option maxHeartbeats 4000000 in
theorem tX12_readGroup {μ : zM} {F : Nat} {X : zX} {ρ : Int32 × zX} (h : eX12_readGroup F X = some ρ) : LM mX12_readGroup 10 [zq 1 0] (zg μ 1 X) (some (zi ρ.1)) (zg μ 1 ρ.2) := by
  unfold eX12_readGroup at h
  refine LM.of (by decide +kernel) rfl (Nat.le_of_ble_eq_true rfl) ?_
  show zJ mX12_readGroup 10 (0, 0) (0, 0) _ 0 [some (zq 1 0), none] [] _
  obtain ⟨y2, l1, h⟩ := zbd_some h
  refine z_aload dX12_readGroup_0 rfl (z_callV dX12_readGroup_1 (tX12_blanks l1) (Nat.le_of_ble_eq_true rfl) cdX12_blanks naX12_blanks lkX12_101 imX12_blanks seX12_blanks in1_0 sh1_0 rfl rfl rfl (Nat.le_of_ble_eq_true rfl) (z_aload dX12_readGroup_4 rfl (z_getI dX12_readGroup_5 fkX12_89 in1_0 sh1_0 rfl (z_aload dX12_readGroup_8 rfl (z_getI dX12_readGroup_9 fkX12_92 in1_0 sh1_0 rfl (z_icmp_ne dX12_readGroup_12 (fun c3 => ?_) (fun c3 => ?_)))))))
  · have h := ziF h (c3)
    exact z_const dX12_readGroup_17 (z_istore dX12_readGroup_18 (Nat.le_of_ble_eq_true rfl) (z_mask [true, true] (sX12_readGroup_19 h)))
  · have h := ziT h (c3)
    exact z_const dX12_readGroup_15 (z_zretQ dX12_readGroup_16 rfl rfl (by cases h; rfl))
-- X12_whole
def jX12_whole_48 (F : Nat) (a2 : Int32) (X : zX) : Option (Int32 × zX) := zbd (eX12_bringsBack F X) fun y2 => if a2 ≤ (nI 120) then some (a2, y2) else some ((-1), y2)
set_option maxRecDepth 20000 in
set_option maxHeartbeats 4000000 in
theorem sX12_whole_48 {μ : zM} {F : Nat} {a2 : Int32} {X : zX} {ρ : Int32 × zX} (h : jX12_whole_48 F a2 X = some ρ) : zJ mX12_whole 10 (0, 0) (0, 0) (zQ (some (zi ρ.1)) (zg μ 1 ρ.2)) 48 [some (zq 1 0), none, some (zi a2)] [] (zg μ 1 X) := by
  unfold jX12_whole_48 at h
  obtain ⟨y2, l1, h⟩ := zbd_some h
  refine z_aload dX12_whole_48 rfl (z_callV dX12_whole_49 (tX12_bringsBack l1) (Nat.le_of_ble_eq_true rfl) cdX12_bringsBack naX12_bringsBack lkX12_360 imX12_bringsBack seX12_bringsBack in1_0 sh1_0 rfl rfl rfl (Nat.le_of_ble_eq_true rfl) (z_iload dX12_whole_52 rfl (z_const dX12_whole_53 (z_icmp_le dX12_whole_55 (fun c3 => ?_) (fun c3 => ?_)))))
  · have h := ziT h (c3)
    exact z_iload dX12_whole_62 rfl (z_iretQ dX12_whole_63 rfl (by cases h; rfl))
  · have h := ziF h (c3)
    exact z_const dX12_whole_58 (z_goto dX12_whole_59 (z_iretQ dX12_whole_63 rfl (by cases h; rfl)))
def hX12_whole_24 (F : Nat) : Nat → Int32 → zX → Option (Int32 × zX)
  | 0, _, _ => none
  | n + 1, a2, X => if (nI 120) < a2 then jX12_whole_48 F a2 X else zbd (eX12_isWhole F X) fun r3 => if r3 = 0 then zbd (eX12_oneTick F X) fun y6 => (hX12_whole_24 F n) (a2 + (nI 1)) y6.2 else jX12_whole_48 F a2 X
set_option maxRecDepth 20000 in
set_option maxHeartbeats 4000000 in
theorem sX12_whole_24 {μ : zM} {F : Nat} : ∀ {n : Nat} {a2 : Int32} {X : zX} {ρ : Int32 × zX}, hX12_whole_24 F n a2 X = some ρ → zJ mX12_whole 10 (0, 0) (0, 0) (zQ (some (zi ρ.1)) (zg μ 1 ρ.2)) 24 [some (zq 1 0), none, some (zi a2)] [] (zg μ 1 X) := by
  intro n
  induction n with
  | zero => intro a2 X ρ h; exact nomatch (show (none : Option _) = some ρ from h)
  | succ n ih =>
    intro a2 X ρ h
    have hK24 := @ih
    rw [hX12_whole_24] at h
    refine z_iload dX12_whole_24 rfl (z_const dX12_whole_25 (z_icmp_gt dX12_whole_27 (fun c1 => ?_) (fun c1 => ?_)))
    · have h := ziT h (c1)
      exact z_mask [true, false, true] (sX12_whole_48 h)
    · have h := ziF h (c1)
      obtain ⟨r3, l2, h⟩ := zbd_some h
      refine z_aload dX12_whole_30 rfl (z_callV dX12_whole_31 (tX12_isWhole l2) (Nat.le_of_ble_eq_true rfl) cdX12_isWhole naX12_isWhole lkX12_357 imX12_isWhole seX12_isWhole in1_0 sh1_0 rfl rfl rfl (Nat.le_of_ble_eq_true rfl) (z_if_ne dX12_whole_34 (fun c4 => ?_) (fun c4 => ?_)))
      · have h := ziF h (c4)
        exact z_mask [true, false, true] (sX12_whole_48 h)
      · have h := ziT h (c4)
        obtain ⟨y6, l5, h⟩ := zbd_some h
        exact z_aload dX12_whole_37 rfl (z_callV dX12_whole_38 (tX12_oneTick l5) (Nat.le_of_ble_eq_true rfl) cdX12_oneTick naX12_oneTick lkX12_324 imX12_oneTick seX12_oneTick in1_0 sh1_0 rfl rfl rfl (Nat.le_of_ble_eq_true rfl) (z_pop dX12_whole_41 (z_iinc dX12_whole_42 (Nat.le_of_ble_eq_true rfl) rfl (z_goto dX12_whole_45 (z_mask [true, false, true] (hK24 h))))))
def jX12_whole_19 (F : Nat) (b0 : Int32) (X : zX) : Option (Int32 × zX) := hX12_whole_24 F F (nI 0) (zw X 0 16 b0)
set_option maxRecDepth 20000 in
set_option maxHeartbeats 4000000 in
theorem sX12_whole_19 {μ : zM} {F : Nat} {b0 : Int32} {X : zX} {ρ : Int32 × zX} (h : jX12_whole_19 F b0 X = some ρ) : zJ mX12_whole 10 (0, 0) (0, 0) (zQ (some (zi ρ.1)) (zg μ 1 ρ.2)) 19 [some (zq 1 0), none, none] [zi b0, zq 1 0] (zg μ 1 X) := by
  unfold jX12_whole_19 at h
  exact z_putI dX12_whole_19 fkX12_220 in1_0 sh1_0 rfl (fun _ _ _ h => by cases h; rfl) ⟨_, rfl, rfl, rfl⟩ (z_const dX12_whole_22 (z_istore dX12_whole_23 (Nat.le_of_ble_eq_true rfl) (z_mask [true, false, true] (sX12_whole_24 h))))
def eX12_whole (F : Nat) (x0 : Int32) (X : zX) : Option (Int32 × zX) := zbd (eX12_keepsAll F (zw X 0 0 (nI 0))) fun y2 => if x0 = 0 then jX12_whole_19 F (nI 1) y2 else jX12_whole_19 F (nI 2) y2
set_option maxRecDepth 20000 in
set_option maxHeartbeats 4000000 in
theorem tX12_whole {μ : zM} {F : Nat} {x0 : Int32} {X : zX} {ρ : Int32 × zX} (h : eX12_whole F x0 X = some ρ) : LM mX12_whole 10 [zq 1 0, zi x0] (zg μ 1 X) (some (zi ρ.1)) (zg μ 1 ρ.2) := by
  unfold eX12_whole at h
  refine LM.of (by decide +kernel) rfl (Nat.le_of_ble_eq_true rfl) ?_
  show zJ mX12_whole 10 (0, 0) (0, 0) _ 0 [some (zq 1 0), some (zi x0), none] [] _
  obtain ⟨y2, l1, h⟩ := zbd_some h
  refine z_aload dX12_whole_0 rfl (z_const dX12_whole_1 (z_putI dX12_whole_2 fkX12_3 in1_0 sh1_0 rfl (fun _ _ _ h => by cases h; rfl) ⟨_, rfl, rfl, rfl⟩ (z_aload dX12_whole_5 rfl (z_callV dX12_whole_6 (tX12_keepsAll l1) (Nat.le_of_ble_eq_true rfl) cdX12_keepsAll naX12_keepsAll lkX12_354 imX12_keepsAll seX12_keepsAll in1_0 sh1_0 rfl rfl rfl (Nat.le_of_ble_eq_true rfl) (z_aload dX12_whole_9 rfl (z_iload dX12_whole_10 rfl (z_if_eq dX12_whole_11 (fun c3 => ?_) (fun c3 => ?_))))))))
  · have h := ziT h (c3)
    exact z_const dX12_whole_18 (z_mask [true, false, false] (sX12_whole_19 h))
  · have h := ziF h (c3)
    exact z_const dX12_whole_14 (z_goto dX12_whole_15 (z_mask [true, false, false] (sX12_whole_19 h)))
-- X12_group
def hX12_group_114 (F : Nat) : Nat → Int32 → zX → Option (Int32 × zX)
  | 0, _, _ => none
  | n + 1, a2, X => if (nI 2422) ≤ a2 then some ((nI 0), X) else zchk (zin a2 2422) (zchk (zin a2 2422) ((hX12_group_114 F n) (a2 + (nI 1)) (zw X 1 (zn a2) (X 3 (zn a2)))))
set_option maxRecDepth 20000 in
set_option maxHeartbeats 4000000 in
theorem sX12_group_114 {μ : zM} {F : Nat} : ∀ {n : Nat} {a2 : Int32} {X : zX} {ρ : Int32 × zX}, hX12_group_114 F n a2 X = some ρ → zJ mX12_group 11 (0, 0) (0, 0) (zQ (some (zi ρ.1)) (zg μ 1 ρ.2)) 114 [some (zq 1 0), none, some (zi a2)] [] (zg μ 1 X) := by
  intro n
  induction n with
  | zero => intro a2 X ρ h; exact nomatch (show (none : Option _) = some ρ from h)
  | succ n ih =>
    intro a2 X ρ h
    have hK114 := @ih
    rw [hX12_group_114] at h
    refine z_iload dX12_group_114 rfl (z_const dX12_group_115 (z_icmp_ge dX12_group_118 (fun c1 => ?_) (fun c1 => ?_)))
    · have h := ziT h (c1)
      exact z_const dX12_group_139 (z_iretQ dX12_group_140 rfl (by cases h; rfl))
    · have h := ziF h (c1)
      obtain ⟨s2, h⟩ := zchk_some h
      obtain ⟨s3, h⟩ := zchk_some h
      exact z_aload dX12_group_121 rfl (z_getR dX12_group_122 fkX12_13 in1_0 sh1_0 rfl (z_iload dX12_group_125 rfl (z_aload dX12_group_126 rfl (z_getR dX12_group_127 fkX12_20 in1_0 sh1_0 rfl (z_iload dX12_group_130 rfl (z_iald dX12_group_131 in1_3 sh1_3 (zin_vp s2) (z_iast dX12_group_132 in1_1 sh1_1 (zin_vp s3) (z_iinc dX12_group_133 (Nat.le_of_ble_eq_true rfl) rfl (z_goto dX12_group_136 (z_mask [true, false, true] (hK114 h)))))))))))
def jX12_group_105 (F : Nat) (b0 : Int32) (X : zX) : Option (Int32 × zX) := zbd (eX12_throwsIf b0 (nI 2) X) fun y2 => if y2.1 = 0 then some (((zw y2.2 1 2 ((y2.2 1 2) + (nI 1))) 1 2), zw y2.2 1 2 ((y2.2 1 2) + (nI 1))) else hX12_group_114 F F (nI 0) y2.2
set_option maxRecDepth 20000 in
set_option maxHeartbeats 4000000 in
theorem sX12_group_105 {μ : zM} {F : Nat} {b0 : Int32} {X : zX} {ρ : Int32 × zX} (h : jX12_group_105 F b0 X = some ρ) : zJ mX12_group 11 (0, 0) (0, 0) (zQ (some (zi ρ.1)) (zg μ 1 ρ.2)) 105 [some (zq 1 0), none, none] [zi b0, zq 1 0] (zg μ 1 X) := by
  unfold jX12_group_105 at h
  obtain ⟨y2, l1, h⟩ := zbd_some h
  refine z_const dX12_group_105 (z_callV dX12_group_106 (tX12_throwsIf l1) (Nat.le_of_ble_eq_true rfl) cdX12_throwsIf naX12_throwsIf lkX12_188 imX12_throwsIf seX12_throwsIf in1_0 sh1_0 rfl rfl rfl (Nat.le_of_ble_eq_true rfl) (z_if_eq dX12_group_109 (fun c3 => ?_) (fun c3 => ?_)))
  · have h := ziT h (c3)
    refine z_aload dX12_group_141 rfl (z_getR dX12_group_142 fkX12_13 in1_0 sh1_0 rfl (z_const dX12_group_145 (z_dup2 dX12_group_146 rfl rfl (z_ialdN dX12_group_147 in1_1 sh1_1 (Nat.le_of_ble_eq_true rfl) (Nat.le_of_ble_eq_true rfl) (z_const dX12_group_148 (z_iadd dX12_group_149 (z_iastN dX12_group_150 in1_1 sh1_1 (Nat.le_of_ble_eq_true rfl) (Nat.le_of_ble_eq_true rfl) (z_aload dX12_group_151 rfl (z_getR dX12_group_152 fkX12_13 in1_0 sh1_0 rfl (z_const dX12_group_155 (z_ialdN dX12_group_156 in1_1 sh1_1 (Nat.le_of_ble_eq_true rfl) (Nat.le_of_ble_eq_true rfl) ?_)))))))))))
    exact z_iretQ dX12_group_157 rfl (by cases h; rfl)
  · have h := ziF h (c3)
    exact z_const dX12_group_112 (z_istore dX12_group_113 (Nat.le_of_ble_eq_true rfl) (z_mask [true, false, true] (sX12_group_114 h)))
def jX12_group_81 (F : Nat) (b0 : Int32) (X : zX) : Option (Int32 × zX) := zbd (eX12_throwsIf b0 (nI 1) X) fun y2 => if y2.1 = 0 then if (y2.2 1 2) = (nI 12) then jX12_group_105 F (nI 1) y2.2 else jX12_group_105 F (nI 0) y2.2 else hX12_group_114 F F (nI 0) y2.2
set_option maxRecDepth 20000 in
set_option maxHeartbeats 4000000 in
theorem sX12_group_81 {μ : zM} {F : Nat} {b0 : Int32} {X : zX} {ρ : Int32 × zX} (h : jX12_group_81 F b0 X = some ρ) : zJ mX12_group 11 (0, 0) (0, 0) (zQ (some (zi ρ.1)) (zg μ 1 ρ.2)) 81 [some (zq 1 0), none, none] [zi b0, zq 1 0] (zg μ 1 X) := by
  unfold jX12_group_81 at h
  obtain ⟨y2, l1, h⟩ := zbd_some h
  refine z_const dX12_group_81 (z_callV dX12_group_82 (tX12_throwsIf l1) (Nat.le_of_ble_eq_true rfl) cdX12_throwsIf naX12_throwsIf lkX12_188 imX12_throwsIf seX12_throwsIf in1_0 sh1_0 rfl rfl rfl (Nat.le_of_ble_eq_true rfl) (z_if_ne dX12_group_85 (fun c3 => ?_) (fun c3 => ?_)))
  · have h := ziF h (c3)
    exact z_const dX12_group_112 (z_istore dX12_group_113 (Nat.le_of_ble_eq_true rfl) (z_mask [true, false, true] (sX12_group_114 h)))
  · have h := ziT h (c3)
    refine z_aload dX12_group_88 rfl (z_aload dX12_group_89 rfl (z_getR dX12_group_90 fkX12_13 in1_0 sh1_0 rfl (z_const dX12_group_93 (z_ialdN dX12_group_94 in1_1 sh1_1 (Nat.le_of_ble_eq_true rfl) (Nat.le_of_ble_eq_true rfl) (z_const dX12_group_95 (z_icmp_ne dX12_group_97 (fun c4 => ?_) (fun c4 => ?_)))))))
    · have h := ziF h (c4)
      exact z_const dX12_group_104 (z_mask [true, false, false] (sX12_group_105 h))
    · have h := ziT h (c4)
      exact z_const dX12_group_100 (z_goto dX12_group_101 (z_mask [true, false, false] (sX12_group_105 h)))
def jX12_group_68 (F : Nat) (a1 b0 : Int32) (X : zX) : Option (Int32 × zX) := if a1 = 0 then jX12_group_81 F (nI 1) (zw X 0 11 b0) else jX12_group_81 F (nI 0) (zw X 0 11 b0)
set_option maxRecDepth 20000 in
set_option maxHeartbeats 4000000 in
theorem sX12_group_68 {μ : zM} {F : Nat} {a1 b0 : Int32} {X : zX} {ρ : Int32 × zX} (h : jX12_group_68 F a1 b0 X = some ρ) : zJ mX12_group 11 (0, 0) (0, 0) (zQ (some (zi ρ.1)) (zg μ 1 ρ.2)) 68 [some (zq 1 0), some (zi a1), none] [zi b0, zq 1 0] (zg μ 1 X) := by
  unfold jX12_group_68 at h
  refine z_putI dX12_group_68 fkX12_30 in1_0 sh1_0 rfl (fun _ _ _ h => by cases h; rfl) ⟨_, rfl, rfl, rfl⟩ (z_aload dX12_group_71 rfl (z_iload dX12_group_72 rfl (z_if_ne dX12_group_73 (fun c1 => ?_) (fun c1 => ?_))))
  · have h := ziF h (c1)
    exact z_const dX12_group_80 (z_mask [true, false, false] (sX12_group_81 h))
  · have h := ziT h (c1)
    exact z_const dX12_group_76 (z_goto dX12_group_77 (z_mask [true, false, false] (sX12_group_81 h)))
def hX12_group_25 (F : Nat) : Nat → Int32 → zX → Option (Int32 × zX)
  | 0, _, _ => none
  | n + 1, a1, X => if (nI 2422) ≤ a1 then zbd (eX12_readGroup F X) fun y3 => if y3.1 = 0 then jX12_group_68 F y3.1 (y3.2 0 10) y3.2 else jX12_group_68 F y3.1 (-1) y3.2 else zchk (zin a1 2422) (zchk (zin a1 2422) ((hX12_group_25 F n) (a1 + (nI 1)) (zw X 3 (zn a1) (X 1 (zn a1)))))
set_option maxRecDepth 20000 in
set_option maxHeartbeats 4000000 in
theorem sX12_group_25 {μ : zM} {F : Nat} : ∀ {n : Nat} {a1 : Int32} {X : zX} {ρ : Int32 × zX}, hX12_group_25 F n a1 X = some ρ → zJ mX12_group 11 (0, 0) (0, 0) (zQ (some (zi ρ.1)) (zg μ 1 ρ.2)) 25 [some (zq 1 0), some (zi a1), none] [] (zg μ 1 X) := by
  intro n
  induction n with
  | zero => intro a1 X ρ h; exact nomatch (show (none : Option _) = some ρ from h)
  | succ n ih =>
    intro a1 X ρ h
    have hK25 := @ih
    rw [hX12_group_25] at h
    refine z_iload dX12_group_25 rfl (z_const dX12_group_26 (z_icmp_ge dX12_group_29 (fun c1 => ?_) (fun c1 => ?_)))
    · have h := ziT h (c1)
      obtain ⟨y3, l2, h⟩ := zbd_some h
      refine z_aload dX12_group_50 rfl (z_callV dX12_group_51 (tX12_readGroup l2) (Nat.le_of_ble_eq_true rfl) cdX12_readGroup naX12_readGroup lkX12_185 imX12_readGroup seX12_readGroup in1_0 sh1_0 rfl rfl rfl (Nat.le_of_ble_eq_true rfl) (z_istore dX12_group_54 (Nat.le_of_ble_eq_true rfl) (z_aload dX12_group_55 rfl (z_iload dX12_group_56 rfl (z_if_eq dX12_group_57 (fun c4 => ?_) (fun c4 => ?_))))))
      · have h := ziT h (c4)
        exact z_aload dX12_group_64 rfl (z_getI dX12_group_65 fkX12_98 in1_0 sh1_0 rfl (z_mask [true, true, false] (sX12_group_68 h)))
      · have h := ziF h (c4)
        exact z_const dX12_group_60 (z_goto dX12_group_61 (z_mask [true, true, false] (sX12_group_68 h)))
    · have h := ziF h (c1)
      obtain ⟨s5, h⟩ := zchk_some h
      obtain ⟨s6, h⟩ := zchk_some h
      exact z_aload dX12_group_32 rfl (z_getR dX12_group_33 fkX12_20 in1_0 sh1_0 rfl (z_iload dX12_group_36 rfl (z_aload dX12_group_37 rfl (z_getR dX12_group_38 fkX12_13 in1_0 sh1_0 rfl (z_iload dX12_group_41 rfl (z_iald dX12_group_42 in1_1 sh1_1 (zin_vp s5) (z_iast dX12_group_43 in1_3 sh1_3 (zin_vp s6) (z_iinc dX12_group_44 (Nat.le_of_ble_eq_true rfl) rfl (z_goto dX12_group_47 (z_mask [true, true, false] (hK25 h)))))))))))
def eX12_group (F : Nat) (X : zX) : Option (Int32 × zX) := zlet (zw (zw (zw X 0 0 (nI 0)) 0 9 ((zw X 0 0 (nI 0)) 0 7)) 0 7 (nI 0)) fun X1 => hX12_group_25 F F (nI 0) (zw X1 0 8 (nI 0))
set_option maxRecDepth 20000 in
set_option maxHeartbeats 4000000 in
theorem tX12_group {μ : zM} {F : Nat} {X : zX} {ρ : Int32 × zX} (h : eX12_group F X = some ρ) : LM mX12_group 11 [zq 1 0] (zg μ 1 X) (some (zi ρ.1)) (zg μ 1 ρ.2) := by
  unfold eX12_group at h
  refine LM.of (by decide +kernel) rfl (Nat.le_of_ble_eq_true rfl) ?_
  show zJ mX12_group 11 (0, 0) (0, 0) _ 0 [some (zq 1 0), none, none] [] _
  have h := zlet_h h
  refine z_aload dX12_group_0 rfl (z_const dX12_group_1 (z_putI dX12_group_2 fkX12_3 in1_0 sh1_0 rfl (fun _ _ _ h => by cases h; rfl) ⟨_, rfl, rfl, rfl⟩ (z_aload dX12_group_5 rfl (z_aload dX12_group_6 rfl (z_getI dX12_group_7 fkX12_86 in1_0 sh1_0 rfl (z_putI dX12_group_10 fkX12_92 in1_0 sh1_0 rfl (fun _ _ _ h => by cases h; rfl) ⟨_, rfl, rfl, rfl⟩ (z_aload dX12_group_13 rfl (z_const dX12_group_14 (z_putI dX12_group_15 fkX12_86 in1_0 sh1_0 rfl (fun _ _ _ h => by cases h; rfl) ⟨_, rfl, rfl, rfl⟩ (z_aload dX12_group_18 rfl (z_const dX12_group_19 ?_)))))))))))
  exact z_putI dX12_group_20 fkX12_89 in1_0 sh1_0 rfl (fun _ _ _ h => by cases h; rfl) ⟨_, rfl, rfl, rfl⟩ (z_const dX12_group_23 (z_istore dX12_group_24 (Nat.le_of_ble_eq_true rfl) (z_mask [true, true, false] (sX12_group_25 h))))
-- X12_requestsBy
def hX12_requestsBy_14 (F : Nat) : Nat → Int32 → Int32 → Int32 → Int32 → zX → Option (Int32 × zX)
  | 0, _, _, _, _, _ => none
  | n + 1, a1, a2, a3, a4, X => if (X 1 0) ≤ a4 then zbd (eX12_goesOn F a2 X) fun y3 => zbd (eX12_sentByAll F (nI 6) y3.2) fun r5 => zbd (eX12_bringsBack F y3.2) fun y7 => some ((r5 - a3), y7) else zchk (zin (((nI 18) + ((nI 244) * a4)) + (nI 3)) 2422) (zlet (zw X 1 (zn (((nI 18) + ((nI 244) * a4)) + (nI 3))) a1) fun X9 => (hX12_requestsBy_14 F n) a1 a2 a3 (a4 + (nI 1)) X9)
set_option maxRecDepth 20000 in
set_option maxHeartbeats 4000000 in
theorem sX12_requestsBy_14 {μ : zM} {F : Nat} : ∀ {n : Nat} {a1 a2 a3 a4 : Int32} {X : zX} {ρ : Int32 × zX}, hX12_requestsBy_14 F n a1 a2 a3 a4 X = some ρ → zJ mX12_requestsBy 11 (0, 0) (0, 0) (zQ (some (zi ρ.1)) (zg μ 1 ρ.2)) 14 [some (zq 1 0), some (zi a1), some (zi a2), some (zi a3), some (zi a4)] [] (zg μ 1 X) := by
  intro n
  induction n with
  | zero => intro a1 a2 a3 a4 X ρ h; exact nomatch (show (none : Option _) = some ρ from h)
  | succ n ih =>
    intro a1 a2 a3 a4 X ρ h
    have hK14 := @ih
    rw [hX12_requestsBy_14] at h
    refine z_iload dX12_requestsBy_14 rfl (z_aload dX12_requestsBy_16 rfl (z_callV dX12_requestsBy_17 (tX12_nodes) (Nat.le_of_ble_eq_true rfl) cdX12_nodes naX12_nodes lkX12_67 imX12_nodes seX12_nodes in1_0 sh1_0 rfl rfl rfl (Nat.le_of_ble_eq_true rfl) (z_icmp_ge dX12_requestsBy_20 (fun c1 => ?_) (fun c1 => ?_))))
    · have h := ziT h (c1)
      obtain ⟨y3, l2, h⟩ := zbd_some h
      obtain ⟨r5, l4, h⟩ := zbd_some h
      obtain ⟨y7, l6, h⟩ := zbd_some h
      refine z_aload dX12_requestsBy_41 rfl (z_iload dX12_requestsBy_42 rfl (z_callV dX12_requestsBy_43 (tX12_goesOn l2) (Nat.le_of_ble_eq_true rfl) cdX12_goesOn naX12_goesOn lkX12_327 imX12_goesOn seX12_goesOn in1_0 sh1_0 rfl rfl rfl (Nat.le_of_ble_eq_true rfl) (z_pop dX12_requestsBy_46 (z_aload dX12_requestsBy_47 rfl (z_const dX12_requestsBy_48 (z_callV dX12_requestsBy_50 (tX12_sentByAll l4) (Nat.le_of_ble_eq_true rfl) cdX12_sentByAll naX12_sentByAll lkX12_363 imX12_sentByAll seX12_sentByAll in1_0 sh1_0 rfl rfl rfl (Nat.le_of_ble_eq_true rfl) (z_iload dX12_requestsBy_53 rfl (z_isub dX12_requestsBy_54 (z_istore dX12_requestsBy_55 (Nat.le_of_ble_eq_true rfl) (z_aload dX12_requestsBy_57 rfl (z_callV dX12_requestsBy_58 (tX12_bringsBack l6) (Nat.le_of_ble_eq_true rfl) cdX12_bringsBack naX12_bringsBack lkX12_360 imX12_bringsBack seX12_bringsBack in1_0 sh1_0 rfl rfl rfl (Nat.le_of_ble_eq_true rfl) ?_)))))))))))
      exact z_iload dX12_requestsBy_61 rfl (z_iretQ dX12_requestsBy_63 rfl (by cases h; rfl))
    · have h := ziF h (c1)
      obtain ⟨s8, h⟩ := zchk_some h
      have h := zlet_h h
      exact z_aload dX12_requestsBy_23 rfl (z_getR dX12_requestsBy_24 fkX12_13 in1_0 sh1_0 rfl (z_iload dX12_requestsBy_27 rfl (z_const dX12_requestsBy_29 (z_callS dX12_requestsBy_30 (tX12_nodeAt) (Nat.le_of_ble_eq_true rfl) cdX12_nodeAt naX12_nodeAt lkX12_56 stX12_nodeAt rfl rfl (Nat.le_of_ble_eq_true rfl) (z_iload dX12_requestsBy_33 rfl (z_iast dX12_requestsBy_34 in1_1 sh1_1 (zin_vp s8) (z_iinc dX12_requestsBy_35 (Nat.le_of_ble_eq_true rfl) rfl (z_goto dX12_requestsBy_38 (z_mask [true, true, true, true, true] (hK14 h))))))))))
def eX12_requestsBy (F : Nat) (x0 x1 : Int32) (X : zX) : Option (Int32 × zX) := zbd (eX12_keepsAll F X) fun y2 => zbd (eX12_sentByAll F (nI 6) y2) fun r4 => hX12_requestsBy_14 F F x0 x1 r4 (nI 0) y2
set_option maxRecDepth 20000 in
set_option maxHeartbeats 4000000 in
theorem tX12_requestsBy {μ : zM} {F : Nat} {x0 x1 : Int32} {X : zX} {ρ : Int32 × zX} (h : eX12_requestsBy F x0 x1 X = some ρ) : LM mX12_requestsBy 11 [zq 1 0, zi x0, zi x1] (zg μ 1 X) (some (zi ρ.1)) (zg μ 1 ρ.2) := by
  unfold eX12_requestsBy at h
  refine LM.of (by decide +kernel) rfl (Nat.le_of_ble_eq_true rfl) ?_
  show zJ mX12_requestsBy 11 (0, 0) (0, 0) _ 0 [some (zq 1 0), some (zi x0), some (zi x1), none, none] [] _
  obtain ⟨y2, l1, h⟩ := zbd_some h
  obtain ⟨r4, l3, h⟩ := zbd_some h
  exact z_aload dX12_requestsBy_0 rfl (z_callV dX12_requestsBy_1 (tX12_keepsAll l1) (Nat.le_of_ble_eq_true rfl) cdX12_keepsAll naX12_keepsAll lkX12_354 imX12_keepsAll seX12_keepsAll in1_0 sh1_0 rfl rfl rfl (Nat.le_of_ble_eq_true rfl) (z_aload dX12_requestsBy_4 rfl (z_const dX12_requestsBy_5 (z_callV dX12_requestsBy_7 (tX12_sentByAll l3) (Nat.le_of_ble_eq_true rfl) cdX12_sentByAll naX12_sentByAll lkX12_363 imX12_sentByAll seX12_sentByAll in1_0 sh1_0 rfl rfl rfl (Nat.le_of_ble_eq_true rfl) (z_istore dX12_requestsBy_10 (Nat.le_of_ble_eq_true rfl) (z_const dX12_requestsBy_11 (z_istore dX12_requestsBy_12 (Nat.le_of_ble_eq_true rfl) (z_mask [true, true, true, true, true] (sX12_requestsBy_14 h)))))))))
-- X12_talk
def jX12_talk_65 (F : Nat) (a1 a4 a5 b0 : Int32) (X : zX) : Option (Int32 × zX) := zbd (eX12_goesOn F a1 (zw X 0 16 b0)) fun y2 => zbd (eX12_sentByAll F a4 y2.2) fun r4 => zbd (eX12_bringsBack F y2.2) fun y6 => some ((r4 - a5), y6)
set_option maxRecDepth 20000 in
set_option maxHeartbeats 4000000 in
theorem sX12_talk_65 {μ : zM} {F : Nat} {a1 a4 a5 b0 : Int32} {X : zX} {ρ : Int32 × zX} (h : jX12_talk_65 F a1 a4 a5 b0 X = some ρ) : zJ mX12_talk 11 (0, 0) (0, 0) (zQ (some (zi ρ.1)) (zg μ 1 ρ.2)) 65 [some (zq 1 0), some (zi a1), none, none, some (zi a4), some (zi a5), none] [zi b0, zq 1 0] (zg μ 1 X) := by
  unfold jX12_talk_65 at h
  obtain ⟨y2, l1, h⟩ := zbd_some h
  obtain ⟨r4, l3, h⟩ := zbd_some h
  refine z_putI dX12_talk_65 fkX12_220 in1_0 sh1_0 rfl (fun _ _ _ h => by cases h; rfl) ⟨_, rfl, rfl, rfl⟩ (z_aload dX12_talk_68 rfl (z_iload dX12_talk_69 rfl (z_callV dX12_talk_70 (tX12_goesOn l1) (Nat.le_of_ble_eq_true rfl) cdX12_goesOn naX12_goesOn lkX12_327 imX12_goesOn seX12_goesOn in1_0 sh1_0 rfl rfl rfl (Nat.le_of_ble_eq_true rfl) (z_pop dX12_talk_73 (z_aload dX12_talk_74 rfl (z_iload dX12_talk_75 rfl (z_callV dX12_talk_77 (tX12_sentByAll l3) (Nat.le_of_ble_eq_true rfl) cdX12_sentByAll naX12_sentByAll lkX12_363 imX12_sentByAll seX12_sentByAll in1_0 sh1_0 rfl rfl rfl (Nat.le_of_ble_eq_true rfl) (z_iload dX12_talk_80 rfl (z_isub dX12_talk_82 (z_istore dX12_talk_83 (Nat.le_of_ble_eq_true rfl) (z_aload dX12_talk_85 rfl ?_)))))))))))
  obtain ⟨y6, l5, h⟩ := zbd_some h
  exact z_callV dX12_talk_86 (tX12_bringsBack l5) (Nat.le_of_ble_eq_true rfl) cdX12_bringsBack naX12_bringsBack lkX12_360 imX12_bringsBack seX12_bringsBack in1_0 sh1_0 rfl rfl rfl (Nat.le_of_ble_eq_true rfl) (z_iload dX12_talk_89 rfl (z_iretQ dX12_talk_91 rfl (by cases h; rfl)))
def jX12_talk_41 (F : Nat) (a1 a2 b0 : Int32) (X : zX) : Option (Int32 × zX) := zbd (eX12_sentByAll F b0 X) fun r2 => zbd (eX12_keepsAll F X) fun y4 => if a2 = 0 then jX12_talk_65 F a1 b0 r2 (nI 1) y4 else jX12_talk_65 F a1 b0 r2 (nI 2) y4
set_option maxRecDepth 20000 in
set_option maxHeartbeats 4000000 in
theorem sX12_talk_41 {μ : zM} {F : Nat} {a1 a2 b0 : Int32} {X : zX} {ρ : Int32 × zX} (h : jX12_talk_41 F a1 a2 b0 X = some ρ) : zJ mX12_talk 11 (0, 0) (0, 0) (zQ (some (zi ρ.1)) (zg μ 1 ρ.2)) 41 [some (zq 1 0), some (zi a1), some (zi a2), none, none, none, none] [zi b0] (zg μ 1 X) := by
  unfold jX12_talk_41 at h
  obtain ⟨r2, l1, h⟩ := zbd_some h
  obtain ⟨y4, l3, h⟩ := zbd_some h
  refine z_istore dX12_talk_41 (Nat.le_of_ble_eq_true rfl) (z_aload dX12_talk_43 rfl (z_iload dX12_talk_44 rfl (z_callV dX12_talk_46 (tX12_sentByAll l1) (Nat.le_of_ble_eq_true rfl) cdX12_sentByAll naX12_sentByAll lkX12_363 imX12_sentByAll seX12_sentByAll in1_0 sh1_0 rfl rfl rfl (Nat.le_of_ble_eq_true rfl) (z_istore dX12_talk_49 (Nat.le_of_ble_eq_true rfl) (z_aload dX12_talk_51 rfl (z_callV dX12_talk_52 (tX12_keepsAll l3) (Nat.le_of_ble_eq_true rfl) cdX12_keepsAll naX12_keepsAll lkX12_354 imX12_keepsAll seX12_keepsAll in1_0 sh1_0 rfl rfl rfl (Nat.le_of_ble_eq_true rfl) (z_aload dX12_talk_55 rfl (z_iload dX12_talk_56 rfl (z_if_eq dX12_talk_57 (fun c5 => ?_) (fun c5 => ?_))))))))))
  · have h := ziT h (c5)
    exact z_const dX12_talk_64 (z_mask [true, true, false, false, true, true, false] (sX12_talk_65 h))
  · have h := ziF h (c5)
    exact z_const dX12_talk_60 (z_goto dX12_talk_61 (z_mask [true, true, false, false, true, true, false] (sX12_talk_65 h)))
def jX12_talk_21 (F : Nat) (a1 a2 a3 b0 : Int32) (X : zX) : Option (Int32 × zX) := zbd (eX12_throwsIf b0 (nI 1) X) fun y2 => if y2.1 = 0 then if a3 = 0 then jX12_talk_41 F a1 a2 (nI 6) y2.2 else jX12_talk_41 F a1 a2 (nI 7) y2.2 else some ((nI 0), y2.2)
set_option maxRecDepth 20000 in
set_option maxHeartbeats 4000000 in
theorem sX12_talk_21 {μ : zM} {F : Nat} {a1 a2 a3 b0 : Int32} {X : zX} {ρ : Int32 × zX} (h : jX12_talk_21 F a1 a2 a3 b0 X = some ρ) : zJ mX12_talk 11 (0, 0) (0, 0) (zQ (some (zi ρ.1)) (zg μ 1 ρ.2)) 21 [some (zq 1 0), some (zi a1), some (zi a2), some (zi a3), none, none, none] [zi b0, zq 1 0] (zg μ 1 X) := by
  unfold jX12_talk_21 at h
  obtain ⟨y2, l1, h⟩ := zbd_some h
  refine z_const dX12_talk_21 (z_callV dX12_talk_22 (tX12_throwsIf l1) (Nat.le_of_ble_eq_true rfl) cdX12_throwsIf naX12_throwsIf lkX12_188 imX12_throwsIf seX12_throwsIf in1_0 sh1_0 rfl rfl rfl (Nat.le_of_ble_eq_true rfl) (z_if_eq dX12_talk_25 (fun c3 => ?_) (fun c3 => ?_)))
  · have h := ziT h (c3)
    refine z_iload dX12_talk_30 rfl (z_if_eq dX12_talk_31 (fun c4 => ?_) (fun c4 => ?_))
    · have h := ziT h (c4)
      exact z_const dX12_talk_39 (z_mask [true, true, true, false, false, false, false] (sX12_talk_41 h))
    · have h := ziF h (c4)
      exact z_const dX12_talk_34 (z_goto dX12_talk_36 (z_mask [true, true, true, false, false, false, false] (sX12_talk_41 h)))
  · have h := ziF h (c3)
    exact z_const dX12_talk_28 (z_iretQ dX12_talk_29 rfl (by cases h; rfl))
def eX12_talk (F : Nat) (x0 x1 x2 : Int32) (X : zX) : Option (Int32 × zX) := if (¬ (x0 < (nI 0))) ∧ (¬ ((nI 120) < x0)) then jX12_talk_21 F x0 x1 x2 (nI 0) (zw X 0 0 (nI 0)) else jX12_talk_21 F x0 x1 x2 (nI 1) (zw X 0 0 (nI 0))
set_option maxRecDepth 20000 in
set_option maxHeartbeats 4000000 in
theorem tX12_talk {μ : zM} {F : Nat} {x0 x1 x2 : Int32} {X : zX} {ρ : Int32 × zX} (h : eX12_talk F x0 x1 x2 X = some ρ) : LM mX12_talk 11 [zq 1 0, zi x0, zi x1, zi x2] (zg μ 1 X) (some (zi ρ.1)) (zg μ 1 ρ.2) := by
  unfold eX12_talk at h
  refine LM.of (by decide +kernel) rfl (Nat.le_of_ble_eq_true rfl) ?_
  show zJ mX12_talk 11 (0, 0) (0, 0) _ 0 [some (zq 1 0), some (zi x0), some (zi x1), some (zi x2), none, none, none] [] _
  refine z_aload dX12_talk_0 rfl (z_const dX12_talk_1 (z_putI dX12_talk_2 fkX12_3 in1_0 sh1_0 rfl (fun _ _ _ h => by cases h; rfl) ⟨_, rfl, rfl, rfl⟩ (z_aload dX12_talk_5 rfl (z_iload dX12_talk_6 rfl (z_const dX12_talk_7 (z_const dX12_talk_8 (z_callS dX12_talk_10 (tX12_in) (Nat.le_of_ble_eq_true rfl) cdX12_in naX12_in lkX12_71 stX12_in rfl rfl (Nat.le_of_ble_eq_true rfl) (z_if_ne dX12_talk_13 (fun c1 => ?_) (fun c1 => ?_)))))))))
  · have h := ziT h (zB_n0.mp c1)
    exact z_const dX12_talk_20 (z_mask [true, true, true, true, false, false, false] (sX12_talk_21 h))
  · have h := ziF h (zB_0.mp c1)
    exact z_const dX12_talk_16 (z_goto dX12_talk_17 (z_mask [true, true, true, true, false, false, false] (sX12_talk_21 h)))
-- X12_ticks
def jX12_ticks_21 (F : Nat) (a1 b0 : Int32) (X : zX) : Option (Int32 × zX) := zbd (eX12_throwsIf b0 (nI 1) X) fun y2 => if y2.1 = 0 then zbd (eX12_goesOn F a1 (zw y2.2 0 16 (nI 0))) fun y5 => some (y5.1, y5.2) else some ((nI 0), y2.2)
set_option maxRecDepth 20000 in
set_option maxHeartbeats 4000000 in
theorem sX12_ticks_21 {μ : zM} {F : Nat} {a1 b0 : Int32} {X : zX} {ρ : Int32 × zX} (h : jX12_ticks_21 F a1 b0 X = some ρ) : zJ mX12_ticks 11 (0, 0) (0, 0) (zQ (some (zi ρ.1)) (zg μ 1 ρ.2)) 21 [some (zq 1 0), some (zi a1)] [zi b0, zq 1 0] (zg μ 1 X) := by
  unfold jX12_ticks_21 at h
  obtain ⟨y2, l1, h⟩ := zbd_some h
  refine z_const dX12_ticks_21 (z_callV dX12_ticks_22 (tX12_throwsIf l1) (Nat.le_of_ble_eq_true rfl) cdX12_throwsIf naX12_throwsIf lkX12_188 imX12_throwsIf seX12_throwsIf in1_0 sh1_0 rfl rfl rfl (Nat.le_of_ble_eq_true rfl) (z_if_eq dX12_ticks_25 (fun c3 => ?_) (fun c3 => ?_)))
  · have h := ziT h (c3)
    obtain ⟨y5, l4, h⟩ := zbd_some h
    exact z_aload dX12_ticks_30 rfl (z_const dX12_ticks_31 (z_putI dX12_ticks_32 fkX12_220 in1_0 sh1_0 rfl (fun _ _ _ h => by cases h; rfl) ⟨_, rfl, rfl, rfl⟩ (z_aload dX12_ticks_35 rfl (z_iload dX12_ticks_36 rfl (z_callV dX12_ticks_37 (tX12_goesOn l4) (Nat.le_of_ble_eq_true rfl) cdX12_goesOn naX12_goesOn lkX12_327 imX12_goesOn seX12_goesOn in1_0 sh1_0 rfl rfl rfl (Nat.le_of_ble_eq_true rfl) (z_iretQ dX12_ticks_40 rfl (by cases h; rfl)))))))
  · have h := ziF h (c3)
    exact z_const dX12_ticks_28 (z_iretQ dX12_ticks_29 rfl (by cases h; rfl))
def eX12_ticks (F : Nat) (x0 : Int32) (X : zX) : Option (Int32 × zX) := if (¬ (x0 < (nI 1))) ∧ (¬ ((nI 60) < x0)) then jX12_ticks_21 F x0 (nI 0) (zw X 0 0 (nI 0)) else jX12_ticks_21 F x0 (nI 1) (zw X 0 0 (nI 0))
set_option maxRecDepth 20000 in
set_option maxHeartbeats 4000000 in
theorem tX12_ticks {μ : zM} {F : Nat} {x0 : Int32} {X : zX} {ρ : Int32 × zX} (h : eX12_ticks F x0 X = some ρ) : LM mX12_ticks 11 [zq 1 0, zi x0] (zg μ 1 X) (some (zi ρ.1)) (zg μ 1 ρ.2) := by
  unfold eX12_ticks at h
  refine LM.of (by decide +kernel) rfl (Nat.le_of_ble_eq_true rfl) ?_
  show zJ mX12_ticks 11 (0, 0) (0, 0) _ 0 [some (zq 1 0), some (zi x0)] [] _
  refine z_aload dX12_ticks_0 rfl (z_const dX12_ticks_1 (z_putI dX12_ticks_2 fkX12_3 in1_0 sh1_0 rfl (fun _ _ _ h => by cases h; rfl) ⟨_, rfl, rfl, rfl⟩ (z_aload dX12_ticks_5 rfl (z_iload dX12_ticks_6 rfl (z_const dX12_ticks_7 (z_const dX12_ticks_8 (z_callS dX12_ticks_10 (tX12_in) (Nat.le_of_ble_eq_true rfl) cdX12_in naX12_in lkX12_71 stX12_in rfl rfl (Nat.le_of_ble_eq_true rfl) (z_if_ne dX12_ticks_13 (fun c1 => ?_) (fun c1 => ?_)))))))))
  · have h := ziT h (zB_n0.mp c1)
    exact z_const dX12_ticks_20 (z_mask [true, true] (sX12_ticks_21 h))
  · have h := ziF h (zB_0.mp c1)
    exact z_const dX12_ticks_16 (z_goto dX12_ticks_17 (z_mask [true, true] (sX12_ticks_21 h)))
-- X12_best
def hX12_best_52 (F : Nat) : Nat → Int32 → Int32 → Int32 → Int32 → zX → Option (Int32 × zX)
  | 0, _, _, _, _, _ => none
  | n + 1, a1, a3, a4, a5, X => if (nI 32) < a5 then some (a3, X) else zbd (eX12_requestsBy F a5 a1 X) fun y3 => if y3.1 < a4 then (hX12_best_52 F n) a1 a5 y3.1 (a5 + (nI 1)) y3.2 else (hX12_best_52 F n) a1 a3 a4 (a5 + (nI 1)) y3.2
set_option maxRecDepth 20000 in
set_option maxHeartbeats 4000000 in
theorem sX12_best_52 {μ : zM} {F : Nat} : ∀ {n : Nat} {a1 a3 a4 a5 : Int32} {X : zX} {ρ : Int32 × zX}, hX12_best_52 F n a1 a3 a4 a5 X = some ρ → zJ mX12_best 12 (0, 0) (0, 0) (zQ (some (zi ρ.1)) (zg μ 1 ρ.2)) 52 [some (zq 1 0), some (zi a1), none, some (zi a3), some (zi a4), some (zi a5), none] [] (zg μ 1 X) := by
  intro n
  induction n with
  | zero => intro a1 a3 a4 a5 X ρ h; exact nomatch (show (none : Option _) = some ρ from h)
  | succ n ih =>
    intro a1 a3 a4 a5 X ρ h
    have hK52 := @ih
    rw [hX12_best_52] at h
    refine z_iload dX12_best_52 rfl (z_const dX12_best_54 (z_icmp_gt dX12_best_56 (fun c1 => ?_) (fun c1 => ?_)))
    · have h := ziT h (c1)
      exact z_iload dX12_best_91 rfl (z_iretQ dX12_best_92 rfl (by cases h; rfl))
    · have h := ziF h (c1)
      obtain ⟨y3, l2, h⟩ := zbd_some h
      refine z_aload dX12_best_59 rfl (z_iload dX12_best_60 rfl (z_iload dX12_best_62 rfl (z_callV dX12_best_63 (tX12_requestsBy l2) (Nat.le_of_ble_eq_true rfl) cdX12_requestsBy naX12_requestsBy lkX12_366 imX12_requestsBy seX12_requestsBy in1_0 sh1_0 rfl rfl rfl (Nat.le_of_ble_eq_true rfl) (z_istore dX12_best_66 (Nat.le_of_ble_eq_true rfl) (z_iload dX12_best_68 rfl (z_iload dX12_best_70 rfl (z_icmp_lt dX12_best_72 (fun c4 => ?_) (fun c4 => ?_))))))))
      · have h := ziT h (c4)
        exact z_iload dX12_best_78 rfl (z_istore dX12_best_80 (Nat.le_of_ble_eq_true rfl) (z_iload dX12_best_82 rfl (z_istore dX12_best_84 (Nat.le_of_ble_eq_true rfl) (z_iinc dX12_best_85 (Nat.le_of_ble_eq_true rfl) rfl (z_goto dX12_best_88 (z_mask [true, true, false, true, true, true, false] (hK52 h)))))))
      · have h := ziF h (c4)
        exact z_goto dX12_best_75 (z_iinc dX12_best_85 (Nat.le_of_ble_eq_true rfl) rfl (z_goto dX12_best_88 (z_mask [true, true, false, true, true, true, false] (hK52 h))))
def jX12_best_40 (F : Nat) (a1 b0 : Int32) (X : zX) : Option (Int32 × zX) := hX12_best_52 F F a1 (nI 0) 1000000 (nI 0) (zw X 0 16 b0)
set_option maxRecDepth 20000 in
set_option maxHeartbeats 4000000 in
theorem sX12_best_40 {μ : zM} {F : Nat} {a1 b0 : Int32} {X : zX} {ρ : Int32 × zX} (h : jX12_best_40 F a1 b0 X = some ρ) : zJ mX12_best 12 (0, 0) (0, 0) (zQ (some (zi ρ.1)) (zg μ 1 ρ.2)) 40 [some (zq 1 0), some (zi a1), none, none, none, none, none] [zi b0, zq 1 0] (zg μ 1 X) := by
  unfold jX12_best_40 at h
  exact z_putI dX12_best_40 fkX12_220 in1_0 sh1_0 rfl (fun _ _ _ h => by cases h; rfl) ⟨_, rfl, rfl, rfl⟩ (z_const dX12_best_43 (z_istore dX12_best_44 (Nat.le_of_ble_eq_true rfl) (z_ldc dX12_best_45 ckX12_192 (z_istore dX12_best_47 (Nat.le_of_ble_eq_true rfl) (z_const dX12_best_49 (z_istore dX12_best_50 (Nat.le_of_ble_eq_true rfl) (z_mask [true, true, false, true, true, true, false] (sX12_best_52 h))))))))
def jX12_best_21 (F : Nat) (a1 a2 b0 : Int32) (X : zX) : Option (Int32 × zX) := zbd (eX12_throwsIf b0 (nI 1) X) fun y2 => if y2.1 = 0 then if a2 = 0 then jX12_best_40 F a1 (nI 1) y2.2 else jX12_best_40 F a1 (nI 2) y2.2 else some ((nI 0), y2.2)
set_option maxRecDepth 20000 in
set_option maxHeartbeats 4000000 in
theorem sX12_best_21 {μ : zM} {F : Nat} {a1 a2 b0 : Int32} {X : zX} {ρ : Int32 × zX} (h : jX12_best_21 F a1 a2 b0 X = some ρ) : zJ mX12_best 12 (0, 0) (0, 0) (zQ (some (zi ρ.1)) (zg μ 1 ρ.2)) 21 [some (zq 1 0), some (zi a1), some (zi a2), none, none, none, none] [zi b0, zq 1 0] (zg μ 1 X) := by
  unfold jX12_best_21 at h
  obtain ⟨y2, l1, h⟩ := zbd_some h
  refine z_const dX12_best_21 (z_callV dX12_best_22 (tX12_throwsIf l1) (Nat.le_of_ble_eq_true rfl) cdX12_throwsIf naX12_throwsIf lkX12_188 imX12_throwsIf seX12_throwsIf in1_0 sh1_0 rfl rfl rfl (Nat.le_of_ble_eq_true rfl) (z_if_eq dX12_best_25 (fun c3 => ?_) (fun c3 => ?_)))
  · have h := ziT h (c3)
    refine z_aload dX12_best_30 rfl (z_iload dX12_best_31 rfl (z_if_eq dX12_best_32 (fun c4 => ?_) (fun c4 => ?_)))
    · have h := ziT h (c4)
      exact z_const dX12_best_39 (z_mask [true, true, false, false, false, false, false] (sX12_best_40 h))
    · have h := ziF h (c4)
      exact z_const dX12_best_35 (z_goto dX12_best_36 (z_mask [true, true, false, false, false, false, false] (sX12_best_40 h)))
  · have h := ziF h (c3)
    exact z_const dX12_best_28 (z_iretQ dX12_best_29 rfl (by cases h; rfl))
def eX12_best (F : Nat) (x0 x1 : Int32) (X : zX) : Option (Int32 × zX) := if (¬ (x0 < (nI 0))) ∧ (¬ ((nI 20) < x0)) then jX12_best_21 F x0 x1 (nI 0) (zw X 0 0 (nI 0)) else jX12_best_21 F x0 x1 (nI 1) (zw X 0 0 (nI 0))
set_option maxRecDepth 20000 in
set_option maxHeartbeats 4000000 in
theorem tX12_best {μ : zM} {F : Nat} {x0 x1 : Int32} {X : zX} {ρ : Int32 × zX} (h : eX12_best F x0 x1 X = some ρ) : LM mX12_best 12 [zq 1 0, zi x0, zi x1] (zg μ 1 X) (some (zi ρ.1)) (zg μ 1 ρ.2) := by
  unfold eX12_best at h
  refine LM.of (by decide +kernel) rfl (Nat.le_of_ble_eq_true rfl) ?_
  show zJ mX12_best 12 (0, 0) (0, 0) _ 0 [some (zq 1 0), some (zi x0), some (zi x1), none, none, none, none] [] _
  refine z_aload dX12_best_0 rfl (z_const dX12_best_1 (z_putI dX12_best_2 fkX12_3 in1_0 sh1_0 rfl (fun _ _ _ h => by cases h; rfl) ⟨_, rfl, rfl, rfl⟩ (z_aload dX12_best_5 rfl (z_iload dX12_best_6 rfl (z_const dX12_best_7 (z_const dX12_best_8 (z_callS dX12_best_10 (tX12_in) (Nat.le_of_ble_eq_true rfl) cdX12_in naX12_in lkX12_71 stX12_in rfl rfl (Nat.le_of_ble_eq_true rfl) (z_if_ne dX12_best_13 (fun c1 => ?_) (fun c1 => ?_)))))))))
  · have h := ziT h (zB_n0.mp c1)
    exact z_const dX12_best_20 (z_mask [true, true, true, false, false, false, false] (sX12_best_21 h))
  · have h := ziF h (zB_0.mp c1)
    exact z_const dX12_best_16 (z_goto dX12_best_17 (z_mask [true, true, true, false, false, false, false] (sX12_best_21 h)))
