-- J6_bitCount_0f7a4
def eJ6_bitCount_0f7a4 (x0 : Int32) : Option (Int32) := zlet (((x0 - ((zush x0 (nI 1)) &&& 1431655765)) &&& 858993459) + ((zush (x0 - ((zush x0 (nI 1)) &&& 1431655765)) (nI 2)) &&& 858993459)) fun v1 => zlet (((v1 + (zush v1 (nI 4))) &&& 252645135) + (zush ((v1 + (zush v1 (nI 4))) &&& 252645135) (nI 8))) fun v2 => some ((v2 + (zush v2 (nI 16))) &&& (nI 63))
set_option maxRecDepth 20000 in
set_option maxHeartbeats 4000000 in
theorem tJ6_bitCount_0f7a4 {μ : zM} {x0 : Int32} {ρ : Int32} (h : eJ6_bitCount_0f7a4 x0 = some ρ) : LM mJ6_bitCount_0f7a4 1 [zi x0] μ (some (zi ρ)) μ := by
  unfold eJ6_bitCount_0f7a4 at h
  refine LM.ofF (by decide +kernel) rfl (Nat.le_of_ble_eq_true rfl) ?_
  show zJ mJ6_bitCount_0f7a4 1 (0, 0) (0, 0) _ 0 [some (zi x0)] [] _
  refine z_iload dJ6_bitCount_0f7a4_0 rfl (z_iload dJ6_bitCount_0f7a4_1 rfl (z_const dJ6_bitCount_0f7a4_2 (z_iushr dJ6_bitCount_0f7a4_3 (z_ldcw dJ6_bitCount_0f7a4_4 ckJ6_265 (z_iand dJ6_bitCount_0f7a4_7 (z_isub dJ6_bitCount_0f7a4_8 (z_istore dJ6_bitCount_0f7a4_9 (Nat.le_of_ble_eq_true rfl) (z_iload dJ6_bitCount_0f7a4_10 rfl (z_ldcw dJ6_bitCount_0f7a4_11 ckJ6_266 (z_iand dJ6_bitCount_0f7a4_14 (z_iload dJ6_bitCount_0f7a4_15 rfl ?_)))))))))))
  have h := zlet_h h
  refine z_const dJ6_bitCount_0f7a4_16 (z_iushr dJ6_bitCount_0f7a4_17 (z_ldcw dJ6_bitCount_0f7a4_18 ckJ6_266 (z_iand dJ6_bitCount_0f7a4_21 (z_iadd dJ6_bitCount_0f7a4_22 (z_istore dJ6_bitCount_0f7a4_23 (Nat.le_of_ble_eq_true rfl) (z_iload dJ6_bitCount_0f7a4_24 rfl (z_iload dJ6_bitCount_0f7a4_25 rfl (z_const dJ6_bitCount_0f7a4_26 (z_iushr dJ6_bitCount_0f7a4_27 (z_iadd dJ6_bitCount_0f7a4_28 (z_ldcw dJ6_bitCount_0f7a4_29 ckJ6_267 ?_)))))))))))
  have h := zlet_h h
  refine z_iand dJ6_bitCount_0f7a4_32 (z_istore dJ6_bitCount_0f7a4_33 (Nat.le_of_ble_eq_true rfl) (z_iload dJ6_bitCount_0f7a4_34 rfl (z_iload dJ6_bitCount_0f7a4_35 rfl (z_const dJ6_bitCount_0f7a4_36 (z_iushr dJ6_bitCount_0f7a4_38 (z_iadd dJ6_bitCount_0f7a4_39 (z_istore dJ6_bitCount_0f7a4_40 (Nat.le_of_ble_eq_true rfl) (z_iload dJ6_bitCount_0f7a4_41 rfl (z_iload dJ6_bitCount_0f7a4_42 rfl (z_const dJ6_bitCount_0f7a4_43 (z_iushr dJ6_bitCount_0f7a4_45 ?_)))))))))))
  exact z_iadd dJ6_bitCount_0f7a4_46 (z_istore dJ6_bitCount_0f7a4_47 (Nat.le_of_ble_eq_true rfl) (z_iload dJ6_bitCount_0f7a4_48 rfl (z_const dJ6_bitCount_0f7a4_49 (z_iand dJ6_bitCount_0f7a4_51 (z_iretQ dJ6_bitCount_0f7a4_52 rfl (by cases h; rfl))))))
-- J9_floorDiv_7cf53
def eJ9_floorDiv_7cf53 (x0 x1 : Int32) : Option (Int32) := zchk (znz x1) (if 0 ≤ (x0 ^^^ x1) then some (x0 / x1) else if ((x0 / x1) * x1) = x0 then some (x0 / x1) else some ((x0 / x1) - (nI 1)))
set_option maxRecDepth 20000 in
set_option maxHeartbeats 4000000 in
theorem tJ9_floorDiv_7cf53 {μ : zM} {x0 x1 : Int32} {ρ : Int32} (h : eJ9_floorDiv_7cf53 x0 x1 = some ρ) : LM mJ9_floorDiv_7cf53 1 [zi x0, zi x1] μ (some (zi ρ)) μ := by
  unfold eJ9_floorDiv_7cf53 at h
  refine LM.ofF (by decide +kernel) rfl (Nat.le_of_ble_eq_true rfl) ?_
  show zJ mJ9_floorDiv_7cf53 1 (0, 0) (0, 0) _ 0 [some (zi x0), some (zi x1), none] [] _
  obtain ⟨s1, h⟩ := zchk_some h
  refine z_iload dJ9_floorDiv_7cf53_0 rfl (z_iload dJ9_floorDiv_7cf53_1 rfl (z_idiv dJ9_floorDiv_7cf53_2 (znz_ne s1) (z_istore dJ9_floorDiv_7cf53_3 (Nat.le_of_ble_eq_true rfl) (z_iload dJ9_floorDiv_7cf53_4 rfl (z_iload dJ9_floorDiv_7cf53_5 rfl (z_ixor dJ9_floorDiv_7cf53_6 (z_if_ge dJ9_floorDiv_7cf53_7 (fun c2 => ?_) (fun c2 => ?_))))))))
  · have h := ziT h (c2)
    exact z_iload dJ9_floorDiv_7cf53_21 rfl (z_iretQ dJ9_floorDiv_7cf53_22 rfl (by cases h; rfl))
  · have h := ziF h (c2)
    refine z_iload dJ9_floorDiv_7cf53_10 rfl (z_iload dJ9_floorDiv_7cf53_11 rfl (z_imul dJ9_floorDiv_7cf53_12 (z_iload dJ9_floorDiv_7cf53_13 rfl (z_icmp_eq dJ9_floorDiv_7cf53_14 (fun c3 => ?_) (fun c3 => ?_)))))
    · have h := ziT h (c3)
      exact z_iload dJ9_floorDiv_7cf53_21 rfl (z_iretQ dJ9_floorDiv_7cf53_22 rfl (by cases h; rfl))
    · have h := ziF h (c3)
      exact z_iload dJ9_floorDiv_7cf53_17 rfl (z_const dJ9_floorDiv_7cf53_18 (z_isub dJ9_floorDiv_7cf53_19 (z_iretQ dJ9_floorDiv_7cf53_20 rfl (by cases h; rfl))))
-- X11_bitsBelow
set_option maxRecDepth 20000 in
set_option maxHeartbeats 4000000 in
theorem tX11_bitsBelow {μ : zM} {x0 : Int32} : LM mX11_bitsBelow 1 [zi x0] μ (some (zi (((nI 1) <<< (x0 &&& 31)) - (nI 1)))) μ := by
  have h : (((nI 1) <<< (x0 &&& 31)) - (nI 1)) = (((nI 1) <<< (x0 &&& 31)) - (nI 1)) := rfl
  refine LM.of (by decide +kernel) rfl (Nat.le_of_ble_eq_true rfl) ?_
  show zJ mX11_bitsBelow 1 (0, 0) (0, 0) _ 0 [some (zi x0)] [] _
  exact z_const dX11_bitsBelow_0 (z_iload dX11_bitsBelow_1 rfl (z_ishl dX11_bitsBelow_2 (z_const dX11_bitsBelow_3 (z_isub dX11_bitsBelow_4 (z_iret0 dX11_bitsBelow_5 rfl h)))))
-- X11_cell
set_option maxRecDepth 20000 in
set_option maxHeartbeats 4000000 in
theorem tX11_cell {μ : zM} {x0 x1 : Int32} : LM mX11_cell 1 [zi x0, zi x1] μ (some (zi ((x0 * (nI 12)) + x1))) μ := by
  have h : ((x0 * (nI 12)) + x1) = ((x0 * (nI 12)) + x1) := rfl
  refine LM.of (by decide +kernel) rfl (Nat.le_of_ble_eq_true rfl) ?_
  show zJ mX11_cell 1 (0, 0) (0, 0) _ 0 [some (zi x0), some (zi x1)] [] _
  exact z_iload dX11_cell_0 rfl (z_const dX11_cell_1 (z_imul dX11_cell_3 (z_iload dX11_cell_4 rfl (z_iadd dX11_cell_5 (z_iret0 dX11_cell_6 rfl h)))))
-- X11_isIn
set_option maxRecDepth 20000 in
set_option maxHeartbeats 4000000 in
theorem tX11_isIn {μ : zM} {x0 x1 : Int32} : LM mX11_isIn 1 [zi x0, zi x1] μ (some (zi (zB (((x0 >>> (x1 &&& 31)) &&& (nI 1)) = (nI 1))))) μ := by
  have h : (¬ ((x0 >>> (x1 &&& 31)) &&& (nI 1)) = (nI 1) → (nI 0) = (zB (((x0 >>> (x1 &&& 31)) &&& (nI 1)) = (nI 1)))) ∧ (((x0 >>> (x1 &&& 31)) &&& (nI 1)) = (nI 1) → (nI 1) = (zB (((x0 >>> (x1 &&& 31)) &&& (nI 1)) = (nI 1)))) := ⟨fun c1 => (zB_f (fun z => c1 z)).symm, fun c1 => (zB_t c1).symm⟩
  refine LM.of (by decide +kernel) rfl (Nat.le_of_ble_eq_true rfl) ?_
  show zJ mX11_isIn 1 (0, 0) (0, 0) _ 0 [some (zi x0), some (zi x1)] [] _
  refine z_iload dX11_isIn_0 rfl (z_iload dX11_isIn_1 rfl (z_ishr dX11_isIn_2 (z_const dX11_isIn_3 (z_iand dX11_isIn_4 (z_const dX11_isIn_5 (z_icmp_ne dX11_isIn_6 (fun c1 => ?_) (fun c1 => ?_)))))))
  · have h := h.1 (c1)
    exact z_const dX11_isIn_13 (z_zret0 dX11_isIn_14 rfl rfl h)
  · have h := h.2 (c1)
    exact z_const dX11_isIn_9 (z_goto dX11_isIn_10 (z_zret0 dX11_isIn_14 rfl rfl h))
-- X11_pair
set_option maxRecDepth 20000 in
set_option maxHeartbeats 4000000 in
theorem tX11_pair {μ : zM} {x0 x1 : Int32} : LM mX11_pair 1 [zi x0, zi x1] μ (some (zi ((x0 * (nI 6)) + x1))) μ := by
  have h : ((x0 * (nI 6)) + x1) = ((x0 * (nI 6)) + x1) := rfl
  refine LM.of (by decide +kernel) rfl (Nat.le_of_ble_eq_true rfl) ?_
  show zJ mX11_pair 1 (0, 0) (0, 0) _ 0 [some (zi x0), some (zi x1)] [] _
  exact z_iload dX11_pair_0 rfl (z_const dX11_pair_1 (z_imul dX11_pair_3 (z_iload dX11_pair_4 rfl (z_iadd dX11_pair_5 (z_iret0 dX11_pair_6 rfl h)))))
-- X12_at
set_option maxRecDepth 20000 in
set_option maxHeartbeats 4000000 in
theorem tX12_at {μ : zM} {x0 x1 : Int32} : LM mX12_at 1 [zi x0, zi x1] μ (some (zi (((nI 6) * x0) + x1))) μ := by
  have h : (((nI 6) * x0) + x1) = (((nI 6) * x0) + x1) := rfl
  refine LM.of (by decide +kernel) rfl (Nat.le_of_ble_eq_true rfl) ?_
  show zJ mX12_at 1 (0, 0) (0, 0) _ 0 [some (zi x0), some (zi x1)] [] _
  exact z_const dX12_at_0 (z_iload dX12_at_2 rfl (z_imul dX12_at_3 (z_iload dX12_at_4 rfl (z_iadd dX12_at_5 (z_iret0 dX12_at_6 rfl h)))))
-- X12_has
set_option maxRecDepth 20000 in
set_option maxHeartbeats 4000000 in
theorem tX12_has {μ : zM} {x0 x1 : Int32} : LM mX12_has 1 [zi x0, zi x1] μ (some (zi (zB (((x0 >>> (x1 &&& 31)) &&& (nI 1)) = (nI 1))))) μ := by
  have h : (¬ ((x0 >>> (x1 &&& 31)) &&& (nI 1)) = (nI 1) → (nI 0) = (zB (((x0 >>> (x1 &&& 31)) &&& (nI 1)) = (nI 1)))) ∧ (((x0 >>> (x1 &&& 31)) &&& (nI 1)) = (nI 1) → (nI 1) = (zB (((x0 >>> (x1 &&& 31)) &&& (nI 1)) = (nI 1)))) := ⟨fun c1 => (zB_f (fun z => c1 z)).symm, fun c1 => (zB_t c1).symm⟩
  refine LM.of (by decide +kernel) rfl (Nat.le_of_ble_eq_true rfl) ?_
  show zJ mX12_has 1 (0, 0) (0, 0) _ 0 [some (zi x0), some (zi x1)] [] _
  refine z_iload dX12_has_0 rfl (z_iload dX12_has_1 rfl (z_ishr dX12_has_2 (z_const dX12_has_3 (z_iand dX12_has_4 (z_const dX12_has_5 (z_icmp_ne dX12_has_6 (fun c1 => ?_) (fun c1 => ?_)))))))
  · have h := h.1 (c1)
    exact z_const dX12_has_13 (z_zret0 dX12_has_14 rfl rfl h)
  · have h := h.2 (c1)
    exact z_const dX12_has_9 (z_goto dX12_has_10 (z_zret0 dX12_has_14 rfl rfl h))
-- X12_in
set_option maxRecDepth 20000 in
set_option maxHeartbeats 4000000 in
theorem tX12_in {μ : zM} {x0 x1 x2 : Int32} : LM mX12_in 1 [zi x0, zi x1, zi x2] μ (some (zi (zB ((¬ (x0 < x1)) ∧ (¬ (x2 < x0)))))) μ := by
  have h : (x0 < x1 → (nI 0) = (zB ((¬ (x0 < x1)) ∧ (¬ (x2 < x0))))) ∧ (¬ (x0 < x1) → (x2 < x0 → (nI 0) = (zB ((¬ (x0 < x1)) ∧ (¬ (x2 < x0))))) ∧ (¬ (x2 < x0) → (nI 1) = (zB ((¬ (x0 < x1)) ∧ (¬ (x2 < x0)))))) := ⟨fun c1 => (zB_f (fun z => z.1 c1)).symm, fun c1 => ⟨fun c2 => (zB_f (fun z => (fun z => z c2) z.2)).symm, fun c2 => (zB_t ⟨c1, c2⟩).symm⟩⟩
  refine LM.of (by decide +kernel) rfl (Nat.le_of_ble_eq_true rfl) ?_
  show zJ mX12_in 1 (0, 0) (0, 0) _ 0 [some (zi x0), some (zi x1), some (zi x2)] [] _
  refine z_iload dX12_in_0 rfl (z_iload dX12_in_1 rfl (z_icmp_lt dX12_in_2 (fun c1 => ?_) (fun c1 => ?_)))
  · have h := h.1 (c1)
    exact z_const dX12_in_14 (z_zret0 dX12_in_15 rfl rfl h)
  · have h := h.2 (c1)
    refine z_iload dX12_in_5 rfl (z_iload dX12_in_6 rfl (z_icmp_gt dX12_in_7 (fun c2 => ?_) (fun c2 => ?_)))
    · have h := h.1 (c2)
      exact z_const dX12_in_14 (z_zret0 dX12_in_15 rfl rfl h)
    · have h := h.2 (c2)
      exact z_const dX12_in_10 (z_goto dX12_in_11 (z_zret0 dX12_in_15 rfl rfl h))
-- X12_isDue
set_option maxRecDepth 20000 in
set_option maxHeartbeats 4000000 in
theorem tX12_isDue {μ : zM} {x0 x1 : Int32} : LM mX12_isDue 1 [zi x0, zi x1] μ (some (zi (zB ((¬ x0 = (-1)) ∧ (¬ (x1 < x0)))))) μ := by
  have h : (x0 = (-1) → (nI 0) = (zB ((¬ x0 = (-1)) ∧ (¬ (x1 < x0))))) ∧ (¬ x0 = (-1) → (x1 < x0 → (nI 0) = (zB ((¬ x0 = (-1)) ∧ (¬ (x1 < x0))))) ∧ (¬ (x1 < x0) → (nI 1) = (zB ((¬ x0 = (-1)) ∧ (¬ (x1 < x0)))))) := ⟨fun c1 => (zB_f (fun z => z.1 c1)).symm, fun c1 => ⟨fun c2 => (zB_f (fun z => (fun z => z c2) z.2)).symm, fun c2 => (zB_t ⟨c1, c2⟩).symm⟩⟩
  refine LM.of (by decide +kernel) rfl (Nat.le_of_ble_eq_true rfl) ?_
  show zJ mX12_isDue 1 (0, 0) (0, 0) _ 0 [some (zi x0), some (zi x1)] [] _
  refine z_iload dX12_isDue_0 rfl (z_const dX12_isDue_1 (z_icmp_eq dX12_isDue_2 (fun c1 => ?_) (fun c1 => ?_)))
  · have h := h.1 (c1)
    exact z_const dX12_isDue_14 (z_zret0 dX12_isDue_15 rfl rfl h)
  · have h := h.2 (c1)
    refine z_iload dX12_isDue_5 rfl (z_iload dX12_isDue_6 rfl (z_icmp_gt dX12_isDue_7 (fun c2 => ?_) (fun c2 => ?_)))
    · have h := h.1 (c2)
      exact z_const dX12_isDue_14 (z_zret0 dX12_isDue_15 rfl rfl h)
    · have h := h.2 (c2)
      exact z_const dX12_isDue_10 (z_goto dX12_isDue_11 (z_zret0 dX12_isDue_15 rfl rfl h))
-- X12_linkAt
set_option maxRecDepth 20000 in
set_option maxHeartbeats 4000000 in
theorem tX12_linkAt {μ : zM} {x0 x1 : Int32} : LM mX12_linkAt 1 [zi x0, zi x1] μ (some (zi (((nI 1482) + ((nI 6) * x0)) + x1))) μ := by
  have h : (((nI 1482) + ((nI 6) * x0)) + x1) = (((nI 1482) + ((nI 6) * x0)) + x1) := rfl
  refine LM.of (by decide +kernel) rfl (Nat.le_of_ble_eq_true rfl) ?_
  show zJ mX12_linkAt 1 (0, 0) (0, 0) _ 0 [some (zi x0), some (zi x1)] [] _
  exact z_const dX12_linkAt_0 (z_const dX12_linkAt_3 (z_iload dX12_linkAt_5 rfl (z_imul dX12_linkAt_6 (z_iadd dX12_linkAt_7 (z_iload dX12_linkAt_8 rfl (z_iadd dX12_linkAt_9 (z_iret0 dX12_linkAt_10 rfl h)))))))
-- X12_messageAt
set_option maxRecDepth 20000 in
set_option maxHeartbeats 4000000 in
theorem tX12_messageAt {μ : zM} {x0 x1 : Int32} : LM mX12_messageAt 1 [zi x0, zi x1] μ (some (zi (((nI 1542) + ((nI 10) * x0)) + x1))) μ := by
  have h : (((nI 1542) + ((nI 10) * x0)) + x1) = (((nI 1542) + ((nI 10) * x0)) + x1) := rfl
  refine LM.of (by decide +kernel) rfl (Nat.le_of_ble_eq_true rfl) ?_
  show zJ mX12_messageAt 1 (0, 0) (0, 0) _ 0 [some (zi x0), some (zi x1)] [] _
  exact z_const dX12_messageAt_0 (z_const dX12_messageAt_3 (z_iload dX12_messageAt_5 rfl (z_imul dX12_messageAt_6 (z_iadd dX12_messageAt_7 (z_iload dX12_messageAt_8 rfl (z_iadd dX12_messageAt_9 (z_iret0 dX12_messageAt_10 rfl h)))))))
-- X12_nodeAt
set_option maxRecDepth 20000 in
set_option maxHeartbeats 4000000 in
theorem tX12_nodeAt {μ : zM} {x0 x1 : Int32} : LM mX12_nodeAt 1 [zi x0, zi x1] μ (some (zi (((nI 18) + ((nI 244) * x0)) + x1))) μ := by
  have h : (((nI 18) + ((nI 244) * x0)) + x1) = (((nI 18) + ((nI 244) * x0)) + x1) := rfl
  refine LM.of (by decide +kernel) rfl (Nat.le_of_ble_eq_true rfl) ?_
  show zJ mX12_nodeAt 1 (0, 0) (0, 0) _ 0 [some (zi x0), some (zi x1)] [] _
  exact z_const dX12_nodeAt_0 (z_const dX12_nodeAt_2 (z_iload dX12_nodeAt_5 rfl (z_imul dX12_nodeAt_6 (z_iadd dX12_nodeAt_7 (z_iload dX12_nodeAt_8 rfl (z_iadd dX12_nodeAt_9 (z_iret0 dX12_nodeAt_10 rfl h)))))))
-- X6_isDigit
set_option maxRecDepth 20000 in
set_option maxHeartbeats 4000000 in
theorem tX6_isDigit {μ : zM} {x0 : Int32} : LM mX6_isDigit 1 [zi x0] μ (some (zi (zB ((¬ (x0 < (nI 48))) ∧ (¬ ((nI 57) < x0)))))) μ := by
  have h : (x0 < (nI 48) → (nI 0) = (zB ((¬ (x0 < (nI 48))) ∧ (¬ ((nI 57) < x0))))) ∧ (¬ (x0 < (nI 48)) → ((nI 57) < x0 → (nI 0) = (zB ((¬ (x0 < (nI 48))) ∧ (¬ ((nI 57) < x0))))) ∧ (¬ ((nI 57) < x0) → (nI 1) = (zB ((¬ (x0 < (nI 48))) ∧ (¬ ((nI 57) < x0)))))) := ⟨fun c1 => (zB_f (fun z => z.1 c1)).symm, fun c1 => ⟨fun c2 => (zB_f (fun z => (fun z => z c2) z.2)).symm, fun c2 => (zB_t ⟨c1, c2⟩).symm⟩⟩
  refine LM.of (by decide +kernel) rfl (Nat.le_of_ble_eq_true rfl) ?_
  show zJ mX6_isDigit 1 (0, 0) (0, 0) _ 0 [some (zi x0)] [] _
  refine z_iload dX6_isDigit_0 rfl (z_const dX6_isDigit_1 (z_icmp_lt dX6_isDigit_3 (fun c1 => ?_) (fun c1 => ?_)))
  · have h := h.1 (c1)
    exact z_const dX6_isDigit_16 (z_zret0 dX6_isDigit_17 rfl rfl h)
  · have h := h.2 (c1)
    refine z_iload dX6_isDigit_6 rfl (z_const dX6_isDigit_7 (z_icmp_gt dX6_isDigit_9 (fun c2 => ?_) (fun c2 => ?_)))
    · have h := h.1 (c2)
      exact z_const dX6_isDigit_16 (z_zret0 dX6_isDigit_17 rfl rfl h)
    · have h := h.2 (c2)
      exact z_const dX6_isDigit_12 (z_goto dX6_isDigit_13 (z_zret0 dX6_isDigit_17 rfl rfl h))
-- X6_isLetter
set_option maxRecDepth 20000 in
set_option maxHeartbeats 4000000 in
theorem tX6_isLetter {μ : zM} {x0 : Int32} : LM mX6_isLetter 1 [zi x0] μ (some (zi (zB ((¬ (x0 < (nI 97))) ∧ (¬ ((nI 122) < x0)))))) μ := by
  have h : (x0 < (nI 97) → (nI 0) = (zB ((¬ (x0 < (nI 97))) ∧ (¬ ((nI 122) < x0))))) ∧ (¬ (x0 < (nI 97)) → ((nI 122) < x0 → (nI 0) = (zB ((¬ (x0 < (nI 97))) ∧ (¬ ((nI 122) < x0))))) ∧ (¬ ((nI 122) < x0) → (nI 1) = (zB ((¬ (x0 < (nI 97))) ∧ (¬ ((nI 122) < x0)))))) := ⟨fun c1 => (zB_f (fun z => z.1 c1)).symm, fun c1 => ⟨fun c2 => (zB_f (fun z => (fun z => z c2) z.2)).symm, fun c2 => (zB_t ⟨c1, c2⟩).symm⟩⟩
  refine LM.of (by decide +kernel) rfl (Nat.le_of_ble_eq_true rfl) ?_
  show zJ mX6_isLetter 1 (0, 0) (0, 0) _ 0 [some (zi x0)] [] _
  refine z_iload dX6_isLetter_0 rfl (z_const dX6_isLetter_1 (z_icmp_lt dX6_isLetter_3 (fun c1 => ?_) (fun c1 => ?_)))
  · have h := h.1 (c1)
    exact z_const dX6_isLetter_16 (z_zret0 dX6_isLetter_17 rfl rfl h)
  · have h := h.2 (c1)
    refine z_iload dX6_isLetter_6 rfl (z_const dX6_isLetter_7 (z_icmp_gt dX6_isLetter_9 (fun c2 => ?_) (fun c2 => ?_)))
    · have h := h.1 (c2)
      exact z_const dX6_isLetter_16 (z_zret0 dX6_isLetter_17 rfl rfl h)
    · have h := h.2 (c2)
      exact z_const dX6_isLetter_12 (z_goto dX6_isLetter_13 (z_zret0 dX6_isLetter_17 rfl rfl h))
-- X12_noPacket
set_option maxRecDepth 20000 in
set_option maxHeartbeats 4000000 in
theorem tX12_noPacket {μ : zM} {x0 : Int32} : LM mX12_noPacket 2 [zi x0] μ (some (zi (zB (¬ ((¬ (x0 < (nI 0))) ∧ (¬ ((nI 11) < x0))))))) μ := by
  have h : ((¬ (x0 < (nI 0))) ∧ (¬ ((nI 11) < x0)) → (nI 0) = (zB (¬ ((¬ (x0 < (nI 0))) ∧ (¬ ((nI 11) < x0)))))) ∧ (¬ ((¬ (x0 < (nI 0))) ∧ (¬ ((nI 11) < x0))) → (nI 1) = (zB (¬ ((¬ (x0 < (nI 0))) ∧ (¬ ((nI 11) < x0)))))) := ⟨fun c1 => (zB_f (fun z => z c1)).symm, fun c1 => (zB_t c1).symm⟩
  refine LM.of (by decide +kernel) rfl (Nat.le_of_ble_eq_true rfl) ?_
  show zJ mX12_noPacket 2 (0, 0) (0, 0) _ 0 [some (zi x0)] [] _
  refine z_iload dX12_noPacket_0 rfl (z_const dX12_noPacket_1 (z_const dX12_noPacket_2 (z_callS dX12_noPacket_4 (tX12_in) (Nat.le_of_ble_eq_true rfl) cdX12_in naX12_in lkX12_71 stX12_in rfl rfl (Nat.le_of_ble_eq_true rfl) (z_if_ne dX12_noPacket_7 (fun c1 => ?_) (fun c1 => ?_)))))
  · have h := h.1 (zB_n0.mp c1)
    exact z_const dX12_noPacket_14 (z_zret0 dX12_noPacket_15 rfl rfl h)
  · have h := h.2 (zB_0.mp c1)
    exact z_const dX12_noPacket_10 (z_goto dX12_noPacket_11 (z_zret0 dX12_noPacket_15 rfl rfl h))
-- X12_otherAt
set_option maxRecDepth 20000 in
set_option maxHeartbeats 4000000 in
theorem tX12_otherAt {μ : zM} {x0 x1 x2 : Int32} : LM mX12_otherAt 2 [zi x0, zi x1, zi x2] μ (some (zi (((nI 18) + ((nI 244) * x0)) + (((nI 10) + ((nI 3) * x1)) + x2)))) μ := by
  have h : (((nI 18) + ((nI 244) * x0)) + (((nI 10) + ((nI 3) * x1)) + x2)) = (((nI 18) + ((nI 244) * x0)) + (((nI 10) + ((nI 3) * x1)) + x2)) := rfl
  refine LM.of (by decide +kernel) rfl (Nat.le_of_ble_eq_true rfl) ?_
  show zJ mX12_otherAt 2 (0, 0) (0, 0) _ 0 [some (zi x0), some (zi x1), some (zi x2)] [] _
  exact z_iload dX12_otherAt_0 rfl (z_const dX12_otherAt_1 (z_const dX12_otherAt_3 (z_iload dX12_otherAt_4 rfl (z_imul dX12_otherAt_5 (z_iadd dX12_otherAt_6 (z_iload dX12_otherAt_7 rfl (z_iadd dX12_otherAt_8 (z_callS dX12_otherAt_9 (tX12_nodeAt) (Nat.le_of_ble_eq_true rfl) cdX12_nodeAt naX12_nodeAt lkX12_56 stX12_nodeAt rfl rfl (Nat.le_of_ble_eq_true rfl) (z_iret0 dX12_otherAt_12 rfl h)))))))))
-- X12_packetAt
set_option maxRecDepth 20000 in
set_option maxHeartbeats 4000000 in
theorem tX12_packetAt {μ : zM} {x0 x1 x2 : Int32} : LM mX12_packetAt 2 [zi x0, zi x1, zi x2] μ (some (zi (((nI 18) + ((nI 244) * x0)) + (((nI 28) + ((nI 18) * x1)) + x2)))) μ := by
  have h : (((nI 18) + ((nI 244) * x0)) + (((nI 28) + ((nI 18) * x1)) + x2)) = (((nI 18) + ((nI 244) * x0)) + (((nI 28) + ((nI 18) * x1)) + x2)) := rfl
  refine LM.of (by decide +kernel) rfl (Nat.le_of_ble_eq_true rfl) ?_
  show zJ mX12_packetAt 2 (0, 0) (0, 0) _ 0 [some (zi x0), some (zi x1), some (zi x2)] [] _
  exact z_iload dX12_packetAt_0 rfl (z_const dX12_packetAt_1 (z_const dX12_packetAt_3 (z_iload dX12_packetAt_5 rfl (z_imul dX12_packetAt_6 (z_iadd dX12_packetAt_7 (z_iload dX12_packetAt_8 rfl (z_iadd dX12_packetAt_9 (z_callS dX12_packetAt_10 (tX12_nodeAt) (Nat.le_of_ble_eq_true rfl) cdX12_nodeAt naX12_nodeAt lkX12_56 stX12_nodeAt rfl rfl (Nat.le_of_ble_eq_true rfl) (z_iret0 dX12_packetAt_13 rfl h)))))))))
