set_option maxRecDepth 20000 in
set_option maxHeartbeats 4000000 in
theorem tX11_pair {μ : zM} {x y : Int32} : LM mX11_pair 1 [zi x, zi y] μ (some (zi ((x * 6) + y))) μ := by
  have h : ((x * 6) + y) = ((x * 6) + y) := rfl
  refine LM.of (by decide +kernel) rfl (Nat.le_of_ble_eq_true rfl) ?_
  show zJ mX11_pair 1 (0, 0) (0, 0) _ 0 [some (zi x), some (zi y)] [] _
  exact z_iload dX11_pair_0 rfl (z_const dX11_pair_1 (z_imul dX11_pair_3 (z_iload dX11_pair_4 rfl (z_iadd dX11_pair_5 (z_iret0 dX11_pair_6 rfl h)))))
set_option maxRecDepth 20000 in
set_option maxHeartbeats 4000000 in
theorem tX11_cell {μ : zM} {x y : Int32} : LM mX11_cell 1 [zi x, zi y] μ (some (zi ((x * 12) + y))) μ := by
  have h : ((x * 12) + y) = ((x * 12) + y) := rfl
  refine LM.of (by decide +kernel) rfl (Nat.le_of_ble_eq_true rfl) ?_
  show zJ mX11_cell 1 (0, 0) (0, 0) _ 0 [some (zi x), some (zi y)] [] _
  exact z_iload dX11_cell_0 rfl (z_const dX11_cell_1 (z_imul dX11_cell_3 (z_iload dX11_cell_4 rfl (z_iadd dX11_cell_5 (z_iret0 dX11_cell_6 rfl h)))))
set_option maxRecDepth 20000 in
set_option maxHeartbeats 4000000 in
theorem tX11_isIn {μ : zM} {x y : Int32} : LM mX11_isIn 1 [zi x, zi y] μ (some (zi (zB (((x >>> (y &&& 31)) &&& 1) = 1)))) μ := by
  have h : (¬ ((x >>> (y &&& 31)) &&& 1) = 1 → 0 = (zB (((x >>> (y &&& 31)) &&& 1) = 1))) ∧ (((x >>> (y &&& 31)) &&& 1) = 1 → 1 = (zB (((x >>> (y &&& 31)) &&& 1) = 1))) := ⟨fun c1 => (zB_f (fun z => c1 z)).symm, fun c1 => (zB_t c1).symm⟩
  refine LM.of (by decide +kernel) rfl (Nat.le_of_ble_eq_true rfl) ?_
  show zJ mX11_isIn 1 (0, 0) (0, 0) _ 0 [some (zi x), some (zi y)] [] _
  refine z_iload dX11_isIn_0 rfl (z_iload dX11_isIn_1 rfl (z_ishr dX11_isIn_2 (z_const dX11_isIn_3 (z_iand dX11_isIn_4 (z_const dX11_isIn_5 (z_icmp_ne dX11_isIn_6 (fun c1 => ?_) (fun c1 => ?_)))))))
  · have h := h.1 (c1)
    exact z_const dX11_isIn_13 (z_zret0 dX11_isIn_14 rfl rfl h)
  · have h := h.2 (c1)
    exact z_const dX11_isIn_9 (z_goto dX11_isIn_10 (z_zret0 dX11_isIn_14 rfl rfl h))
set_option maxRecDepth 20000 in
set_option maxHeartbeats 4000000 in
theorem tX11_bitsBelow {μ : zM} {x : Int32} : LM mX11_bitsBelow 1 [zi x] μ (some (zi (((1 : Int32) <<< (x &&& 31)) - 1))) μ := by
  have h : (((1 : Int32) <<< (x &&& 31)) - 1) = (((1 : Int32) <<< (x &&& 31)) - 1) := rfl
  refine LM.of (by decide +kernel) rfl (Nat.le_of_ble_eq_true rfl) ?_
  show zJ mX11_bitsBelow 1 (0, 0) (0, 0) _ 0 [some (zi x)] [] _
  exact z_const dX11_bitsBelow_0 (z_iload dX11_bitsBelow_1 rfl (z_ishl dX11_bitsBelow_2 (z_const dX11_bitsBelow_3 (z_isub dX11_bitsBelow_4 (z_iret0 dX11_bitsBelow_5 rfl h)))))
set_option maxRecDepth 20000 in
set_option maxHeartbeats 4000000 in
theorem tX4_isUp {μ : zM} {w : Nat} (hw : w < 3) {X : zX} {n : Int32} : LM mX4_isUp 2 [zq (w + 4) 3, zi n] (zg μ (w + 4) X) (some (zi (zB ((((X 3 1) >>> (n &&& 31)) &&& 1) = 1)))) (zg μ (w + 4) X) := by
  have h : (zB ((((X 3 1) >>> (n &&& 31)) &&& 1) = 1)) = (zB ((((X 3 1) >>> (n &&& 31)) &&& 1) = 1)) ∧ X = X := ⟨rfl, rfl⟩
  refine LM.of (by decide +kernel) rfl (Nat.le_of_ble_eq_true rfl) ?_
  show zJ mX4_isUp 2 (0, 0) (0, 0) _ 0 [some (zq (w + 4) 3), some (zi n)] [] _
  exact z_aload dX4_isUp_0 rfl (z_getI dX4_isUp_1 fkX4_15 (in_3 hw) sh_3 rfl (z_iload dX4_isUp_4 rfl (z_callSN dX4_isUp_5 (tX11_isIn) (Nat.le_of_ble_eq_true rfl) cdX11_isIn naX11_isIn lkX4_69 stX11_isIn rfl rfl (Nat.le_of_ble_eq_true rfl) (z_zret1 dX4_isUp_8 rfl (zB_nar) h.1 h.2))))
set_option maxRecDepth 20000 in
set_option maxHeartbeats 4000000 in
theorem tX4_hasPacket {μ : zM} {w : Nat} (hw : w < 3) {X : zX} {n p : Int32} (q1 : vp_in n 6) : LM mX4_hasPacket 2 [zq (w + 4) 3, zi n, zi p] (zg μ (w + 4) X) (some (zi (zB ((((X 9 (zn n)) >>> (p &&& 31)) &&& 1) = 1)))) (zg μ (w + 4) X) := by
  have h : (vp_in n 6) ∧ ((zB ((((X 9 (zn n)) >>> (p &&& 31)) &&& 1) = 1)) = (zB ((((X 9 (zn n)) >>> (p &&& 31)) &&& 1) = 1)) ∧ X = X) := ⟨q1, ⟨rfl, rfl⟩⟩
  refine LM.of (by decide +kernel) rfl (Nat.le_of_ble_eq_true rfl) ?_
  show zJ mX4_hasPacket 2 (0, 0) (0, 0) _ 0 [some (zq (w + 4) 3), some (zi n), some (zi p)] [] _
  obtain ⟨s1, h⟩ := h
  exact z_aload dX4_hasPacket_0 rfl (z_getR dX4_hasPacket_1 fkX4_18 (in_3 hw) sh_3 rfl (z_iload dX4_hasPacket_4 rfl (z_iald dX4_hasPacket_5 (in_9 hw) sh_9 s1 (z_iload dX4_hasPacket_6 rfl (z_callSN dX4_hasPacket_7 (tX11_isIn) (Nat.le_of_ble_eq_true rfl) cdX11_isIn naX11_isIn lkX4_69 stX11_isIn rfl rfl (Nat.le_of_ble_eq_true rfl) (z_zret1 dX4_hasPacket_10 rfl (zB_nar) h.1 h.2))))))
set_option maxRecDepth 20000 in
set_option maxHeartbeats 4000000 in
theorem tX4_missing {μ : zM} {w : Nat} (hw : w < 3) {X : zX} {n : Int32} (q1 : vp_in n 6) : LM mX4_missing 2 [zq (w + 4) 3, zi n] (zg μ (w + 4) X) (some (zi ((((1 : Int32) <<< (((X 10 (zn n)) + 1) &&& 31)) - 1) &&& ((X 9 (zn n)) ^^^ (-1))))) (zg μ (w + 4) X) := by
  have h : (vp_in n 6) ∧ ((vp_in n 6) ∧ (((((1 : Int32) <<< (((X 10 (zn n)) + 1) &&& 31)) - 1) &&& ((X 9 (zn n)) ^^^ (-1))) = ((((1 : Int32) <<< (((X 10 (zn n)) + 1) &&& 31)) - 1) &&& ((X 9 (zn n)) ^^^ (-1))) ∧ X = X)) := ⟨q1, ⟨q1, ⟨rfl, rfl⟩⟩⟩
  refine LM.of (by decide +kernel) rfl (Nat.le_of_ble_eq_true rfl) ?_
  show zJ mX4_missing 2 (0, 0) (0, 0) _ 0 [some (zq (w + 4) 3), some (zi n)] [] _
  obtain ⟨s1, h⟩ := h
  obtain ⟨s2, h⟩ := h
  refine z_aload dX4_missing_0 rfl (z_getR dX4_missing_1 fkX4_26 (in_3 hw) sh_3 rfl (z_iload dX4_missing_4 rfl (z_iald dX4_missing_5 (in_10 hw) sh_10 s1 (z_const dX4_missing_6 (z_iadd dX4_missing_7 (z_callSN dX4_missing_8 (tX11_bitsBelow) (Nat.le_of_ble_eq_true rfl) cdX11_bitsBelow naX11_bitsBelow lkX4_73 stX11_bitsBelow rfl rfl (Nat.le_of_ble_eq_true rfl) (z_aload dX4_missing_11 rfl (z_getR dX4_missing_12 fkX4_18 (in_3 hw) sh_3 rfl (z_iload dX4_missing_15 rfl (z_iald dX4_missing_16 (in_9 hw) sh_9 s2 (z_const dX4_missing_17 (z_ixor dX4_missing_18 (z_iand dX4_missing_19 ?_)))))))))))))
  exact z_iret1 dX4_missing_20 rfl h.1 h.2
def rJ9_floorDiv_7cf53 (x y : Int32) : Int32 := if 0 ≤ (x ^^^ y) then (x / y) else if ((x / y) * y) = x then (x / y) else ((x / y) - 1)
def pJ9_floorDiv_7cf53 (x y : Int32) : Prop := (¬ y = 0)
set_option maxRecDepth 20000 in
set_option maxHeartbeats 4000000 in
theorem tJ9_floorDiv_7cf53 {μ : zM} {x y : Int32} (q1 : pJ9_floorDiv_7cf53 x y) : LM mJ9_floorDiv_7cf53 1 [zi x, zi y] μ (some (zi (rJ9_floorDiv_7cf53 x y))) μ := by
  have h : (¬ y = 0) ∧ ((0 ≤ (x ^^^ y) → (x / y) = (rJ9_floorDiv_7cf53 x y)) ∧ (¬ (0 ≤ (x ^^^ y)) → (((x / y) * y) = x → (x / y) = (rJ9_floorDiv_7cf53 x y)) ∧ (¬ ((x / y) * y) = x → ((x / y) - 1) = (rJ9_floorDiv_7cf53 x y)))) := ⟨q1, ⟨fun c1 => (by rw [rJ9_floorDiv_7cf53]; (first | rw [if_pos c1] | skip)), fun c1 => ⟨fun c2 => (by rw [rJ9_floorDiv_7cf53]; (first | rw [if_neg c1] | skip); (first | rw [if_pos c2] | skip)), fun c2 => (by rw [rJ9_floorDiv_7cf53]; (first | rw [if_neg c1] | skip); (first | rw [if_neg c2] | skip))⟩⟩⟩
  refine LM.ofF (by decide +kernel) rfl (Nat.le_of_ble_eq_true rfl) ?_
  show zJ mJ9_floorDiv_7cf53 1 (0, 0) (0, 0) _ 0 [some (zi x), some (zi y), none] [] _
  obtain ⟨s1, h⟩ := h
  refine z_iload dJ9_floorDiv_7cf53_0 rfl (z_iload dJ9_floorDiv_7cf53_1 rfl (z_idiv dJ9_floorDiv_7cf53_2 s1 (z_istore dJ9_floorDiv_7cf53_3 (Nat.le_of_ble_eq_true rfl) (z_iload dJ9_floorDiv_7cf53_4 rfl (z_iload dJ9_floorDiv_7cf53_5 rfl (z_ixor dJ9_floorDiv_7cf53_6 (z_if_ge dJ9_floorDiv_7cf53_7 (fun c1 => ?_) (fun c1 => ?_))))))))
  · have h := h.1 (c1)
    exact z_iload dJ9_floorDiv_7cf53_21 rfl (z_iret0 dJ9_floorDiv_7cf53_22 rfl h)
  · have h := h.2 (c1)
    refine z_iload dJ9_floorDiv_7cf53_10 rfl (z_iload dJ9_floorDiv_7cf53_11 rfl (z_imul dJ9_floorDiv_7cf53_12 (z_iload dJ9_floorDiv_7cf53_13 rfl (z_icmp_eq dJ9_floorDiv_7cf53_14 (fun c2 => ?_) (fun c2 => ?_)))))
    · have h := h.1 (c2)
      exact z_iload dJ9_floorDiv_7cf53_21 rfl (z_iret0 dJ9_floorDiv_7cf53_22 rfl h)
    · have h := h.2 (c2)
      exact z_iload dJ9_floorDiv_7cf53_17 rfl (z_const dJ9_floorDiv_7cf53_18 (z_isub dJ9_floorDiv_7cf53_19 (z_iret0 dJ9_floorDiv_7cf53_20 rfl h)))
def uX4_adapt (X : zX) (n q : Int32) : zX := if ((zw X 13 (zn n) ((X 13 (zn n)) + (rJ9_floorDiv_7cf53 ((16 * q) - (X 13 (zn n))) 4))) 13 (zn n)) ≤ 32 then if 20 ≤ ((zw X 13 (zn n) ((X 13 (zn n)) + (rJ9_floorDiv_7cf53 ((16 * q) - (X 13 (zn n))) 4))) 13 (zn n)) then zw X 13 (zn n) ((X 13 (zn n)) + (rJ9_floorDiv_7cf53 ((16 * q) - (X 13 (zn n))) 4)) else zw (zw (zw X 13 (zn n) ((X 13 (zn n)) + (rJ9_floorDiv_7cf53 ((16 * q) - (X 13 (zn n))) 4))) 11 (zn n) (zmx ((X 11 (zn n)) - 1) 1)) 12 (zn n) (zmx ((X 12 (zn n)) - 1) 2) else zw (zw (zw X 13 (zn n) ((X 13 (zn n)) + (rJ9_floorDiv_7cf53 ((16 * q) - (X 13 (zn n))) 4))) 11 (zn n) (zmn ((X 11 (zn n)) + 1) 32)) 12 (zn n) (zmn ((X 12 (zn n)) + 2) 32)
def pX4_adapt (X : zX) (n q : Int32) : Prop := (vp_in n 6) ∧ ((vp_in n 6) ∧ ((pJ9_floorDiv_7cf53 ((16 * q) - (X 13 (zn n))) 4) ∧ ((vp_in n 6) ∧ ((vp_in n 6) ∧ ((((zw X 13 (zn n) ((X 13 (zn n)) + (rJ9_floorDiv_7cf53 ((16 * q) - (X 13 (zn n))) 4))) 13 (zn n)) ≤ 32 → (vp_in n 6) ∧ ((20 ≤ ((zw X 13 (zn n) ((X 13 (zn n)) + (rJ9_floorDiv_7cf53 ((16 * q) - (X 13 (zn n))) 4))) 13 (zn n)) → True) ∧ (¬ (20 ≤ ((zw X 13 (zn n) ((X 13 (zn n)) + (rJ9_floorDiv_7cf53 ((16 * q) - (X 13 (zn n))) 4))) 13 (zn n))) → (vp_in n 6) ∧ ((vp_in n 6) ∧ ((vp_in n 6) ∧ ((vp_in n 6))))))) ∧ (¬ (((zw X 13 (zn n) ((X 13 (zn n)) + (rJ9_floorDiv_7cf53 ((16 * q) - (X 13 (zn n))) 4))) 13 (zn n)) ≤ 32) → (vp_in n 6) ∧ ((vp_in n 6) ∧ ((vp_in n 6) ∧ ((vp_in n 6))))))))))
set_option maxRecDepth 20000 in
set_option maxHeartbeats 4000000 in
theorem tX4_adapt {μ : zM} {w : Nat} (hw : w < 3) {X : zX} {n q : Int32} (q1 : pX4_adapt X n q) : LM mX4_adapt 2 [zq (w + 4) 3, zi n, zi q] (zg μ (w + 4) X) none (zg μ (w + 4) (uX4_adapt X n q)) := by
  have h : (vp_in n 6) ∧ ((vp_in n 6) ∧ ((pJ9_floorDiv_7cf53 ((16 * q) - (X 13 (zn n))) 4) ∧ ((vp_in n 6) ∧ ((vp_in n 6) ∧ ((((zw X 13 (zn n) ((X 13 (zn n)) + (rJ9_floorDiv_7cf53 ((16 * q) - (X 13 (zn n))) 4))) 13 (zn n)) ≤ 32 → (vp_in n 6) ∧ ((20 ≤ ((zw X 13 (zn n) ((X 13 (zn n)) + (rJ9_floorDiv_7cf53 ((16 * q) - (X 13 (zn n))) 4))) 13 (zn n)) → (zw X 13 (zn n) ((X 13 (zn n)) + (rJ9_floorDiv_7cf53 ((16 * q) - (X 13 (zn n))) 4))) = (uX4_adapt X n q)) ∧ (¬ (20 ≤ ((zw X 13 (zn n) ((X 13 (zn n)) + (rJ9_floorDiv_7cf53 ((16 * q) - (X 13 (zn n))) 4))) 13 (zn n))) → (vp_in n 6) ∧ ((vp_in n 6) ∧ ((vp_in n 6) ∧ ((vp_in n 6) ∧ ((zw (zw (zw X 13 (zn n) ((X 13 (zn n)) + (rJ9_floorDiv_7cf53 ((16 * q) - (X 13 (zn n))) 4))) 11 (zn n) (zmx ((X 11 (zn n)) - 1) 1)) 12 (zn n) (zmx ((X 12 (zn n)) - 1) 2)) = (uX4_adapt X n q)))))))) ∧ (¬ (((zw X 13 (zn n) ((X 13 (zn n)) + (rJ9_floorDiv_7cf53 ((16 * q) - (X 13 (zn n))) 4))) 13 (zn n)) ≤ 32) → (vp_in n 6) ∧ ((vp_in n 6) ∧ ((vp_in n 6) ∧ ((vp_in n 6) ∧ ((zw (zw (zw X 13 (zn n) ((X 13 (zn n)) + (rJ9_floorDiv_7cf53 ((16 * q) - (X 13 (zn n))) 4))) 11 (zn n) (zmn ((X 11 (zn n)) + 1) 32)) 12 (zn n) (zmn ((X 12 (zn n)) + 2) 32)) = (uX4_adapt X n q))))))))))) := ⟨q1.1, ⟨q1.2.1, ⟨q1.2.2.1, ⟨q1.2.2.2.1, ⟨q1.2.2.2.2.1, ⟨fun c1 => ⟨(q1.2.2.2.2.2.1 c1).1, ⟨fun c2 => (by rw [uX4_adapt]; (first | rw [if_pos c1] | skip); (first | rw [if_pos c2] | skip)), fun c2 => ⟨((q1.2.2.2.2.2.1 c1).2.2 c2).1, ⟨((q1.2.2.2.2.2.1 c1).2.2 c2).2.1, ⟨((q1.2.2.2.2.2.1 c1).2.2 c2).2.2.1, ⟨((q1.2.2.2.2.2.1 c1).2.2 c2).2.2.2, (by rw [uX4_adapt]; (first | rw [if_pos c1] | skip); (first | rw [if_neg c2] | skip))⟩⟩⟩⟩⟩⟩, fun c1 => ⟨(q1.2.2.2.2.2.2 c1).1, ⟨(q1.2.2.2.2.2.2 c1).2.1, ⟨(q1.2.2.2.2.2.2 c1).2.2.1, ⟨(q1.2.2.2.2.2.2 c1).2.2.2, (by rw [uX4_adapt]; (first | rw [if_neg c1] | skip))⟩⟩⟩⟩⟩⟩⟩⟩⟩⟩
  refine LM.of (by decide +kernel) rfl (Nat.le_of_ble_eq_true rfl) ?_
  show zJ mX4_adapt 2 (0, 0) (0, 0) _ 0 [some (zq (w + 4) 3), some (zi n), some (zi q)] [] _
  obtain ⟨s1, h⟩ := h
  obtain ⟨s2, h⟩ := h
  refine z_aload dX4_adapt_0 rfl (z_getR dX4_adapt_1 fkX4_35 (in_3 hw) sh_3 rfl (z_iload dX4_adapt_4 rfl (z_dup2 dX4_adapt_5 rfl rfl (z_iald dX4_adapt_6 (in_13 hw) sh_13 s1 (z_const dX4_adapt_7 (z_iload dX4_adapt_9 rfl (z_imul dX4_adapt_10 (z_aload dX4_adapt_11 rfl (z_getR dX4_adapt_12 fkX4_35 (in_3 hw) sh_3 rfl (z_iload dX4_adapt_15 rfl (z_iald dX4_adapt_16 (in_13 hw) sh_13 s2 (z_isub dX4_adapt_17 (z_const dX4_adapt_18 ?_)))))))))))))
  obtain ⟨s3, h⟩ := h
  obtain ⟨s4, h⟩ := h
  obtain ⟨s5, h⟩ := h
  refine z_callS dX4_adapt_19 (tJ9_floorDiv_7cf53 s3) (Nat.le_of_ble_eq_true rfl) cdJ9_floorDiv_7cf53 naJ9_floorDiv_7cf53 lkX4_88 stJ9_floorDiv_7cf53 rfl rfl (Nat.le_of_ble_eq_true rfl) (z_iadd dX4_adapt_22 (z_iast dX4_adapt_23 (in_13 hw) sh_13 s4 (z_aload dX4_adapt_24 rfl (z_getR dX4_adapt_25 fkX4_35 (in_3 hw) sh_3 rfl (z_iload dX4_adapt_28 rfl (z_iald dX4_adapt_29 (in_13 hw) sh_13 s5 (z_const dX4_adapt_30 (z_icmp_le dX4_adapt_32 (fun c1 => ?_) (fun c1 => ?_)))))))))
  · have h := h.1 (c1)
    obtain ⟨s6, h⟩ := h
    refine z_aload dX4_adapt_76 rfl (z_getR dX4_adapt_77 fkX4_35 (in_3 hw) sh_3 rfl (z_iload dX4_adapt_80 rfl (z_iald dX4_adapt_81 (in_13 hw) sh_13 s6 (z_const dX4_adapt_82 (z_icmp_ge dX4_adapt_84 (fun c2 => ?_) (fun c2 => ?_))))))
    · have h := h.1 (c2)
      exact z_vret1 dX4_adapt_123 rfl h
    · have h := h.2 (c2)
      obtain ⟨s7, h⟩ := h
      obtain ⟨s8, h⟩ := h
      refine z_aload dX4_adapt_87 rfl (z_getR dX4_adapt_88 fkX4_29 (in_3 hw) sh_3 rfl (z_iload dX4_adapt_91 rfl (z_aload dX4_adapt_92 rfl (z_getR dX4_adapt_93 fkX4_29 (in_3 hw) sh_3 rfl (z_iload dX4_adapt_96 rfl (z_iald dX4_adapt_97 (in_11 hw) sh_11 s7 (z_const dX4_adapt_98 (z_isub dX4_adapt_99 (z_const dX4_adapt_100 (z_max dX4_adapt_101 lkX4_97 (Nat.le_of_ble_eq_true rfl) (Nat.le_of_ble_eq_true rfl) (z_iast dX4_adapt_104 (in_11 hw) sh_11 s8 (z_aload dX4_adapt_105 rfl (z_getR dX4_adapt_106 fkX4_32 (in_3 hw) sh_3 rfl ?_)))))))))))))
      obtain ⟨s9, h⟩ := h
      obtain ⟨s10, h⟩ := h
      exact z_iload dX4_adapt_109 rfl (z_aload dX4_adapt_110 rfl (z_getR dX4_adapt_111 fkX4_32 (in_3 hw) sh_3 rfl (z_iload dX4_adapt_114 rfl (z_iald dX4_adapt_115 (in_12 hw) sh_12 s9 (z_const dX4_adapt_116 (z_isub dX4_adapt_117 (z_const dX4_adapt_118 (z_max dX4_adapt_119 lkX4_97 (Nat.le_of_ble_eq_true rfl) (Nat.le_of_ble_eq_true rfl) (z_iast dX4_adapt_122 (in_12 hw) sh_12 s10 (z_vret1 dX4_adapt_123 rfl h))))))))))
  · have h := h.2 (c1)
    obtain ⟨s11, h⟩ := h
    obtain ⟨s12, h⟩ := h
    refine z_aload dX4_adapt_35 rfl (z_getR dX4_adapt_36 fkX4_29 (in_3 hw) sh_3 rfl (z_iload dX4_adapt_39 rfl (z_aload dX4_adapt_40 rfl (z_getR dX4_adapt_41 fkX4_29 (in_3 hw) sh_3 rfl (z_iload dX4_adapt_44 rfl (z_iald dX4_adapt_45 (in_11 hw) sh_11 s11 (z_const dX4_adapt_46 (z_iadd dX4_adapt_47 (z_const dX4_adapt_48 (z_min dX4_adapt_50 lkX4_94 (Nat.le_of_ble_eq_true rfl) (Nat.le_of_ble_eq_true rfl) (z_iast dX4_adapt_53 (in_11 hw) sh_11 s12 (z_aload dX4_adapt_54 rfl (z_getR dX4_adapt_55 fkX4_32 (in_3 hw) sh_3 rfl ?_)))))))))))))
    obtain ⟨s13, h⟩ := h
    obtain ⟨s14, h⟩ := h
    exact z_iload dX4_adapt_58 rfl (z_aload dX4_adapt_59 rfl (z_getR dX4_adapt_60 fkX4_32 (in_3 hw) sh_3 rfl (z_iload dX4_adapt_63 rfl (z_iald dX4_adapt_64 (in_12 hw) sh_12 s13 (z_const dX4_adapt_65 (z_iadd dX4_adapt_66 (z_const dX4_adapt_67 (z_min dX4_adapt_69 lkX4_94 (Nat.le_of_ble_eq_true rfl) (Nat.le_of_ble_eq_true rfl) (z_iast dX4_adapt_72 (in_12 hw) sh_12 s14 (z_goto dX4_adapt_73 (z_vret1 dX4_adapt_123 rfl h)))))))))))
