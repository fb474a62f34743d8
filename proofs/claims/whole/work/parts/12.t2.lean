set_option maxRecDepth 20000 in
set_option maxHeartbeats 4000000 in
theorem tX11_pair {μ : zM} {x y : Int32} : LM mX11_pair 1 [zi x, zi y] μ (some (zi ((x * (nI 6)) + y))) μ := by
  have h : ((x * (nI 6)) + y) = ((x * (nI 6)) + y) := rfl
  refine LM.of (by decide +kernel) rfl (Nat.le_of_ble_eq_true rfl) ?_
  show zJ mX11_pair 1 (0, 0) (0, 0) _ 0 [some (zi x), some (zi y)] [] _
  exact z_iload dX11_pair_0 rfl (z_const dX11_pair_1 (z_imul dX11_pair_3 (z_iload dX11_pair_4 rfl (z_iadd dX11_pair_5 (z_iret0 dX11_pair_6 rfl h)))))
set_option maxRecDepth 20000 in
set_option maxHeartbeats 4000000 in
theorem tX11_cell {μ : zM} {x y : Int32} : LM mX11_cell 1 [zi x, zi y] μ (some (zi ((x * (nI 12)) + y))) μ := by
  have h : ((x * (nI 12)) + y) = ((x * (nI 12)) + y) := rfl
  refine LM.of (by decide +kernel) rfl (Nat.le_of_ble_eq_true rfl) ?_
  show zJ mX11_cell 1 (0, 0) (0, 0) _ 0 [some (zi x), some (zi y)] [] _
  exact z_iload dX11_cell_0 rfl (z_const dX11_cell_1 (z_imul dX11_cell_3 (z_iload dX11_cell_4 rfl (z_iadd dX11_cell_5 (z_iret0 dX11_cell_6 rfl h)))))
set_option maxRecDepth 20000 in
set_option maxHeartbeats 4000000 in
theorem tX11_isIn {μ : zM} {x y : Int32} : LM mX11_isIn 1 [zi x, zi y] μ (some (zi (zB (((x >>> (y &&& 31)) &&& (nI 1)) = (nI 1))))) μ := by
  have h : (¬ ((x >>> (y &&& 31)) &&& (nI 1)) = (nI 1) → (nI 0) = (zB (((x >>> (y &&& 31)) &&& (nI 1)) = (nI 1)))) ∧ (((x >>> (y &&& 31)) &&& (nI 1)) = (nI 1) → (nI 1) = (zB (((x >>> (y &&& 31)) &&& (nI 1)) = (nI 1)))) := ⟨fun c1 => (zB_f (fun z => c1 z)).symm, fun c1 => (zB_t c1).symm⟩
  refine LM.of (by decide +kernel) rfl (Nat.le_of_ble_eq_true rfl) ?_
  show zJ mX11_isIn 1 (0, 0) (0, 0) _ 0 [some (zi x), some (zi y)] [] _
  refine z_iload dX11_isIn_0 rfl (z_iload dX11_isIn_1 rfl (z_ishr dX11_isIn_2 (z_const dX11_isIn_3 (z_iand dX11_isIn_4 (z_const dX11_isIn_5 (z_icmp_ne dX11_isIn_6 (fun c1 => ?_) (fun c1 => ?_)))))))
  · have h := h.1 (c1)
    exact z_const dX11_isIn_13 (z_zret0 dX11_isIn_14 rfl rfl h)
  · have h := h.2 (c1)
    exact z_const dX11_isIn_9 (z_goto dX11_isIn_10 (z_zret0 dX11_isIn_14 rfl rfl h))
set_option maxRecDepth 20000 in
set_option maxHeartbeats 4000000 in
theorem tX11_bitsBelow {μ : zM} {x : Int32} : LM mX11_bitsBelow 1 [zi x] μ (some (zi (((nI 1) <<< (x &&& 31)) - (nI 1)))) μ := by
  have h : (((nI 1) <<< (x &&& 31)) - (nI 1)) = (((nI 1) <<< (x &&& 31)) - (nI 1)) := rfl
  refine LM.of (by decide +kernel) rfl (Nat.le_of_ble_eq_true rfl) ?_
  show zJ mX11_bitsBelow 1 (0, 0) (0, 0) _ 0 [some (zi x)] [] _
  exact z_const dX11_bitsBelow_0 (z_iload dX11_bitsBelow_1 rfl (z_ishl dX11_bitsBelow_2 (z_const dX11_bitsBelow_3 (z_isub dX11_bitsBelow_4 (z_iret0 dX11_bitsBelow_5 rfl h)))))
set_option maxRecDepth 20000 in
set_option maxHeartbeats 4000000 in
theorem tX4_isUp {μ : zM} {w : Nat} (hw : w < 3) {X : zX} {n : Int32} : LM mX4_isUp 2 [zq (w + 4) 3, zi n] (zg μ (w + 4) X) (some (zi (zB ((((X 3 1) >>> (n &&& 31)) &&& (nI 1)) = (nI 1))))) (zg μ (w + 4) X) := by
  have h : (zB ((((X 3 1) >>> (n &&& 31)) &&& (nI 1)) = (nI 1))) = (zB ((((X 3 1) >>> (n &&& 31)) &&& (nI 1)) = (nI 1))) ∧ X = X := ⟨rfl, rfl⟩
  refine LM.of (by decide +kernel) rfl (Nat.le_of_ble_eq_true rfl) ?_
  show zJ mX4_isUp 2 (0, 0) (0, 0) _ 0 [some (zq (w + 4) 3), some (zi n)] [] _
  exact z_aload dX4_isUp_0 rfl (z_getI dX4_isUp_1 fkX4_15 (in_3 hw) sh_3 rfl (z_iload dX4_isUp_4 rfl (z_callSN dX4_isUp_5 (tX11_isIn) (Nat.le_of_ble_eq_true rfl) cdX11_isIn naX11_isIn lkX4_69 stX11_isIn rfl rfl (Nat.le_of_ble_eq_true rfl) (z_zret1 dX4_isUp_8 rfl (zB_nar) h.1 h.2))))
def eJ9_floorDiv_7cf53 (x y : Int32) : Option (Int32) := zchk (znz y) (if 0 ≤ (x ^^^ y) then some (x / y) else if ((x / y) * y) = x then some (x / y) else some ((x / y) - (nI 1)))
set_option maxRecDepth 20000 in
set_option maxHeartbeats 4000000 in
theorem tJ9_floorDiv_7cf53 {μ : zM} {x y : Int32} {ρ : Int32} (h : eJ9_floorDiv_7cf53 x y = some ρ) : LM mJ9_floorDiv_7cf53 1 [zi x, zi y] μ (some (zi ρ)) μ := by
  unfold eJ9_floorDiv_7cf53 at h
  refine LM.ofF (by decide +kernel) rfl (Nat.le_of_ble_eq_true rfl) ?_
  show zJ mJ9_floorDiv_7cf53 1 (0, 0) (0, 0) _ 0 [some (zi x), some (zi y), none] [] _
  obtain ⟨s1, h⟩ := zchk_some h
  refine z_iload dJ9_floorDiv_7cf53_0 rfl (z_iload dJ9_floorDiv_7cf53_1 rfl (z_idiv dJ9_floorDiv_7cf53_2 (znz_ne s1) (z_istore dJ9_floorDiv_7cf53_3 (Nat.le_of_ble_eq_true rfl) (z_iload dJ9_floorDiv_7cf53_4 rfl (z_iload dJ9_floorDiv_7cf53_5 rfl (z_ixor dJ9_floorDiv_7cf53_6 (z_if_ge dJ9_floorDiv_7cf53_7 (fun c2 => ?_) (fun c2 => ?_))))))))
  · have h := ziT h (c2)
    exact z_iload dJ9_floorDiv_7cf53_21 rfl (z_iretQ dJ9_floorDiv_7cf53_22 rfl (by cases h; rfl))
  · have h := ziF h (c2)
    refine z_iload dJ9_floorDiv_7cf53_10 rfl (z_iload dJ9_floorDiv_7cf53_11 rfl (z_imul dJ9_floorDiv_7cf53_12 (z_iload dJ9_floorDiv_7cf53_13 rfl (z_icmp_eq dJ9_floorDiv_7cf53_14 (fun c3 => ?_) (fun c3 => ?_)))))
    · have h := ziT h (c3)
      exact z_iload dJ9_floorDiv_7cf53_21 rfl (z_iretQ dJ9_floorDiv_7cf53_22 rfl (by cases h; rfl))
    · have h := ziF h (c3)
      exact z_iload dJ9_floorDiv_7cf53_17 rfl (z_const dJ9_floorDiv_7cf53_18 (z_isub dJ9_floorDiv_7cf53_19 (z_iretQ dJ9_floorDiv_7cf53_20 rfl (by cases h; rfl))))
def eX4_hasPacket (n p : Int32) (X : zX) : Option (Int32) := zchk (zin n 6) (some (zB ((((X 9 (zn n)) >>> (p &&& 31)) &&& (nI 1)) = (nI 1))))
set_option maxRecDepth 20000 in
set_option maxHeartbeats 4000000 in
theorem tX4_hasPacket {μ : zM} {w : Nat} (hw : w < 3) {n p : Int32} {X : zX} {ρ : Int32} (h : eX4_hasPacket n p X = some ρ) : LM mX4_hasPacket 2 [zq (w + 4) 3, zi n, zi p] (zg μ (w + 4) X) (some (zi ρ)) (zg μ (w + 4) X) := by
  unfold eX4_hasPacket at h
  refine LM.of (by decide +kernel) rfl (Nat.le_of_ble_eq_true rfl) ?_
  show zJ mX4_hasPacket 2 (0, 0) (0, 0) _ 0 [some (zq (w + 4) 3), some (zi n), some (zi p)] [] _
  obtain ⟨s1, h⟩ := zchk_some h
  exact z_aload dX4_hasPacket_0 rfl (z_getR dX4_hasPacket_1 fkX4_18 (in_3 hw) sh_3 rfl (z_iload dX4_hasPacket_4 rfl (z_iald dX4_hasPacket_5 (in_9 hw) sh_9 (zin_vp s1) (z_iload dX4_hasPacket_6 rfl (z_callSN dX4_hasPacket_7 (tX11_isIn) (Nat.le_of_ble_eq_true rfl) cdX11_isIn naX11_isIn lkX4_69 stX11_isIn rfl rfl (Nat.le_of_ble_eq_true rfl) (z_zretQ dX4_hasPacket_10 rfl zB_nar (by cases h; rfl)))))))
def eX4_missing (n : Int32) (X : zX) : Option (Int32) := zchk (zin n 6) (zchk (zin n 6) (some ((((nI 1) <<< (((X 10 (zn n)) + (nI 1)) &&& 31)) - (nI 1)) &&& ((X 9 (zn n)) ^^^ (-1)))))
set_option maxRecDepth 20000 in
set_option maxHeartbeats 4000000 in
theorem tX4_missing {μ : zM} {w : Nat} (hw : w < 3) {n : Int32} {X : zX} {ρ : Int32} (h : eX4_missing n X = some ρ) : LM mX4_missing 2 [zq (w + 4) 3, zi n] (zg μ (w + 4) X) (some (zi ρ)) (zg μ (w + 4) X) := by
  unfold eX4_missing at h
  refine LM.of (by decide +kernel) rfl (Nat.le_of_ble_eq_true rfl) ?_
  show zJ mX4_missing 2 (0, 0) (0, 0) _ 0 [some (zq (w + 4) 3), some (zi n)] [] _
  obtain ⟨s1, h⟩ := zchk_some h
  obtain ⟨s2, h⟩ := zchk_some h
  refine z_aload dX4_missing_0 rfl (z_getR dX4_missing_1 fkX4_26 (in_3 hw) sh_3 rfl (z_iload dX4_missing_4 rfl (z_iald dX4_missing_5 (in_10 hw) sh_10 (zin_vp s1) (z_const dX4_missing_6 (z_iadd dX4_missing_7 (z_callSN dX4_missing_8 (tX11_bitsBelow) (Nat.le_of_ble_eq_true rfl) cdX11_bitsBelow naX11_bitsBelow lkX4_73 stX11_bitsBelow rfl rfl (Nat.le_of_ble_eq_true rfl) (z_aload dX4_missing_11 rfl (z_getR dX4_missing_12 fkX4_18 (in_3 hw) sh_3 rfl (z_iload dX4_missing_15 rfl (z_iald dX4_missing_16 (in_9 hw) sh_9 (zin_vp s2) (z_const dX4_missing_17 ?_)))))))))))
  exact z_ixor dX4_missing_18 (z_iand dX4_missing_19 (z_iretQ dX4_missing_20 rfl (by cases h; rfl)))
def eX4_adapt (n q : Int32) (X : zX) : Option (zX) := zchk (zin n 6) (zchk (zin n 6) (zbd (eJ9_floorDiv_7cf53 (((nI 16) * q) - (X 13 (zn n))) (nI 4)) fun r4 => zchk (zin n 6) (zchk (zin n 6) (if ((zw X 13 (zn n) ((X 13 (zn n)) + r4)) 13 (zn n)) ≤ (nI 32) then zchk (zin n 6) (if (nI 20) ≤ ((zw X 13 (zn n) ((X 13 (zn n)) + r4)) 13 (zn n)) then some (zw X 13 (zn n) ((X 13 (zn n)) + r4)) else zchk (zin n 6) (zchk (zin n 6) (zlet (zw (zw X 13 (zn n) ((X 13 (zn n)) + r4)) 11 (zn n) (zmx ((X 11 (zn n)) - (nI 1)) (nI 1))) fun X12 => zchk (zin n 6) (zchk (zin n 6) (zlet (zw X12 12 (zn n) (zmx ((X 12 (zn n)) - (nI 1)) (nI 2))) fun X15 => some X15))))) else zchk (zin n 6) (zchk (zin n 6) (zlet (zw (zw X 13 (zn n) ((X 13 (zn n)) + r4)) 11 (zn n) (zmn ((X 11 (zn n)) + (nI 1)) (nI 32))) fun X18 => zchk (zin n 6) (zchk (zin n 6) (zlet (zw X18 12 (zn n) (zmn ((X 12 (zn n)) + (nI 2)) (nI 32))) fun X21 => some X21))))))))
set_option maxRecDepth 20000 in
set_option maxHeartbeats 4000000 in
theorem tX4_adapt {μ : zM} {w : Nat} (hw : w < 3) {n q : Int32} {X : zX} {ρ : zX} (h : eX4_adapt n q X = some ρ) : LM mX4_adapt 2 [zq (w + 4) 3, zi n, zi q] (zg μ (w + 4) X) none (zg μ (w + 4) ρ) := by
  unfold eX4_adapt at h
  refine LM.of (by decide +kernel) rfl (Nat.le_of_ble_eq_true rfl) ?_
  show zJ mX4_adapt 2 (0, 0) (0, 0) _ 0 [some (zq (w + 4) 3), some (zi n), some (zi q)] [] _
  obtain ⟨s1, h⟩ := zchk_some h
  obtain ⟨s2, h⟩ := zchk_some h
  refine z_aload dX4_adapt_0 rfl (z_getR dX4_adapt_1 fkX4_35 (in_3 hw) sh_3 rfl (z_iload dX4_adapt_4 rfl (z_dup2 dX4_adapt_5 rfl rfl (z_iald dX4_adapt_6 (in_13 hw) sh_13 (zin_vp s1) (z_const dX4_adapt_7 (z_iload dX4_adapt_9 rfl (z_imul dX4_adapt_10 (z_aload dX4_adapt_11 rfl (z_getR dX4_adapt_12 fkX4_35 (in_3 hw) sh_3 rfl (z_iload dX4_adapt_15 rfl (z_iald dX4_adapt_16 (in_13 hw) sh_13 (zin_vp s2) ?_)))))))))))
  obtain ⟨r4, l3, h⟩ := zbd_some h
  obtain ⟨s5, h⟩ := zchk_some h
  obtain ⟨s6, h⟩ := zchk_some h
  refine z_isub dX4_adapt_17 (z_const dX4_adapt_18 (z_callS dX4_adapt_19 (tJ9_floorDiv_7cf53 l3) (Nat.le_of_ble_eq_true rfl) cdJ9_floorDiv_7cf53 naJ9_floorDiv_7cf53 lkX4_88 stJ9_floorDiv_7cf53 rfl rfl (Nat.le_of_ble_eq_true rfl) (z_iadd dX4_adapt_22 (z_iast dX4_adapt_23 (in_13 hw) sh_13 (zin_vp s5) (z_aload dX4_adapt_24 rfl (z_getR dX4_adapt_25 fkX4_35 (in_3 hw) sh_3 rfl (z_iload dX4_adapt_28 rfl (z_iald dX4_adapt_29 (in_13 hw) sh_13 (zin_vp s6) (z_const dX4_adapt_30 (z_icmp_le dX4_adapt_32 (fun c7 => ?_) (fun c7 => ?_)))))))))))
  · have h := ziT h (c7)
    obtain ⟨s8, h⟩ := zchk_some h
    refine z_aload dX4_adapt_76 rfl (z_getR dX4_adapt_77 fkX4_35 (in_3 hw) sh_3 rfl (z_iload dX4_adapt_80 rfl (z_iald dX4_adapt_81 (in_13 hw) sh_13 (zin_vp s8) (z_const dX4_adapt_82 (z_icmp_ge dX4_adapt_84 (fun c9 => ?_) (fun c9 => ?_))))))
    · have h := ziT h (c9)
      exact z_vretQ dX4_adapt_123 rfl (by cases h; rfl)
    · have h := ziF h (c9)
      obtain ⟨s10, h⟩ := zchk_some h
      obtain ⟨s11, h⟩ := zchk_some h
      have h := zlet_h h
      refine z_aload dX4_adapt_87 rfl (z_getR dX4_adapt_88 fkX4_29 (in_3 hw) sh_3 rfl (z_iload dX4_adapt_91 rfl (z_aload dX4_adapt_92 rfl (z_getR dX4_adapt_93 fkX4_29 (in_3 hw) sh_3 rfl (z_iload dX4_adapt_96 rfl (z_iald dX4_adapt_97 (in_11 hw) sh_11 (zin_vp s10) (z_const dX4_adapt_98 (z_isub dX4_adapt_99 (z_const dX4_adapt_100 (z_max dX4_adapt_101 lkX4_97 (Nat.le_of_ble_eq_true rfl) (Nat.le_of_ble_eq_true rfl) (z_iast dX4_adapt_104 (in_11 hw) sh_11 (zin_vp s11) ?_)))))))))))
      obtain ⟨s13, h⟩ := zchk_some h
      obtain ⟨s14, h⟩ := zchk_some h
      have h := zlet_h h
      refine z_aload dX4_adapt_105 rfl (z_getR dX4_adapt_106 fkX4_32 (in_3 hw) sh_3 rfl (z_iload dX4_adapt_109 rfl (z_aload dX4_adapt_110 rfl (z_getR dX4_adapt_111 fkX4_32 (in_3 hw) sh_3 rfl (z_iload dX4_adapt_114 rfl (z_iald dX4_adapt_115 (in_12 hw) sh_12 (zin_vp s13) (z_const dX4_adapt_116 (z_isub dX4_adapt_117 (z_const dX4_adapt_118 (z_max dX4_adapt_119 lkX4_97 (Nat.le_of_ble_eq_true rfl) (Nat.le_of_ble_eq_true rfl) (z_iast dX4_adapt_122 (in_12 hw) sh_12 (zin_vp s14) ?_)))))))))))
      exact z_vretQ dX4_adapt_123 rfl (by cases h; rfl)
  · have h := ziF h (c7)
    obtain ⟨s16, h⟩ := zchk_some h
    obtain ⟨s17, h⟩ := zchk_some h
    have h := zlet_h h
    refine z_aload dX4_adapt_35 rfl (z_getR dX4_adapt_36 fkX4_29 (in_3 hw) sh_3 rfl (z_iload dX4_adapt_39 rfl (z_aload dX4_adapt_40 rfl (z_getR dX4_adapt_41 fkX4_29 (in_3 hw) sh_3 rfl (z_iload dX4_adapt_44 rfl (z_iald dX4_adapt_45 (in_11 hw) sh_11 (zin_vp s16) (z_const dX4_adapt_46 (z_iadd dX4_adapt_47 (z_const dX4_adapt_48 (z_min dX4_adapt_50 lkX4_94 (Nat.le_of_ble_eq_true rfl) (Nat.le_of_ble_eq_true rfl) (z_iast dX4_adapt_53 (in_11 hw) sh_11 (zin_vp s17) ?_)))))))))))
    obtain ⟨s19, h⟩ := zchk_some h
    obtain ⟨s20, h⟩ := zchk_some h
    have h := zlet_h h
    refine z_aload dX4_adapt_54 rfl (z_getR dX4_adapt_55 fkX4_32 (in_3 hw) sh_3 rfl (z_iload dX4_adapt_58 rfl (z_aload dX4_adapt_59 rfl (z_getR dX4_adapt_60 fkX4_32 (in_3 hw) sh_3 rfl (z_iload dX4_adapt_63 rfl (z_iald dX4_adapt_64 (in_12 hw) sh_12 (zin_vp s19) (z_const dX4_adapt_65 (z_iadd dX4_adapt_66 (z_const dX4_adapt_67 (z_min dX4_adapt_69 lkX4_94 (Nat.le_of_ble_eq_true rfl) (Nat.le_of_ble_eq_true rfl) (z_iast dX4_adapt_72 (in_12 hw) sh_12 (zin_vp s20) ?_)))))))))))
    exact z_goto dX4_adapt_73 (z_vretQ dX4_adapt_123 rfl (by cases h; rfl))
def jX4_holdersOf_37 (F : Nat) (K4 : Int32 → Int32 → Int32 → zX → Option (Int32)) (a1 a3 b0 b1 : Int32) (X : zX) : Option (Int32) := K4 a1 (b1 ||| b0) (a3 + (nI 1)) X
set_option maxRecDepth 20000 in
set_option maxHeartbeats 4000000 in
theorem sX4_holdersOf_37 {μ : zM} {w : Nat} (hw : w < 3) {F : Nat} {K4 : Int32 → Int32 → Int32 → zX → Option (Int32)} (hK4 : ∀ {xa1 xa2 xa3 : Int32} {xX : zX} {ρ : Int32}, K4 xa1 xa2 xa3 xX = some ρ → zJ mX4_holdersOf 3 (0, 0) (0, 0) (zQ (some (zi ρ)) (zg μ (w + 4) xX)) 4 [some (zq (w + 4) 3), some (zi xa1), some (zi xa2), some (zi xa3)] [] (zg μ (w + 4) xX)) {a1 a3 b0 b1 : Int32} {X : zX} {ρ : Int32} (h : jX4_holdersOf_37 F K4 a1 a3 b0 b1 X = some ρ) : zJ mX4_holdersOf 3 (0, 0) (0, 0) (zQ (some (zi ρ)) (zg μ (w + 4) X)) 37 [some (zq (w + 4) 3), some (zi a1), none, some (zi a3)] [zi b0, zi b1] (zg μ (w + 4) X) := by
  unfold jX4_holdersOf_37 at h
  exact z_ior dX4_holdersOf_37 (z_istore dX4_holdersOf_38 (Nat.le_of_ble_eq_true rfl) (z_iinc dX4_holdersOf_39 (Nat.le_of_ble_eq_true rfl) rfl (z_goto dX4_holdersOf_42 (z_mask [true, true, true, true] (hK4 h)))))
def jX4_holdersOf_36 (F : Nat) (K4 : Int32 → Int32 → Int32 → zX → Option (Int32)) (a1 a3 b0 : Int32) (X : zX) : Option (Int32) := jX4_holdersOf_37 F K4 a1 a3 (nI 0) b0 X
set_option maxRecDepth 20000 in
set_option maxHeartbeats 4000000 in
theorem sX4_holdersOf_36 {μ : zM} {w : Nat} (hw : w < 3) {F : Nat} {K4 : Int32 → Int32 → Int32 → zX → Option (Int32)} (hK4 : ∀ {xa1 xa2 xa3 : Int32} {xX : zX} {ρ : Int32}, K4 xa1 xa2 xa3 xX = some ρ → zJ mX4_holdersOf 3 (0, 0) (0, 0) (zQ (some (zi ρ)) (zg μ (w + 4) xX)) 4 [some (zq (w + 4) 3), some (zi xa1), some (zi xa2), some (zi xa3)] [] (zg μ (w + 4) xX)) {a1 a3 b0 : Int32} {X : zX} {ρ : Int32} (h : jX4_holdersOf_36 F K4 a1 a3 b0 X = some ρ) : zJ mX4_holdersOf 3 (0, 0) (0, 0) (zQ (some (zi ρ)) (zg μ (w + 4) X)) 36 [some (zq (w + 4) 3), some (zi a1), none, some (zi a3)] [zi b0] (zg μ (w + 4) X) := by
  unfold jX4_holdersOf_36 at h
  exact z_const dX4_holdersOf_36 (z_mask [true, true, false, true] (sX4_holdersOf_37 hw hK4 h))
def hX4_holdersOf_4 (F : Nat) : Nat → Int32 → Int32 → Int32 → zX → Option (Int32)
  | 0, _, _, _, _ => none
  | n + 1, a1, a2, a3, X => if (X 3 0) ≤ a3 then some a2 else if (((X 3 1) >>> (a3 &&& 31)) &&& (nI 1)) = (nI 1) then zbd (eX4_hasPacket a3 a1 X) fun r4 => if r4 = 0 then jX4_holdersOf_36 F (hX4_holdersOf_4 F n) a1 a3 a2 X else jX4_holdersOf_37 F (hX4_holdersOf_4 F n) a1 a3 ((nI 1) <<< (a3 &&& 31)) a2 X else jX4_holdersOf_36 F (hX4_holdersOf_4 F n) a1 a3 a2 X
set_option maxRecDepth 20000 in
set_option maxHeartbeats 4000000 in
theorem sX4_holdersOf_4 {μ : zM} {w : Nat} (hw : w < 3) {F : Nat} : ∀ {n : Nat} {a1 a2 a3 : Int32} {X : zX} {ρ : Int32}, hX4_holdersOf_4 F n a1 a2 a3 X = some ρ → zJ mX4_holdersOf 3 (0, 0) (0, 0) (zQ (some (zi ρ)) (zg μ (w + 4) X)) 4 [some (zq (w + 4) 3), some (zi a1), some (zi a2), some (zi a3)] [] (zg μ (w + 4) X) := by
  intro n
  induction n with
  | zero => intro a1 a2 a3 X ρ h; exact nomatch (show (none : Option _) = some ρ from h)
  | succ n ih =>
    intro a1 a2 a3 X ρ h
    have hK4 := @ih
    rw [hX4_holdersOf_4] at h
    refine z_iload dX4_holdersOf_4 rfl (z_aload dX4_holdersOf_5 rfl (z_getI dX4_holdersOf_6 fkX4_9 (in_3 hw) sh_3 rfl (z_icmp_ge dX4_holdersOf_9 (fun c1 => ?_) (fun c1 => ?_))))
    · have h := ziT h (c1)
      exact z_iload dX4_holdersOf_45 rfl (z_iretQ dX4_holdersOf_46 rfl (by cases h; rfl))
    · have h := ziF h (c1)
      refine z_iload dX4_holdersOf_12 rfl (z_aload dX4_holdersOf_13 rfl (z_iload dX4_holdersOf_14 rfl (z_callV dX4_holdersOf_15 (tX4_isUp hw) (Nat.le_of_ble_eq_true rfl) cdX4_isUp naX4_isUp lkX4_77 imX4_isUp seX4_isUp (in_3 hw) sh_3 rfl rfl rfl (Nat.le_of_ble_eq_true rfl) (z_if_eq dX4_holdersOf_18 (fun c2 => ?_) (fun c2 => ?_)))))
      · have h := ziF h (zB_0.mp c2)
        exact z_mask [true, true, false, true] (sX4_holdersOf_36 hw hK4 h)
      · have h := ziT h (zB_n0.mp c2)
        obtain ⟨r4, l3, h⟩ := zbd_some h
        refine z_aload dX4_holdersOf_21 rfl (z_iload dX4_holdersOf_22 rfl (z_iload dX4_holdersOf_23 rfl (z_callV dX4_holdersOf_24 (tX4_hasPacket hw l3) (Nat.le_of_ble_eq_true rfl) cdX4_hasPacket naX4_hasPacket lkX4_81 imX4_hasPacket seX4_hasPacket (in_3 hw) sh_3 rfl rfl rfl (Nat.le_of_ble_eq_true rfl) (z_if_eq dX4_holdersOf_27 (fun c5 => ?_) (fun c5 => ?_)))))
        · have h := ziT h (c5)
          exact z_mask [true, true, false, true] (sX4_holdersOf_36 hw hK4 h)
        · have h := ziF h (c5)
          exact z_const dX4_holdersOf_30 (z_iload dX4_holdersOf_31 rfl (z_ishl dX4_holdersOf_32 (z_goto dX4_holdersOf_33 (z_mask [true, true, false, true] (sX4_holdersOf_37 hw hK4 h)))))
def eX4_holdersOf (F : Nat) (p : Int32) (X : zX) : Option (Int32) := hX4_holdersOf_4 F F p (nI 0) (nI 0) X
set_option maxRecDepth 20000 in
set_option maxHeartbeats 4000000 in
theorem tX4_holdersOf {μ : zM} {w : Nat} (hw : w < 3) {F : Nat} {p : Int32} {X : zX} {ρ : Int32} (h : eX4_holdersOf F p X = some ρ) : LM mX4_holdersOf 3 [zq (w + 4) 3, zi p] (zg μ (w + 4) X) (some (zi ρ)) (zg μ (w + 4) X) := by
  unfold eX4_holdersOf at h
  refine LM.of (by decide +kernel) rfl (Nat.le_of_ble_eq_true rfl) ?_
  show zJ mX4_holdersOf 3 (0, 0) (0, 0) _ 0 [some (zq (w + 4) 3), some (zi p), none, none] [] _
  exact z_const dX4_holdersOf_0 (z_istore dX4_holdersOf_1 (Nat.le_of_ble_eq_true rfl) (z_const dX4_holdersOf_2 (z_istore dX4_holdersOf_3 (Nat.le_of_ble_eq_true rfl) (z_mask [true, true, true, true] (sX4_holdersOf_4 hw h)))))
def jX2_between_62 (F : Nat) (K2 : Int32 → Int32 → Int32 → zX → Option (Int32)) (a1 a2 a3 a4 b0 : Int32) (X : zX) : Option (Int32) := if a4 = 0 then if b0 = 0 then K2 a1 a2 (a3 + (nI 1)) X else some a3 else some a3
set_option maxRecDepth 20000 in
set_option maxHeartbeats 4000000 in
theorem sX2_between_62 {μ : zM} {w : Nat} (hw : w < 3) {F : Nat} {K2 : Int32 → Int32 → Int32 → zX → Option (Int32)} (hK2 : ∀ {xa1 xa2 xa3 : Int32} {xX : zX} {ρ : Int32}, K2 xa1 xa2 xa3 xX = some ρ → zJ mX2_between 1 (0, 0) (0, 0) (zQ (some (zi ρ)) (zg μ (w + 4) xX)) 2 [some (zq (w + 4) 5), some (zi xa1), some (zi xa2), some (zi xa3), none, none] [] (zg μ (w + 4) xX)) {a1 a2 a3 a4 b0 : Int32} {X : zX} {ρ : Int32} (h : jX2_between_62 F K2 a1 a2 a3 a4 b0 X = some ρ) : zJ mX2_between 1 (0, 0) (0, 0) (zQ (some (zi ρ)) (zg μ (w + 4) X)) 62 [some (zq (w + 4) 5), some (zi a1), some (zi a2), some (zi a3), some (zi a4), none] [zi b0] (zg μ (w + 4) X) := by
  unfold jX2_between_62 at h
  refine z_istore dX2_between_62 (Nat.le_of_ble_eq_true rfl) (z_iload dX2_between_64 rfl (z_if_ne dX2_between_66 (fun c1 => ?_) (fun c1 => ?_)))
  · have h := ziF h (c1)
    exact z_iload dX2_between_74 rfl (z_iretQ dX2_between_75 rfl (by cases h; rfl))
  · have h := ziT h (c1)
    refine z_iload dX2_between_69 rfl (z_if_eq dX2_between_71 (fun c2 => ?_) (fun c2 => ?_))
    · have h := ziT h (c2)
      exact z_iinc dX2_between_76 (Nat.le_of_ble_eq_true rfl) rfl (z_goto dX2_between_79 (z_mask [true, true, true, true, false, false] (hK2 h)))
    · have h := ziF h (c2)
      exact z_iload dX2_between_74 rfl (z_iretQ dX2_between_75 rfl (by cases h; rfl))
def jX2_between_61 (F : Nat) (K2 : Int32 → Int32 → Int32 → zX → Option (Int32)) (a1 a2 a3 a4 : Int32) (X : zX) : Option (Int32) := jX2_between_62 F K2 a1 a2 a3 a4 (nI 0) X
set_option maxRecDepth 20000 in
set_option maxHeartbeats 4000000 in
theorem sX2_between_61 {μ : zM} {w : Nat} (hw : w < 3) {F : Nat} {K2 : Int32 → Int32 → Int32 → zX → Option (Int32)} (hK2 : ∀ {xa1 xa2 xa3 : Int32} {xX : zX} {ρ : Int32}, K2 xa1 xa2 xa3 xX = some ρ → zJ mX2_between 1 (0, 0) (0, 0) (zQ (some (zi ρ)) (zg μ (w + 4) xX)) 2 [some (zq (w + 4) 5), some (zi xa1), some (zi xa2), some (zi xa3), none, none] [] (zg μ (w + 4) xX)) {a1 a2 a3 a4 : Int32} {X : zX} {ρ : Int32} (h : jX2_between_61 F K2 a1 a2 a3 a4 X = some ρ) : zJ mX2_between 1 (0, 0) (0, 0) (zQ (some (zi ρ)) (zg μ (w + 4) X)) 61 [some (zq (w + 4) 5), some (zi a1), some (zi a2), some (zi a3), some (zi a4), none] [] (zg μ (w + 4) X) := by
  unfold jX2_between_61 at h
  exact z_const dX2_between_61 (z_mask [true, true, true, true, true, false] (sX2_between_62 hw hK2 h))
def jX2_between_35 (F : Nat) (K2 : Int32 → Int32 → Int32 → zX → Option (Int32)) (a1 a2 a3 b0 : Int32) (X : zX) : Option (Int32) := zchk (zin a3 10) (if (X 34 (zn a3)) = a2 then zchk (zin a3 10) (if (X 35 (zn a3)) = a1 then jX2_between_62 F K2 a1 a2 a3 b0 (nI 1) X else jX2_between_61 F K2 a1 a2 a3 b0 X) else jX2_between_61 F K2 a1 a2 a3 b0 X)
set_option maxRecDepth 20000 in
set_option maxHeartbeats 4000000 in
theorem sX2_between_35 {μ : zM} {w : Nat} (hw : w < 3) {F : Nat} {K2 : Int32 → Int32 → Int32 → zX → Option (Int32)} (hK2 : ∀ {xa1 xa2 xa3 : Int32} {xX : zX} {ρ : Int32}, K2 xa1 xa2 xa3 xX = some ρ → zJ mX2_between 1 (0, 0) (0, 0) (zQ (some (zi ρ)) (zg μ (w + 4) xX)) 2 [some (zq (w + 4) 5), some (zi xa1), some (zi xa2), some (zi xa3), none, none] [] (zg μ (w + 4) xX)) {a1 a2 a3 b0 : Int32} {X : zX} {ρ : Int32} (h : jX2_between_35 F K2 a1 a2 a3 b0 X = some ρ) : zJ mX2_between 1 (0, 0) (0, 0) (zQ (some (zi ρ)) (zg μ (w + 4) X)) 35 [some (zq (w + 4) 5), some (zi a1), some (zi a2), some (zi a3), none, none] [zi b0] (zg μ (w + 4) X) := by
  unfold jX2_between_35 at h
  obtain ⟨s1, h⟩ := zchk_some h
  refine z_istore dX2_between_35 (Nat.le_of_ble_eq_true rfl) (z_aload dX2_between_37 rfl (z_getR dX2_between_38 fkX2_18 (in_5 hw) sh_5 rfl (z_iload dX2_between_41 rfl (z_iald dX2_between_42 (in_34 hw) sh_34 (zin_vp s1) (z_iload dX2_between_43 rfl (z_icmp_ne dX2_between_44 (fun c2 => ?_) (fun c2 => ?_)))))))
  · have h := ziF h (c2)
    exact z_mask [true, true, true, true, true, false] (sX2_between_61 hw hK2 h)
  · have h := ziT h (c2)
    obtain ⟨s3, h⟩ := zchk_some h
    refine z_aload dX2_between_47 rfl (z_getR dX2_between_48 fkX2_22 (in_5 hw) sh_5 rfl (z_iload dX2_between_51 rfl (z_iald dX2_between_52 (in_35 hw) sh_35 (zin_vp s3) (z_iload dX2_between_53 rfl (z_icmp_ne dX2_between_54 (fun c4 => ?_) (fun c4 => ?_))))))
    · have h := ziF h (c4)
      exact z_mask [true, true, true, true, true, false] (sX2_between_61 hw hK2 h)
    · have h := ziT h (c4)
      exact z_const dX2_between_57 (z_goto dX2_between_58 (z_mask [true, true, true, true, true, false] (sX2_between_62 hw hK2 h)))
def jX2_between_34 (F : Nat) (K2 : Int32 → Int32 → Int32 → zX → Option (Int32)) (a1 a2 a3 : Int32) (X : zX) : Option (Int32) := jX2_between_35 F K2 a1 a2 a3 (nI 0) X
set_option maxRecDepth 20000 in
set_option maxHeartbeats 4000000 in
theorem sX2_between_34 {μ : zM} {w : Nat} (hw : w < 3) {F : Nat} {K2 : Int32 → Int32 → Int32 → zX → Option (Int32)} (hK2 : ∀ {xa1 xa2 xa3 : Int32} {xX : zX} {ρ : Int32}, K2 xa1 xa2 xa3 xX = some ρ → zJ mX2_between 1 (0, 0) (0, 0) (zQ (some (zi ρ)) (zg μ (w + 4) xX)) 2 [some (zq (w + 4) 5), some (zi xa1), some (zi xa2), some (zi xa3), none, none] [] (zg μ (w + 4) xX)) {a1 a2 a3 : Int32} {X : zX} {ρ : Int32} (h : jX2_between_34 F K2 a1 a2 a3 X = some ρ) : zJ mX2_between 1 (0, 0) (0, 0) (zQ (some (zi ρ)) (zg μ (w + 4) X)) 34 [some (zq (w + 4) 5), some (zi a1), some (zi a2), some (zi a3), none, none] [] (zg μ (w + 4) X) := by
  unfold jX2_between_34 at h
  exact z_const dX2_between_34 (z_mask [true, true, true, true, false, false] (sX2_between_35 hw hK2 h))
def hX2_between_2 (F : Nat) : Nat → Int32 → Int32 → Int32 → zX → Option (Int32)
  | 0, _, _, _, _ => none
  | n + 1, a1, a2, a3, X => if (X 5 0) ≤ a3 then some (-1) else zchk (zin a3 10) (if (X 34 (zn a3)) = a1 then zchk (zin a3 10) (if (X 35 (zn a3)) = a2 then jX2_between_35 F (hX2_between_2 F n) a1 a2 a3 (nI 1) X else jX2_between_34 F (hX2_between_2 F n) a1 a2 a3 X) else jX2_between_34 F (hX2_between_2 F n) a1 a2 a3 X)
set_option maxRecDepth 20000 in
set_option maxHeartbeats 4000000 in
theorem sX2_between_2 {μ : zM} {w : Nat} (hw : w < 3) {F : Nat} : ∀ {n : Nat} {a1 a2 a3 : Int32} {X : zX} {ρ : Int32}, hX2_between_2 F n a1 a2 a3 X = some ρ → zJ mX2_between 1 (0, 0) (0, 0) (zQ (some (zi ρ)) (zg μ (w + 4) X)) 2 [some (zq (w + 4) 5), some (zi a1), some (zi a2), some (zi a3), none, none] [] (zg μ (w + 4) X) := by
  intro n
  induction n with
  | zero => intro a1 a2 a3 X ρ h; exact nomatch (show (none : Option _) = some ρ from h)
  | succ n ih =>
    intro a1 a2 a3 X ρ h
    have hK2 := @ih
    rw [hX2_between_2] at h
    refine z_iload dX2_between_2 rfl (z_aload dX2_between_3 rfl (z_getI dX2_between_4 fkX2_9 (in_5 hw) sh_5 rfl (z_icmp_ge dX2_between_7 (fun c1 => ?_) (fun c1 => ?_))))
    · have h := ziT h (c1)
      exact z_const dX2_between_82 (z_iretQ dX2_between_83 rfl (by cases h; rfl))
    · have h := ziF h (c1)
      obtain ⟨s2, h⟩ := zchk_some h
      refine z_aload dX2_between_10 rfl (z_getR dX2_between_11 fkX2_18 (in_5 hw) sh_5 rfl (z_iload dX2_between_14 rfl (z_iald dX2_between_15 (in_34 hw) sh_34 (zin_vp s2) (z_iload dX2_between_16 rfl (z_icmp_ne dX2_between_17 (fun c3 => ?_) (fun c3 => ?_))))))
      · have h := ziF h (c3)
        exact z_mask [true, true, true, true, false, false] (sX2_between_34 hw hK2 h)
      · have h := ziT h (c3)
        obtain ⟨s4, h⟩ := zchk_some h
        refine z_aload dX2_between_20 rfl (z_getR dX2_between_21 fkX2_22 (in_5 hw) sh_5 rfl (z_iload dX2_between_24 rfl (z_iald dX2_between_25 (in_35 hw) sh_35 (zin_vp s4) (z_iload dX2_between_26 rfl (z_icmp_ne dX2_between_27 (fun c5 => ?_) (fun c5 => ?_))))))
        · have h := ziF h (c5)
          exact z_mask [true, true, true, true, false, false] (sX2_between_34 hw hK2 h)
        · have h := ziT h (c5)
          exact z_const dX2_between_30 (z_goto dX2_between_31 (z_mask [true, true, true, true, false, false] (sX2_between_35 hw hK2 h)))
def eX2_between (F : Nat) (a b : Int32) (X : zX) : Option (Int32) := hX2_between_2 F F a b (nI 0) X
set_option maxRecDepth 20000 in
set_option maxHeartbeats 4000000 in
theorem tX2_between {μ : zM} {w : Nat} (hw : w < 3) {F : Nat} {a b : Int32} {X : zX} {ρ : Int32} (h : eX2_between F a b X = some ρ) : LM mX2_between 1 [zq (w + 4) 5, zi a, zi b] (zg μ (w + 4) X) (some (zi ρ)) (zg μ (w + 4) X) := by
  unfold eX2_between at h
  refine LM.of (by decide +kernel) rfl (Nat.le_of_ble_eq_true rfl) ?_
  show zJ mX2_between 1 (0, 0) (0, 0) _ 0 [some (zq (w + 4) 5), some (zi a), some (zi b), none, none, none] [] _
  exact z_const dX2_between_0 (z_istore dX2_between_1 (Nat.le_of_ble_eq_true rfl) (z_mask [true, true, true, true, false, false] (sX2_between_2 hw h)))
def hX2_joined_20 (F : Nat) (K7 : Int32 → Int32 → Int32 → zX → Option (Int32)) : Nat → Int32 → Int32 → Int32 → Int32 → Int32 → zX → Option (Int32)
  | 0, _, _, _, _, _, _ => none
  | n + 1, a2, a3, a4, a5, a6, X => if (X 5 0) ≤ a6 then if a3 = a5 then some a3 else K7 a2 a3 (a4 + (nI 1)) X else zchk (zin a6 10) (zchk (zin a6 10) (zlet (((nI 1) <<< ((X 34 (zn a6)) &&& 31)) ||| ((nI 1) <<< ((X 35 (zn a6)) &&& 31))) fun v5 => if ((a2 >>> (a6 &&& 31)) &&& (nI 1)) = (nI 1) then (hX2_joined_20 F K7 n) a2 a3 a4 a5 (a6 + (nI 1)) X else if (a3 &&& v5) = 0 then (hX2_joined_20 F K7 n) a2 a3 a4 a5 (a6 + (nI 1)) X else (hX2_joined_20 F K7 n) a2 (a3 ||| v5) a4 a5 (a6 + (nI 1)) X))
set_option maxRecDepth 20000 in
set_option maxHeartbeats 4000000 in
theorem sX2_joined_20 {μ : zM} {w : Nat} (hw : w < 3) {F : Nat} {K7 : Int32 → Int32 → Int32 → zX → Option (Int32)} (hK7 : ∀ {xa2 xa3 xa4 : Int32} {xX : zX} {ρ : Int32}, K7 xa2 xa3 xa4 xX = some ρ → zJ mX2_joined 2 (0, 0) (0, 0) (zQ (some (zi ρ)) (zg μ (w + 4) xX)) 7 [some (zq (w + 4) 5), none, some (zi xa2), some (zi xa3), some (zi xa4), none, none, none] [] (zg μ (w + 4) xX)) : ∀ {n : Nat} {a2 a3 a4 a5 a6 : Int32} {X : zX} {ρ : Int32}, hX2_joined_20 F K7 n a2 a3 a4 a5 a6 X = some ρ → zJ mX2_joined 2 (0, 0) (0, 0) (zQ (some (zi ρ)) (zg μ (w + 4) X)) 20 [some (zq (w + 4) 5), none, some (zi a2), some (zi a3), some (zi a4), some (zi a5), some (zi a6), none] [] (zg μ (w + 4) X) := by
  intro n
  induction n with
  | zero => intro a2 a3 a4 a5 a6 X ρ h; exact nomatch (show (none : Option _) = some ρ from h)
  | succ n ih =>
    intro a2 a3 a4 a5 a6 X ρ h
    have hK20 := @ih
    rw [hX2_joined_20] at h
    refine z_iload dX2_joined_20 rfl (z_aload dX2_joined_22 rfl (z_getI dX2_joined_23 fkX2_9 (in_5 hw) sh_5 rfl (z_icmp_ge dX2_joined_26 (fun c1 => ?_) (fun c1 => ?_))))
    · have h := ziT h (c1)
      refine z_iload dX2_joined_77 rfl (z_iload dX2_joined_78 rfl (z_icmp_ne dX2_joined_80 (fun c2 => ?_) (fun c2 => ?_)))
      · have h := ziF h (c2)
        exact z_iinc dX2_joined_85 (Nat.le_of_ble_eq_true rfl) rfl (z_goto dX2_joined_88 (z_mask [true, false, true, true, true, false, false, false] (hK7 h)))
      · have h := ziT h (c2)
        exact z_iload dX2_joined_83 rfl (z_iretQ dX2_joined_84 rfl (by cases h; rfl))
    · have h := ziF h (c1)
      obtain ⟨s3, h⟩ := zchk_some h
      obtain ⟨s4, h⟩ := zchk_some h
      refine z_const dX2_joined_29 (z_aload dX2_joined_30 rfl (z_getR dX2_joined_31 fkX2_18 (in_5 hw) sh_5 rfl (z_iload dX2_joined_34 rfl (z_iald dX2_joined_36 (in_34 hw) sh_34 (zin_vp s3) (z_ishl dX2_joined_37 (z_const dX2_joined_38 (z_aload dX2_joined_39 rfl (z_getR dX2_joined_40 fkX2_22 (in_5 hw) sh_5 rfl (z_iload dX2_joined_43 rfl (z_iald dX2_joined_45 (in_35 hw) sh_35 (zin_vp s4) (z_ishl dX2_joined_46 ?_)))))))))))
      have h := zlet_h h
      refine z_ior dX2_joined_47 (z_istore dX2_joined_48 (Nat.le_of_ble_eq_true rfl) (z_iload dX2_joined_50 rfl (z_iload dX2_joined_51 rfl (z_callSN dX2_joined_53 (tX11_isIn) (Nat.le_of_ble_eq_true rfl) cdX11_isIn naX11_isIn lkX2_38 stX11_isIn rfl rfl (Nat.le_of_ble_eq_true rfl) (z_if_ne dX2_joined_56 (fun c6 => ?_) (fun c6 => ?_))))))
      · have h := ziT h (zB_n0.mp c6)
        exact z_iinc dX2_joined_71 (Nat.le_of_ble_eq_true rfl) rfl (z_goto dX2_joined_74 (z_mask [true, false, true, true, true, true, true, false] (hK20 h)))
      · have h := ziF h (zB_0.mp c6)
        refine z_iload dX2_joined_59 rfl (z_iload dX2_joined_60 rfl (z_iand dX2_joined_62 (z_if_eq dX2_joined_63 (fun c7 => ?_) (fun c7 => ?_))))
        · have h := ziT h (c7)
          exact z_iinc dX2_joined_71 (Nat.le_of_ble_eq_true rfl) rfl (z_goto dX2_joined_74 (z_mask [true, false, true, true, true, true, true, false] (hK20 h)))
        · have h := ziF h (c7)
          exact z_iload dX2_joined_66 rfl (z_iload dX2_joined_67 rfl (z_ior dX2_joined_69 (z_istore dX2_joined_70 (Nat.le_of_ble_eq_true rfl) (z_iinc dX2_joined_71 (Nat.le_of_ble_eq_true rfl) rfl (z_goto dX2_joined_74 (z_mask [true, false, true, true, true, true, true, false] (hK20 h)))))))
def hX2_joined_7 (F : Nat) : Nat → Int32 → Int32 → Int32 → zX → Option (Int32)
  | 0, _, _, _, _ => none
  | n + 1, a2, a3, a4, X => if (nI 6) ≤ a4 then some a3 else hX2_joined_20 F (hX2_joined_7 F n) F a2 a3 a4 a3 (nI 0) X
set_option maxRecDepth 20000 in
set_option maxHeartbeats 4000000 in
theorem sX2_joined_7 {μ : zM} {w : Nat} (hw : w < 3) {F : Nat} : ∀ {n : Nat} {a2 a3 a4 : Int32} {X : zX} {ρ : Int32}, hX2_joined_7 F n a2 a3 a4 X = some ρ → zJ mX2_joined 2 (0, 0) (0, 0) (zQ (some (zi ρ)) (zg μ (w + 4) X)) 7 [some (zq (w + 4) 5), none, some (zi a2), some (zi a3), some (zi a4), none, none, none] [] (zg μ (w + 4) X) := by
  intro n
  induction n with
  | zero => intro a2 a3 a4 X ρ h; exact nomatch (show (none : Option _) = some ρ from h)
  | succ n ih =>
    intro a2 a3 a4 X ρ h
    have hK7 := @ih
    rw [hX2_joined_7] at h
    refine z_iload dX2_joined_7 rfl (z_const dX2_joined_9 (z_icmp_ge dX2_joined_11 (fun c1 => ?_) (fun c1 => ?_)))
    · have h := ziT h (c1)
      exact z_iload dX2_joined_91 rfl (z_iretQ dX2_joined_92 rfl (by cases h; rfl))
    · have h := ziF h (c1)
      exact z_iload dX2_joined_14 rfl (z_istore dX2_joined_15 (Nat.le_of_ble_eq_true rfl) (z_const dX2_joined_17 (z_istore dX2_joined_18 (Nat.le_of_ble_eq_true rfl) (z_mask [true, false, true, true, true, true, true, false] (sX2_joined_20 hw hK7 h)))))
def eX2_joined (F : Nat) (n s : Int32) (X : zX) : Option (Int32) := hX2_joined_7 F F s ((nI 1) <<< (n &&& 31)) (nI 1) X
set_option maxRecDepth 20000 in
set_option maxHeartbeats 4000000 in
theorem tX2_joined {μ : zM} {w : Nat} (hw : w < 3) {F : Nat} {n s : Int32} {X : zX} {ρ : Int32} (h : eX2_joined F n s X = some ρ) : LM mX2_joined 2 [zq (w + 4) 5, zi n, zi s] (zg μ (w + 4) X) (some (zi ρ)) (zg μ (w + 4) X) := by
  unfold eX2_joined at h
  refine LM.of (by decide +kernel) rfl (Nat.le_of_ble_eq_true rfl) ?_
  show zJ mX2_joined 2 (0, 0) (0, 0) _ 0 [some (zq (w + 4) 5), some (zi n), some (zi s), none, none, none, none, none] [] _
  exact z_const dX2_joined_0 (z_iload dX2_joined_1 rfl (z_ishl dX2_joined_2 (z_istore dX2_joined_3 (Nat.le_of_ble_eq_true rfl) (z_const dX2_joined_4 (z_istore dX2_joined_5 (Nat.le_of_ble_eq_true rfl) (z_mask [true, false, true, true, true, false, false, false] (sX2_joined_7 hw h)))))))
