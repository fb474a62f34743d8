set_option maxRecDepth 20000 in
set_option maxHeartbeats 4000000 in
theorem tX11_copyRow {μ : zM} {j k j2 k2 N : Nat} (h1 : (j, k) ∈ zids) (hs1 : zsh j k = some (.inl (0, N))) (h2 : (j2, k2) ∈ zids) (hs2 : zsh j2 k2 = some (.inl (0, N))) (hN : N < 2 ^ 31) : LM mX11_copyRow 1 [zq j k, zq j2 k2] μ none (zg μ j2 (zr (μ j2) k2 (μ j k))) := by
  refine LM.of (by decide +kernel) rfl (Nat.le_of_ble_eq_true rfl) ?_
  show zJ mX11_copyRow 1 (0, 0) (0, 0) _ 0 [some (zq j k), some (zq j2 k2)] [] _
  refine z_aload dX11_copyRow_0 rfl (z_const dX11_copyRow_1 (z_aload dX11_copyRow_2 rfl (z_const dX11_copyRow_3 (z_aload dX11_copyRow_4 rfl (z_alen dX11_copyRow_5 h1 hs1 (by decide) (z_aload dX11_copyRow_6 rfl (z_alen dX11_copyRow_7 h2 hs2 (by decide) (z_min dX11_copyRow_8 lkX11_436 (Nat.le_of_ble_eq_true rfl) (Nat.le_of_ble_eq_true rfl) ?_))))))))
  rw [show zmn (nI N) (nI N) = nI N from if_neg (fun h => Int32.lt_irrefl h)]
  exact z_copyi dX11_copyRow_11 (zmem_of (by decide +kernel)) h1 hs1 h2 hs2 hN (Nat.le_of_ble_eq_true rfl) (Nat.le_of_ble_eq_true rfl) (z_vretQ dX11_copyRow_14 rfl rfl)
set_option maxRecDepth 20000 in
set_option maxHeartbeats 4000000 in
theorem tX8_copy {μ : zM} {w v : Nat} (hw : w < 3) (hv : v < 3) (hne : v + 4 ≠ w + 4) {X : zX} : LM mX8_copy 1 [zq (w + 4) 1, zq (v + 4) 1] (zg μ (w + 4) X) none (zg μ (w + 4) (zr X 1 (μ (v + 4) 1))) := by
  refine LM.of (by decide +kernel) rfl (Nat.le_of_ble_eq_true rfl) ?_
  show zJ mX8_copy 1 (0, 0) (0, 0) _ 0 [some (zq (w + 4) 1), some (zq (v + 4) 1)] [] _
  refine z_rowf 1 ?_
  refine z_aload dX8_copy_0 rfl (z_aload dX8_copy_1 rfl (z_getS dX8_copy_2 fkX8_7 (in_1 hv) sh_1 rfl hne (z_putZ dX8_copy_5 fkX8_7 (in_1 hw) sh_1 rfl (fun _ _ _ h => by cases h; rfl) ⟨_, rfl, rfl, rfl⟩ ?_)))
  refine z_aload dX8_copy_8 rfl (z_aload dX8_copy_9 rfl (z_getS dX8_copy_10 fkX8_13 (in_1 hv) sh_1 rfl hne (z_putZ dX8_copy_13 fkX8_13 (in_1 hw) sh_1 rfl (fun _ _ _ h => by cases h; rfl) ⟨_, rfl, rfl, rfl⟩ ?_)))
  refine z_aload dX8_copy_16 rfl (z_aload dX8_copy_17 rfl (z_getS dX8_copy_18 fkX8_16 (in_1 hv) sh_1 rfl hne (z_putZ dX8_copy_21 fkX8_16 (in_1 hw) sh_1 rfl (fun _ _ _ h => by cases h; rfl) ⟨_, rfl, rfl, rfl⟩ ?_)))
  refine z_aload dX8_copy_24 rfl (z_aload dX8_copy_25 rfl (z_getS dX8_copy_26 fkX8_19 (in_1 hv) sh_1 rfl hne (z_putZ dX8_copy_29 fkX8_19 (in_1 hw) sh_1 rfl (fun _ _ _ h => by cases h; rfl) ⟨_, rfl, rfl, rfl⟩ ?_)))
  refine z_aload dX8_copy_32 rfl (z_aload dX8_copy_33 rfl (z_getS dX8_copy_34 fkX8_22 (in_1 hv) sh_1 rfl hne (z_putZ dX8_copy_37 fkX8_22 (in_1 hw) sh_1 rfl (fun _ _ _ h => by cases h; rfl) ⟨_, rfl, rfl, rfl⟩ ?_)))
  refine z_aload dX8_copy_40 rfl (z_aload dX8_copy_41 rfl (z_getS dX8_copy_42 fkX8_25 (in_1 hv) sh_1 rfl hne (z_putZ dX8_copy_45 fkX8_25 (in_1 hw) sh_1 rfl (fun _ _ _ h => by cases h; rfl) ⟨_, rfl, rfl, rfl⟩ ?_)))
  refine z_aload dX8_copy_48 rfl (z_aload dX8_copy_49 rfl (z_getS dX8_copy_50 fkX8_28 (in_1 hv) sh_1 rfl hne (z_putZ dX8_copy_53 fkX8_28 (in_1 hw) sh_1 rfl (fun _ _ _ h => by cases h; rfl) ⟨_, rfl, rfl, rfl⟩ ?_)))
  refine z_aload dX8_copy_56 rfl (z_aload dX8_copy_57 rfl (z_getS dX8_copy_58 fkX8_31 (in_1 hv) sh_1 rfl hne (z_putZ dX8_copy_61 fkX8_31 (in_1 hw) sh_1 rfl (fun _ _ _ h => by cases h; rfl) ⟨_, rfl, rfl, rfl⟩ ?_)))
  refine z_agree (zag_obj (sh_1 (w := w)) (r' := μ (v + 4) 1) (fun i hi => by match i, hi with | 0, _ => rfl | 1, _ => rfl | 2, _ => rfl | 3, _ => rfl | 4, _ => rfl | 5, _ => rfl | 6, _ => rfl | 7, _ => rfl | n + 8, hi => cases hi)) ?_
  exact z_vretQ dX8_copy_64 rfl rfl
set_option maxRecDepth 20000 in
set_option maxHeartbeats 4000000 in
theorem tX1_copy {μ : zM} {w v : Nat} (hw : w < 3) (hv : v < 3) (hne : v + 4 ≠ w + 4) {X : zX} : LM mX1_copy 1 [zq (w + 4) 2, zq (v + 4) 2] (zg μ (w + 4) X) none (zg μ (w + 4) (zr X 2 (μ (v + 4) 2))) := by
  refine LM.of (by decide +kernel) rfl (Nat.le_of_ble_eq_true rfl) ?_
  show zJ mX1_copy 1 (0, 0) (0, 0) _ 0 [some (zq (w + 4) 2), some (zq (v + 4) 2)] [] _
  refine z_rowf 2 ?_
  refine z_aload dX1_copy_0 rfl (z_aload dX1_copy_1 rfl (z_getS dX1_copy_2 fkX1_9 (in_2 hv) sh_2 rfl hne (z_putZ dX1_copy_5 fkX1_9 (in_2 hw) sh_2 rfl (fun _ _ _ h => by cases h; rfl) ⟨_, rfl, rfl, rfl⟩ ?_)))
  refine z_aload dX1_copy_8 rfl (z_aload dX1_copy_9 rfl (z_getS dX1_copy_10 fkX1_15 (in_2 hv) sh_2 rfl hne (z_putZ dX1_copy_13 fkX1_15 (in_2 hw) sh_2 rfl (fun _ _ _ h => by cases h; rfl) ⟨_, rfl, rfl, rfl⟩ ?_)))
  refine z_agree (zag_obj (sh_2 (w := w)) (r' := μ (v + 4) 2) (fun i hi => by match i, hi with | 0, _ => rfl | 1, _ => rfl | n + 2, hi => cases hi)) ?_
  exact z_vretQ dX1_copy_16 rfl rfl
set_option maxRecDepth 20000 in
set_option maxHeartbeats 4000000 in
theorem tX4_copy {μ : zM} {w v : Nat} (hw : w < 3) (hv : v < 3) (hne : v + 4 ≠ w + 4) {X : zX} : LM mX4_copy 2 [zq (w + 4) 3, zq (v + 4) 3] (zg μ (w + 4) X) none (zg μ (w + 4) (zr (zr (zr (zr (zr (zr (zr (zr (zr (zr (zr (zr (zr X 3 (μ (v + 4) 3)) 9 (μ (v + 4) 9)) 10 (μ (v + 4) 10)) 11 (μ (v + 4) 11)) 12 (μ (v + 4) 12)) 13 (μ (v + 4) 13)) 14 (μ (v + 4) 14)) 15 (μ (v + 4) 15)) 16 (μ (v + 4) 16)) 17 (μ (v + 4) 17)) 18 (μ (v + 4) 18)) 19 (μ (v + 4) 19)) 20 (μ (v + 4) 20))) := by
  refine LM.of (by decide +kernel) rfl (Nat.le_of_ble_eq_true rfl) ?_
  show zJ mX4_copy 2 (0, 0) (0, 0) _ 0 [some (zq (w + 4) 3), some (zq (v + 4) 3)] [] _
  refine z_rowf 3 ?_
  refine z_aload dX4_copy_0 rfl (z_aload dX4_copy_1 rfl (z_getS dX4_copy_2 fkX4_9 (in_3 hv) sh_3 rfl hne (z_putZ dX4_copy_5 fkX4_9 (in_3 hw) sh_3 rfl (fun _ _ _ h => by cases h; rfl) ⟨_, rfl, rfl, rfl⟩ ?_)))
  refine z_aload dX4_copy_8 rfl (z_aload dX4_copy_9 rfl (z_getS dX4_copy_10 fkX4_15 (in_3 hv) sh_3 rfl hne (z_putZ dX4_copy_13 fkX4_15 (in_3 hw) sh_3 rfl (fun _ _ _ h => by cases h; rfl) ⟨_, rfl, rfl, rfl⟩ ?_)))
  refine z_agree (zag_obj (sh_3 (w := w)) (r' := μ (v + 4) 3) (fun i hi => by match i, hi with | 0, _ => rfl | 1, _ => rfl | 2, hi => cases hi | 3, hi => cases hi | 4, hi => cases hi | 5, hi => cases hi | 6, hi => cases hi | 7, hi => cases hi | 8, hi => cases hi | 9, hi => cases hi | 10, hi => cases hi | 11, hi => cases hi | 12, hi => cases hi | 13, hi => cases hi | n + 14, hi => cases hi)) ?_
  refine z_aload dX4_copy_16 rfl (z_getR dX4_copy_17 fkX4_18 (in_3 hv) sh_3 rfl (z_aload dX4_copy_20 rfl (z_getR dX4_copy_21 fkX4_18 (in_3 hw) sh_3 rfl (z_callSN dX4_copy_24 (tX11_copyRow (in_9 hv) sh_9 (in_9 hw) sh_9 (by decide)) (Nat.le_of_ble_eq_true rfl) cdX11_copyRow naX11_copyRow lkX4_65 stX11_copyRow rfl rfl (Nat.le_of_ble_eq_true rfl) ?_))))
  rw [zg_zg, zg_at, zg_ne hne]
  refine z_aload dX4_copy_27 rfl (z_getR dX4_copy_28 fkX4_26 (in_3 hv) sh_3 rfl (z_aload dX4_copy_31 rfl (z_getR dX4_copy_32 fkX4_26 (in_3 hw) sh_3 rfl (z_callSN dX4_copy_35 (tX11_copyRow (in_10 hv) sh_10 (in_10 hw) sh_10 (by decide)) (Nat.le_of_ble_eq_true rfl) cdX11_copyRow naX11_copyRow lkX4_65 stX11_copyRow rfl rfl (Nat.le_of_ble_eq_true rfl) ?_))))
  rw [zg_zg, zg_at, zg_ne hne]
  refine z_aload dX4_copy_38 rfl (z_getR dX4_copy_39 fkX4_29 (in_3 hv) sh_3 rfl (z_aload dX4_copy_42 rfl (z_getR dX4_copy_43 fkX4_29 (in_3 hw) sh_3 rfl (z_callSN dX4_copy_46 (tX11_copyRow (in_11 hv) sh_11 (in_11 hw) sh_11 (by decide)) (Nat.le_of_ble_eq_true rfl) cdX11_copyRow naX11_copyRow lkX4_65 stX11_copyRow rfl rfl (Nat.le_of_ble_eq_true rfl) ?_))))
  rw [zg_zg, zg_at, zg_ne hne]
  refine z_aload dX4_copy_49 rfl (z_getR dX4_copy_50 fkX4_32 (in_3 hv) sh_3 rfl (z_aload dX4_copy_53 rfl (z_getR dX4_copy_54 fkX4_32 (in_3 hw) sh_3 rfl (z_callSN dX4_copy_57 (tX11_copyRow (in_12 hv) sh_12 (in_12 hw) sh_12 (by decide)) (Nat.le_of_ble_eq_true rfl) cdX11_copyRow naX11_copyRow lkX4_65 stX11_copyRow rfl rfl (Nat.le_of_ble_eq_true rfl) ?_))))
  rw [zg_zg, zg_at, zg_ne hne]
  refine z_aload dX4_copy_60 rfl (z_getR dX4_copy_61 fkX4_35 (in_3 hv) sh_3 rfl (z_aload dX4_copy_64 rfl (z_getR dX4_copy_65 fkX4_35 (in_3 hw) sh_3 rfl (z_callSN dX4_copy_68 (tX11_copyRow (in_13 hv) sh_13 (in_13 hw) sh_13 (by decide)) (Nat.le_of_ble_eq_true rfl) cdX11_copyRow naX11_copyRow lkX4_65 stX11_copyRow rfl rfl (Nat.le_of_ble_eq_true rfl) ?_))))
  rw [zg_zg, zg_at, zg_ne hne]
  refine z_aload dX4_copy_71 rfl (z_getR dX4_copy_72 fkX4_38 (in_3 hv) sh_3 rfl (z_aload dX4_copy_75 rfl (z_getR dX4_copy_76 fkX4_38 (in_3 hw) sh_3 rfl (z_callSN dX4_copy_79 (tX11_copyRow (in_14 hv) sh_14 (in_14 hw) sh_14 (by decide)) (Nat.le_of_ble_eq_true rfl) cdX11_copyRow naX11_copyRow lkX4_65 stX11_copyRow rfl rfl (Nat.le_of_ble_eq_true rfl) ?_))))
  rw [zg_zg, zg_at, zg_ne hne]
  refine z_aload dX4_copy_82 rfl (z_getR dX4_copy_83 fkX4_41 (in_3 hv) sh_3 rfl (z_aload dX4_copy_86 rfl (z_getR dX4_copy_87 fkX4_41 (in_3 hw) sh_3 rfl (z_callSN dX4_copy_90 (tX11_copyRow (in_15 hv) sh_15 (in_15 hw) sh_15 (by decide)) (Nat.le_of_ble_eq_true rfl) cdX11_copyRow naX11_copyRow lkX4_65 stX11_copyRow rfl rfl (Nat.le_of_ble_eq_true rfl) ?_))))
  rw [zg_zg, zg_at, zg_ne hne]
  refine z_aload dX4_copy_93 rfl (z_getR dX4_copy_94 fkX4_44 (in_3 hv) sh_3 rfl (z_aload dX4_copy_97 rfl (z_getR dX4_copy_98 fkX4_44 (in_3 hw) sh_3 rfl (z_callSN dX4_copy_101 (tX11_copyRow (in_16 hv) sh_16 (in_16 hw) sh_16 (by decide)) (Nat.le_of_ble_eq_true rfl) cdX11_copyRow naX11_copyRow lkX4_65 stX11_copyRow rfl rfl (Nat.le_of_ble_eq_true rfl) ?_))))
  rw [zg_zg, zg_at, zg_ne hne]
  refine z_aload dX4_copy_104 rfl (z_getR dX4_copy_105 fkX4_47 (in_3 hv) sh_3 rfl (z_aload dX4_copy_108 rfl (z_getR dX4_copy_109 fkX4_47 (in_3 hw) sh_3 rfl (z_callSN dX4_copy_112 (tX11_copyRow (in_17 hv) sh_17 (in_17 hw) sh_17 (by decide)) (Nat.le_of_ble_eq_true rfl) cdX11_copyRow naX11_copyRow lkX4_65 stX11_copyRow rfl rfl (Nat.le_of_ble_eq_true rfl) ?_))))
  rw [zg_zg, zg_at, zg_ne hne]
  refine z_aload dX4_copy_115 rfl (z_getR dX4_copy_116 fkX4_50 (in_3 hv) sh_3 rfl (z_aload dX4_copy_119 rfl (z_getR dX4_copy_120 fkX4_50 (in_3 hw) sh_3 rfl (z_callSN dX4_copy_123 (tX11_copyRow (in_18 hv) sh_18 (in_18 hw) sh_18 (by decide)) (Nat.le_of_ble_eq_true rfl) cdX11_copyRow naX11_copyRow lkX4_65 stX11_copyRow rfl rfl (Nat.le_of_ble_eq_true rfl) ?_))))
  rw [zg_zg, zg_at, zg_ne hne]
  refine z_aload dX4_copy_126 rfl (z_getR dX4_copy_127 fkX4_53 (in_3 hv) sh_3 rfl (z_aload dX4_copy_130 rfl (z_getR dX4_copy_131 fkX4_53 (in_3 hw) sh_3 rfl (z_callSN dX4_copy_134 (tX11_copyRow (in_19 hv) sh_19 (in_19 hw) sh_19 (by decide)) (Nat.le_of_ble_eq_true rfl) cdX11_copyRow naX11_copyRow lkX4_65 stX11_copyRow rfl rfl (Nat.le_of_ble_eq_true rfl) ?_))))
  rw [zg_zg, zg_at, zg_ne hne]
  refine z_aload dX4_copy_137 rfl (z_getR dX4_copy_138 fkX4_56 (in_3 hv) sh_3 rfl (z_aload dX4_copy_141 rfl (z_getR dX4_copy_142 fkX4_56 (in_3 hw) sh_3 rfl (z_callSN dX4_copy_145 (tX11_copyRow (in_20 hv) sh_20 (in_20 hw) sh_20 (by decide)) (Nat.le_of_ble_eq_true rfl) cdX11_copyRow naX11_copyRow lkX4_65 stX11_copyRow rfl rfl (Nat.le_of_ble_eq_true rfl) ?_))))
  rw [zg_zg, zg_at, zg_ne hne]
  exact z_vretQ dX4_copy_148 rfl rfl
set_option maxRecDepth 20000 in
set_option maxHeartbeats 4000000 in
theorem tX5_copy {μ : zM} {w v : Nat} (hw : w < 3) (hv : v < 3) (hne : v + 4 ≠ w + 4) {X : zX} : LM mX5_copy 2 [zq (w + 4) 4, zq (v + 4) 4] (zg μ (w + 4) X) none (zg μ (w + 4) (zr (zr (zr (zr (zr (zr (zr (zr (zr (zr (zr (zr (zr X 21 (μ (v + 4) 21)) 22 (μ (v + 4) 22)) 23 (μ (v + 4) 23)) 24 (μ (v + 4) 24)) 25 (μ (v + 4) 25)) 26 (μ (v + 4) 26)) 27 (μ (v + 4) 27)) 28 (μ (v + 4) 28)) 29 (μ (v + 4) 29)) 30 (μ (v + 4) 30)) 31 (μ (v + 4) 31)) 32 (μ (v + 4) 32)) 33 (μ (v + 4) 33))) := by
  refine LM.of (by decide +kernel) rfl (Nat.le_of_ble_eq_true rfl) ?_
  show zJ mX5_copy 2 (0, 0) (0, 0) _ 0 [some (zq (w + 4) 4), some (zq (v + 4) 4)] [] _
  refine z_aload dX5_copy_0 rfl (z_getR dX5_copy_1 fkX5_15 (in_4 hv) sh_4 rfl (z_aload dX5_copy_4 rfl (z_getR dX5_copy_5 fkX5_15 (in_4 hw) sh_4 rfl (z_callSN dX5_copy_8 (tX11_copyRow (in_21 hv) sh_21 (in_21 hw) sh_21 (by decide)) (Nat.le_of_ble_eq_true rfl) cdX11_copyRow naX11_copyRow lkX5_55 stX11_copyRow rfl rfl (Nat.le_of_ble_eq_true rfl) ?_))))
  rw [zg_zg, zg_at, zg_ne hne]
  refine z_aload dX5_copy_11 rfl (z_getR dX5_copy_12 fkX5_19 (in_4 hv) sh_4 rfl (z_aload dX5_copy_15 rfl (z_getR dX5_copy_16 fkX5_19 (in_4 hw) sh_4 rfl (z_callSN dX5_copy_19 (tX11_copyRow (in_22 hv) sh_22 (in_22 hw) sh_22 (by decide)) (Nat.le_of_ble_eq_true rfl) cdX11_copyRow naX11_copyRow lkX5_55 stX11_copyRow rfl rfl (Nat.le_of_ble_eq_true rfl) ?_))))
  rw [zg_zg, zg_at, zg_ne hne]
  refine z_aload dX5_copy_22 rfl (z_getR dX5_copy_23 fkX5_22 (in_4 hv) sh_4 rfl (z_aload dX5_copy_26 rfl (z_getR dX5_copy_27 fkX5_22 (in_4 hw) sh_4 rfl (z_callSN dX5_copy_30 (tX11_copyRow (in_23 hv) sh_23 (in_23 hw) sh_23 (by decide)) (Nat.le_of_ble_eq_true rfl) cdX11_copyRow naX11_copyRow lkX5_55 stX11_copyRow rfl rfl (Nat.le_of_ble_eq_true rfl) ?_))))
  rw [zg_zg, zg_at, zg_ne hne]
  refine z_aload dX5_copy_33 rfl (z_getR dX5_copy_34 fkX5_25 (in_4 hv) sh_4 rfl (z_aload dX5_copy_37 rfl (z_getR dX5_copy_38 fkX5_25 (in_4 hw) sh_4 rfl (z_callSN dX5_copy_41 (tX11_copyRow (in_24 hv) sh_24 (in_24 hw) sh_24 (by decide)) (Nat.le_of_ble_eq_true rfl) cdX11_copyRow naX11_copyRow lkX5_55 stX11_copyRow rfl rfl (Nat.le_of_ble_eq_true rfl) ?_))))
  rw [zg_zg, zg_at, zg_ne hne]
  refine z_aload dX5_copy_44 rfl (z_getR dX5_copy_45 fkX5_28 (in_4 hv) sh_4 rfl (z_aload dX5_copy_48 rfl (z_getR dX5_copy_49 fkX5_28 (in_4 hw) sh_4 rfl (z_callSN dX5_copy_52 (tX11_copyRow (in_25 hv) sh_25 (in_25 hw) sh_25 (by decide)) (Nat.le_of_ble_eq_true rfl) cdX11_copyRow naX11_copyRow lkX5_55 stX11_copyRow rfl rfl (Nat.le_of_ble_eq_true rfl) ?_))))
  rw [zg_zg, zg_at, zg_ne hne]
  refine z_aload dX5_copy_55 rfl (z_getR dX5_copy_56 fkX5_31 (in_4 hv) sh_4 rfl (z_aload dX5_copy_59 rfl (z_getR dX5_copy_60 fkX5_31 (in_4 hw) sh_4 rfl (z_callSN dX5_copy_63 (tX11_copyRow (in_26 hv) sh_26 (in_26 hw) sh_26 (by decide)) (Nat.le_of_ble_eq_true rfl) cdX11_copyRow naX11_copyRow lkX5_55 stX11_copyRow rfl rfl (Nat.le_of_ble_eq_true rfl) ?_))))
  rw [zg_zg, zg_at, zg_ne hne]
  refine z_aload dX5_copy_66 rfl (z_getR dX5_copy_67 fkX5_34 (in_4 hv) sh_4 rfl (z_aload dX5_copy_70 rfl (z_getR dX5_copy_71 fkX5_34 (in_4 hw) sh_4 rfl (z_callSN dX5_copy_74 (tX11_copyRow (in_27 hv) sh_27 (in_27 hw) sh_27 (by decide)) (Nat.le_of_ble_eq_true rfl) cdX11_copyRow naX11_copyRow lkX5_55 stX11_copyRow rfl rfl (Nat.le_of_ble_eq_true rfl) ?_))))
  rw [zg_zg, zg_at, zg_ne hne]
  refine z_aload dX5_copy_77 rfl (z_getR dX5_copy_78 fkX5_37 (in_4 hv) sh_4 rfl (z_aload dX5_copy_81 rfl (z_getR dX5_copy_82 fkX5_37 (in_4 hw) sh_4 rfl (z_callSN dX5_copy_85 (tX11_copyRow (in_28 hv) sh_28 (in_28 hw) sh_28 (by decide)) (Nat.le_of_ble_eq_true rfl) cdX11_copyRow naX11_copyRow lkX5_55 stX11_copyRow rfl rfl (Nat.le_of_ble_eq_true rfl) ?_))))
  rw [zg_zg, zg_at, zg_ne hne]
  refine z_aload dX5_copy_88 rfl (z_getR dX5_copy_89 fkX5_40 (in_4 hv) sh_4 rfl (z_aload dX5_copy_92 rfl (z_getR dX5_copy_93 fkX5_40 (in_4 hw) sh_4 rfl (z_callSN dX5_copy_96 (tX11_copyRow (in_29 hv) sh_29 (in_29 hw) sh_29 (by decide)) (Nat.le_of_ble_eq_true rfl) cdX11_copyRow naX11_copyRow lkX5_55 stX11_copyRow rfl rfl (Nat.le_of_ble_eq_true rfl) ?_))))
  rw [zg_zg, zg_at, zg_ne hne]
  refine z_aload dX5_copy_99 rfl (z_getR dX5_copy_100 fkX5_43 (in_4 hv) sh_4 rfl (z_aload dX5_copy_103 rfl (z_getR dX5_copy_104 fkX5_43 (in_4 hw) sh_4 rfl (z_callSN dX5_copy_107 (tX11_copyRow (in_30 hv) sh_30 (in_30 hw) sh_30 (by decide)) (Nat.le_of_ble_eq_true rfl) cdX11_copyRow naX11_copyRow lkX5_55 stX11_copyRow rfl rfl (Nat.le_of_ble_eq_true rfl) ?_))))
  rw [zg_zg, zg_at, zg_ne hne]
  refine z_aload dX5_copy_110 rfl (z_getR dX5_copy_111 fkX5_46 (in_4 hv) sh_4 rfl (z_aload dX5_copy_114 rfl (z_getR dX5_copy_115 fkX5_46 (in_4 hw) sh_4 rfl (z_callSN dX5_copy_118 (tX11_copyRow (in_31 hv) sh_31 (in_31 hw) sh_31 (by decide)) (Nat.le_of_ble_eq_true rfl) cdX11_copyRow naX11_copyRow lkX5_55 stX11_copyRow rfl rfl (Nat.le_of_ble_eq_true rfl) ?_))))
  rw [zg_zg, zg_at, zg_ne hne]
  refine z_aload dX5_copy_121 rfl (z_getR dX5_copy_122 fkX5_49 (in_4 hv) sh_4 rfl (z_aload dX5_copy_125 rfl (z_getR dX5_copy_126 fkX5_49 (in_4 hw) sh_4 rfl (z_callSN dX5_copy_129 (tX11_copyRow (in_32 hv) sh_32 (in_32 hw) sh_32 (by decide)) (Nat.le_of_ble_eq_true rfl) cdX11_copyRow naX11_copyRow lkX5_55 stX11_copyRow rfl rfl (Nat.le_of_ble_eq_true rfl) ?_))))
  rw [zg_zg, zg_at, zg_ne hne]
  refine z_aload dX5_copy_132 rfl (z_getR dX5_copy_133 fkX5_52 (in_4 hv) sh_4 rfl (z_aload dX5_copy_136 rfl (z_getR dX5_copy_137 fkX5_52 (in_4 hw) sh_4 rfl (z_callSN dX5_copy_140 (tX11_copyRow (in_33 hv) sh_33 (in_33 hw) sh_33 (by decide)) (Nat.le_of_ble_eq_true rfl) cdX11_copyRow naX11_copyRow lkX5_55 stX11_copyRow rfl rfl (Nat.le_of_ble_eq_true rfl) ?_))))
  rw [zg_zg, zg_at, zg_ne hne]
  exact z_vretQ dX5_copy_143 rfl rfl
set_option maxRecDepth 20000 in
set_option maxHeartbeats 4000000 in
theorem tX2_copy {μ : zM} {w v : Nat} (hw : w < 3) (hv : v < 3) (hne : v + 4 ≠ w + 4) {X : zX} : LM mX2_copy 2 [zq (w + 4) 5, zq (v + 4) 5] (zg μ (w + 4) X) none (zg μ (w + 4) (zr (zr (zr (zr (zr (zr X 5 (μ (v + 4) 5)) 34 (μ (v + 4) 34)) 35 (μ (v + 4) 35)) 36 (μ (v + 4) 36)) 37 (μ (v + 4) 37)) 38 (μ (v + 4) 38))) := by
  refine LM.of (by decide +kernel) rfl (Nat.le_of_ble_eq_true rfl) ?_
  show zJ mX2_copy 2 (0, 0) (0, 0) _ 0 [some (zq (w + 4) 5), some (zq (v + 4) 5)] [] _
  refine z_rowf 5 ?_
  refine z_aload dX2_copy_0 rfl (z_aload dX2_copy_1 rfl (z_getS dX2_copy_2 fkX2_9 (in_5 hv) sh_5 rfl hne (z_putZ dX2_copy_5 fkX2_9 (in_5 hw) sh_5 rfl (fun _ _ _ h => by cases h; rfl) ⟨_, rfl, rfl, rfl⟩ ?_)))
  refine z_aload dX2_copy_8 rfl (z_aload dX2_copy_9 rfl (z_getS dX2_copy_10 fkX2_15 (in_5 hv) sh_5 rfl hne (z_putZ dX2_copy_13 fkX2_15 (in_5 hw) sh_5 rfl (fun _ _ _ h => by cases h; rfl) ⟨_, rfl, rfl, rfl⟩ ?_)))
  refine z_agree (zag_obj (sh_5 (w := w)) (r' := μ (v + 4) 5) (fun i hi => by match i, hi with | 0, _ => rfl | 1, _ => rfl | 2, hi => cases hi | 3, hi => cases hi | 4, hi => cases hi | 5, hi => cases hi | 6, hi => cases hi | n + 7, hi => cases hi)) ?_
  refine z_aload dX2_copy_16 rfl (z_getR dX2_copy_17 fkX2_18 (in_5 hv) sh_5 rfl (z_aload dX2_copy_20 rfl (z_getR dX2_copy_21 fkX2_18 (in_5 hw) sh_5 rfl (z_callSN dX2_copy_24 (tX11_copyRow (in_34 hv) sh_34 (in_34 hw) sh_34 (by decide)) (Nat.le_of_ble_eq_true rfl) cdX11_copyRow naX11_copyRow lkX2_34 stX11_copyRow rfl rfl (Nat.le_of_ble_eq_true rfl) ?_))))
  rw [zg_zg, zg_at, zg_ne hne]
  refine z_aload dX2_copy_27 rfl (z_getR dX2_copy_28 fkX2_22 (in_5 hv) sh_5 rfl (z_aload dX2_copy_31 rfl (z_getR dX2_copy_32 fkX2_22 (in_5 hw) sh_5 rfl (z_callSN dX2_copy_35 (tX11_copyRow (in_35 hv) sh_35 (in_35 hw) sh_35 (by decide)) (Nat.le_of_ble_eq_true rfl) cdX11_copyRow naX11_copyRow lkX2_34 stX11_copyRow rfl rfl (Nat.le_of_ble_eq_true rfl) ?_))))
  rw [zg_zg, zg_at, zg_ne hne]
  refine z_aload dX2_copy_38 rfl (z_getR dX2_copy_39 fkX2_25 (in_5 hv) sh_5 rfl (z_aload dX2_copy_42 rfl (z_getR dX2_copy_43 fkX2_25 (in_5 hw) sh_5 rfl (z_callSN dX2_copy_46 (tX11_copyRow (in_36 hv) sh_36 (in_36 hw) sh_36 (by decide)) (Nat.le_of_ble_eq_true rfl) cdX11_copyRow naX11_copyRow lkX2_34 stX11_copyRow rfl rfl (Nat.le_of_ble_eq_true rfl) ?_))))
  rw [zg_zg, zg_at, zg_ne hne]
  refine z_aload dX2_copy_49 rfl (z_getR dX2_copy_50 fkX2_28 (in_5 hv) sh_5 rfl (z_aload dX2_copy_53 rfl (z_getR dX2_copy_54 fkX2_28 (in_5 hw) sh_5 rfl (z_callSN dX2_copy_57 (tX11_copyRow (in_37 hv) sh_37 (in_37 hw) sh_37 (by decide)) (Nat.le_of_ble_eq_true rfl) cdX11_copyRow naX11_copyRow lkX2_34 stX11_copyRow rfl rfl (Nat.le_of_ble_eq_true rfl) ?_))))
  rw [zg_zg, zg_at, zg_ne hne]
  refine z_aload dX2_copy_60 rfl (z_getR dX2_copy_61 fkX2_31 (in_5 hv) sh_5 rfl (z_aload dX2_copy_64 rfl (z_getR dX2_copy_65 fkX2_31 (in_5 hw) sh_5 rfl (z_callSN dX2_copy_68 (tX11_copyRow (in_38 hv) sh_38 (in_38 hw) sh_38 (by decide)) (Nat.le_of_ble_eq_true rfl) cdX11_copyRow naX11_copyRow lkX2_34 stX11_copyRow rfl rfl (Nat.le_of_ble_eq_true rfl) ?_))))
  rw [zg_zg, zg_at, zg_ne hne]
  exact z_vretQ dX2_copy_71 rfl rfl
set_option maxRecDepth 20000 in
set_option maxHeartbeats 4000000 in
theorem tX9_copy {μ : zM} {w v : Nat} (hw : w < 3) (hv : v < 3) (hne : v + 4 ≠ w + 4) {X : zX} : LM mX9_copy 2 [zq (w + 4) 6, zq (v + 4) 6] (zg μ (w + 4) X) none (zg μ (w + 4) (zr (zr (zr (zr (zr (zr (zr X 6 (μ (v + 4) 6)) 39 (μ (v + 4) 39)) 40 (μ (v + 4) 40)) 41 (μ (v + 4) 41)) 42 (μ (v + 4) 42)) 43 (μ (v + 4) 43)) 44 (μ (v + 4) 44))) := by
  refine LM.of (by decide +kernel) rfl (Nat.le_of_ble_eq_true rfl) ?_
  show zJ mX9_copy 2 (0, 0) (0, 0) _ 0 [some (zq (w + 4) 6), some (zq (v + 4) 6)] [] _
  refine z_rowf 6 ?_
  refine z_aload dX9_copy_0 rfl (z_aload dX9_copy_1 rfl (z_getS dX9_copy_2 fkX9_9 (in_6 hv) sh_6 rfl hne (z_putZ dX9_copy_5 fkX9_9 (in_6 hw) sh_6 rfl (fun _ _ _ h => by cases h; rfl) ⟨_, rfl, rfl, rfl⟩ ?_)))
  refine z_agree (zag_obj (sh_6 (w := w)) (r' := μ (v + 4) 6) (fun i hi => by match i, hi with | 0, _ => rfl | 1, hi => cases hi | 2, hi => cases hi | 3, hi => cases hi | 4, hi => cases hi | 5, hi => cases hi | 6, hi => cases hi | n + 7, hi => cases hi)) ?_
  refine z_aload dX9_copy_8 rfl (z_getR dX9_copy_9 fkX9_19 (in_6 hv) sh_6 rfl (z_aload dX9_copy_12 rfl (z_getR dX9_copy_13 fkX9_19 (in_6 hw) sh_6 rfl (z_callSN dX9_copy_16 (tX11_copyRow (in_39 hv) sh_39 (in_39 hw) sh_39 (by decide)) (Nat.le_of_ble_eq_true rfl) cdX11_copyRow naX11_copyRow lkX9_38 stX11_copyRow rfl rfl (Nat.le_of_ble_eq_true rfl) ?_))))
  rw [zg_zg, zg_at, zg_ne hne]
  refine z_aload dX9_copy_19 rfl (z_getR dX9_copy_20 fkX9_23 (in_6 hv) sh_6 rfl (z_aload dX9_copy_23 rfl (z_getR dX9_copy_24 fkX9_23 (in_6 hw) sh_6 rfl (z_callSN dX9_copy_27 (tX11_copyRow (in_40 hv) sh_40 (in_40 hw) sh_40 (by decide)) (Nat.le_of_ble_eq_true rfl) cdX11_copyRow naX11_copyRow lkX9_38 stX11_copyRow rfl rfl (Nat.le_of_ble_eq_true rfl) ?_))))
  rw [zg_zg, zg_at, zg_ne hne]
  refine z_aload dX9_copy_30 rfl (z_getR dX9_copy_31 fkX9_26 (in_6 hv) sh_6 rfl (z_aload dX9_copy_34 rfl (z_getR dX9_copy_35 fkX9_26 (in_6 hw) sh_6 rfl (z_callSN dX9_copy_38 (tX11_copyRow (in_41 hv) sh_41 (in_41 hw) sh_41 (by decide)) (Nat.le_of_ble_eq_true rfl) cdX11_copyRow naX11_copyRow lkX9_38 stX11_copyRow rfl rfl (Nat.le_of_ble_eq_true rfl) ?_))))
  rw [zg_zg, zg_at, zg_ne hne]
  refine z_aload dX9_copy_41 rfl (z_getR dX9_copy_42 fkX9_29 (in_6 hv) sh_6 rfl (z_aload dX9_copy_45 rfl (z_getR dX9_copy_46 fkX9_29 (in_6 hw) sh_6 rfl (z_callSN dX9_copy_49 (tX11_copyRow (in_42 hv) sh_42 (in_42 hw) sh_42 (by decide)) (Nat.le_of_ble_eq_true rfl) cdX11_copyRow naX11_copyRow lkX9_38 stX11_copyRow rfl rfl (Nat.le_of_ble_eq_true rfl) ?_))))
  rw [zg_zg, zg_at, zg_ne hne]
  refine z_aload dX9_copy_52 rfl (z_getR dX9_copy_53 fkX9_32 (in_6 hv) sh_6 rfl (z_aload dX9_copy_56 rfl (z_getR dX9_copy_57 fkX9_32 (in_6 hw) sh_6 rfl (z_callSN dX9_copy_60 (tX11_copyRow (in_43 hv) sh_43 (in_43 hw) sh_43 (by decide)) (Nat.le_of_ble_eq_true rfl) cdX11_copyRow naX11_copyRow lkX9_38 stX11_copyRow rfl rfl (Nat.le_of_ble_eq_true rfl) ?_))))
  rw [zg_zg, zg_at, zg_ne hne]
  refine z_aload dX9_copy_63 rfl (z_getR dX9_copy_64 fkX9_35 (in_6 hv) sh_6 rfl (z_aload dX9_copy_67 rfl (z_getR dX9_copy_68 fkX9_35 (in_6 hw) sh_6 rfl (z_callSN dX9_copy_71 (tX11_copyRow (in_44 hv) sh_44 (in_44 hw) sh_44 (by decide)) (Nat.le_of_ble_eq_true rfl) cdX11_copyRow naX11_copyRow lkX9_38 stX11_copyRow rfl rfl (Nat.le_of_ble_eq_true rfl) ?_))))
  rw [zg_zg, zg_at, zg_ne hne]
  exact z_vretQ dX9_copy_74 rfl rfl
set_option maxRecDepth 20000 in
set_option maxHeartbeats 4000000 in
theorem tX0_copy {μ : zM} {w v : Nat} (hw : w < 3) (hv : v < 3) (hne : v + 4 ≠ w + 4) {X : zX} : LM mX0_copy 2 [zq (w + 4) 7, zq (v + 4) 7] (zg μ (w + 4) X) none (zg μ (w + 4) (zr (zr (zr (zr (zr (zr (zr (zr (zr (zr (zr X 7 (μ (v + 4) 7)) 45 (μ (v + 4) 45)) 46 (μ (v + 4) 46)) 47 (μ (v + 4) 47)) 48 (μ (v + 4) 48)) 49 (μ (v + 4) 49)) 50 (μ (v + 4) 50)) 51 (μ (v + 4) 51)) 52 (μ (v + 4) 52)) 53 (μ (v + 4) 53)) 54 (μ (v + 4) 54))) := by
  refine LM.of (by decide +kernel) rfl (Nat.le_of_ble_eq_true rfl) ?_
  show zJ mX0_copy 2 (0, 0) (0, 0) _ 0 [some (zq (w + 4) 7), some (zq (v + 4) 7)] [] _
  refine z_rowf 7 ?_
  refine z_aload dX0_copy_0 rfl (z_aload dX0_copy_1 rfl (z_getS dX0_copy_2 fkX0_9 (in_7 hv) sh_7 rfl hne (z_putZ dX0_copy_5 fkX0_9 (in_7 hw) sh_7 rfl (fun _ _ _ h => by cases h; rfl) ⟨_, rfl, rfl, rfl⟩ ?_)))
  refine z_agree (zag_obj (sh_7 (w := w)) (r' := μ (v + 4) 7) (fun i hi => by match i, hi with | 0, _ => rfl | 1, hi => cases hi | 2, hi => cases hi | 3, hi => cases hi | 4, hi => cases hi | 5, hi => cases hi | 6, hi => cases hi | 7, hi => cases hi | 8, hi => cases hi | 9, hi => cases hi | 10, hi => cases hi | n + 11, hi => cases hi)) ?_
  refine z_aload dX0_copy_8 rfl (z_getR dX0_copy_9 fkX0_15 (in_7 hv) sh_7 rfl (z_aload dX0_copy_12 rfl (z_getR dX0_copy_13 fkX0_15 (in_7 hw) sh_7 rfl (z_callSN dX0_copy_16 (tX11_copyRow (in_45 hv) sh_45 (in_45 hw) sh_45 (by decide)) (Nat.le_of_ble_eq_true rfl) cdX11_copyRow naX11_copyRow lkX0_46 stX11_copyRow rfl rfl (Nat.le_of_ble_eq_true rfl) ?_))))
  rw [zg_zg, zg_at, zg_ne hne]
  refine z_aload dX0_copy_19 rfl (z_getR dX0_copy_20 fkX0_19 (in_7 hv) sh_7 rfl (z_aload dX0_copy_23 rfl (z_getR dX0_copy_24 fkX0_19 (in_7 hw) sh_7 rfl (z_callSN dX0_copy_27 (tX11_copyRow (in_46 hv) sh_46 (in_46 hw) sh_46 (by decide)) (Nat.le_of_ble_eq_true rfl) cdX11_copyRow naX11_copyRow lkX0_46 stX11_copyRow rfl rfl (Nat.le_of_ble_eq_true rfl) ?_))))
  rw [zg_zg, zg_at, zg_ne hne]
  refine z_aload dX0_copy_30 rfl (z_getR dX0_copy_31 fkX0_22 (in_7 hv) sh_7 rfl (z_aload dX0_copy_34 rfl (z_getR dX0_copy_35 fkX0_22 (in_7 hw) sh_7 rfl (z_callSN dX0_copy_38 (tX11_copyRow (in_47 hv) sh_47 (in_47 hw) sh_47 (by decide)) (Nat.le_of_ble_eq_true rfl) cdX11_copyRow naX11_copyRow lkX0_46 stX11_copyRow rfl rfl (Nat.le_of_ble_eq_true rfl) ?_))))
  rw [zg_zg, zg_at, zg_ne hne]
  refine z_aload dX0_copy_41 rfl (z_getR dX0_copy_42 fkX0_25 (in_7 hv) sh_7 rfl (z_aload dX0_copy_45 rfl (z_getR dX0_copy_46 fkX0_25 (in_7 hw) sh_7 rfl (z_callSN dX0_copy_49 (tX11_copyRow (in_48 hv) sh_48 (in_48 hw) sh_48 (by decide)) (Nat.le_of_ble_eq_true rfl) cdX11_copyRow naX11_copyRow lkX0_46 stX11_copyRow rfl rfl (Nat.le_of_ble_eq_true rfl) ?_))))
  rw [zg_zg, zg_at, zg_ne hne]
  refine z_aload dX0_copy_52 rfl (z_getR dX0_copy_53 fkX0_28 (in_7 hv) sh_7 rfl (z_aload dX0_copy_56 rfl (z_getR dX0_copy_57 fkX0_28 (in_7 hw) sh_7 rfl (z_callSN dX0_copy_60 (tX11_copyRow (in_49 hv) sh_49 (in_49 hw) sh_49 (by decide)) (Nat.le_of_ble_eq_true rfl) cdX11_copyRow naX11_copyRow lkX0_46 stX11_copyRow rfl rfl (Nat.le_of_ble_eq_true rfl) ?_))))
  rw [zg_zg, zg_at, zg_ne hne]
  refine z_aload dX0_copy_63 rfl (z_getR dX0_copy_64 fkX0_31 (in_7 hv) sh_7 rfl (z_aload dX0_copy_67 rfl (z_getR dX0_copy_68 fkX0_31 (in_7 hw) sh_7 rfl (z_callSN dX0_copy_71 (tX11_copyRow (in_50 hv) sh_50 (in_50 hw) sh_50 (by decide)) (Nat.le_of_ble_eq_true rfl) cdX11_copyRow naX11_copyRow lkX0_46 stX11_copyRow rfl rfl (Nat.le_of_ble_eq_true rfl) ?_))))
  rw [zg_zg, zg_at, zg_ne hne]
  refine z_aload dX0_copy_74 rfl (z_getR dX0_copy_75 fkX0_34 (in_7 hv) sh_7 rfl (z_aload dX0_copy_78 rfl (z_getR dX0_copy_79 fkX0_34 (in_7 hw) sh_7 rfl (z_callSN dX0_copy_82 (tX11_copyRow (in_51 hv) sh_51 (in_51 hw) sh_51 (by decide)) (Nat.le_of_ble_eq_true rfl) cdX11_copyRow naX11_copyRow lkX0_46 stX11_copyRow rfl rfl (Nat.le_of_ble_eq_true rfl) ?_))))
  rw [zg_zg, zg_at, zg_ne hne]
  refine z_aload dX0_copy_85 rfl (z_getR dX0_copy_86 fkX0_37 (in_7 hv) sh_7 rfl (z_aload dX0_copy_89 rfl (z_getR dX0_copy_90 fkX0_37 (in_7 hw) sh_7 rfl (z_callSN dX0_copy_93 (tX11_copyRow (in_52 hv) sh_52 (in_52 hw) sh_52 (by decide)) (Nat.le_of_ble_eq_true rfl) cdX11_copyRow naX11_copyRow lkX0_46 stX11_copyRow rfl rfl (Nat.le_of_ble_eq_true rfl) ?_))))
  rw [zg_zg, zg_at, zg_ne hne]
  refine z_aload dX0_copy_96 rfl (z_getR dX0_copy_97 fkX0_40 (in_7 hv) sh_7 rfl (z_aload dX0_copy_100 rfl (z_getR dX0_copy_101 fkX0_40 (in_7 hw) sh_7 rfl (z_callSN dX0_copy_104 (tX11_copyRow (in_53 hv) sh_53 (in_53 hw) sh_53 (by decide)) (Nat.le_of_ble_eq_true rfl) cdX11_copyRow naX11_copyRow lkX0_46 stX11_copyRow rfl rfl (Nat.le_of_ble_eq_true rfl) ?_))))
  rw [zg_zg, zg_at, zg_ne hne]
  refine z_aload dX0_copy_107 rfl (z_getR dX0_copy_108 fkX0_43 (in_7 hv) sh_7 rfl (z_aload dX0_copy_111 rfl (z_getR dX0_copy_112 fkX0_43 (in_7 hw) sh_7 rfl (z_callSN dX0_copy_115 (tX11_copyRow (in_54 hv) sh_54 (in_54 hw) sh_54 (by decide)) (Nat.le_of_ble_eq_true rfl) cdX11_copyRow naX11_copyRow lkX0_46 stX11_copyRow rfl rfl (Nat.le_of_ble_eq_true rfl) ?_))))
  rw [zg_zg, zg_at, zg_ne hne]
  exact z_vretQ dX0_copy_118 rfl rfl
set_option maxRecDepth 20000 in
set_option maxHeartbeats 4000000 in
theorem tX3_copy {μ : zM} {w v : Nat} (hw : w < 3) (hv : v < 3) (hne : v + 4 ≠ w + 4) {X : zX} : LM mX3_copy 2 [zq (w + 4) 8, zq (v + 4) 8] (zg μ (w + 4) X) none (zg μ (w + 4) (zr (zr X 8 (μ (v + 4) 8)) 55 (μ (v + 4) 55))) := by
  refine LM.of (by decide +kernel) rfl (Nat.le_of_ble_eq_true rfl) ?_
  show zJ mX3_copy 2 (0, 0) (0, 0) _ 0 [some (zq (w + 4) 8), some (zq (v + 4) 8)] [] _
  refine z_rowf 8 ?_
  refine z_aload dX3_copy_0 rfl (z_aload dX3_copy_1 rfl (z_getS dX3_copy_2 fkX3_9 (in_8 hv) sh_8 rfl hne (z_putZ dX3_copy_5 fkX3_9 (in_8 hw) sh_8 rfl (fun _ _ _ h => by cases h; rfl) ⟨_, rfl, rfl, rfl⟩ ?_)))
  refine z_aload dX3_copy_8 rfl (z_aload dX3_copy_9 rfl (z_getS dX3_copy_10 fkX3_15 (in_8 hv) sh_8 rfl hne (z_putZ dX3_copy_13 fkX3_15 (in_8 hw) sh_8 rfl (fun _ _ _ h => by cases h; rfl) ⟨_, rfl, rfl, rfl⟩ ?_)))
  refine z_agree (zag_obj (sh_8 (w := w)) (r' := μ (v + 4) 8) (fun i hi => by match i, hi with | 0, _ => rfl | 1, _ => rfl | 2, hi => cases hi | n + 3, hi => cases hi)) ?_
  refine z_aload dX3_copy_16 rfl (z_getR dX3_copy_17 fkX3_18 (in_8 hv) sh_8 rfl (z_aload dX3_copy_20 rfl (z_getR dX3_copy_21 fkX3_18 (in_8 hw) sh_8 rfl (z_callSN dX3_copy_24 (tX11_copyRow (in_55 hv) sh_55 (in_55 hw) sh_55 (by decide)) (Nat.le_of_ble_eq_true rfl) cdX11_copyRow naX11_copyRow lkX3_22 stX11_copyRow rfl rfl (Nat.le_of_ble_eq_true rfl) ?_))))
  rw [zg_zg, zg_at, zg_ne hne]
  exact z_vretQ dX3_copy_27 rfl rfl
set_option maxRecDepth 20000 in
set_option maxHeartbeats 4000000 in
theorem tX10_copy {μ : zM} {w v : Nat} (hw : w < 3) (hv : v < 3) (hne : v + 4 ≠ w + 4) {X : zX} : LM mX10_copy 3 [zq (w + 4) 0, zq (v + 4) 0] (zg μ (w + 4) X) none (zg μ (w + 4) (zr (zr (zr (zr (zr (zr (zr (zr (zr (zr (zr (zr (zr (zr (zr (zr (zr (zr (zr (zr (zr (zr (zr (zr (zr (zr (zr (zr (zr (zr (zr (zr (zr (zr (zr (zr (zr (zr (zr (zr (zr (zr (zr (zr (zr (zr (zr (zr (zr (zr (zr (zr (zr (zr (zr X 1 (μ (v + 4) 1)) 2 (μ (v + 4) 2)) 3 (μ (v + 4) 3)) 9 (μ (v + 4) 9)) 10 (μ (v + 4) 10)) 11 (μ (v + 4) 11)) 12 (μ (v + 4) 12)) 13 (μ (v + 4) 13)) 14 (μ (v + 4) 14)) 15 (μ (v + 4) 15)) 16 (μ (v + 4) 16)) 17 (μ (v + 4) 17)) 18 (μ (v + 4) 18)) 19 (μ (v + 4) 19)) 20 (μ (v + 4) 20)) 21 (μ (v + 4) 21)) 22 (μ (v + 4) 22)) 23 (μ (v + 4) 23)) 24 (μ (v + 4) 24)) 25 (μ (v + 4) 25)) 26 (μ (v + 4) 26)) 27 (μ (v + 4) 27)) 28 (μ (v + 4) 28)) 29 (μ (v + 4) 29)) 30 (μ (v + 4) 30)) 31 (μ (v + 4) 31)) 32 (μ (v + 4) 32)) 33 (μ (v + 4) 33)) 5 (μ (v + 4) 5)) 34 (μ (v + 4) 34)) 35 (μ (v + 4) 35)) 36 (μ (v + 4) 36)) 37 (μ (v + 4) 37)) 38 (μ (v + 4) 38)) 6 (μ (v + 4) 6)) 39 (μ (v + 4) 39)) 40 (μ (v + 4) 40)) 41 (μ (v + 4) 41)) 42 (μ (v + 4) 42)) 43 (μ (v + 4) 43)) 44 (μ (v + 4) 44)) 7 (μ (v + 4) 7)) 45 (μ (v + 4) 45)) 46 (μ (v + 4) 46)) 47 (μ (v + 4) 47)) 48 (μ (v + 4) 48)) 49 (μ (v + 4) 49)) 50 (μ (v + 4) 50)) 51 (μ (v + 4) 51)) 52 (μ (v + 4) 52)) 53 (μ (v + 4) 53)) 54 (μ (v + 4) 54)) 8 (μ (v + 4) 8)) 55 (μ (v + 4) 55)) 0 (μ (v + 4) 0))) := by
  refine LM.of (by decide +kernel) rfl (Nat.le_of_ble_eq_true rfl) ?_
  show zJ mX10_copy 3 (0, 0) (0, 0) _ 0 [some (zq (w + 4) 0), some (zq (v + 4) 0)] [] _
  refine z_aload dX10_copy_0 rfl (z_getR dX10_copy_1 fkX10_12 (in_0 hw) sh_0 rfl (z_aload dX10_copy_4 rfl (z_getR dX10_copy_5 fkX10_12 (in_0 hv) sh_0 rfl (z_callV dX10_copy_8 (tX8_copy hw hv hne) (Nat.le_of_ble_eq_true rfl) cdX8_copy naX8_copy lkX10_86 imX8_copy seX8_copy (in_1 hw) sh_1 rfl rfl rfl (Nat.le_of_ble_eq_true rfl) ?_))))
  refine z_aload dX10_copy_11 rfl (z_getR dX10_copy_12 fkX10_21 (in_0 hw) sh_0 rfl (z_aload dX10_copy_15 rfl (z_getR dX10_copy_16 fkX10_21 (in_0 hv) sh_0 rfl (z_callV dX10_copy_19 (tX1_copy hw hv hne) (Nat.le_of_ble_eq_true rfl) cdX1_copy naX1_copy lkX10_90 imX1_copy seX1_copy (in_2 hw) sh_2 rfl rfl rfl (Nat.le_of_ble_eq_true rfl) ?_))))
  refine z_aload dX10_copy_22 rfl (z_getR dX10_copy_23 fkX10_28 (in_0 hw) sh_0 rfl (z_aload dX10_copy_26 rfl (z_getR dX10_copy_27 fkX10_28 (in_0 hv) sh_0 rfl (z_callV dX10_copy_30 (tX4_copy hw hv hne) (Nat.le_of_ble_eq_true rfl) cdX4_copy naX4_copy lkX10_93 imX4_copy seX4_copy (in_3 hw) sh_3 rfl rfl rfl (Nat.le_of_ble_eq_true rfl) ?_))))
  refine z_aload dX10_copy_33 rfl (z_getR dX10_copy_34 fkX10_35 (in_0 hw) sh_0 rfl (z_aload dX10_copy_37 rfl (z_getR dX10_copy_38 fkX10_35 (in_0 hv) sh_0 rfl (z_callV dX10_copy_41 (tX5_copy hw hv hne) (Nat.le_of_ble_eq_true rfl) cdX5_copy naX5_copy lkX10_96 imX5_copy seX5_copy (in_4 hw) sh_4 rfl rfl rfl (Nat.le_of_ble_eq_true rfl) ?_))))
  refine z_aload dX10_copy_44 rfl (z_getR dX10_copy_45 fkX10_42 (in_0 hw) sh_0 rfl (z_aload dX10_copy_48 rfl (z_getR dX10_copy_49 fkX10_42 (in_0 hv) sh_0 rfl (z_callV dX10_copy_52 (tX2_copy hw hv hne) (Nat.le_of_ble_eq_true rfl) cdX2_copy naX2_copy lkX10_99 imX2_copy seX2_copy (in_5 hw) sh_5 rfl rfl rfl (Nat.le_of_ble_eq_true rfl) ?_))))
  refine z_aload dX10_copy_55 rfl (z_getR dX10_copy_56 fkX10_49 (in_0 hw) sh_0 rfl (z_aload dX10_copy_59 rfl (z_getR dX10_copy_60 fkX10_49 (in_0 hv) sh_0 rfl (z_callV dX10_copy_63 (tX9_copy hw hv hne) (Nat.le_of_ble_eq_true rfl) cdX9_copy naX9_copy lkX10_102 imX9_copy seX9_copy (in_6 hw) sh_6 rfl rfl rfl (Nat.le_of_ble_eq_true rfl) ?_))))
  refine z_aload dX10_copy_66 rfl (z_getR dX10_copy_67 fkX10_56 (in_0 hw) sh_0 rfl (z_aload dX10_copy_70 rfl (z_getR dX10_copy_71 fkX10_56 (in_0 hv) sh_0 rfl (z_callV dX10_copy_74 (tX0_copy hw hv hne) (Nat.le_of_ble_eq_true rfl) cdX0_copy naX0_copy lkX10_105 imX0_copy seX0_copy (in_7 hw) sh_7 rfl rfl rfl (Nat.le_of_ble_eq_true rfl) ?_))))
  refine z_aload dX10_copy_77 rfl (z_getR dX10_copy_78 fkX10_63 (in_0 hw) sh_0 rfl (z_aload dX10_copy_81 rfl (z_getR dX10_copy_82 fkX10_63 (in_0 hv) sh_0 rfl (z_callV dX10_copy_85 (tX3_copy hw hv hne) (Nat.le_of_ble_eq_true rfl) cdX3_copy naX3_copy lkX10_108 imX3_copy seX3_copy (in_8 hw) sh_8 rfl rfl rfl (Nat.le_of_ble_eq_true rfl) ?_))))
  refine z_rowf 0 ?_
  refine z_aload dX10_copy_88 rfl (z_aload dX10_copy_89 rfl (z_getS dX10_copy_90 fkX10_67 (in_0 hv) sh_0 rfl hne (z_putZ dX10_copy_93 fkX10_67 (in_0 hw) sh_0 rfl (fun _ _ _ h => by cases h; rfl) ⟨_, rfl, rfl, rfl⟩ ?_)))
  refine z_aload dX10_copy_96 rfl (z_aload dX10_copy_97 rfl (z_getS dX10_copy_98 fkX10_71 (in_0 hv) sh_0 rfl hne (z_putZ dX10_copy_101 fkX10_71 (in_0 hw) sh_0 rfl (fun _ _ _ h => by cases h; rfl) ⟨_, rfl, rfl, rfl⟩ ?_)))
  refine z_aload dX10_copy_104 rfl (z_aload dX10_copy_105 rfl (z_getS dX10_copy_106 fkX10_74 (in_0 hv) sh_0 rfl hne (z_putZ dX10_copy_109 fkX10_74 (in_0 hw) sh_0 rfl (fun _ _ _ h => by cases h; rfl) ⟨_, rfl, rfl, rfl⟩ ?_)))
  refine z_aload dX10_copy_112 rfl (z_aload dX10_copy_113 rfl (z_getS dX10_copy_114 fkX10_77 (in_0 hv) sh_0 rfl hne (z_putZ dX10_copy_117 fkX10_77 (in_0 hw) sh_0 rfl (fun _ _ _ h => by cases h; rfl) ⟨_, rfl, rfl, rfl⟩ ?_)))
  refine z_aload dX10_copy_120 rfl (z_aload dX10_copy_121 rfl (z_getS dX10_copy_122 fkX10_80 (in_0 hv) sh_0 rfl hne (z_putZ dX10_copy_125 fkX10_80 (in_0 hw) sh_0 rfl (fun _ _ _ h => by cases h; rfl) ⟨_, rfl, rfl, rfl⟩ ?_)))
  refine z_aload dX10_copy_128 rfl (z_aload dX10_copy_129 rfl (z_getS dX10_copy_130 fkX10_83 (in_0 hv) sh_0 rfl hne (z_putZ dX10_copy_133 fkX10_83 (in_0 hw) sh_0 rfl (fun _ _ _ h => by cases h; rfl) ⟨_, rfl, rfl, rfl⟩ ?_)))
  refine z_agree (zag_obj (sh_0 (w := w)) (r' := μ (v + 4) 0) (fun i hi => by match i, hi with | 0, hi => cases hi | 1, hi => cases hi | 2, hi => cases hi | 3, hi => cases hi | 4, hi => cases hi | 5, hi => cases hi | 6, hi => cases hi | 7, hi => cases hi | 8, _ => rfl | 9, _ => rfl | 10, _ => rfl | 11, _ => rfl | 12, _ => rfl | 13, _ => rfl | n + 14, hi => cases hi)) ?_
  exact z_vretQ dX10_copy_136 rfl rfl
theorem zag_all {μ : zM} {w v : Nat} {X : zX} : zag (zg μ (w + 4) (zr (zr (zr (zr (zr (zr (zr (zr (zr (zr (zr (zr (zr (zr (zr (zr (zr (zr (zr (zr (zr (zr (zr (zr (zr (zr (zr (zr (zr (zr (zr (zr (zr (zr (zr (zr (zr (zr (zr (zr (zr (zr (zr (zr (zr (zr (zr (zr (zr (zr (zr (zr (zr (zr (zr X 1 (μ (v + 4) 1)) 2 (μ (v + 4) 2)) 3 (μ (v + 4) 3)) 9 (μ (v + 4) 9)) 10 (μ (v + 4) 10)) 11 (μ (v + 4) 11)) 12 (μ (v + 4) 12)) 13 (μ (v + 4) 13)) 14 (μ (v + 4) 14)) 15 (μ (v + 4) 15)) 16 (μ (v + 4) 16)) 17 (μ (v + 4) 17)) 18 (μ (v + 4) 18)) 19 (μ (v + 4) 19)) 20 (μ (v + 4) 20)) 21 (μ (v + 4) 21)) 22 (μ (v + 4) 22)) 23 (μ (v + 4) 23)) 24 (μ (v + 4) 24)) 25 (μ (v + 4) 25)) 26 (μ (v + 4) 26)) 27 (μ (v + 4) 27)) 28 (μ (v + 4) 28)) 29 (μ (v + 4) 29)) 30 (μ (v + 4) 30)) 31 (μ (v + 4) 31)) 32 (μ (v + 4) 32)) 33 (μ (v + 4) 33)) 5 (μ (v + 4) 5)) 34 (μ (v + 4) 34)) 35 (μ (v + 4) 35)) 36 (μ (v + 4) 36)) 37 (μ (v + 4) 37)) 38 (μ (v + 4) 38)) 6 (μ (v + 4) 6)) 39 (μ (v + 4) 39)) 40 (μ (v + 4) 40)) 41 (μ (v + 4) 41)) 42 (μ (v + 4) 42)) 43 (μ (v + 4) 43)) 44 (μ (v + 4) 44)) 7 (μ (v + 4) 7)) 45 (μ (v + 4) 45)) 46 (μ (v + 4) 46)) 47 (μ (v + 4) 47)) 48 (μ (v + 4) 48)) 49 (μ (v + 4) 49)) 50 (μ (v + 4) 50)) 51 (μ (v + 4) 51)) 52 (μ (v + 4) 52)) 53 (μ (v + 4) 53)) 54 (μ (v + 4) 54)) 8 (μ (v + 4) 8)) 55 (μ (v + 4) 55)) 0 (μ (v + 4) 0))) (zg μ (w + 4) (μ (v + 4))) := by
  have key : ∀ b, b < 56 → b ≠ 4 → (zr (zr (zr (zr (zr (zr (zr (zr (zr (zr (zr (zr (zr (zr (zr (zr (zr (zr (zr (zr (zr (zr (zr (zr (zr (zr (zr (zr (zr (zr (zr (zr (zr (zr (zr (zr (zr (zr (zr (zr (zr (zr (zr (zr (zr (zr (zr (zr (zr (zr (zr (zr (zr (zr (zr X 1 (μ (v + 4) 1)) 2 (μ (v + 4) 2)) 3 (μ (v + 4) 3)) 9 (μ (v + 4) 9)) 10 (μ (v + 4) 10)) 11 (μ (v + 4) 11)) 12 (μ (v + 4) 12)) 13 (μ (v + 4) 13)) 14 (μ (v + 4) 14)) 15 (μ (v + 4) 15)) 16 (μ (v + 4) 16)) 17 (μ (v + 4) 17)) 18 (μ (v + 4) 18)) 19 (μ (v + 4) 19)) 20 (μ (v + 4) 20)) 21 (μ (v + 4) 21)) 22 (μ (v + 4) 22)) 23 (μ (v + 4) 23)) 24 (μ (v + 4) 24)) 25 (μ (v + 4) 25)) 26 (μ (v + 4) 26)) 27 (μ (v + 4) 27)) 28 (μ (v + 4) 28)) 29 (μ (v + 4) 29)) 30 (μ (v + 4) 30)) 31 (μ (v + 4) 31)) 32 (μ (v + 4) 32)) 33 (μ (v + 4) 33)) 5 (μ (v + 4) 5)) 34 (μ (v + 4) 34)) 35 (μ (v + 4) 35)) 36 (μ (v + 4) 36)) 37 (μ (v + 4) 37)) 38 (μ (v + 4) 38)) 6 (μ (v + 4) 6)) 39 (μ (v + 4) 39)) 40 (μ (v + 4) 40)) 41 (μ (v + 4) 41)) 42 (μ (v + 4) 42)) 43 (μ (v + 4) 43)) 44 (μ (v + 4) 44)) 7 (μ (v + 4) 7)) 45 (μ (v + 4) 45)) 46 (μ (v + 4) 46)) 47 (μ (v + 4) 47)) 48 (μ (v + 4) 48)) 49 (μ (v + 4) 49)) 50 (μ (v + 4) 50)) 51 (μ (v + 4) 51)) 52 (μ (v + 4) 52)) 53 (μ (v + 4) 53)) 54 (μ (v + 4) 54)) 8 (μ (v + 4) 8)) 55 (μ (v + 4) 55)) 0 (μ (v + 4) 0)) b = μ (v + 4) b := by
    intro b hb h4
    match b, hb, h4 with
    | 0, _, _ => rfl
    | 1, _, _ => rfl
    | 2, _, _ => rfl
    | 3, _, _ => rfl
    | 4, _, h4 => exact absurd rfl h4
    | 5, _, _ => rfl
    | 6, _, _ => rfl
    | 7, _, _ => rfl
    | 8, _, _ => rfl
    | 9, _, _ => rfl
    | 10, _, _ => rfl
    | 11, _, _ => rfl
    | 12, _, _ => rfl
    | 13, _, _ => rfl
    | 14, _, _ => rfl
    | 15, _, _ => rfl
    | 16, _, _ => rfl
    | 17, _, _ => rfl
    | 18, _, _ => rfl
    | 19, _, _ => rfl
    | 20, _, _ => rfl
    | 21, _, _ => rfl
    | 22, _, _ => rfl
    | 23, _, _ => rfl
    | 24, _, _ => rfl
    | 25, _, _ => rfl
    | 26, _, _ => rfl
    | 27, _, _ => rfl
    | 28, _, _ => rfl
    | 29, _, _ => rfl
    | 30, _, _ => rfl
    | 31, _, _ => rfl
    | 32, _, _ => rfl
    | 33, _, _ => rfl
    | 34, _, _ => rfl
    | 35, _, _ => rfl
    | 36, _, _ => rfl
    | 37, _, _ => rfl
    | 38, _, _ => rfl
    | 39, _, _ => rfl
    | 40, _, _ => rfl
    | 41, _, _ => rfl
    | 42, _, _ => rfl
    | 43, _, _ => rfl
    | 44, _, _ => rfl
    | 45, _, _ => rfl
    | 46, _, _ => rfl
    | 47, _, _ => rfl
    | 48, _, _ => rfl
    | 49, _, _ => rfl
    | 50, _, _ => rfl
    | 51, _, _ => rfl
    | 52, _, _ => rfl
    | 53, _, _ => rfl
    | 54, _, _ => rfl
    | 55, _, _ => rfl
    | n + 56, hb, _ => exact absurd hb (by omega)
  intro a b sh hab hsab
  by_cases ha : a = w + 4
  · subst ha
    have hb : b < 56 := by
      rcases Nat.lt_or_ge b 56 with q | q
      · exact q
      · exfalso
        obtain ⟨c, rfl⟩ : ∃ c, b = c + 56 := ⟨b - 56, by omega⟩
        have : zsh (w + 4) (c + 56) = none := by
          show zwsh (w + 4) (c + 47 + 9) = none
          simp only [zwsh]
          rw [if_neg (by omega), if_neg (by omega), if_neg (by omega), if_neg (by omega), if_neg (by omega), if_neg (by omega), if_neg (by omega), if_neg (by omega)]
        rw [this] at hsab
        cases hsab
    by_cases h4 : b = 4
    · subst h4
      have : zsh (w + 4) 4 = some (.inr (5, [some (w + 4, 21), some (w + 4, 22), some (w + 4, 23), some (w + 4, 24), some (w + 4, 25), some (w + 4, 26), some (w + 4, 27), some (w + 4, 28), some (w + 4, 29), some (w + 4, 30), some (w + 4, 31), some (w + 4, 32), some (w + 4, 33)])) := rfl
      rw [this] at hsab
      cases hsab
      intro i hi
      have : ∀ o ∈ [some (w + 4, 21), some (w + 4, 22), some (w + 4, 23), some (w + 4, 24), some (w + 4, 25), some (w + 4, 26), some (w + 4, 27), some (w + 4, 28), some (w + 4, 29), some (w + 4, 30), some (w + 4, 31), some (w + 4, 32), some (w + 4, 33)], o ≠ none := by simp
      exact absurd rfl (this _ (List.mem_of_getElem? hi))
    rw [zg_at, zg_at, key b hb h4]
    rcases sh with ⟨t, m⟩ | ⟨c, fl⟩
    · exact fun i _ => rfl
    · exact fun i _ => rfl
  · rw [zg_ne ha, zg_ne ha]
    rcases sh with ⟨t, m⟩ | ⟨c, fl⟩
    · exact fun i _ => rfl
    · exact fun i _ => rfl
theorem tX10_cp {μ : zM} {w v : Nat} (hw : w < 3) (hv : v < 3) (hne : v + 4 ≠ w + 4) {X : zX} : LM mX10_copy 3 [zq (w + 4) 0, zq (v + 4) 0] (zg μ (w + 4) X) none (zg μ (w + 4) (μ (v + 4))) := LM.agree zag_all (tX10_copy hw hv hne)
