theorem zx_IAE0 : ((vx_atS RX11 69 "java/lang/IllegalArgumentException" ["java/lang/RuntimeException", "java/lang/Exception"]).all fun w => zmemB w && zgw w) = true := by decide +kernel
theorem zx_IAE1 : ((Cond.classLink RX11 65 "java/lang/IllegalArgumentException" :: Cond.initialized "java/lang/IllegalArgumentException" :: vx_atS RX11 69 "java/lang/IllegalArgumentException" ["java/lang/RuntimeException", "java/lang/Exception"]).all fun w => vx_ot w) = true := by decide +kernel
theorem zx_IAE : zxF RX11 "java/lang/IllegalArgumentException" 65 69 ["java/lang/RuntimeException", "java/lang/Exception"] := ⟨by decide +kernel, by decide +kernel, zmem_of (by decide +kernel), zmem_of (by decide +kernel), fun w hw => by
  have := List.all_eq_true.mp zx_IAE0 w hw
  simp only [Bool.and_eq_true] at this
  exact ⟨zmem_of this.1, this.2⟩, fun w hw => List.all_eq_true.mp zx_IAE1 w hw, by decide⟩
theorem zx_ISE0 : ((vx_atS RX11 259 "java/lang/IllegalStateException" ["java/lang/RuntimeException", "java/lang/Exception"]).all fun w => zmemB w && zgw w) = true := by decide +kernel
theorem zx_ISE1 : ((Cond.classLink RX11 255 "java/lang/IllegalStateException" :: Cond.initialized "java/lang/IllegalStateException" :: vx_atS RX11 259 "java/lang/IllegalStateException" ["java/lang/RuntimeException", "java/lang/Exception"]).all fun w => vx_ot w) = true := by decide +kernel
theorem zx_ISE : zxF RX11 "java/lang/IllegalStateException" 255 259 ["java/lang/RuntimeException", "java/lang/Exception"] := ⟨by decide +kernel, by decide +kernel, zmem_of (by decide +kernel), zmem_of (by decide +kernel), fun w hw => by
  have := List.all_eq_true.mp zx_ISE0 w hw
  simp only [Bool.and_eq_true] at this
  exact ⟨zmem_of this.1, this.2⟩, fun w hw => List.all_eq_true.mp zx_ISE1 w hw, by decide⟩
theorem zx_IOB0 : ((vx_atS RX11 225 "java/lang/IndexOutOfBoundsException" ["java/lang/RuntimeException", "java/lang/Exception"]).all fun w => zmemB w && zgw w) = true := by decide +kernel
theorem zx_IOB1 : ((Cond.classLink RX11 221 "java/lang/IndexOutOfBoundsException" :: Cond.initialized "java/lang/IndexOutOfBoundsException" :: vx_atS RX11 225 "java/lang/IndexOutOfBoundsException" ["java/lang/RuntimeException", "java/lang/Exception"]).all fun w => vx_ot w) = true := by decide +kernel
theorem zx_IOB : zxF RX11 "java/lang/IndexOutOfBoundsException" 221 225 ["java/lang/RuntimeException", "java/lang/Exception"] := ⟨by decide +kernel, by decide +kernel, zmem_of (by decide +kernel), zmem_of (by decide +kernel), fun w hw => by
  have := List.all_eq_true.mp zx_IOB0 w hw
  simp only [Bool.and_eq_true] at this
  exact ⟨zmem_of this.1, this.2⟩, fun w hw => List.all_eq_true.mp zx_IOB1 w hw, by decide⟩
theorem zx_UOE0 : ((vx_atS RX11 79 "java/lang/UnsupportedOperationException" ["java/lang/RuntimeException", "java/lang/Exception"]).all fun w => zmemB w && zgw w) = true := by decide +kernel
theorem zx_UOE1 : ((Cond.classLink RX11 75 "java/lang/UnsupportedOperationException" :: Cond.initialized "java/lang/UnsupportedOperationException" :: vx_atS RX11 79 "java/lang/UnsupportedOperationException" ["java/lang/RuntimeException", "java/lang/Exception"]).all fun w => vx_ot w) = true := by decide +kernel
theorem zx_UOE : zxF RX11 "java/lang/UnsupportedOperationException" 75 79 ["java/lang/RuntimeException", "java/lang/Exception"] := ⟨by decide +kernel, by decide +kernel, zmem_of (by decide +kernel), zmem_of (by decide +kernel), fun w hw => by
  have := List.all_eq_true.mp zx_UOE0 w hw
  simp only [Bool.and_eq_true] at this
  exact ⟨zmem_of this.1, this.2⟩, fun w hw => List.all_eq_true.mp zx_UOE1 w hw, by decide⟩
def zoI : Int32 ⊕ String → zO
  | .inl r => .inl (some (zi r))
  | .inr E => .inr E
theorem zif_l {c : Prop} [Decidable c] {E0 : String} {r : Option zV} (h : (if c then (Sum.inr E0 : zO) else .inl none) = .inl r) : ¬ c ∧ r = none := by
  by_cases hc : c
  · rw [if_pos hc] at h; cases h
  · rw [if_neg hc] at h; cases h; exact ⟨hc, rfl⟩
theorem zif_r {c : Prop} [Decidable c] {E0 E : String} (h : (if c then (Sum.inr E0 : zO) else .inl none) = .inr E) : c ∧ E = E0 := by
  by_cases hc : c
  · rw [if_pos hc] at h; cases h; exact ⟨hc, rfl⟩
  · rw [if_neg hc] at h; cases h
theorem tX11_checkNode {x : Int32} {μ : zM} : LX mX11_checkNode 6 (1, 6) [zq 0 0, zi x] μ (if x < 0 ∨ μ 4 3 0 ≤ x then .inr "java/lang/IndexOutOfBoundsException" else .inl none) μ := by
  refine LX.of (by decide +kernel) rfl (Nat.le_of_ble_eq_true rfl) ?_
  show zJ mX11_checkNode 6 (1, 6) (0, 0) _ 0 [some (zq 0 0), some (zi x)] [] _
  have T : ∀ μ' : zM, μ' = μ → (x < 0 ∨ μ 4 3 0 ≤ x) → zJ mX11_checkNode 6 (1, 6) (0, 0) (zQX (1, 6) (if x < 0 ∨ μ 4 3 0 ≤ x then .inr "java/lang/IndexOutOfBoundsException" else .inl none) μ) 18 [some (zq 0 0), some (zi x)] [] μ' := by
    intro μ' e c
    subst e
    exact z_throwSW zx_IOB (i := 13) rfl rfl rfl dX11_checkNode_18.1 dX11_checkNode_21.1 dX11_checkNode_22.1 dX11_checkNode_25.1 dX11_checkNode_28.1 (Nat.le_of_ble_eq_true rfl) (Nat.le_of_ble_eq_true rfl) (Nat.le_of_ble_eq_true rfl) (Nat.le_of_ble_eq_true rfl) (by rw [if_pos c])
  refine z_iload dX11_checkNode_0 rfl (z_if_lt dX11_checkNode_1 (fun c => T _ rfl (Or.inl c)) (fun c => ?_))
  refine z_iload dX11_checkNode_4 rfl (z_aload dX11_checkNode_5 rfl (z_getR dX11_checkNode_6 fkX11_28 in0_0 sh0_0 rfl (z_getR dX11_checkNode_9 fkX11_86 in4_0 (sh_0 (w := 0)) rfl (z_focus 4 (z_getI dX11_checkNode_12 fkX11_349 in4_3 (sh_3 (w := 0)) rfl (z_icmp_lt dX11_checkNode_15 (fun c2 => ?_) (fun c2 => ?_)))))))
  · exact z_vretX dX11_checkNode_29 rfl (by rw [zg_id, if_neg (fun z => z.elim c (fun z => absurd c2 (Int32.not_lt.mpr z)))])
  · exact T _ (zg_id μ 4) (Or.inr (Int32.not_lt.mp c2))
theorem tX11_checkLink {x : Int32} {μ : zM} : LX mX11_checkLink 6 (1, 6) [zq 0 0, zi x] μ (if x < 0 ∨ μ 4 5 0 ≤ x then .inr "java/lang/IndexOutOfBoundsException" else .inl none) μ := by
  refine LX.of (by decide +kernel) rfl (Nat.le_of_ble_eq_true rfl) ?_
  show zJ mX11_checkLink 6 (1, 6) (0, 0) _ 0 [some (zq 0 0), some (zi x)] [] _
  have T : ∀ μ' : zM, μ' = μ → (x < 0 ∨ μ 4 5 0 ≤ x) → zJ mX11_checkLink 6 (1, 6) (0, 0) (zQX (1, 6) (if x < 0 ∨ μ 4 5 0 ≤ x then .inr "java/lang/IndexOutOfBoundsException" else .inl none) μ) 18 [some (zq 0 0), some (zi x)] [] μ' := by
    intro μ' e c
    subst e
    exact z_throwSW zx_IOB (i := 18) rfl rfl rfl dX11_checkLink_18.1 dX11_checkLink_21.1 dX11_checkLink_22.1 dX11_checkLink_25.1 dX11_checkLink_28.1 (Nat.le_of_ble_eq_true rfl) (Nat.le_of_ble_eq_true rfl) (Nat.le_of_ble_eq_true rfl) (Nat.le_of_ble_eq_true rfl) (by rw [if_pos c])
  refine z_iload dX11_checkLink_0 rfl (z_if_lt dX11_checkLink_1 (fun c => T _ rfl (Or.inl c)) (fun c => ?_))
  refine z_iload dX11_checkLink_4 rfl (z_aload dX11_checkLink_5 rfl (z_getR dX11_checkLink_6 fkX11_28 in0_0 sh0_0 rfl (z_getR dX11_checkLink_9 fkX11_186 in4_0 (sh_0 (w := 0)) rfl (z_focus 4 (z_getI dX11_checkLink_12 fkX11_390 in4_5 (sh_5 (w := 0)) rfl (z_icmp_lt dX11_checkLink_15 (fun c2 => ?_) (fun c2 => ?_)))))))
  · exact z_vretX dX11_checkLink_29 rfl (by rw [zg_id, if_neg (fun z => z.elim c (fun z => absurd c2 (Int32.not_lt.mpr z)))])
  · exact T _ (zg_id μ 4) (Or.inr (Int32.not_lt.mp c2))
theorem tX11_checkPacket {x : Int32} {μ : zM} : LX mX11_checkPacket 6 (1, 6) [zi x] μ (if x < 0 ∨ nI 12 ≤ x then .inr "java/lang/IndexOutOfBoundsException" else .inl none) μ := by
  refine LX.of (by decide +kernel) rfl (Nat.le_of_ble_eq_true rfl) ?_
  show zJ mX11_checkPacket 6 (1, 6) (0, 0) _ 0 [some (zi x)] [] _
  have T : (x < 0 ∨ nI 12 ≤ x) → zJ mX11_checkPacket 6 (1, 6) (0, 0) (zQX (1, 6) (if x < 0 ∨ nI 12 ≤ x then .inr "java/lang/IndexOutOfBoundsException" else .inl none) μ) 10 [some (zi x)] [] μ := by
    intro c
    exact z_throwSW zx_IOB (i := 16) rfl rfl rfl dX11_checkPacket_10.1 dX11_checkPacket_13.1 dX11_checkPacket_14.1 dX11_checkPacket_17.1 dX11_checkPacket_20.1 (Nat.le_of_ble_eq_true rfl) (Nat.le_of_ble_eq_true rfl) (Nat.le_of_ble_eq_true rfl) (Nat.le_of_ble_eq_true rfl) (by rw [if_pos c])
  refine z_iload dX11_checkPacket_0 rfl (z_if_lt dX11_checkPacket_1 (fun c => T (Or.inl c)) (fun c => ?_))
  refine z_iload dX11_checkPacket_4 rfl (z_const dX11_checkPacket_5 (z_icmp_lt dX11_checkPacket_7 (fun c2 => ?_) (fun c2 => T (Or.inr (Int32.not_lt.mp c2)))))
  exact z_vretX dX11_checkPacket_21 rfl (by rw [if_neg (fun z => z.elim c (fun z => absurd c2 (Int32.not_lt.mpr z)))])
theorem tX11_checkScope {x : Int32} {μ : zM} : LX mX11_checkScope 6 (1, 6) [zi x] μ (if x < 0 ∨ nI 5 < x then .inr "java/lang/IllegalArgumentException" else .inl none) μ := by
  refine LX.of (by decide +kernel) rfl (Nat.le_of_ble_eq_true rfl) ?_
  show zJ mX11_checkScope 6 (1, 6) (0, 0) _ 0 [some (zi x)] [] _
  have T : (x < 0 ∨ nI 5 < x) → zJ mX11_checkScope 6 (1, 6) (0, 0) (zQX (1, 6) (if x < 0 ∨ nI 5 < x then .inr "java/lang/IllegalArgumentException" else .inl none) μ) 9 [some (zi x)] [] μ := by
    intro c
    exact z_throwSW zx_IAE (i := 26) rfl rfl rfl dX11_checkScope_9.1 dX11_checkScope_12.1 dX11_checkScope_13.1 dX11_checkScope_16.1 dX11_checkScope_19.1 (Nat.le_of_ble_eq_true rfl) (Nat.le_of_ble_eq_true rfl) (Nat.le_of_ble_eq_true rfl) (Nat.le_of_ble_eq_true rfl) (by rw [if_pos c])
  refine z_iload dX11_checkScope_0 rfl (z_if_lt dX11_checkScope_1 (fun c => T (Or.inl c)) (fun c => ?_))
  refine z_iload dX11_checkScope_4 rfl (z_const dX11_checkScope_5 (z_icmp_le dX11_checkScope_6 (fun c2 => ?_) (fun c2 => T (Or.inr (Int32.not_le.mp c2)))))
  exact z_vretX dX11_checkScope_20 rfl (by rw [if_neg (fun z => z.elim c (fun z => absurd c2 (Int32.not_le.mpr z)))])
