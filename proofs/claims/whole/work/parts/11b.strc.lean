/-! contracts of the String methods, over the constants -/
theorem wkJ0_38 : Cond.fieldLink RJ0 38 "java/lang/String" "COMPACT_STRINGS" "Z" ∈ lw_tbl := zmem_of (by decide +kernel)
theorem wkJ0_9 : Cond.fieldLink RJ0 9 "java/lang/String" "value" "[B" ∈ lw_tbl := zmem_of (by decide +kernel)
theorem wkJ0_15 : Cond.fieldLink RJ0 15 "java/lang/String" "coder" "B" ∈ lw_tbl := zmem_of (by decide +kernel)
theorem wkJ0_1053 : Cond.fieldLink RJ0 1053 "jdk/internal/util/Preconditions" "SIOOBE_FORMATTER" "Ljava/util/function/BiFunction;" ∈ lw_tbl := zmem_of (by decide +kernel)
section ZS
variable {μ : zM} {i x : Nat} {q : String × Nat × String}
theorem tJ0_coder (hq : zstr[i]? = some q) : LM mJ0_coder_7d493 1 [zq 3 (i + 1)] μ (some (zi 0)) μ := by
  refine LM.of (by decide +kernel) rfl (Nat.le_of_ble_eq_true rfl) ?_
  show zJ mJ0_coder_7d493 1 (0, 0) (0, 0) _ 0 [some (zq 3 (i + 1))] [] _
  refine z_compact dJ0_coder_7d493_0 wkJ0_38 (z_if_eq dJ0_coder_7d493_3 (fun c => absurd c (by decide)) (fun c => ?_))
  exact z_aload dJ0_coder_7d493_6 rfl (z_strC dJ0_coder_7d493_7 wkJ0_15 hq (z_goto dJ0_coder_7d493_10 (z_zretQ dJ0_coder_7d493_14 rfl rfl rfl)))
theorem tJ0_isLatin1 (hq : zstr[i]? = some q) : LM mJ0_isLatin1_aae02 1 [zq 3 (i + 1)] μ (some (zi (nI 1))) μ := by
  refine LM.of (by decide +kernel) rfl (Nat.le_of_ble_eq_true rfl) ?_
  show zJ mJ0_isLatin1_aae02 1 (0, 0) (0, 0) _ 0 [some (zq 3 (i + 1))] [] _
  refine z_compact dJ0_isLatin1_aae02_0 wkJ0_38 (z_if_eq dJ0_isLatin1_aae02_3 (fun c => absurd c (by decide)) (fun c => ?_))
  refine z_aload dJ0_isLatin1_aae02_6 rfl (z_strC dJ0_isLatin1_aae02_7 wkJ0_15 hq (z_if_ne dJ0_isLatin1_aae02_10 (fun c => absurd rfl c) (fun c => ?_)))
  exact z_const dJ0_isLatin1_aae02_13 (z_goto dJ0_isLatin1_aae02_14 (z_zretQ dJ0_isLatin1_aae02_18 rfl rfl rfl))
theorem zstr_l (hq : zstr[i]? = some q) : q.2.2.toList.length = q.2.2.length ∧ q.2.2.length < 1000 := of_decide_eq_true (List.all_eq_true.mp zstr_len q (List.mem_of_getElem? hq))
theorem tJ0_length (hq : zstr[i]? = some q) : LM mJ0_length_8abf5 2 [zq 3 (i + 1)] μ (some (zi (nI q.2.2.length))) μ := by
  refine LM.of (by decide +kernel) rfl (Nat.le_of_ble_eq_true rfl) ?_
  show zJ mJ0_length_8abf5 2 (0, 0) (0, 0) _ 0 [some (zq 3 (i + 1))] [] _
  refine z_aload dJ0_length_8abf5_0 rfl (z_strV dJ0_length_8abf5_1 wkJ0_9 hq (z_alenS dJ0_length_8abf5_4 hq (z_aload dJ0_length_8abf5_5 rfl (z_callZ dJ0_length_8abf5_6 (tJ0_coder hq) (Nat.le_of_ble_eq_true rfl) cdJ0_coder_7d493 naJ0_coder_7d493 lkJ0_335 imJ0_coder_7d493 seJ0_coder_7d493 hq rfl rfl rfl (Nat.le_of_ble_eq_true rfl) (z_ishr dJ0_length_8abf5_9 (z_iretQ dJ0_length_8abf5_10 rfl ?_))))))
  have := (zstr_l hq).2
  rw [sc_shr0 (by omega)]
theorem zch_asc (hq : zstr[i]? = some q) (hx : x < q.2.2.length) : ∃ c : Fin 128, zch q.2.2 x = nI c.val := by
  have h := List.all_eq_true.mp (List.all_eq_true.mp zstr_asc q (List.mem_of_getElem? hq))
  have hl := (zstr_l hq).1
  have hx' : x < q.2.2.toList.length := by omega
  have hm : q.2.2.toList[x] ∈ q.2.2.toList := List.getElem_mem hx'
  refine ⟨⟨(q.2.2.toList[x]).toNat, of_decide_eq_true (h _ hm)⟩, ?_⟩
  unfold zch
  simp [List.getD, List.getElem?_map, List.getElem?_eq_getElem hx']
theorem zch_c : ∀ c : Fin 128, (((nI c.val &&& nI 255).toUInt32 % 65536).toInt32 = nI c.val) ∧ narrow .char (.int (nI c.val)) = .int (nI c.val) := by decide +kernel
/-- Preconditions.checkIndex, in range -/
theorem c_preck (l : Launch) (G : zG) (j n : Nat) (hj : j < n) (hn : n < 2 ^ 31) (v : Value) (hv : v.category = 1) : Met l yJ3_checkIndex_8e157 [.code yJ3_checkIndex_8e157 cJ3_checkIndex_8e157 3 (some .int)] (zroom 1 (0, 0)) (va_Pc [.int (nI j), .int (nI n), v] (fun U => zWd G μ U U.heap)) (zPo G (some (zi (nI j))) μ) 0 0 (zA G) := by
  refine Met.ofW (cc := cJ3_checkIndex_8e157) (maxL := 3) (ret := some .int) (by decide +kernel) rfl ?_
  intro p e s m args below meth c s₁ B hml hP
  obtain ⟨rfl, hw⟩ := hP
  rw [lg_entry_eq]
  have hlen : (lg_sl [.int (nI j), .int (nI n), v]).length ≤ 3 := by
    have e0 : ∀ x : Int32, (Value.int x).category = 1 := fun _ => rfl
    simp [lg_sl, hv, e0]
  have hl := lv_entry [.int (nI j), .int (nI n), v] (n := 3) hlen
  generalize (lg_sl [.int (nI j), .int (nI n), v] ++ List.replicate (3 - (lg_sl [.int (nI j), .int (nI n), v]).length) Slot.unset).toArray = ls at hl ⊢
  have hx := B.exec
  have hb := B.bytes
  have l0 : ls[0]? = some (.val (.int (nI j))) := hl.2.2 (0, .int (nI j)) (by simp [lv_args])
  have l1 : ls[1]? = some (.val (.int (nI n))) := hl.2.2 (1, .int (nI n)) (by simp [lv_args, Value.category])
  refine lv_iload_n hx hb (by decide +kernel : decode cJ3_checkIndex_8e157 0 = .ok (.iload_n 0, 1)) rfl l0 ?_
  refine lv_if_lt (tgt := 9) hx hb (by decide +kernel : decode cJ3_checkIndex_8e157 1 = .ok (.ifCond .lt 8, 3)) (by decide) (fun q => absurd q (nI_pos (by omega))) (fun _ => ?_)
  refine lv_iload_n hx hb (by decide +kernel : decode cJ3_checkIndex_8e157 4 = .ok (.iload_n 0, 1)) rfl l0 ?_
  refine lv_iload_n hx hb (by decide +kernel : decode cJ3_checkIndex_8e157 5 = .ok (.iload_n 1, 1)) rfl l1 ?_
  refine lv_icmp_lt (tgt := 16) hx hb (by decide +kernel : decode cJ3_checkIndex_8e157 6 = .ok (.if_icmp .lt 10, 3)) (by decide) (fun _ => ?_) (fun q => absurd (nI_lt hj hn) q)
  refine lv_iload_n hx hb (by decide +kernel : decode cJ3_checkIndex_8e157 16 = .ok (.iload_n 0, 1)) rfl l0 ?_
  exact W.iret hx hb B.returns (fun t ht hW => ⟨rfl, ⟨ht ▸ hw.1, hw.2.1, State.WarmedH.trans hw.2.2.1 hW, ht ▸ hw.2.2.2⟩, by rw [ht]; exact Nat.le_refl _⟩) (fun q h => by cases h) (by decide +kernel : decode cJ3_checkIndex_8e157 17 = .ok (.ireturn, 1)) B.notSynchronized
/-- String.checkIndex, in range -/
theorem tJ0_checkIndex {j n : Nat} (hj : j < n) (hn : n < 2 ^ 31) : LM mJ0_checkIndex_df160 2 [zi (nI j), zi (nI n)] μ none μ := by
  refine LM.of (by decide +kernel) rfl (Nat.le_of_ble_eq_true rfl) ?_
  show zJ mJ0_checkIndex_df160 2 (0, 0) (0, 0) _ 0 [some (zi (nI j)), some (zi (nI n))] [] _
  refine z_iload dJ0_checkIndex_df160_0 rfl (z_iload dJ0_checkIndex_df160_1 rfl ?_)
  have K : zJ mJ0_checkIndex_df160 2 (0, 0) (0, 0) (zQ none μ) 8 [some (zi (nI j)), some (zi (nI n))] [zi (nI j)] μ := z_pop dJ0_checkIndex_df160_8 (z_vretQ dJ0_checkIndex_df160_9 rfl rfl)
  intro l G R p e s m args below meth c H locs ls hf ok hR hE hw hl hS hz
  have hd := dJ0_checkIndex_df160_2
  have hdc := dJ0_checkIndex_df160_5
  have go : ∀ v : Value, v.category = 1 → va_Z "jdk/internal/util/Preconditions" "SIOOBE_FORMATTER" "Ljava/util/function/BiFunction;" v (zA G) s s.heap → W p l e R s m args below meth c H locs 0 0 (zQ none μ c G below args s) (F0 m 2 ls [.int (nI n), .int (nI j)]) := by
    intro v hv hZ
    refine va_gets hE.1 hE.2.1 hZ hS hE.2.2.2.2.2 (z_word ok hw wkJ0_1053 rfl) (fun x h => h) hd.1 ?_
    refine z_after (r := some (zi (nI j))) (μ1 := μ) (μ := μ) (va_runS (Ts := []) (As := [.int (nI j), .int (nI n), v]) (rest := []) (nL := 2) ⟨hE.1, hE.2.1, hE.2.2.1, hE.2.2.2.2.2, fun w h => by cases h⟩ (c_preck (μ := μ) l G j n hj hn v hv) ⟨z_calB (Y := mJ3_checkIndex_8e157) ok hw hR cdJ3_checkIndex_8e157 naJ3_checkIndex_8e157 (Nat.le_of_ble_eq_true rfl) lkJ0_1059, z_word ok hw stJ3_checkIndex_8e157 rfl⟩ ⟨fun a U g mk q => ⟨q.1, q.2.1, q.2.2.1, State.WarmedH.trans q.2.2.2.1 (State.WarmedH.refl U), q.2.2.2.2⟩, fun U hU hW => ⟨rfl, hU ▸ hw.1, hw.2.1, State.WarmedH.trans hw.2.2.1 hW, hU ▸ hw.2.2.2⟩⟩ rfl rfl hl.1 rfl (by show 2 * 0 + 0 ≤ 8; omega) hdc.1 ⟨?_, ?_⟩) hw hS hz (fun H1 locs1 hw1 hS1 => ?_)
    · rw [hR.2.2.1]; exact hR.2.2.2.2.1
    · rw [hR.2.2.2.1]; exact hR.2.2.2.2.2
    · exact K l G R p e s m args below meth c H1 locs1 ls hf ok hR hE hw1 hl hS1 hz
  rcases (va_Zq.moved hw.2.2.1.alike ok.2.2.2.2.2.2).kept (z_keep hw hS hz) with h | ⟨t, h⟩
  · exact go .null rfl h
  · exact go (.ref t) rfl h
theorem tJ1_charAt (hq : zstr[i]? = some q) (hx : x < q.2.2.length) : LM mJ1_charAt_3b067 3 [zq 3 (i + 1001), zi (nI x)] μ (some (zi (zch q.2.2 x))) μ := by
  have hl := (zstr_l hq).2
  obtain ⟨cc, hcc⟩ := zch_asc hq hx
  refine LM.of (by decide +kernel) rfl (Nat.le_of_ble_eq_true rfl) ?_
  show zJ mJ1_charAt_3b067 3 (0, 0) (0, 0) _ 0 [some (zq 3 (i + 1001)), some (zi (nI x))] [] _
  refine z_iload dJ1_charAt_3b067_0 rfl (z_aload dJ1_charAt_3b067_1 rfl (z_alenS dJ1_charAt_3b067_2 hq (z_callS dJ1_charAt_3b067_3 (tJ0_checkIndex hx (by omega)) (Nat.le_of_ble_eq_true rfl) cdJ0_checkIndex_df160 naJ0_checkIndex_df160 lkJ1_9 stJ0_checkIndex_df160 rfl rfl (Nat.le_of_ble_eq_true rfl) (z_aload dJ1_charAt_3b067_6 rfl (z_iload dJ1_charAt_3b067_7 rfl (z_baldS dJ1_charAt_3b067_8 hq hx (z_const dJ1_charAt_3b067_9 (z_iand dJ1_charAt_3b067_12 (z_i2c dJ1_charAt_3b067_13 ?_)))))))))
  rw [hcc, (zch_c cc).1]
  exact z_zretQ dJ1_charAt_3b067_14 rfl (zch_c cc).2 rfl
theorem tJ0_charAt (hq : zstr[i]? = some q) (hx : x < q.2.2.length) : LM mJ0_charAt_5068e 4 [zq 3 (i + 1), zi (nI x)] μ (some (zi (zch q.2.2 x))) μ := by
  obtain ⟨cc, hcc⟩ := zch_asc hq hx
  refine LM.of (by decide +kernel) rfl (Nat.le_of_ble_eq_true rfl) ?_
  show zJ mJ0_charAt_5068e 4 (0, 0) (0, 0) _ 0 [some (zq 3 (i + 1)), some (zi (nI x))] [] _
  refine z_aload dJ0_charAt_5068e_0 rfl (z_callZ dJ0_charAt_5068e_1 (tJ0_isLatin1 hq) (Nat.le_of_ble_eq_true rfl) cdJ0_isLatin1_aae02 naJ0_isLatin1_aae02 lkJ0_492 imJ0_isLatin1_aae02 seJ0_isLatin1_aae02 hq rfl rfl rfl (Nat.le_of_ble_eq_true rfl) (z_if_eq dJ0_charAt_5068e_4 (fun c => absurd c (by decide)) (fun c => ?_)))
  refine z_aload dJ0_charAt_5068e_7 rfl (z_strV dJ0_charAt_5068e_8 wkJ0_9 hq (z_iload dJ0_charAt_5068e_11 rfl (z_callS dJ0_charAt_5068e_12 (tJ1_charAt hq hx) (Nat.le_of_ble_eq_true rfl) cdJ1_charAt_3b067 naJ1_charAt_3b067 lkJ0_495 stJ1_charAt_3b067 rfl rfl (Nat.le_of_ble_eq_true rfl) ?_)))
  rw [hcc]
  exact z_zretQ dJ0_charAt_5068e_15 rfl (zch_c cc).2 rfl
end ZS
