/-! the constructors -/
theorem mk_X8 {G : zG} (ok : zOK G) (h : Nat) : CM G mX8_init 1 (0, 0) [.ref h] [(h, .inr (8, [.int 0, .int 0, .int 0, .int 0, .int 0, .int 0, .int 0, .int 0]))] (fun r w1 => r = none ∧ w1 = [(h, .inr (8, [.int (nI 0), .int (nI 5), .int (nI 0), .int (nI 0), .int (nI 8), .int (nI 8), .int (nI 4), .int (nI 4)]))]) := by
  refine CM.of (by decide +kernel) (Nat.le_of_ble_eq_true rfl) (fun sz hD0 => ?_)
  have hA : ∀ q, sz ≤ q → va_A [(h, .inr (8, [.int 0, .int 0, .int 0, .int 0, .int 0, .int 0, .int 0, .int 0]))] sz q := fun q h => Or.inr h
  show cJ G _ sz mX8_init 1 _ (0, 0) _ 0 [(0, Value.ref h)] [] [(h, .inr (8, [.int 0, .int 0, .int 0, .int 0, .int 0, .int 0, .int 0, .int 0]))]
  refine c_aload dX8_init_0 0 rfl ?_
  refine c_obj dX8_init_1 ok oi_X8 oi_im oi_cd (Nat.le_of_ble_eq_true rfl) ?_
  refine c_aload dX8_init_4 0 rfl ?_
  refine c_const dX8_init_5 ?_
  refine c_put dX8_init_6 ok fkX8_7 0 rfl (fun _ _ _ h => by cases h; first | exact Or.inl rfl | exact Or.inr ⟨rfl, rfl, rfl⟩) ⟨rfl, rfl⟩ (Nat.le_of_ble_eq_true rfl) (ws1 := [(h, .inr (8, [.int (nI 0), .int 0, .int 0, .int 0, .int 0, .int 0, .int 0, .int 0]))]) rfl ?_
  refine c_aload dX8_init_9 0 rfl ?_
  refine c_const dX8_init_10 ?_
  refine c_put dX8_init_11 ok fkX8_13 0 rfl (fun _ _ _ h => by cases h; first | exact Or.inl rfl | exact Or.inr ⟨rfl, rfl, rfl⟩) ⟨rfl, rfl⟩ (Nat.le_of_ble_eq_true rfl) (ws1 := [(h, .inr (8, [.int (nI 0), .int (nI 5), .int 0, .int 0, .int 0, .int 0, .int 0, .int 0]))]) rfl ?_
  refine c_aload dX8_init_14 0 rfl ?_
  refine c_const dX8_init_15 ?_
  refine c_put dX8_init_16 ok fkX8_16 0 rfl (fun _ _ _ h => by cases h; first | exact Or.inl rfl | exact Or.inr ⟨rfl, rfl, rfl⟩) ⟨rfl, rfl⟩ (Nat.le_of_ble_eq_true rfl) (ws1 := [(h, .inr (8, [.int (nI 0), .int (nI 5), .int (nI 0), .int 0, .int 0, .int 0, .int 0, .int 0]))]) rfl ?_
  refine c_aload dX8_init_19 0 rfl ?_
  refine c_const dX8_init_20 ?_
  refine c_put dX8_init_21 ok fkX8_19 0 rfl (fun _ _ _ h => by cases h; first | exact Or.inl rfl | exact Or.inr ⟨rfl, rfl, rfl⟩) ⟨rfl, rfl⟩ (Nat.le_of_ble_eq_true rfl) (ws1 := [(h, .inr (8, [.int (nI 0), .int (nI 5), .int (nI 0), .int (nI 0), .int 0, .int 0, .int 0, .int 0]))]) rfl ?_
  refine c_aload dX8_init_24 0 rfl ?_
  refine c_const dX8_init_25 ?_
  refine c_put dX8_init_27 ok fkX8_22 0 rfl (fun _ _ _ h => by cases h; first | exact Or.inl rfl | exact Or.inr ⟨rfl, rfl, rfl⟩) ⟨rfl, rfl⟩ (Nat.le_of_ble_eq_true rfl) (ws1 := [(h, .inr (8, [.int (nI 0), .int (nI 5), .int (nI 0), .int (nI 0), .int (nI 8), .int 0, .int 0, .int 0]))]) rfl ?_
  refine c_aload dX8_init_30 0 rfl ?_
  refine c_const dX8_init_31 ?_
  refine c_put dX8_init_33 ok fkX8_25 0 rfl (fun _ _ _ h => by cases h; first | exact Or.inl rfl | exact Or.inr ⟨rfl, rfl, rfl⟩) ⟨rfl, rfl⟩ (Nat.le_of_ble_eq_true rfl) (ws1 := [(h, .inr (8, [.int (nI 0), .int (nI 5), .int (nI 0), .int (nI 0), .int (nI 8), .int (nI 8), .int 0, .int 0]))]) rfl ?_
  refine c_aload dX8_init_36 0 rfl ?_
  refine c_const dX8_init_37 ?_
  refine c_put dX8_init_38 ok fkX8_28 0 rfl (fun _ _ _ h => by cases h; first | exact Or.inl rfl | exact Or.inr ⟨rfl, rfl, rfl⟩) ⟨rfl, rfl⟩ (Nat.le_of_ble_eq_true rfl) (ws1 := [(h, .inr (8, [.int (nI 0), .int (nI 5), .int (nI 0), .int (nI 0), .int (nI 8), .int (nI 8), .int (nI 4), .int 0]))]) rfl ?_
  refine c_aload dX8_init_41 0 rfl ?_
  refine c_const dX8_init_42 ?_
  refine c_put dX8_init_43 ok fkX8_31 0 rfl (fun _ _ _ h => by cases h; first | exact Or.inl rfl | exact Or.inr ⟨rfl, rfl, rfl⟩) ⟨rfl, rfl⟩ (Nat.le_of_ble_eq_true rfl) (ws1 := [(h, .inr (8, [.int (nI 0), .int (nI 5), .int (nI 0), .int (nI 0), .int (nI 8), .int (nI 8), .int (nI 4), .int (nI 4)]))]) rfl ?_
  exact c_vret dX8_init_46 rfl ⟨rfl, rfl⟩ rfl
theorem mk_X1 {G : zG} (ok : zOK G) (h : Nat) : CM G mX1_init 1 (0, 0) [.ref h] [(h, .inr (1, [.int 0, .int 0]))] (fun r w1 => r = none ∧ w1 = [(h, .inr (1, [.int (nI 1), .int (nI 0)]))]) := by
  refine CM.of (by decide +kernel) (Nat.le_of_ble_eq_true rfl) (fun sz hD0 => ?_)
  have hA : ∀ q, sz ≤ q → va_A [(h, .inr (1, [.int 0, .int 0]))] sz q := fun q h => Or.inr h
  show cJ G _ sz mX1_init 1 _ (0, 0) _ 0 [(0, Value.ref h)] [] [(h, .inr (1, [.int 0, .int 0]))]
  refine c_aload dX1_init_0 0 rfl ?_
  refine c_obj dX1_init_1 ok oi_X1 oi_im oi_cd (Nat.le_of_ble_eq_true rfl) ?_
  refine c_aload dX1_init_4 0 rfl ?_
  refine c_const dX1_init_5 ?_
  refine c_put dX1_init_6 ok fkX1_9 0 rfl (fun _ _ _ h => by cases h; first | exact Or.inl rfl | exact Or.inr ⟨rfl, rfl, rfl⟩) ⟨rfl, rfl⟩ (Nat.le_of_ble_eq_true rfl) (ws1 := [(h, .inr (1, [.int (nI 1), .int 0]))]) rfl ?_
  refine c_aload dX1_init_9 0 rfl ?_
  refine c_const dX1_init_10 ?_
  refine c_put dX1_init_11 ok fkX1_15 0 rfl (fun _ _ _ h => by cases h; first | exact Or.inl rfl | exact Or.inr ⟨rfl, rfl, rfl⟩) ⟨rfl, rfl⟩ (Nat.le_of_ble_eq_true rfl) (ws1 := [(h, .inr (1, [.int (nI 1), .int (nI 0)]))]) rfl ?_
  exact c_vret dX1_init_14 rfl ⟨rfl, rfl⟩ rfl
theorem mk_X4 {G : zG} (ok : zOK G) (h : Nat) : CM G mX4_init 4 (12, 162) [.ref h] [(h, .inr (4, [.int 0, .int 0, .null, .null, .null, .null, .null, .null, .null, .null, .null, .null, .null, .null]))] (fun r w1 => r = none ∧ ∃ (q1 q2 q3 q4 q5 q6 q7 q8 q9 q10 q11 q12 : Nat), w1 = [(h, .inr (4, [.int (nI 0), .int (nI 0), .ref q1, .ref q2, .ref q3, .ref q4, .ref q5, .ref q6, .ref q7, .ref q8, .ref q9, .ref q10, .ref q11, .ref q12])), (q1, .inl (zc G 0, 6, .inl fun _ => 0)), (q2, .inl (zc G 0, 6, .inl fun _ => (-1))), (q3, .inl (zc G 0, 6, .inl fun _ => 0)), (q4, .inl (zc G 0, 6, .inl fun _ => 0)), (q6, .inl (zc G 0, 6, .inl fun _ => 0)), (q7, .inl (zc G 0, 6, .inl fun _ => 0)), (q8, .inl (zc G 0, 6, .inl fun _ => 0)), (q9, .inl (zc G 0, 6, .inl fun _ => 0)), (q11, .inl (zc G 0, 36, .inl fun _ => (-1))), (q12, .inl (zc G 0, 36, .inl fun _ => (-1))), (q5, .inl (zc G 0, 6, .inl fun _ => (nI 16))), (q10, .inl (zc G 0, 36, .inl fun _ => (nI 4)))]) := by
  refine CM.of (by decide +kernel) (Nat.le_of_ble_eq_true rfl) (fun sz hD0 => ?_)
  have hA : ∀ q, sz ≤ q → va_A [(h, .inr (4, [.int 0, .int 0, .null, .null, .null, .null, .null, .null, .null, .null, .null, .null, .null, .null]))] sz q := fun q h => Or.inr h
  show cJ G _ sz mX4_init 4 _ (0, 0) _ 0 [(0, Value.ref h)] [] [(h, .inr (4, [.int 0, .int 0, .null, .null, .null, .null, .null, .null, .null, .null, .null, .null, .null, .null]))]
  refine c_aload dX4_init_0 0 rfl ?_
  refine c_obj dX4_init_1 ok oi_X4 oi_im oi_cd (Nat.le_of_ble_eq_true rfl) ?_
  refine c_aload dX4_init_4 0 rfl ?_
  refine c_const dX4_init_5 ?_
  refine c_put dX4_init_6 ok fkX4_9 0 rfl (fun _ _ _ h => by cases h; first | exact Or.inl rfl | exact Or.inr ⟨rfl, rfl, rfl⟩) ⟨rfl, rfl⟩ (Nat.le_of_ble_eq_true rfl) (ws1 := [(h, .inr (4, [.int (nI 0), .int 0, .null, .null, .null, .null, .null, .null, .null, .null, .null, .null, .null, .null]))]) rfl ?_
  refine c_aload dX4_init_9 0 rfl ?_
  refine c_const dX4_init_10 ?_
  refine c_put dX4_init_11 ok fkX4_15 0 rfl (fun _ _ _ h => by cases h; first | exact Or.inl rfl | exact Or.inr ⟨rfl, rfl, rfl⟩) ⟨rfl, rfl⟩ (Nat.le_of_ble_eq_true rfl) (ws1 := [(h, .inr (4, [.int (nI 0), .int (nI 0), .null, .null, .null, .null, .null, .null, .null, .null, .null, .null, .null, .null]))]) rfl ?_
  refine c_aload dX4_init_14 0 rfl ?_
  refine c_const dX4_init_15 ?_
  refine c_newai dX4_init_17 ok hA ar_int (N := 6) rfl (by decide) ⟨(Nat.le_of_ble_eq_true rfl), (Nat.le_of_ble_eq_true rfl)⟩ (fun q1 => ?_)
  refine c_put dX4_init_19 ok fkX4_18 0 rfl (fun _ _ _ h => by cases h; first | exact Or.inl rfl | exact Or.inr ⟨rfl, rfl, rfl⟩) ⟨rfl, rfl⟩ (Nat.le_of_ble_eq_true rfl) (ws1 := [(h, .inr (4, [.int (nI 0), .int (nI 0), .ref q1, .null, .null, .null, .null, .null, .null, .null, .null, .null, .null, .null])), (q1, .inl (zc G 0, 6, .inl fun _ => 0))]) rfl ?_
  refine c_aload dX4_init_22 0 rfl ?_
  refine c_const dX4_init_23 ?_
  refine c_callSN dX4_init_25 ok hA (mk_row ok (N := 6) (by decide)) (Nat.le_of_ble_eq_true rfl) cdX11_rowOfNone naX11_rowOfNone lkX4_22 stX11_rowOfNone rfl rfl (Nat.le_of_ble_eq_true rfl) [] [0, 1] rfl (wr := [(h, .inr (4, [.int (nI 0), .int (nI 0), .ref q1, .null, .null, .null, .null, .null, .null, .null, .null, .null, .null, .null])), (q1, .inl (zc G 0, 6, .inl fun _ => 0))]) rfl (by decide) (by decide) (by decide) ⟨(Nat.le_of_ble_eq_true rfl), (Nat.le_of_ble_eq_true rfl)⟩ (fun r w1 hp => ?_)
  obtain ⟨q2, rfl, rfl⟩ := hp
  refine c_put dX4_init_28 ok fkX4_26 0 rfl (fun _ _ _ h => by cases h; first | exact Or.inl rfl | exact Or.inr ⟨rfl, rfl, rfl⟩) ⟨rfl, rfl⟩ (Nat.le_of_ble_eq_true rfl) (ws1 := [(h, .inr (4, [.int (nI 0), .int (nI 0), .ref q1, .ref q2, .null, .null, .null, .null, .null, .null, .null, .null, .null, .null])), (q1, .inl (zc G 0, 6, .inl fun _ => 0)), (q2, .inl (zc G 0, 6, .inl fun _ => (-1)))]) rfl ?_
  refine c_aload dX4_init_31 0 rfl ?_
  refine c_const dX4_init_32 ?_
  refine c_newai dX4_init_34 ok hA ar_int (N := 6) rfl (by decide) ⟨(Nat.le_of_ble_eq_true rfl), (Nat.le_of_ble_eq_true rfl)⟩ (fun q3 => ?_)
  refine c_put dX4_init_36 ok fkX4_29 0 rfl (fun _ _ _ h => by cases h; first | exact Or.inl rfl | exact Or.inr ⟨rfl, rfl, rfl⟩) ⟨rfl, rfl⟩ (Nat.le_of_ble_eq_true rfl) (ws1 := [(h, .inr (4, [.int (nI 0), .int (nI 0), .ref q1, .ref q2, .ref q3, .null, .null, .null, .null, .null, .null, .null, .null, .null])), (q1, .inl (zc G 0, 6, .inl fun _ => 0)), (q2, .inl (zc G 0, 6, .inl fun _ => (-1))), (q3, .inl (zc G 0, 6, .inl fun _ => 0))]) rfl ?_
  refine c_aload dX4_init_39 0 rfl ?_
  refine c_const dX4_init_40 ?_
  refine c_newai dX4_init_42 ok hA ar_int (N := 6) rfl (by decide) ⟨(Nat.le_of_ble_eq_true rfl), (Nat.le_of_ble_eq_true rfl)⟩ (fun q4 => ?_)
  refine c_put dX4_init_44 ok fkX4_32 0 rfl (fun _ _ _ h => by cases h; first | exact Or.inl rfl | exact Or.inr ⟨rfl, rfl, rfl⟩) ⟨rfl, rfl⟩ (Nat.le_of_ble_eq_true rfl) (ws1 := [(h, .inr (4, [.int (nI 0), .int (nI 0), .ref q1, .ref q2, .ref q3, .ref q4, .null, .null, .null, .null, .null, .null, .null, .null])), (q1, .inl (zc G 0, 6, .inl fun _ => 0)), (q2, .inl (zc G 0, 6, .inl fun _ => (-1))), (q3, .inl (zc G 0, 6, .inl fun _ => 0)), (q4, .inl (zc G 0, 6, .inl fun _ => 0))]) rfl ?_
  refine c_aload dX4_init_47 0 rfl ?_
  refine c_const dX4_init_48 ?_
  refine c_newai dX4_init_50 ok hA ar_int (N := 6) rfl (by decide) ⟨(Nat.le_of_ble_eq_true rfl), (Nat.le_of_ble_eq_true rfl)⟩ (fun q5 => ?_)
  refine c_put dX4_init_52 ok fkX4_35 0 rfl (fun _ _ _ h => by cases h; first | exact Or.inl rfl | exact Or.inr ⟨rfl, rfl, rfl⟩) ⟨rfl, rfl⟩ (Nat.le_of_ble_eq_true rfl) (ws1 := [(h, .inr (4, [.int (nI 0), .int (nI 0), .ref q1, .ref q2, .ref q3, .ref q4, .ref q5, .null, .null, .null, .null, .null, .null, .null])), (q1, .inl (zc G 0, 6, .inl fun _ => 0)), (q2, .inl (zc G 0, 6, .inl fun _ => (-1))), (q3, .inl (zc G 0, 6, .inl fun _ => 0)), (q4, .inl (zc G 0, 6, .inl fun _ => 0)), (q5, .inl (zc G 0, 6, .inl fun _ => 0))]) rfl ?_
  refine c_aload dX4_init_55 0 rfl ?_
  refine c_const dX4_init_56 ?_
  refine c_newai dX4_init_58 ok hA ar_int (N := 6) rfl (by decide) ⟨(Nat.le_of_ble_eq_true rfl), (Nat.le_of_ble_eq_true rfl)⟩ (fun q6 => ?_)
  refine c_put dX4_init_60 ok fkX4_38 0 rfl (fun _ _ _ h => by cases h; first | exact Or.inl rfl | exact Or.inr ⟨rfl, rfl, rfl⟩) ⟨rfl, rfl⟩ (Nat.le_of_ble_eq_true rfl) (ws1 := [(h, .inr (4, [.int (nI 0), .int (nI 0), .ref q1, .ref q2, .ref q3, .ref q4, .ref q5, .ref q6, .null, .null, .null, .null, .null, .null])), (q1, .inl (zc G 0, 6, .inl fun _ => 0)), (q2, .inl (zc G 0, 6, .inl fun _ => (-1))), (q3, .inl (zc G 0, 6, .inl fun _ => 0)), (q4, .inl (zc G 0, 6, .inl fun _ => 0)), (q5, .inl (zc G 0, 6, .inl fun _ => 0)), (q6, .inl (zc G 0, 6, .inl fun _ => 0))]) rfl ?_
  refine c_aload dX4_init_63 0 rfl ?_
  refine c_const dX4_init_64 ?_
  refine c_newai dX4_init_66 ok hA ar_int (N := 6) rfl (by decide) ⟨(Nat.le_of_ble_eq_true rfl), (Nat.le_of_ble_eq_true rfl)⟩ (fun q7 => ?_)
  refine c_put dX4_init_68 ok fkX4_41 0 rfl (fun _ _ _ h => by cases h; first | exact Or.inl rfl | exact Or.inr ⟨rfl, rfl, rfl⟩) ⟨rfl, rfl⟩ (Nat.le_of_ble_eq_true rfl) (ws1 := [(h, .inr (4, [.int (nI 0), .int (nI 0), .ref q1, .ref q2, .ref q3, .ref q4, .ref q5, .ref q6, .ref q7, .null, .null, .null, .null, .null])), (q1, .inl (zc G 0, 6, .inl fun _ => 0)), (q2, .inl (zc G 0, 6, .inl fun _ => (-1))), (q3, .inl (zc G 0, 6, .inl fun _ => 0)), (q4, .inl (zc G 0, 6, .inl fun _ => 0)), (q5, .inl (zc G 0, 6, .inl fun _ => 0)), (q6, .inl (zc G 0, 6, .inl fun _ => 0)), (q7, .inl (zc G 0, 6, .inl fun _ => 0))]) rfl ?_
  refine c_aload dX4_init_71 0 rfl ?_
  refine c_const dX4_init_72 ?_
  refine c_newai dX4_init_74 ok hA ar_int (N := 6) rfl (by decide) ⟨(Nat.le_of_ble_eq_true rfl), (Nat.le_of_ble_eq_true rfl)⟩ (fun q8 => ?_)
  refine c_put dX4_init_76 ok fkX4_44 0 rfl (fun _ _ _ h => by cases h; first | exact Or.inl rfl | exact Or.inr ⟨rfl, rfl, rfl⟩) ⟨rfl, rfl⟩ (Nat.le_of_ble_eq_true rfl) (ws1 := [(h, .inr (4, [.int (nI 0), .int (nI 0), .ref q1, .ref q2, .ref q3, .ref q4, .ref q5, .ref q6, .ref q7, .ref q8, .null, .null, .null, .null])), (q1, .inl (zc G 0, 6, .inl fun _ => 0)), (q2, .inl (zc G 0, 6, .inl fun _ => (-1))), (q3, .inl (zc G 0, 6, .inl fun _ => 0)), (q4, .inl (zc G 0, 6, .inl fun _ => 0)), (q5, .inl (zc G 0, 6, .inl fun _ => 0)), (q6, .inl (zc G 0, 6, .inl fun _ => 0)), (q7, .inl (zc G 0, 6, .inl fun _ => 0)), (q8, .inl (zc G 0, 6, .inl fun _ => 0))]) rfl ?_
  refine c_aload dX4_init_79 0 rfl ?_
  refine c_const dX4_init_80 ?_
  refine c_newai dX4_init_82 ok hA ar_int (N := 6) rfl (by decide) ⟨(Nat.le_of_ble_eq_true rfl), (Nat.le_of_ble_eq_true rfl)⟩ (fun q9 => ?_)
  refine c_put dX4_init_84 ok fkX4_47 0 rfl (fun _ _ _ h => by cases h; first | exact Or.inl rfl | exact Or.inr ⟨rfl, rfl, rfl⟩) ⟨rfl, rfl⟩ (Nat.le_of_ble_eq_true rfl) (ws1 := [(h, .inr (4, [.int (nI 0), .int (nI 0), .ref q1, .ref q2, .ref q3, .ref q4, .ref q5, .ref q6, .ref q7, .ref q8, .ref q9, .null, .null, .null])), (q1, .inl (zc G 0, 6, .inl fun _ => 0)), (q2, .inl (zc G 0, 6, .inl fun _ => (-1))), (q3, .inl (zc G 0, 6, .inl fun _ => 0)), (q4, .inl (zc G 0, 6, .inl fun _ => 0)), (q5, .inl (zc G 0, 6, .inl fun _ => 0)), (q6, .inl (zc G 0, 6, .inl fun _ => 0)), (q7, .inl (zc G 0, 6, .inl fun _ => 0)), (q8, .inl (zc G 0, 6, .inl fun _ => 0)), (q9, .inl (zc G 0, 6, .inl fun _ => 0))]) rfl ?_
  refine c_aload dX4_init_87 0 rfl ?_
  refine c_const dX4_init_88 ?_
  refine c_newai dX4_init_90 ok hA ar_int (N := 36) rfl (by decide) ⟨(Nat.le_of_ble_eq_true rfl), (Nat.le_of_ble_eq_true rfl)⟩ (fun q10 => ?_)
  refine c_put dX4_init_92 ok fkX4_50 0 rfl (fun _ _ _ h => by cases h; first | exact Or.inl rfl | exact Or.inr ⟨rfl, rfl, rfl⟩) ⟨rfl, rfl⟩ (Nat.le_of_ble_eq_true rfl) (ws1 := [(h, .inr (4, [.int (nI 0), .int (nI 0), .ref q1, .ref q2, .ref q3, .ref q4, .ref q5, .ref q6, .ref q7, .ref q8, .ref q9, .ref q10, .null, .null])), (q1, .inl (zc G 0, 6, .inl fun _ => 0)), (q2, .inl (zc G 0, 6, .inl fun _ => (-1))), (q3, .inl (zc G 0, 6, .inl fun _ => 0)), (q4, .inl (zc G 0, 6, .inl fun _ => 0)), (q5, .inl (zc G 0, 6, .inl fun _ => 0)), (q6, .inl (zc G 0, 6, .inl fun _ => 0)), (q7, .inl (zc G 0, 6, .inl fun _ => 0)), (q8, .inl (zc G 0, 6, .inl fun _ => 0)), (q9, .inl (zc G 0, 6, .inl fun _ => 0)), (q10, .inl (zc G 0, 36, .inl fun _ => 0))]) rfl ?_
  refine c_aload dX4_init_95 0 rfl ?_
  refine c_const dX4_init_96 ?_
  refine c_callSN dX4_init_98 ok hA (mk_row ok (N := 36) (by decide)) (Nat.le_of_ble_eq_true rfl) cdX11_rowOfNone naX11_rowOfNone lkX4_22 stX11_rowOfNone rfl rfl (Nat.le_of_ble_eq_true rfl) [] [0, 1, 2, 3, 4, 5, 6, 7, 8, 9, 10] rfl (wr := [(h, .inr (4, [.int (nI 0), .int (nI 0), .ref q1, .ref q2, .ref q3, .ref q4, .ref q5, .ref q6, .ref q7, .ref q8, .ref q9, .ref q10, .null, .null])), (q1, .inl (zc G 0, 6, .inl fun _ => 0)), (q2, .inl (zc G 0, 6, .inl fun _ => (-1))), (q3, .inl (zc G 0, 6, .inl fun _ => 0)), (q4, .inl (zc G 0, 6, .inl fun _ => 0)), (q5, .inl (zc G 0, 6, .inl fun _ => 0)), (q6, .inl (zc G 0, 6, .inl fun _ => 0)), (q7, .inl (zc G 0, 6, .inl fun _ => 0)), (q8, .inl (zc G 0, 6, .inl fun _ => 0)), (q9, .inl (zc G 0, 6, .inl fun _ => 0)), (q10, .inl (zc G 0, 36, .inl fun _ => 0))]) rfl (by decide) (by decide) (by decide) ⟨(Nat.le_of_ble_eq_true rfl), (Nat.le_of_ble_eq_true rfl)⟩ (fun r w1 hp => ?_)
  obtain ⟨q11, rfl, rfl⟩ := hp
  refine c_put dX4_init_101 ok fkX4_53 0 rfl (fun _ _ _ h => by cases h; first | exact Or.inl rfl | exact Or.inr ⟨rfl, rfl, rfl⟩) ⟨rfl, rfl⟩ (Nat.le_of_ble_eq_true rfl) (ws1 := [(h, .inr (4, [.int (nI 0), .int (nI 0), .ref q1, .ref q2, .ref q3, .ref q4, .ref q5, .ref q6, .ref q7, .ref q8, .ref q9, .ref q10, .ref q11, .null])), (q1, .inl (zc G 0, 6, .inl fun _ => 0)), (q2, .inl (zc G 0, 6, .inl fun _ => (-1))), (q3, .inl (zc G 0, 6, .inl fun _ => 0)), (q4, .inl (zc G 0, 6, .inl fun _ => 0)), (q5, .inl (zc G 0, 6, .inl fun _ => 0)), (q6, .inl (zc G 0, 6, .inl fun _ => 0)), (q7, .inl (zc G 0, 6, .inl fun _ => 0)), (q8, .inl (zc G 0, 6, .inl fun _ => 0)), (q9, .inl (zc G 0, 6, .inl fun _ => 0)), (q10, .inl (zc G 0, 36, .inl fun _ => 0)), (q11, .inl (zc G 0, 36, .inl fun _ => (-1)))]) rfl ?_
  refine c_aload dX4_init_104 0 rfl ?_
  refine c_const dX4_init_105 ?_
  refine c_callSN dX4_init_107 ok hA (mk_row ok (N := 36) (by decide)) (Nat.le_of_ble_eq_true rfl) cdX11_rowOfNone naX11_rowOfNone lkX4_22 stX11_rowOfNone rfl rfl (Nat.le_of_ble_eq_true rfl) [] [0, 1, 2, 3, 4, 5, 6, 7, 8, 9, 10, 11] rfl (wr := [(h, .inr (4, [.int (nI 0), .int (nI 0), .ref q1, .ref q2, .ref q3, .ref q4, .ref q5, .ref q6, .ref q7, .ref q8, .ref q9, .ref q10, .ref q11, .null])), (q1, .inl (zc G 0, 6, .inl fun _ => 0)), (q2, .inl (zc G 0, 6, .inl fun _ => (-1))), (q3, .inl (zc G 0, 6, .inl fun _ => 0)), (q4, .inl (zc G 0, 6, .inl fun _ => 0)), (q5, .inl (zc G 0, 6, .inl fun _ => 0)), (q6, .inl (zc G 0, 6, .inl fun _ => 0)), (q7, .inl (zc G 0, 6, .inl fun _ => 0)), (q8, .inl (zc G 0, 6, .inl fun _ => 0)), (q9, .inl (zc G 0, 6, .inl fun _ => 0)), (q10, .inl (zc G 0, 36, .inl fun _ => 0)), (q11, .inl (zc G 0, 36, .inl fun _ => (-1)))]) rfl (by decide) (by decide) (by decide) ⟨(Nat.le_of_ble_eq_true rfl), (Nat.le_of_ble_eq_true rfl)⟩ (fun r w1 hp => ?_)
  obtain ⟨q12, rfl, rfl⟩ := hp
  refine c_put dX4_init_110 ok fkX4_56 0 rfl (fun _ _ _ h => by cases h; first | exact Or.inl rfl | exact Or.inr ⟨rfl, rfl, rfl⟩) ⟨rfl, rfl⟩ (Nat.le_of_ble_eq_true rfl) (ws1 := [(h, .inr (4, [.int (nI 0), .int (nI 0), .ref q1, .ref q2, .ref q3, .ref q4, .ref q5, .ref q6, .ref q7, .ref q8, .ref q9, .ref q10, .ref q11, .ref q12])), (q1, .inl (zc G 0, 6, .inl fun _ => 0)), (q2, .inl (zc G 0, 6, .inl fun _ => (-1))), (q3, .inl (zc G 0, 6, .inl fun _ => 0)), (q4, .inl (zc G 0, 6, .inl fun _ => 0)), (q5, .inl (zc G 0, 6, .inl fun _ => 0)), (q6, .inl (zc G 0, 6, .inl fun _ => 0)), (q7, .inl (zc G 0, 6, .inl fun _ => 0)), (q8, .inl (zc G 0, 6, .inl fun _ => 0)), (q9, .inl (zc G 0, 6, .inl fun _ => 0)), (q10, .inl (zc G 0, 36, .inl fun _ => 0)), (q11, .inl (zc G 0, 36, .inl fun _ => (-1))), (q12, .inl (zc G 0, 36, .inl fun _ => (-1)))]) rfl ?_
  refine c_aload dX4_init_113 0 rfl ?_
  refine c_getR dX4_init_114 ok fkX4_35 0 rfl (v := .ref q5) rfl ?_
  refine c_const dX4_init_117 ?_
  refine c_callS dX4_init_119 ok hA (mk_fill ok q5 6 (fun _ => 0) (nI 16) (by decide)) (Nat.le_of_ble_eq_true rfl) cdJ7_fill_53178 naJ7_fill_53178 lkX4_59 stJ7_fill_53178 rfl rfl (Nat.le_of_ble_eq_true rfl) [5] [0, 1, 2, 3, 4, 6, 7, 8, 9, 10, 11, 12] rfl (wr := [(h, .inr (4, [.int (nI 0), .int (nI 0), .ref q1, .ref q2, .ref q3, .ref q4, .ref q5, .ref q6, .ref q7, .ref q8, .ref q9, .ref q10, .ref q11, .ref q12])), (q1, .inl (zc G 0, 6, .inl fun _ => 0)), (q2, .inl (zc G 0, 6, .inl fun _ => (-1))), (q3, .inl (zc G 0, 6, .inl fun _ => 0)), (q4, .inl (zc G 0, 6, .inl fun _ => 0)), (q6, .inl (zc G 0, 6, .inl fun _ => 0)), (q7, .inl (zc G 0, 6, .inl fun _ => 0)), (q8, .inl (zc G 0, 6, .inl fun _ => 0)), (q9, .inl (zc G 0, 6, .inl fun _ => 0)), (q10, .inl (zc G 0, 36, .inl fun _ => 0)), (q11, .inl (zc G 0, 36, .inl fun _ => (-1))), (q12, .inl (zc G 0, 36, .inl fun _ => (-1)))]) rfl (by decide) (by decide) (by decide) ⟨(Nat.le_of_ble_eq_true rfl), (Nat.le_of_ble_eq_true rfl)⟩ (fun r w1 hp => ?_)
  obtain ⟨rfl, rfl⟩ := hp
  refine c_aload dX4_init_122 0 rfl ?_
  refine c_getR dX4_init_123 ok fkX4_50 0 rfl (v := .ref q10) rfl ?_
  refine c_const dX4_init_126 ?_
  refine c_callS dX4_init_127 ok hA (mk_fill ok q10 36 (fun _ => 0) (nI 4) (by decide)) (Nat.le_of_ble_eq_true rfl) cdJ7_fill_53178 naJ7_fill_53178 lkX4_59 stJ7_fill_53178 rfl rfl (Nat.le_of_ble_eq_true rfl) [9] [0, 1, 2, 3, 4, 5, 6, 7, 8, 10, 11, 12] rfl (wr := [(h, .inr (4, [.int (nI 0), .int (nI 0), .ref q1, .ref q2, .ref q3, .ref q4, .ref q5, .ref q6, .ref q7, .ref q8, .ref q9, .ref q10, .ref q11, .ref q12])), (q1, .inl (zc G 0, 6, .inl fun _ => 0)), (q2, .inl (zc G 0, 6, .inl fun _ => (-1))), (q3, .inl (zc G 0, 6, .inl fun _ => 0)), (q4, .inl (zc G 0, 6, .inl fun _ => 0)), (q6, .inl (zc G 0, 6, .inl fun _ => 0)), (q7, .inl (zc G 0, 6, .inl fun _ => 0)), (q8, .inl (zc G 0, 6, .inl fun _ => 0)), (q9, .inl (zc G 0, 6, .inl fun _ => 0)), (q11, .inl (zc G 0, 36, .inl fun _ => (-1))), (q12, .inl (zc G 0, 36, .inl fun _ => (-1))), (q5, .inl (zc G 0, 6, .inl fun _ => (nI 16)))]) rfl (by decide) (by decide) (by decide) ⟨(Nat.le_of_ble_eq_true rfl), (Nat.le_of_ble_eq_true rfl)⟩ (fun r w1 hp => ?_)
  obtain ⟨rfl, rfl⟩ := hp
  exact c_vret dX4_init_130 rfl ⟨rfl, q1, q2, q3, q4, q5, q6, q7, q8, q9, q10, q11, q12, rfl⟩ rfl
theorem mk_X5 {G : zG} (ok : zOK G) (h : Nat) : CM G mX5_init 4 (13, 936) [.ref h] [(h, .inr (5, [.null, .null, .null, .null, .null, .null, .null, .null, .null, .null, .null, .null, .null]))] (fun r w1 => r = none ∧ ∃ (q1 q2 q3 q4 q5 q6 q7 q8 q9 q10 q11 q12 q13 : Nat), w1 = [(h, .inr (5, [.ref q1, .ref q2, .ref q3, .ref q4, .ref q5, .ref q6, .ref q7, .ref q8, .ref q9, .ref q10, .ref q11, .ref q12, .ref q13])), (q1, .inl (zc G 0, 72, .inl fun _ => (-1))), (q2, .inl (zc G 0, 72, .inl fun _ => 0)), (q3, .inl (zc G 0, 72, .inl fun _ => 0)), (q4, .inl (zc G 0, 72, .inl fun _ => 0)), (q5, .inl (zc G 0, 72, .inl fun _ => 0)), (q6, .inl (zc G 0, 72, .inl fun _ => (-1))), (q7, .inl (zc G 0, 72, .inl fun _ => (-1))), (q8, .inl (zc G 0, 72, .inl fun _ => (-1))), (q9, .inl (zc G 0, 72, .inl fun _ => 0)), (q10, .inl (zc G 0, 72, .inl fun _ => (-1))), (q11, .inl (zc G 0, 72, .inl fun _ => 0)), (q12, .inl (zc G 0, 72, .inl fun _ => (-1))), (q13, .inl (zc G 0, 72, .inl fun _ => (-1)))]) := by
  refine CM.of (by decide +kernel) (Nat.le_of_ble_eq_true rfl) (fun sz hD0 => ?_)
  have hA : ∀ q, sz ≤ q → va_A [(h, .inr (5, [.null, .null, .null, .null, .null, .null, .null, .null, .null, .null, .null, .null, .null]))] sz q := fun q h => Or.inr h
  show cJ G _ sz mX5_init 4 _ (0, 0) _ 0 [(0, Value.ref h)] [] [(h, .inr (5, [.null, .null, .null, .null, .null, .null, .null, .null, .null, .null, .null, .null, .null]))]
  refine c_aload dX5_init_0 0 rfl ?_
  refine c_obj dX5_init_1 ok oi_X5 oi_im oi_cd (Nat.le_of_ble_eq_true rfl) ?_
  refine c_aload dX5_init_4 0 rfl ?_
  refine c_const dX5_init_5 ?_
  refine c_callSN dX5_init_7 ok hA (mk_row ok (N := 72) (by decide)) (Nat.le_of_ble_eq_true rfl) cdX11_rowOfNone naX11_rowOfNone lkX5_11 stX11_rowOfNone rfl rfl (Nat.le_of_ble_eq_true rfl) [] [0] rfl (wr := [(h, .inr (5, [.null, .null, .null, .null, .null, .null, .null, .null, .null, .null, .null, .null, .null]))]) rfl (by decide) (by decide) (by decide) ⟨(Nat.le_of_ble_eq_true rfl), (Nat.le_of_ble_eq_true rfl)⟩ (fun r w1 hp => ?_)
  obtain ⟨q1, rfl, rfl⟩ := hp
  refine c_put dX5_init_10 ok fkX5_15 0 rfl (fun _ _ _ h => by cases h; first | exact Or.inl rfl | exact Or.inr ⟨rfl, rfl, rfl⟩) ⟨rfl, rfl⟩ (Nat.le_of_ble_eq_true rfl) (ws1 := [(h, .inr (5, [.ref q1, .null, .null, .null, .null, .null, .null, .null, .null, .null, .null, .null, .null])), (q1, .inl (zc G 0, 72, .inl fun _ => (-1)))]) rfl ?_
  refine c_aload dX5_init_13 0 rfl ?_
  refine c_const dX5_init_14 ?_
  refine c_newai dX5_init_16 ok hA ar_int (N := 72) rfl (by decide) ⟨(Nat.le_of_ble_eq_true rfl), (Nat.le_of_ble_eq_true rfl)⟩ (fun q2 => ?_)
  refine c_put dX5_init_18 ok fkX5_19 0 rfl (fun _ _ _ h => by cases h; first | exact Or.inl rfl | exact Or.inr ⟨rfl, rfl, rfl⟩) ⟨rfl, rfl⟩ (Nat.le_of_ble_eq_true rfl) (ws1 := [(h, .inr (5, [.ref q1, .ref q2, .null, .null, .null, .null, .null, .null, .null, .null, .null, .null, .null])), (q1, .inl (zc G 0, 72, .inl fun _ => (-1))), (q2, .inl (zc G 0, 72, .inl fun _ => 0))]) rfl ?_
  refine c_aload dX5_init_21 0 rfl ?_
  refine c_const dX5_init_22 ?_
  refine c_newai dX5_init_24 ok hA ar_int (N := 72) rfl (by decide) ⟨(Nat.le_of_ble_eq_true rfl), (Nat.le_of_ble_eq_true rfl)⟩ (fun q3 => ?_)
  refine c_put dX5_init_26 ok fkX5_22 0 rfl (fun _ _ _ h => by cases h; first | exact Or.inl rfl | exact Or.inr ⟨rfl, rfl, rfl⟩) ⟨rfl, rfl⟩ (Nat.le_of_ble_eq_true rfl) (ws1 := [(h, .inr (5, [.ref q1, .ref q2, .ref q3, .null, .null, .null, .null, .null, .null, .null, .null, .null, .null])), (q1, .inl (zc G 0, 72, .inl fun _ => (-1))), (q2, .inl (zc G 0, 72, .inl fun _ => 0)), (q3, .inl (zc G 0, 72, .inl fun _ => 0))]) rfl ?_
  refine c_aload dX5_init_29 0 rfl ?_
  refine c_const dX5_init_30 ?_
  refine c_newai dX5_init_32 ok hA ar_int (N := 72) rfl (by decide) ⟨(Nat.le_of_ble_eq_true rfl), (Nat.le_of_ble_eq_true rfl)⟩ (fun q4 => ?_)
  refine c_put dX5_init_34 ok fkX5_25 0 rfl (fun _ _ _ h => by cases h; first | exact Or.inl rfl | exact Or.inr ⟨rfl, rfl, rfl⟩) ⟨rfl, rfl⟩ (Nat.le_of_ble_eq_true rfl) (ws1 := [(h, .inr (5, [.ref q1, .ref q2, .ref q3, .ref q4, .null, .null, .null, .null, .null, .null, .null, .null, .null])), (q1, .inl (zc G 0, 72, .inl fun _ => (-1))), (q2, .inl (zc G 0, 72, .inl fun _ => 0)), (q3, .inl (zc G 0, 72, .inl fun _ => 0)), (q4, .inl (zc G 0, 72, .inl fun _ => 0))]) rfl ?_
  refine c_aload dX5_init_37 0 rfl ?_
  refine c_const dX5_init_38 ?_
  refine c_newai dX5_init_40 ok hA ar_int (N := 72) rfl (by decide) ⟨(Nat.le_of_ble_eq_true rfl), (Nat.le_of_ble_eq_true rfl)⟩ (fun q5 => ?_)
  refine c_put dX5_init_42 ok fkX5_28 0 rfl (fun _ _ _ h => by cases h; first | exact Or.inl rfl | exact Or.inr ⟨rfl, rfl, rfl⟩) ⟨rfl, rfl⟩ (Nat.le_of_ble_eq_true rfl) (ws1 := [(h, .inr (5, [.ref q1, .ref q2, .ref q3, .ref q4, .ref q5, .null, .null, .null, .null, .null, .null, .null, .null])), (q1, .inl (zc G 0, 72, .inl fun _ => (-1))), (q2, .inl (zc G 0, 72, .inl fun _ => 0)), (q3, .inl (zc G 0, 72, .inl fun _ => 0)), (q4, .inl (zc G 0, 72, .inl fun _ => 0)), (q5, .inl (zc G 0, 72, .inl fun _ => 0))]) rfl ?_
  refine c_aload dX5_init_45 0 rfl ?_
  refine c_const dX5_init_46 ?_
  refine c_callSN dX5_init_48 ok hA (mk_row ok (N := 72) (by decide)) (Nat.le_of_ble_eq_true rfl) cdX11_rowOfNone naX11_rowOfNone lkX5_11 stX11_rowOfNone rfl rfl (Nat.le_of_ble_eq_true rfl) [] [0, 1, 2, 3, 4, 5] rfl (wr := [(h, .inr (5, [.ref q1, .ref q2, .ref q3, .ref q4, .ref q5, .null, .null, .null, .null, .null, .null, .null, .null])), (q1, .inl (zc G 0, 72, .inl fun _ => (-1))), (q2, .inl (zc G 0, 72, .inl fun _ => 0)), (q3, .inl (zc G 0, 72, .inl fun _ => 0)), (q4, .inl (zc G 0, 72, .inl fun _ => 0)), (q5, .inl (zc G 0, 72, .inl fun _ => 0))]) rfl (by decide) (by decide) (by decide) ⟨(Nat.le_of_ble_eq_true rfl), (Nat.le_of_ble_eq_true rfl)⟩ (fun r w1 hp => ?_)
  obtain ⟨q6, rfl, rfl⟩ := hp
  refine c_put dX5_init_51 ok fkX5_31 0 rfl (fun _ _ _ h => by cases h; first | exact Or.inl rfl | exact Or.inr ⟨rfl, rfl, rfl⟩) ⟨rfl, rfl⟩ (Nat.le_of_ble_eq_true rfl) (ws1 := [(h, .inr (5, [.ref q1, .ref q2, .ref q3, .ref q4, .ref q5, .ref q6, .null, .null, .null, .null, .null, .null, .null])), (q1, .inl (zc G 0, 72, .inl fun _ => (-1))), (q2, .inl (zc G 0, 72, .inl fun _ => 0)), (q3, .inl (zc G 0, 72, .inl fun _ => 0)), (q4, .inl (zc G 0, 72, .inl fun _ => 0)), (q5, .inl (zc G 0, 72, .inl fun _ => 0)), (q6, .inl (zc G 0, 72, .inl fun _ => (-1)))]) rfl ?_
  refine c_aload dX5_init_54 0 rfl ?_
  refine c_const dX5_init_55 ?_
  refine c_callSN dX5_init_57 ok hA (mk_row ok (N := 72) (by decide)) (Nat.le_of_ble_eq_true rfl) cdX11_rowOfNone naX11_rowOfNone lkX5_11 stX11_rowOfNone rfl rfl (Nat.le_of_ble_eq_true rfl) [] [0, 1, 2, 3, 4, 5, 6] rfl (wr := [(h, .inr (5, [.ref q1, .ref q2, .ref q3, .ref q4, .ref q5, .ref q6, .null, .null, .null, .null, .null, .null, .null])), (q1, .inl (zc G 0, 72, .inl fun _ => (-1))), (q2, .inl (zc G 0, 72, .inl fun _ => 0)), (q3, .inl (zc G 0, 72, .inl fun _ => 0)), (q4, .inl (zc G 0, 72, .inl fun _ => 0)), (q5, .inl (zc G 0, 72, .inl fun _ => 0)), (q6, .inl (zc G 0, 72, .inl fun _ => (-1)))]) rfl (by decide) (by decide) (by decide) ⟨(Nat.le_of_ble_eq_true rfl), (Nat.le_of_ble_eq_true rfl)⟩ (fun r w1 hp => ?_)
  obtain ⟨q7, rfl, rfl⟩ := hp
  refine c_put dX5_init_60 ok fkX5_34 0 rfl (fun _ _ _ h => by cases h; first | exact Or.inl rfl | exact Or.inr ⟨rfl, rfl, rfl⟩) ⟨rfl, rfl⟩ (Nat.le_of_ble_eq_true rfl) (ws1 := [(h, .inr (5, [.ref q1, .ref q2, .ref q3, .ref q4, .ref q5, .ref q6, .ref q7, .null, .null, .null, .null, .null, .null])), (q1, .inl (zc G 0, 72, .inl fun _ => (-1))), (q2, .inl (zc G 0, 72, .inl fun _ => 0)), (q3, .inl (zc G 0, 72, .inl fun _ => 0)), (q4, .inl (zc G 0, 72, .inl fun _ => 0)), (q5, .inl (zc G 0, 72, .inl fun _ => 0)), (q6, .inl (zc G 0, 72, .inl fun _ => (-1))), (q7, .inl (zc G 0, 72, .inl fun _ => (-1)))]) rfl ?_
  refine c_aload dX5_init_63 0 rfl ?_
  refine c_const dX5_init_64 ?_
  refine c_callSN dX5_init_66 ok hA (mk_row ok (N := 72) (by decide)) (Nat.le_of_ble_eq_true rfl) cdX11_rowOfNone naX11_rowOfNone lkX5_11 stX11_rowOfNone rfl rfl (Nat.le_of_ble_eq_true rfl) [] [0, 1, 2, 3, 4, 5, 6, 7] rfl (wr := [(h, .inr (5, [.ref q1, .ref q2, .ref q3, .ref q4, .ref q5, .ref q6, .ref q7, .null, .null, .null, .null, .null, .null])), (q1, .inl (zc G 0, 72, .inl fun _ => (-1))), (q2, .inl (zc G 0, 72, .inl fun _ => 0)), (q3, .inl (zc G 0, 72, .inl fun _ => 0)), (q4, .inl (zc G 0, 72, .inl fun _ => 0)), (q5, .inl (zc G 0, 72, .inl fun _ => 0)), (q6, .inl (zc G 0, 72, .inl fun _ => (-1))), (q7, .inl (zc G 0, 72, .inl fun _ => (-1)))]) rfl (by decide) (by decide) (by decide) ⟨(Nat.le_of_ble_eq_true rfl), (Nat.le_of_ble_eq_true rfl)⟩ (fun r w1 hp => ?_)
  obtain ⟨q8, rfl, rfl⟩ := hp
  refine c_put dX5_init_69 ok fkX5_37 0 rfl (fun _ _ _ h => by cases h; first | exact Or.inl rfl | exact Or.inr ⟨rfl, rfl, rfl⟩) ⟨rfl, rfl⟩ (Nat.le_of_ble_eq_true rfl) (ws1 := [(h, .inr (5, [.ref q1, .ref q2, .ref q3, .ref q4, .ref q5, .ref q6, .ref q7, .ref q8, .null, .null, .null, .null, .null])), (q1, .inl (zc G 0, 72, .inl fun _ => (-1))), (q2, .inl (zc G 0, 72, .inl fun _ => 0)), (q3, .inl (zc G 0, 72, .inl fun _ => 0)), (q4, .inl (zc G 0, 72, .inl fun _ => 0)), (q5, .inl (zc G 0, 72, .inl fun _ => 0)), (q6, .inl (zc G 0, 72, .inl fun _ => (-1))), (q7, .inl (zc G 0, 72, .inl fun _ => (-1))), (q8, .inl (zc G 0, 72, .inl fun _ => (-1)))]) rfl ?_
  refine c_aload dX5_init_72 0 rfl ?_
  refine c_const dX5_init_73 ?_
  refine c_newai dX5_init_75 ok hA ar_int (N := 72) rfl (by decide) ⟨(Nat.le_of_ble_eq_true rfl), (Nat.le_of_ble_eq_true rfl)⟩ (fun q9 => ?_)
  refine c_put dX5_init_77 ok fkX5_40 0 rfl (fun _ _ _ h => by cases h; first | exact Or.inl rfl | exact Or.inr ⟨rfl, rfl, rfl⟩) ⟨rfl, rfl⟩ (Nat.le_of_ble_eq_true rfl) (ws1 := [(h, .inr (5, [.ref q1, .ref q2, .ref q3, .ref q4, .ref q5, .ref q6, .ref q7, .ref q8, .ref q9, .null, .null, .null, .null])), (q1, .inl (zc G 0, 72, .inl fun _ => (-1))), (q2, .inl (zc G 0, 72, .inl fun _ => 0)), (q3, .inl (zc G 0, 72, .inl fun _ => 0)), (q4, .inl (zc G 0, 72, .inl fun _ => 0)), (q5, .inl (zc G 0, 72, .inl fun _ => 0)), (q6, .inl (zc G 0, 72, .inl fun _ => (-1))), (q7, .inl (zc G 0, 72, .inl fun _ => (-1))), (q8, .inl (zc G 0, 72, .inl fun _ => (-1))), (q9, .inl (zc G 0, 72, .inl fun _ => 0))]) rfl ?_
  refine c_aload dX5_init_80 0 rfl ?_
  refine c_const dX5_init_81 ?_
  refine c_callSN dX5_init_83 ok hA (mk_row ok (N := 72) (by decide)) (Nat.le_of_ble_eq_true rfl) cdX11_rowOfNone naX11_rowOfNone lkX5_11 stX11_rowOfNone rfl rfl (Nat.le_of_ble_eq_true rfl) [] [0, 1, 2, 3, 4, 5, 6, 7, 8, 9] rfl (wr := [(h, .inr (5, [.ref q1, .ref q2, .ref q3, .ref q4, .ref q5, .ref q6, .ref q7, .ref q8, .ref q9, .null, .null, .null, .null])), (q1, .inl (zc G 0, 72, .inl fun _ => (-1))), (q2, .inl (zc G 0, 72, .inl fun _ => 0)), (q3, .inl (zc G 0, 72, .inl fun _ => 0)), (q4, .inl (zc G 0, 72, .inl fun _ => 0)), (q5, .inl (zc G 0, 72, .inl fun _ => 0)), (q6, .inl (zc G 0, 72, .inl fun _ => (-1))), (q7, .inl (zc G 0, 72, .inl fun _ => (-1))), (q8, .inl (zc G 0, 72, .inl fun _ => (-1))), (q9, .inl (zc G 0, 72, .inl fun _ => 0))]) rfl (by decide) (by decide) (by decide) ⟨(Nat.le_of_ble_eq_true rfl), (Nat.le_of_ble_eq_true rfl)⟩ (fun r w1 hp => ?_)
  obtain ⟨q10, rfl, rfl⟩ := hp
  refine c_put dX5_init_86 ok fkX5_43 0 rfl (fun _ _ _ h => by cases h; first | exact Or.inl rfl | exact Or.inr ⟨rfl, rfl, rfl⟩) ⟨rfl, rfl⟩ (Nat.le_of_ble_eq_true rfl) (ws1 := [(h, .inr (5, [.ref q1, .ref q2, .ref q3, .ref q4, .ref q5, .ref q6, .ref q7, .ref q8, .ref q9, .ref q10, .null, .null, .null])), (q1, .inl (zc G 0, 72, .inl fun _ => (-1))), (q2, .inl (zc G 0, 72, .inl fun _ => 0)), (q3, .inl (zc G 0, 72, .inl fun _ => 0)), (q4, .inl (zc G 0, 72, .inl fun _ => 0)), (q5, .inl (zc G 0, 72, .inl fun _ => 0)), (q6, .inl (zc G 0, 72, .inl fun _ => (-1))), (q7, .inl (zc G 0, 72, .inl fun _ => (-1))), (q8, .inl (zc G 0, 72, .inl fun _ => (-1))), (q9, .inl (zc G 0, 72, .inl fun _ => 0)), (q10, .inl (zc G 0, 72, .inl fun _ => (-1)))]) rfl ?_
  refine c_aload dX5_init_89 0 rfl ?_
  refine c_const dX5_init_90 ?_
  refine c_newai dX5_init_92 ok hA ar_int (N := 72) rfl (by decide) ⟨(Nat.le_of_ble_eq_true rfl), (Nat.le_of_ble_eq_true rfl)⟩ (fun q11 => ?_)
  refine c_put dX5_init_94 ok fkX5_46 0 rfl (fun _ _ _ h => by cases h; first | exact Or.inl rfl | exact Or.inr ⟨rfl, rfl, rfl⟩) ⟨rfl, rfl⟩ (Nat.le_of_ble_eq_true rfl) (ws1 := [(h, .inr (5, [.ref q1, .ref q2, .ref q3, .ref q4, .ref q5, .ref q6, .ref q7, .ref q8, .ref q9, .ref q10, .ref q11, .null, .null])), (q1, .inl (zc G 0, 72, .inl fun _ => (-1))), (q2, .inl (zc G 0, 72, .inl fun _ => 0)), (q3, .inl (zc G 0, 72, .inl fun _ => 0)), (q4, .inl (zc G 0, 72, .inl fun _ => 0)), (q5, .inl (zc G 0, 72, .inl fun _ => 0)), (q6, .inl (zc G 0, 72, .inl fun _ => (-1))), (q7, .inl (zc G 0, 72, .inl fun _ => (-1))), (q8, .inl (zc G 0, 72, .inl fun _ => (-1))), (q9, .inl (zc G 0, 72, .inl fun _ => 0)), (q10, .inl (zc G 0, 72, .inl fun _ => (-1))), (q11, .inl (zc G 0, 72, .inl fun _ => 0))]) rfl ?_
  refine c_aload dX5_init_97 0 rfl ?_
  refine c_const dX5_init_98 ?_
  refine c_callSN dX5_init_100 ok hA (mk_row ok (N := 72) (by decide)) (Nat.le_of_ble_eq_true rfl) cdX11_rowOfNone naX11_rowOfNone lkX5_11 stX11_rowOfNone rfl rfl (Nat.le_of_ble_eq_true rfl) [] [0, 1, 2, 3, 4, 5, 6, 7, 8, 9, 10, 11] rfl (wr := [(h, .inr (5, [.ref q1, .ref q2, .ref q3, .ref q4, .ref q5, .ref q6, .ref q7, .ref q8, .ref q9, .ref q10, .ref q11, .null, .null])), (q1, .inl (zc G 0, 72, .inl fun _ => (-1))), (q2, .inl (zc G 0, 72, .inl fun _ => 0)), (q3, .inl (zc G 0, 72, .inl fun _ => 0)), (q4, .inl (zc G 0, 72, .inl fun _ => 0)), (q5, .inl (zc G 0, 72, .inl fun _ => 0)), (q6, .inl (zc G 0, 72, .inl fun _ => (-1))), (q7, .inl (zc G 0, 72, .inl fun _ => (-1))), (q8, .inl (zc G 0, 72, .inl fun _ => (-1))), (q9, .inl (zc G 0, 72, .inl fun _ => 0)), (q10, .inl (zc G 0, 72, .inl fun _ => (-1))), (q11, .inl (zc G 0, 72, .inl fun _ => 0))]) rfl (by decide) (by decide) (by decide) ⟨(Nat.le_of_ble_eq_true rfl), (Nat.le_of_ble_eq_true rfl)⟩ (fun r w1 hp => ?_)
  obtain ⟨q12, rfl, rfl⟩ := hp
  refine c_put dX5_init_103 ok fkX5_49 0 rfl (fun _ _ _ h => by cases h; first | exact Or.inl rfl | exact Or.inr ⟨rfl, rfl, rfl⟩) ⟨rfl, rfl⟩ (Nat.le_of_ble_eq_true rfl) (ws1 := [(h, .inr (5, [.ref q1, .ref q2, .ref q3, .ref q4, .ref q5, .ref q6, .ref q7, .ref q8, .ref q9, .ref q10, .ref q11, .ref q12, .null])), (q1, .inl (zc G 0, 72, .inl fun _ => (-1))), (q2, .inl (zc G 0, 72, .inl fun _ => 0)), (q3, .inl (zc G 0, 72, .inl fun _ => 0)), (q4, .inl (zc G 0, 72, .inl fun _ => 0)), (q5, .inl (zc G 0, 72, .inl fun _ => 0)), (q6, .inl (zc G 0, 72, .inl fun _ => (-1))), (q7, .inl (zc G 0, 72, .inl fun _ => (-1))), (q8, .inl (zc G 0, 72, .inl fun _ => (-1))), (q9, .inl (zc G 0, 72, .inl fun _ => 0)), (q10, .inl (zc G 0, 72, .inl fun _ => (-1))), (q11, .inl (zc G 0, 72, .inl fun _ => 0)), (q12, .inl (zc G 0, 72, .inl fun _ => (-1)))]) rfl ?_
  refine c_aload dX5_init_106 0 rfl ?_
  refine c_const dX5_init_107 ?_
  refine c_callSN dX5_init_109 ok hA (mk_row ok (N := 72) (by decide)) (Nat.le_of_ble_eq_true rfl) cdX11_rowOfNone naX11_rowOfNone lkX5_11 stX11_rowOfNone rfl rfl (Nat.le_of_ble_eq_true rfl) [] [0, 1, 2, 3, 4, 5, 6, 7, 8, 9, 10, 11, 12] rfl (wr := [(h, .inr (5, [.ref q1, .ref q2, .ref q3, .ref q4, .ref q5, .ref q6, .ref q7, .ref q8, .ref q9, .ref q10, .ref q11, .ref q12, .null])), (q1, .inl (zc G 0, 72, .inl fun _ => (-1))), (q2, .inl (zc G 0, 72, .inl fun _ => 0)), (q3, .inl (zc G 0, 72, .inl fun _ => 0)), (q4, .inl (zc G 0, 72, .inl fun _ => 0)), (q5, .inl (zc G 0, 72, .inl fun _ => 0)), (q6, .inl (zc G 0, 72, .inl fun _ => (-1))), (q7, .inl (zc G 0, 72, .inl fun _ => (-1))), (q8, .inl (zc G 0, 72, .inl fun _ => (-1))), (q9, .inl (zc G 0, 72, .inl fun _ => 0)), (q10, .inl (zc G 0, 72, .inl fun _ => (-1))), (q11, .inl (zc G 0, 72, .inl fun _ => 0)), (q12, .inl (zc G 0, 72, .inl fun _ => (-1)))]) rfl (by decide) (by decide) (by decide) ⟨(Nat.le_of_ble_eq_true rfl), (Nat.le_of_ble_eq_true rfl)⟩ (fun r w1 hp => ?_)
  obtain ⟨q13, rfl, rfl⟩ := hp
  refine c_put dX5_init_112 ok fkX5_52 0 rfl (fun _ _ _ h => by cases h; first | exact Or.inl rfl | exact Or.inr ⟨rfl, rfl, rfl⟩) ⟨rfl, rfl⟩ (Nat.le_of_ble_eq_true rfl) (ws1 := [(h, .inr (5, [.ref q1, .ref q2, .ref q3, .ref q4, .ref q5, .ref q6, .ref q7, .ref q8, .ref q9, .ref q10, .ref q11, .ref q12, .ref q13])), (q1, .inl (zc G 0, 72, .inl fun _ => (-1))), (q2, .inl (zc G 0, 72, .inl fun _ => 0)), (q3, .inl (zc G 0, 72, .inl fun _ => 0)), (q4, .inl (zc G 0, 72, .inl fun _ => 0)), (q5, .inl (zc G 0, 72, .inl fun _ => 0)), (q6, .inl (zc G 0, 72, .inl fun _ => (-1))), (q7, .inl (zc G 0, 72, .inl fun _ => (-1))), (q8, .inl (zc G 0, 72, .inl fun _ => (-1))), (q9, .inl (zc G 0, 72, .inl fun _ => 0)), (q10, .inl (zc G 0, 72, .inl fun _ => (-1))), (q11, .inl (zc G 0, 72, .inl fun _ => 0)), (q12, .inl (zc G 0, 72, .inl fun _ => (-1))), (q13, .inl (zc G 0, 72, .inl fun _ => (-1)))]) rfl ?_
  exact c_vret dX5_init_115 rfl ⟨rfl, q1, q2, q3, q4, q5, q6, q7, q8, q9, q10, q11, q12, q13, rfl⟩ rfl
theorem mk_X2 {G : zG} (ok : zOK G) (h : Nat) : CM G mX2_init 1 (5, 50) [.ref h] [(h, .inr (2, [.int 0, .int 0, .null, .null, .null, .null, .null]))] (fun r w1 => r = none ∧ ∃ (q1 q2 q3 q4 q5 : Nat), w1 = [(h, .inr (2, [.int (nI 0), .int (nI 0), .ref q1, .ref q2, .ref q3, .ref q4, .ref q5])), (q1, .inl (zc G 0, 10, .inl fun _ => 0)), (q2, .inl (zc G 0, 10, .inl fun _ => 0)), (q3, .inl (zc G 0, 10, .inl fun _ => 0)), (q4, .inl (zc G 0, 10, .inl fun _ => 0)), (q5, .inl (zc G 0, 10, .inl fun _ => 0))]) := by
  refine CM.of (by decide +kernel) (Nat.le_of_ble_eq_true rfl) (fun sz hD0 => ?_)
  have hA : ∀ q, sz ≤ q → va_A [(h, .inr (2, [.int 0, .int 0, .null, .null, .null, .null, .null]))] sz q := fun q h => Or.inr h
  show cJ G _ sz mX2_init 1 _ (0, 0) _ 0 [(0, Value.ref h)] [] [(h, .inr (2, [.int 0, .int 0, .null, .null, .null, .null, .null]))]
  refine c_aload dX2_init_0 0 rfl ?_
  refine c_obj dX2_init_1 ok oi_X2 oi_im oi_cd (Nat.le_of_ble_eq_true rfl) ?_
  refine c_aload dX2_init_4 0 rfl ?_
  refine c_const dX2_init_5 ?_
  refine c_put dX2_init_6 ok fkX2_9 0 rfl (fun _ _ _ h => by cases h; first | exact Or.inl rfl | exact Or.inr ⟨rfl, rfl, rfl⟩) ⟨rfl, rfl⟩ (Nat.le_of_ble_eq_true rfl) (ws1 := [(h, .inr (2, [.int (nI 0), .int 0, .null, .null, .null, .null, .null]))]) rfl ?_
  refine c_aload dX2_init_9 0 rfl ?_
  refine c_const dX2_init_10 ?_
  refine c_put dX2_init_11 ok fkX2_15 0 rfl (fun _ _ _ h => by cases h; first | exact Or.inl rfl | exact Or.inr ⟨rfl, rfl, rfl⟩) ⟨rfl, rfl⟩ (Nat.le_of_ble_eq_true rfl) (ws1 := [(h, .inr (2, [.int (nI 0), .int (nI 0), .null, .null, .null, .null, .null]))]) rfl ?_
  refine c_aload dX2_init_14 0 rfl ?_
  refine c_const dX2_init_15 ?_
  refine c_newai dX2_init_17 ok hA ar_int (N := 10) rfl (by decide) ⟨(Nat.le_of_ble_eq_true rfl), (Nat.le_of_ble_eq_true rfl)⟩ (fun q1 => ?_)
  refine c_put dX2_init_19 ok fkX2_18 0 rfl (fun _ _ _ h => by cases h; first | exact Or.inl rfl | exact Or.inr ⟨rfl, rfl, rfl⟩) ⟨rfl, rfl⟩ (Nat.le_of_ble_eq_true rfl) (ws1 := [(h, .inr (2, [.int (nI 0), .int (nI 0), .ref q1, .null, .null, .null, .null])), (q1, .inl (zc G 0, 10, .inl fun _ => 0))]) rfl ?_
  refine c_aload dX2_init_22 0 rfl ?_
  refine c_const dX2_init_23 ?_
  refine c_newai dX2_init_25 ok hA ar_int (N := 10) rfl (by decide) ⟨(Nat.le_of_ble_eq_true rfl), (Nat.le_of_ble_eq_true rfl)⟩ (fun q2 => ?_)
  refine c_put dX2_init_27 ok fkX2_22 0 rfl (fun _ _ _ h => by cases h; first | exact Or.inl rfl | exact Or.inr ⟨rfl, rfl, rfl⟩) ⟨rfl, rfl⟩ (Nat.le_of_ble_eq_true rfl) (ws1 := [(h, .inr (2, [.int (nI 0), .int (nI 0), .ref q1, .ref q2, .null, .null, .null])), (q1, .inl (zc G 0, 10, .inl fun _ => 0)), (q2, .inl (zc G 0, 10, .inl fun _ => 0))]) rfl ?_
  refine c_aload dX2_init_30 0 rfl ?_
  refine c_const dX2_init_31 ?_
  refine c_newai dX2_init_33 ok hA ar_int (N := 10) rfl (by decide) ⟨(Nat.le_of_ble_eq_true rfl), (Nat.le_of_ble_eq_true rfl)⟩ (fun q3 => ?_)
  refine c_put dX2_init_35 ok fkX2_25 0 rfl (fun _ _ _ h => by cases h; first | exact Or.inl rfl | exact Or.inr ⟨rfl, rfl, rfl⟩) ⟨rfl, rfl⟩ (Nat.le_of_ble_eq_true rfl) (ws1 := [(h, .inr (2, [.int (nI 0), .int (nI 0), .ref q1, .ref q2, .ref q3, .null, .null])), (q1, .inl (zc G 0, 10, .inl fun _ => 0)), (q2, .inl (zc G 0, 10, .inl fun _ => 0)), (q3, .inl (zc G 0, 10, .inl fun _ => 0))]) rfl ?_
  refine c_aload dX2_init_38 0 rfl ?_
  refine c_const dX2_init_39 ?_
  refine c_newai dX2_init_41 ok hA ar_int (N := 10) rfl (by decide) ⟨(Nat.le_of_ble_eq_true rfl), (Nat.le_of_ble_eq_true rfl)⟩ (fun q4 => ?_)
  refine c_put dX2_init_43 ok fkX2_28 0 rfl (fun _ _ _ h => by cases h; first | exact Or.inl rfl | exact Or.inr ⟨rfl, rfl, rfl⟩) ⟨rfl, rfl⟩ (Nat.le_of_ble_eq_true rfl) (ws1 := [(h, .inr (2, [.int (nI 0), .int (nI 0), .ref q1, .ref q2, .ref q3, .ref q4, .null])), (q1, .inl (zc G 0, 10, .inl fun _ => 0)), (q2, .inl (zc G 0, 10, .inl fun _ => 0)), (q3, .inl (zc G 0, 10, .inl fun _ => 0)), (q4, .inl (zc G 0, 10, .inl fun _ => 0))]) rfl ?_
  refine c_aload dX2_init_46 0 rfl ?_
  refine c_const dX2_init_47 ?_
  refine c_newai dX2_init_49 ok hA ar_int (N := 10) rfl (by decide) ⟨(Nat.le_of_ble_eq_true rfl), (Nat.le_of_ble_eq_true rfl)⟩ (fun q5 => ?_)
  refine c_put dX2_init_51 ok fkX2_31 0 rfl (fun _ _ _ h => by cases h; first | exact Or.inl rfl | exact Or.inr ⟨rfl, rfl, rfl⟩) ⟨rfl, rfl⟩ (Nat.le_of_ble_eq_true rfl) (ws1 := [(h, .inr (2, [.int (nI 0), .int (nI 0), .ref q1, .ref q2, .ref q3, .ref q4, .ref q5])), (q1, .inl (zc G 0, 10, .inl fun _ => 0)), (q2, .inl (zc G 0, 10, .inl fun _ => 0)), (q3, .inl (zc G 0, 10, .inl fun _ => 0)), (q4, .inl (zc G 0, 10, .inl fun _ => 0)), (q5, .inl (zc G 0, 10, .inl fun _ => 0))]) rfl ?_
  exact c_vret dX2_init_54 rfl ⟨rfl, q1, q2, q3, q4, q5, rfl⟩ rfl
theorem mk_X9 {G : zG} (ok : zOK G) (h : Nat) : CM G mX9_init 4 (6, 186) [.ref h] [(h, .inr (9, [.int 0, .null, .null, .null, .null, .null, .null]))] (fun r w1 => r = none ∧ ∃ (q1 q2 q3 q4 q5 q6 : Nat), w1 = [(h, .inr (9, [.int (nI 0), .ref q1, .ref q2, .ref q3, .ref q4, .ref q5, .ref q6])), (q1, .inl (zc G 0, 36, .inl fun _ => (-1))), (q2, .inl (zc G 0, 36, .inl fun _ => (-1))), (q3, .inl (zc G 0, 36, .inl fun _ => (-1))), (q4, .inl (zc G 0, 36, .inl fun _ => (-1))), (q5, .inl (zc G 0, 36, .inl fun _ => (-1))), (q6, .inl (zc G 0, 6, .inl fun _ => 0))]) := by
  refine CM.of (by decide +kernel) (Nat.le_of_ble_eq_true rfl) (fun sz hD0 => ?_)
  have hA : ∀ q, sz ≤ q → va_A [(h, .inr (9, [.int 0, .null, .null, .null, .null, .null, .null]))] sz q := fun q h => Or.inr h
  show cJ G _ sz mX9_init 4 _ (0, 0) _ 0 [(0, Value.ref h)] [] [(h, .inr (9, [.int 0, .null, .null, .null, .null, .null, .null]))]
  refine c_aload dX9_init_0 0 rfl ?_
  refine c_obj dX9_init_1 ok oi_X9 oi_im oi_cd (Nat.le_of_ble_eq_true rfl) ?_
  refine c_aload dX9_init_4 0 rfl ?_
  refine c_const dX9_init_5 ?_
  refine c_put dX9_init_6 ok fkX9_9 0 rfl (fun _ _ _ h => by cases h; first | exact Or.inl rfl | exact Or.inr ⟨rfl, rfl, rfl⟩) ⟨rfl, rfl⟩ (Nat.le_of_ble_eq_true rfl) (ws1 := [(h, .inr (9, [.int (nI 0), .null, .null, .null, .null, .null, .null]))]) rfl ?_
  refine c_aload dX9_init_9 0 rfl ?_
  refine c_const dX9_init_10 ?_
  refine c_callSN dX9_init_12 ok hA (mk_row ok (N := 36) (by decide)) (Nat.le_of_ble_eq_true rfl) cdX11_rowOfNone naX11_rowOfNone lkX9_15 stX11_rowOfNone rfl rfl (Nat.le_of_ble_eq_true rfl) [] [0] rfl (wr := [(h, .inr (9, [.int (nI 0), .null, .null, .null, .null, .null, .null]))]) rfl (by decide) (by decide) (by decide) ⟨(Nat.le_of_ble_eq_true rfl), (Nat.le_of_ble_eq_true rfl)⟩ (fun r w1 hp => ?_)
  obtain ⟨q1, rfl, rfl⟩ := hp
  refine c_put dX9_init_15 ok fkX9_19 0 rfl (fun _ _ _ h => by cases h; first | exact Or.inl rfl | exact Or.inr ⟨rfl, rfl, rfl⟩) ⟨rfl, rfl⟩ (Nat.le_of_ble_eq_true rfl) (ws1 := [(h, .inr (9, [.int (nI 0), .ref q1, .null, .null, .null, .null, .null])), (q1, .inl (zc G 0, 36, .inl fun _ => (-1)))]) rfl ?_
  refine c_aload dX9_init_18 0 rfl ?_
  refine c_const dX9_init_19 ?_
  refine c_callSN dX9_init_21 ok hA (mk_row ok (N := 36) (by decide)) (Nat.le_of_ble_eq_true rfl) cdX11_rowOfNone naX11_rowOfNone lkX9_15 stX11_rowOfNone rfl rfl (Nat.le_of_ble_eq_true rfl) [] [0, 1] rfl (wr := [(h, .inr (9, [.int (nI 0), .ref q1, .null, .null, .null, .null, .null])), (q1, .inl (zc G 0, 36, .inl fun _ => (-1)))]) rfl (by decide) (by decide) (by decide) ⟨(Nat.le_of_ble_eq_true rfl), (Nat.le_of_ble_eq_true rfl)⟩ (fun r w1 hp => ?_)
  obtain ⟨q2, rfl, rfl⟩ := hp
  refine c_put dX9_init_24 ok fkX9_23 0 rfl (fun _ _ _ h => by cases h; first | exact Or.inl rfl | exact Or.inr ⟨rfl, rfl, rfl⟩) ⟨rfl, rfl⟩ (Nat.le_of_ble_eq_true rfl) (ws1 := [(h, .inr (9, [.int (nI 0), .ref q1, .ref q2, .null, .null, .null, .null])), (q1, .inl (zc G 0, 36, .inl fun _ => (-1))), (q2, .inl (zc G 0, 36, .inl fun _ => (-1)))]) rfl ?_
  refine c_aload dX9_init_27 0 rfl ?_
  refine c_const dX9_init_28 ?_
  refine c_callSN dX9_init_30 ok hA (mk_row ok (N := 36) (by decide)) (Nat.le_of_ble_eq_true rfl) cdX11_rowOfNone naX11_rowOfNone lkX9_15 stX11_rowOfNone rfl rfl (Nat.le_of_ble_eq_true rfl) [] [0, 1, 2] rfl (wr := [(h, .inr (9, [.int (nI 0), .ref q1, .ref q2, .null, .null, .null, .null])), (q1, .inl (zc G 0, 36, .inl fun _ => (-1))), (q2, .inl (zc G 0, 36, .inl fun _ => (-1)))]) rfl (by decide) (by decide) (by decide) ⟨(Nat.le_of_ble_eq_true rfl), (Nat.le_of_ble_eq_true rfl)⟩ (fun r w1 hp => ?_)
  obtain ⟨q3, rfl, rfl⟩ := hp
  refine c_put dX9_init_33 ok fkX9_26 0 rfl (fun _ _ _ h => by cases h; first | exact Or.inl rfl | exact Or.inr ⟨rfl, rfl, rfl⟩) ⟨rfl, rfl⟩ (Nat.le_of_ble_eq_true rfl) (ws1 := [(h, .inr (9, [.int (nI 0), .ref q1, .ref q2, .ref q3, .null, .null, .null])), (q1, .inl (zc G 0, 36, .inl fun _ => (-1))), (q2, .inl (zc G 0, 36, .inl fun _ => (-1))), (q3, .inl (zc G 0, 36, .inl fun _ => (-1)))]) rfl ?_
  refine c_aload dX9_init_36 0 rfl ?_
  refine c_const dX9_init_37 ?_
  refine c_callSN dX9_init_39 ok hA (mk_row ok (N := 36) (by decide)) (Nat.le_of_ble_eq_true rfl) cdX11_rowOfNone naX11_rowOfNone lkX9_15 stX11_rowOfNone rfl rfl (Nat.le_of_ble_eq_true rfl) [] [0, 1, 2, 3] rfl (wr := [(h, .inr (9, [.int (nI 0), .ref q1, .ref q2, .ref q3, .null, .null, .null])), (q1, .inl (zc G 0, 36, .inl fun _ => (-1))), (q2, .inl (zc G 0, 36, .inl fun _ => (-1))), (q3, .inl (zc G 0, 36, .inl fun _ => (-1)))]) rfl (by decide) (by decide) (by decide) ⟨(Nat.le_of_ble_eq_true rfl), (Nat.le_of_ble_eq_true rfl)⟩ (fun r w1 hp => ?_)
  obtain ⟨q4, rfl, rfl⟩ := hp
  refine c_put dX9_init_42 ok fkX9_29 0 rfl (fun _ _ _ h => by cases h; first | exact Or.inl rfl | exact Or.inr ⟨rfl, rfl, rfl⟩) ⟨rfl, rfl⟩ (Nat.le_of_ble_eq_true rfl) (ws1 := [(h, .inr (9, [.int (nI 0), .ref q1, .ref q2, .ref q3, .ref q4, .null, .null])), (q1, .inl (zc G 0, 36, .inl fun _ => (-1))), (q2, .inl (zc G 0, 36, .inl fun _ => (-1))), (q3, .inl (zc G 0, 36, .inl fun _ => (-1))), (q4, .inl (zc G 0, 36, .inl fun _ => (-1)))]) rfl ?_
  refine c_aload dX9_init_45 0 rfl ?_
  refine c_const dX9_init_46 ?_
  refine c_callSN dX9_init_48 ok hA (mk_row ok (N := 36) (by decide)) (Nat.le_of_ble_eq_true rfl) cdX11_rowOfNone naX11_rowOfNone lkX9_15 stX11_rowOfNone rfl rfl (Nat.le_of_ble_eq_true rfl) [] [0, 1, 2, 3, 4] rfl (wr := [(h, .inr (9, [.int (nI 0), .ref q1, .ref q2, .ref q3, .ref q4, .null, .null])), (q1, .inl (zc G 0, 36, .inl fun _ => (-1))), (q2, .inl (zc G 0, 36, .inl fun _ => (-1))), (q3, .inl (zc G 0, 36, .inl fun _ => (-1))), (q4, .inl (zc G 0, 36, .inl fun _ => (-1)))]) rfl (by decide) (by decide) (by decide) ⟨(Nat.le_of_ble_eq_true rfl), (Nat.le_of_ble_eq_true rfl)⟩ (fun r w1 hp => ?_)
  obtain ⟨q5, rfl, rfl⟩ := hp
  refine c_put dX9_init_51 ok fkX9_32 0 rfl (fun _ _ _ h => by cases h; first | exact Or.inl rfl | exact Or.inr ⟨rfl, rfl, rfl⟩) ⟨rfl, rfl⟩ (Nat.le_of_ble_eq_true rfl) (ws1 := [(h, .inr (9, [.int (nI 0), .ref q1, .ref q2, .ref q3, .ref q4, .ref q5, .null])), (q1, .inl (zc G 0, 36, .inl fun _ => (-1))), (q2, .inl (zc G 0, 36, .inl fun _ => (-1))), (q3, .inl (zc G 0, 36, .inl fun _ => (-1))), (q4, .inl (zc G 0, 36, .inl fun _ => (-1))), (q5, .inl (zc G 0, 36, .inl fun _ => (-1)))]) rfl ?_
  refine c_aload dX9_init_54 0 rfl ?_
  refine c_const dX9_init_55 ?_
  refine c_newai dX9_init_57 ok hA ar_int (N := 6) rfl (by decide) ⟨(Nat.le_of_ble_eq_true rfl), (Nat.le_of_ble_eq_true rfl)⟩ (fun q6 => ?_)
  refine c_put dX9_init_59 ok fkX9_35 0 rfl (fun _ _ _ h => by cases h; first | exact Or.inl rfl | exact Or.inr ⟨rfl, rfl, rfl⟩) ⟨rfl, rfl⟩ (Nat.le_of_ble_eq_true rfl) (ws1 := [(h, .inr (9, [.int (nI 0), .ref q1, .ref q2, .ref q3, .ref q4, .ref q5, .ref q6])), (q1, .inl (zc G 0, 36, .inl fun _ => (-1))), (q2, .inl (zc G 0, 36, .inl fun _ => (-1))), (q3, .inl (zc G 0, 36, .inl fun _ => (-1))), (q4, .inl (zc G 0, 36, .inl fun _ => (-1))), (q5, .inl (zc G 0, 36, .inl fun _ => (-1))), (q6, .inl (zc G 0, 6, .inl fun _ => 0))]) rfl ?_
  exact c_vret dX9_init_62 rfl ⟨rfl, q1, q2, q3, q4, q5, q6, rfl⟩ rfl
theorem mk_X0 {G : zG} (ok : zOK G) (h : Nat) : CM G mX0_init 1 (10, 640) [.ref h] [(h, .inr (0, [.int 0, .null, .null, .null, .null, .null, .null, .null, .null, .null, .null]))] (fun r w1 => r = none ∧ ∃ (q1 q2 q3 q4 q5 q6 q7 q8 q9 q10 : Nat), w1 = [(h, .inr (0, [.int (nI 0), .ref q1, .ref q2, .ref q3, .ref q4, .ref q5, .ref q6, .ref q7, .ref q8, .ref q9, .ref q10])), (q1, .inl (zc G 0, 64, .inl fun _ => 0)), (q2, .inl (zc G 0, 64, .inl fun _ => 0)), (q3, .inl (zc G 0, 64, .inl fun _ => 0)), (q4, .inl (zc G 0, 64, .inl fun _ => 0)), (q5, .inl (zc G 0, 64, .inl fun _ => 0)), (q6, .inl (zc G 0, 64, .inl fun _ => 0)), (q7, .inl (zc G 0, 64, .inl fun _ => 0)), (q8, .inl (zc G 0, 64, .inl fun _ => 0)), (q9, .inl (zc G 0, 64, .inl fun _ => 0)), (q10, .inl (zc G 0, 64, .inl fun _ => 0))]) := by
  refine CM.of (by decide +kernel) (Nat.le_of_ble_eq_true rfl) (fun sz hD0 => ?_)
  have hA : ∀ q, sz ≤ q → va_A [(h, .inr (0, [.int 0, .null, .null, .null, .null, .null, .null, .null, .null, .null, .null]))] sz q := fun q h => Or.inr h
  show cJ G _ sz mX0_init 1 _ (0, 0) _ 0 [(0, Value.ref h)] [] [(h, .inr (0, [.int 0, .null, .null, .null, .null, .null, .null, .null, .null, .null, .null]))]
  refine c_aload dX0_init_0 0 rfl ?_
  refine c_obj dX0_init_1 ok oi_X0 oi_im oi_cd (Nat.le_of_ble_eq_true rfl) ?_
  refine c_aload dX0_init_4 0 rfl ?_
  refine c_const dX0_init_5 ?_
  refine c_put dX0_init_6 ok fkX0_9 0 rfl (fun _ _ _ h => by cases h; first | exact Or.inl rfl | exact Or.inr ⟨rfl, rfl, rfl⟩) ⟨rfl, rfl⟩ (Nat.le_of_ble_eq_true rfl) (ws1 := [(h, .inr (0, [.int (nI 0), .null, .null, .null, .null, .null, .null, .null, .null, .null, .null]))]) rfl ?_
  refine c_aload dX0_init_9 0 rfl ?_
  refine c_const dX0_init_10 ?_
  refine c_newai dX0_init_12 ok hA ar_int (N := 64) rfl (by decide) ⟨(Nat.le_of_ble_eq_true rfl), (Nat.le_of_ble_eq_true rfl)⟩ (fun q1 => ?_)
  refine c_put dX0_init_14 ok fkX0_15 0 rfl (fun _ _ _ h => by cases h; first | exact Or.inl rfl | exact Or.inr ⟨rfl, rfl, rfl⟩) ⟨rfl, rfl⟩ (Nat.le_of_ble_eq_true rfl) (ws1 := [(h, .inr (0, [.int (nI 0), .ref q1, .null, .null, .null, .null, .null, .null, .null, .null, .null])), (q1, .inl (zc G 0, 64, .inl fun _ => 0))]) rfl ?_
  refine c_aload dX0_init_17 0 rfl ?_
  refine c_const dX0_init_18 ?_
  refine c_newai dX0_init_20 ok hA ar_int (N := 64) rfl (by decide) ⟨(Nat.le_of_ble_eq_true rfl), (Nat.le_of_ble_eq_true rfl)⟩ (fun q2 => ?_)
  refine c_put dX0_init_22 ok fkX0_19 0 rfl (fun _ _ _ h => by cases h; first | exact Or.inl rfl | exact Or.inr ⟨rfl, rfl, rfl⟩) ⟨rfl, rfl⟩ (Nat.le_of_ble_eq_true rfl) (ws1 := [(h, .inr (0, [.int (nI 0), .ref q1, .ref q2, .null, .null, .null, .null, .null, .null, .null, .null])), (q1, .inl (zc G 0, 64, .inl fun _ => 0)), (q2, .inl (zc G 0, 64, .inl fun _ => 0))]) rfl ?_
  refine c_aload dX0_init_25 0 rfl ?_
  refine c_const dX0_init_26 ?_
  refine c_newai dX0_init_28 ok hA ar_int (N := 64) rfl (by decide) ⟨(Nat.le_of_ble_eq_true rfl), (Nat.le_of_ble_eq_true rfl)⟩ (fun q3 => ?_)
  refine c_put dX0_init_30 ok fkX0_22 0 rfl (fun _ _ _ h => by cases h; first | exact Or.inl rfl | exact Or.inr ⟨rfl, rfl, rfl⟩) ⟨rfl, rfl⟩ (Nat.le_of_ble_eq_true rfl) (ws1 := [(h, .inr (0, [.int (nI 0), .ref q1, .ref q2, .ref q3, .null, .null, .null, .null, .null, .null, .null])), (q1, .inl (zc G 0, 64, .inl fun _ => 0)), (q2, .inl (zc G 0, 64, .inl fun _ => 0)), (q3, .inl (zc G 0, 64, .inl fun _ => 0))]) rfl ?_
  refine c_aload dX0_init_33 0 rfl ?_
  refine c_const dX0_init_34 ?_
  refine c_newai dX0_init_36 ok hA ar_int (N := 64) rfl (by decide) ⟨(Nat.le_of_ble_eq_true rfl), (Nat.le_of_ble_eq_true rfl)⟩ (fun q4 => ?_)
  refine c_put dX0_init_38 ok fkX0_25 0 rfl (fun _ _ _ h => by cases h; first | exact Or.inl rfl | exact Or.inr ⟨rfl, rfl, rfl⟩) ⟨rfl, rfl⟩ (Nat.le_of_ble_eq_true rfl) (ws1 := [(h, .inr (0, [.int (nI 0), .ref q1, .ref q2, .ref q3, .ref q4, .null, .null, .null, .null, .null, .null])), (q1, .inl (zc G 0, 64, .inl fun _ => 0)), (q2, .inl (zc G 0, 64, .inl fun _ => 0)), (q3, .inl (zc G 0, 64, .inl fun _ => 0)), (q4, .inl (zc G 0, 64, .inl fun _ => 0))]) rfl ?_
  refine c_aload dX0_init_41 0 rfl ?_
  refine c_const dX0_init_42 ?_
  refine c_newai dX0_init_44 ok hA ar_int (N := 64) rfl (by decide) ⟨(Nat.le_of_ble_eq_true rfl), (Nat.le_of_ble_eq_true rfl)⟩ (fun q5 => ?_)
  refine c_put dX0_init_46 ok fkX0_28 0 rfl (fun _ _ _ h => by cases h; first | exact Or.inl rfl | exact Or.inr ⟨rfl, rfl, rfl⟩) ⟨rfl, rfl⟩ (Nat.le_of_ble_eq_true rfl) (ws1 := [(h, .inr (0, [.int (nI 0), .ref q1, .ref q2, .ref q3, .ref q4, .ref q5, .null, .null, .null, .null, .null])), (q1, .inl (zc G 0, 64, .inl fun _ => 0)), (q2, .inl (zc G 0, 64, .inl fun _ => 0)), (q3, .inl (zc G 0, 64, .inl fun _ => 0)), (q4, .inl (zc G 0, 64, .inl fun _ => 0)), (q5, .inl (zc G 0, 64, .inl fun _ => 0))]) rfl ?_
  refine c_aload dX0_init_49 0 rfl ?_
  refine c_const dX0_init_50 ?_
  refine c_newai dX0_init_52 ok hA ar_int (N := 64) rfl (by decide) ⟨(Nat.le_of_ble_eq_true rfl), (Nat.le_of_ble_eq_true rfl)⟩ (fun q6 => ?_)
  refine c_put dX0_init_54 ok fkX0_31 0 rfl (fun _ _ _ h => by cases h; first | exact Or.inl rfl | exact Or.inr ⟨rfl, rfl, rfl⟩) ⟨rfl, rfl⟩ (Nat.le_of_ble_eq_true rfl) (ws1 := [(h, .inr (0, [.int (nI 0), .ref q1, .ref q2, .ref q3, .ref q4, .ref q5, .ref q6, .null, .null, .null, .null])), (q1, .inl (zc G 0, 64, .inl fun _ => 0)), (q2, .inl (zc G 0, 64, .inl fun _ => 0)), (q3, .inl (zc G 0, 64, .inl fun _ => 0)), (q4, .inl (zc G 0, 64, .inl fun _ => 0)), (q5, .inl (zc G 0, 64, .inl fun _ => 0)), (q6, .inl (zc G 0, 64, .inl fun _ => 0))]) rfl ?_
  refine c_aload dX0_init_57 0 rfl ?_
  refine c_const dX0_init_58 ?_
  refine c_newai dX0_init_60 ok hA ar_int (N := 64) rfl (by decide) ⟨(Nat.le_of_ble_eq_true rfl), (Nat.le_of_ble_eq_true rfl)⟩ (fun q7 => ?_)
  refine c_put dX0_init_62 ok fkX0_34 0 rfl (fun _ _ _ h => by cases h; first | exact Or.inl rfl | exact Or.inr ⟨rfl, rfl, rfl⟩) ⟨rfl, rfl⟩ (Nat.le_of_ble_eq_true rfl) (ws1 := [(h, .inr (0, [.int (nI 0), .ref q1, .ref q2, .ref q3, .ref q4, .ref q5, .ref q6, .ref q7, .null, .null, .null])), (q1, .inl (zc G 0, 64, .inl fun _ => 0)), (q2, .inl (zc G 0, 64, .inl fun _ => 0)), (q3, .inl (zc G 0, 64, .inl fun _ => 0)), (q4, .inl (zc G 0, 64, .inl fun _ => 0)), (q5, .inl (zc G 0, 64, .inl fun _ => 0)), (q6, .inl (zc G 0, 64, .inl fun _ => 0)), (q7, .inl (zc G 0, 64, .inl fun _ => 0))]) rfl ?_
  refine c_aload dX0_init_65 0 rfl ?_
  refine c_const dX0_init_66 ?_
  refine c_newai dX0_init_68 ok hA ar_int (N := 64) rfl (by decide) ⟨(Nat.le_of_ble_eq_true rfl), (Nat.le_of_ble_eq_true rfl)⟩ (fun q8 => ?_)
  refine c_put dX0_init_70 ok fkX0_37 0 rfl (fun _ _ _ h => by cases h; first | exact Or.inl rfl | exact Or.inr ⟨rfl, rfl, rfl⟩) ⟨rfl, rfl⟩ (Nat.le_of_ble_eq_true rfl) (ws1 := [(h, .inr (0, [.int (nI 0), .ref q1, .ref q2, .ref q3, .ref q4, .ref q5, .ref q6, .ref q7, .ref q8, .null, .null])), (q1, .inl (zc G 0, 64, .inl fun _ => 0)), (q2, .inl (zc G 0, 64, .inl fun _ => 0)), (q3, .inl (zc G 0, 64, .inl fun _ => 0)), (q4, .inl (zc G 0, 64, .inl fun _ => 0)), (q5, .inl (zc G 0, 64, .inl fun _ => 0)), (q6, .inl (zc G 0, 64, .inl fun _ => 0)), (q7, .inl (zc G 0, 64, .inl fun _ => 0)), (q8, .inl (zc G 0, 64, .inl fun _ => 0))]) rfl ?_
  refine c_aload dX0_init_73 0 rfl ?_
  refine c_const dX0_init_74 ?_
  refine c_newai dX0_init_76 ok hA ar_int (N := 64) rfl (by decide) ⟨(Nat.le_of_ble_eq_true rfl), (Nat.le_of_ble_eq_true rfl)⟩ (fun q9 => ?_)
  refine c_put dX0_init_78 ok fkX0_40 0 rfl (fun _ _ _ h => by cases h; first | exact Or.inl rfl | exact Or.inr ⟨rfl, rfl, rfl⟩) ⟨rfl, rfl⟩ (Nat.le_of_ble_eq_true rfl) (ws1 := [(h, .inr (0, [.int (nI 0), .ref q1, .ref q2, .ref q3, .ref q4, .ref q5, .ref q6, .ref q7, .ref q8, .ref q9, .null])), (q1, .inl (zc G 0, 64, .inl fun _ => 0)), (q2, .inl (zc G 0, 64, .inl fun _ => 0)), (q3, .inl (zc G 0, 64, .inl fun _ => 0)), (q4, .inl (zc G 0, 64, .inl fun _ => 0)), (q5, .inl (zc G 0, 64, .inl fun _ => 0)), (q6, .inl (zc G 0, 64, .inl fun _ => 0)), (q7, .inl (zc G 0, 64, .inl fun _ => 0)), (q8, .inl (zc G 0, 64, .inl fun _ => 0)), (q9, .inl (zc G 0, 64, .inl fun _ => 0))]) rfl ?_
  refine c_aload dX0_init_81 0 rfl ?_
  refine c_const dX0_init_82 ?_
  refine c_newai dX0_init_84 ok hA ar_int (N := 64) rfl (by decide) ⟨(Nat.le_of_ble_eq_true rfl), (Nat.le_of_ble_eq_true rfl)⟩ (fun q10 => ?_)
  refine c_put dX0_init_86 ok fkX0_43 0 rfl (fun _ _ _ h => by cases h; first | exact Or.inl rfl | exact Or.inr ⟨rfl, rfl, rfl⟩) ⟨rfl, rfl⟩ (Nat.le_of_ble_eq_true rfl) (ws1 := [(h, .inr (0, [.int (nI 0), .ref q1, .ref q2, .ref q3, .ref q4, .ref q5, .ref q6, .ref q7, .ref q8, .ref q9, .ref q10])), (q1, .inl (zc G 0, 64, .inl fun _ => 0)), (q2, .inl (zc G 0, 64, .inl fun _ => 0)), (q3, .inl (zc G 0, 64, .inl fun _ => 0)), (q4, .inl (zc G 0, 64, .inl fun _ => 0)), (q5, .inl (zc G 0, 64, .inl fun _ => 0)), (q6, .inl (zc G 0, 64, .inl fun _ => 0)), (q7, .inl (zc G 0, 64, .inl fun _ => 0)), (q8, .inl (zc G 0, 64, .inl fun _ => 0)), (q9, .inl (zc G 0, 64, .inl fun _ => 0)), (q10, .inl (zc G 0, 64, .inl fun _ => 0))]) rfl ?_
  exact c_vret dX0_init_89 rfl ⟨rfl, q1, q2, q3, q4, q5, q6, q7, q8, q9, q10, rfl⟩ rfl
theorem mk_X3 {G : zG} (ok : zOK G) (h : Nat) : CM G mX3_init 1 (1, 240) [.ref h] [(h, .inr (3, [.int 0, .int 0, .null]))] (fun r w1 => r = none ∧ ∃ (q1 : Nat), w1 = [(h, .inr (3, [.int (nI 0), .int (nI 0), .ref q1])), (q1, .inl (zc G 0, 240, .inl fun _ => 0))]) := by
  refine CM.of (by decide +kernel) (Nat.le_of_ble_eq_true rfl) (fun sz hD0 => ?_)
  have hA : ∀ q, sz ≤ q → va_A [(h, .inr (3, [.int 0, .int 0, .null]))] sz q := fun q h => Or.inr h
  show cJ G _ sz mX3_init 1 _ (0, 0) _ 0 [(0, Value.ref h)] [] [(h, .inr (3, [.int 0, .int 0, .null]))]
  refine c_aload dX3_init_0 0 rfl ?_
  refine c_obj dX3_init_1 ok oi_X3 oi_im oi_cd (Nat.le_of_ble_eq_true rfl) ?_
  refine c_aload dX3_init_4 0 rfl ?_
  refine c_const dX3_init_5 ?_
  refine c_put dX3_init_6 ok fkX3_9 0 rfl (fun _ _ _ h => by cases h; first | exact Or.inl rfl | exact Or.inr ⟨rfl, rfl, rfl⟩) ⟨rfl, rfl⟩ (Nat.le_of_ble_eq_true rfl) (ws1 := [(h, .inr (3, [.int (nI 0), .int 0, .null]))]) rfl ?_
  refine c_aload dX3_init_9 0 rfl ?_
  refine c_const dX3_init_10 ?_
  refine c_put dX3_init_11 ok fkX3_15 0 rfl (fun _ _ _ h => by cases h; first | exact Or.inl rfl | exact Or.inr ⟨rfl, rfl, rfl⟩) ⟨rfl, rfl⟩ (Nat.le_of_ble_eq_true rfl) (ws1 := [(h, .inr (3, [.int (nI 0), .int (nI 0), .null]))]) rfl ?_
  refine c_aload dX3_init_14 0 rfl ?_
  refine c_const dX3_init_15 ?_
  refine c_newai dX3_init_18 ok hA ar_int (N := 240) rfl (by decide) ⟨(Nat.le_of_ble_eq_true rfl), (Nat.le_of_ble_eq_true rfl)⟩ (fun q1 => ?_)
  refine c_put dX3_init_20 ok fkX3_18 0 rfl (fun _ _ _ h => by cases h; first | exact Or.inl rfl | exact Or.inr ⟨rfl, rfl, rfl⟩) ⟨rfl, rfl⟩ (Nat.le_of_ble_eq_true rfl) (ws1 := [(h, .inr (3, [.int (nI 0), .int (nI 0), .ref q1])), (q1, .inl (zc G 0, 240, .inl fun _ => 0))]) rfl ?_
  exact c_vret dX3_init_23 rfl ⟨rfl, q1, rfl⟩ rfl
