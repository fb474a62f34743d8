/-! small rows: returns with the memory as it is; cells by their numbers -/
section ZB
variable {M : zY} {n : Nat} {pc pc' : Nat} {L : List (Option zV)} {μ : zM}
theorem z_iret0 {r R : Int32} (hd : zd M.2.1 pc .ireturn 1 pc') (hr : M.2.2.2 = some .int) (h : r = R) : zJ M n (0, 0) (0, 0) (zQ (some (zi R)) μ) pc L [zi r] μ := by
  subst h
  exact z_iret hd hr rfl rfl rfl
theorem z_zret0 {r R : Int32} {ty : FieldType} (hd : zd M.2.1 pc .ireturn 1 pc') (hr : M.2.2.2 = some ty) (hn : narrow ty (.int r) = .int r) (h : r = R) : zJ M n (0, 0) (0, 0) (zQ (some (zi R)) μ) pc L [zi r] μ := by
  subst h
  exact z_zret hd hr hn rfl rfl rfl
theorem z_vret0 (hd : zd M.2.1 pc .return_ 1 pc') (hr : M.2.2.2 = none) : zJ M n (0, 0) (0, 0) (zQ none μ) pc L [] μ := z_vret hd hr rfl rfl rfl
theorem zB_nar {c : Prop} [Decidable c] : narrow .boolean (.int (zB c)) = .int (zB c) := by unfold zB; split <;> rfl
theorem zB_fit {c : Prop} [Decidable c] : fits .boolean (.int (zB c)) = true := by unfold zB; split <;> rfl
end ZB
theorem in_0 {w : Nat} (hw : w < 3) : (w + 4, 0) ∈ zids := zin_w hw (by decide)
theorem in4_0 : (4, 0) ∈ zids := zin_w (w := 0) (by decide) (by decide)
theorem in5_0 : (5, 0) ∈ zids := zin_w (w := 1) (by decide) (by decide)
theorem in6_0 : (6, 0) ∈ zids := zin_w (w := 2) (by decide) (by decide)
theorem sh_0 {w : Nat} : zsh (w + 4) 0 = some (.inr (10, [some (w + 4, 1), some (w + 4, 2), some (w + 4, 3), some (w + 4, 4), some (w + 4, 5), some (w + 4, 6), some (w + 4, 7), some (w + 4, 8), none, none, none, none, none, none])) := rfl
theorem in_1 {w : Nat} (hw : w < 3) : (w + 4, 1) ∈ zids := zin_w hw (by decide)
theorem in4_1 : (4, 1) ∈ zids := zin_w (w := 0) (by decide) (by decide)
theorem in5_1 : (5, 1) ∈ zids := zin_w (w := 1) (by decide) (by decide)
theorem in6_1 : (6, 1) ∈ zids := zin_w (w := 2) (by decide) (by decide)
theorem sh_1 {w : Nat} : zsh (w + 4) 1 = some (.inr (8, [none, none, none, none, none, none, none, none])) := rfl
theorem in_2 {w : Nat} (hw : w < 3) : (w + 4, 2) ∈ zids := zin_w hw (by decide)
theorem in4_2 : (4, 2) ∈ zids := zin_w (w := 0) (by decide) (by decide)
theorem in5_2 : (5, 2) ∈ zids := zin_w (w := 1) (by decide) (by decide)
theorem in6_2 : (6, 2) ∈ zids := zin_w (w := 2) (by decide) (by decide)
theorem sh_2 {w : Nat} : zsh (w + 4) 2 = some (.inr (1, [none, none])) := rfl
theorem in_3 {w : Nat} (hw : w < 3) : (w + 4, 3) ∈ zids := zin_w hw (by decide)
theorem in4_3 : (4, 3) ∈ zids := zin_w (w := 0) (by decide) (by decide)
theorem in5_3 : (5, 3) ∈ zids := zin_w (w := 1) (by decide) (by decide)
theorem in6_3 : (6, 3) ∈ zids := zin_w (w := 2) (by decide) (by decide)
theorem sh_3 {w : Nat} : zsh (w + 4) 3 = some (.inr (4, [none, none, some (w + 4, 9), some (w + 4, 10), some (w + 4, 11), some (w + 4, 12), some (w + 4, 13), some (w + 4, 14), some (w + 4, 15), some (w + 4, 16), some (w + 4, 17), some (w + 4, 18), some (w + 4, 19), some (w + 4, 20)])) := rfl
theorem in_4 {w : Nat} (hw : w < 3) : (w + 4, 4) ∈ zids := zin_w hw (by decide)
theorem in4_4 : (4, 4) ∈ zids := zin_w (w := 0) (by decide) (by decide)
theorem in5_4 : (5, 4) ∈ zids := zin_w (w := 1) (by decide) (by decide)
theorem in6_4 : (6, 4) ∈ zids := zin_w (w := 2) (by decide) (by decide)
theorem sh_4 {w : Nat} : zsh (w + 4) 4 = some (.inr (5, [some (w + 4, 21), some (w + 4, 22), some (w + 4, 23), some (w + 4, 24), some (w + 4, 25), some (w + 4, 26), some (w + 4, 27), some (w + 4, 28), some (w + 4, 29), some (w + 4, 30), some (w + 4, 31), some (w + 4, 32), some (w + 4, 33)])) := rfl
theorem in_5 {w : Nat} (hw : w < 3) : (w + 4, 5) ∈ zids := zin_w hw (by decide)
theorem in4_5 : (4, 5) ∈ zids := zin_w (w := 0) (by decide) (by decide)
theorem in5_5 : (5, 5) ∈ zids := zin_w (w := 1) (by decide) (by decide)
theorem in6_5 : (6, 5) ∈ zids := zin_w (w := 2) (by decide) (by decide)
theorem sh_5 {w : Nat} : zsh (w + 4) 5 = some (.inr (2, [none, none, some (w + 4, 34), some (w + 4, 35), some (w + 4, 36), some (w + 4, 37), some (w + 4, 38)])) := rfl
theorem in_6 {w : Nat} (hw : w < 3) : (w + 4, 6) ∈ zids := zin_w hw (by decide)
theorem in4_6 : (4, 6) ∈ zids := zin_w (w := 0) (by decide) (by decide)
theorem in5_6 : (5, 6) ∈ zids := zin_w (w := 1) (by decide) (by decide)
theorem in6_6 : (6, 6) ∈ zids := zin_w (w := 2) (by decide) (by decide)
theorem sh_6 {w : Nat} : zsh (w + 4) 6 = some (.inr (9, [none, some (w + 4, 39), some (w + 4, 40), some (w + 4, 41), some (w + 4, 42), some (w + 4, 43), some (w + 4, 44)])) := rfl
theorem in_7 {w : Nat} (hw : w < 3) : (w + 4, 7) ∈ zids := zin_w hw (by decide)
theorem in4_7 : (4, 7) ∈ zids := zin_w (w := 0) (by decide) (by decide)
theorem in5_7 : (5, 7) ∈ zids := zin_w (w := 1) (by decide) (by decide)
theorem in6_7 : (6, 7) ∈ zids := zin_w (w := 2) (by decide) (by decide)
theorem sh_7 {w : Nat} : zsh (w + 4) 7 = some (.inr (0, [none, some (w + 4, 45), some (w + 4, 46), some (w + 4, 47), some (w + 4, 48), some (w + 4, 49), some (w + 4, 50), some (w + 4, 51), some (w + 4, 52), some (w + 4, 53), some (w + 4, 54)])) := rfl
theorem in_8 {w : Nat} (hw : w < 3) : (w + 4, 8) ∈ zids := zin_w hw (by decide)
theorem in4_8 : (4, 8) ∈ zids := zin_w (w := 0) (by decide) (by decide)
theorem in5_8 : (5, 8) ∈ zids := zin_w (w := 1) (by decide) (by decide)
theorem in6_8 : (6, 8) ∈ zids := zin_w (w := 2) (by decide) (by decide)
theorem sh_8 {w : Nat} : zsh (w + 4) 8 = some (.inr (3, [none, none, some (w + 4, 55)])) := rfl
theorem in_9 {w : Nat} (hw : w < 3) : (w + 4, 9) ∈ zids := zin_w hw (by decide)
theorem in4_9 : (4, 9) ∈ zids := zin_w (w := 0) (by decide) (by decide)
theorem in5_9 : (5, 9) ∈ zids := zin_w (w := 1) (by decide) (by decide)
theorem in6_9 : (6, 9) ∈ zids := zin_w (w := 2) (by decide) (by decide)
theorem sh_9 {w : Nat} : zsh (w + 4) 9 = some (.inl (0, 6)) := rfl
theorem in_10 {w : Nat} (hw : w < 3) : (w + 4, 10) ∈ zids := zin_w hw (by decide)
theorem in4_10 : (4, 10) ∈ zids := zin_w (w := 0) (by decide) (by decide)
theorem in5_10 : (5, 10) ∈ zids := zin_w (w := 1) (by decide) (by decide)
theorem in6_10 : (6, 10) ∈ zids := zin_w (w := 2) (by decide) (by decide)
theorem sh_10 {w : Nat} : zsh (w + 4) 10 = some (.inl (0, 6)) := rfl
theorem in_11 {w : Nat} (hw : w < 3) : (w + 4, 11) ∈ zids := zin_w hw (by decide)
theorem in4_11 : (4, 11) ∈ zids := zin_w (w := 0) (by decide) (by decide)
theorem in5_11 : (5, 11) ∈ zids := zin_w (w := 1) (by decide) (by decide)
theorem in6_11 : (6, 11) ∈ zids := zin_w (w := 2) (by decide) (by decide)
theorem sh_11 {w : Nat} : zsh (w + 4) 11 = some (.inl (0, 6)) := rfl
theorem in_12 {w : Nat} (hw : w < 3) : (w + 4, 12) ∈ zids := zin_w hw (by decide)
theorem in4_12 : (4, 12) ∈ zids := zin_w (w := 0) (by decide) (by decide)
theorem in5_12 : (5, 12) ∈ zids := zin_w (w := 1) (by decide) (by decide)
theorem in6_12 : (6, 12) ∈ zids := zin_w (w := 2) (by decide) (by decide)
theorem sh_12 {w : Nat} : zsh (w + 4) 12 = some (.inl (0, 6)) := rfl
theorem in_13 {w : Nat} (hw : w < 3) : (w + 4, 13) ∈ zids := zin_w hw (by decide)
theorem in4_13 : (4, 13) ∈ zids := zin_w (w := 0) (by decide) (by decide)
theorem in5_13 : (5, 13) ∈ zids := zin_w (w := 1) (by decide) (by decide)
theorem in6_13 : (6, 13) ∈ zids := zin_w (w := 2) (by decide) (by decide)
theorem sh_13 {w : Nat} : zsh (w + 4) 13 = some (.inl (0, 6)) := rfl
theorem in_14 {w : Nat} (hw : w < 3) : (w + 4, 14) ∈ zids := zin_w hw (by decide)
theorem in4_14 : (4, 14) ∈ zids := zin_w (w := 0) (by decide) (by decide)
theorem in5_14 : (5, 14) ∈ zids := zin_w (w := 1) (by decide) (by decide)
theorem in6_14 : (6, 14) ∈ zids := zin_w (w := 2) (by decide) (by decide)
theorem sh_14 {w : Nat} : zsh (w + 4) 14 = some (.inl (0, 6)) := rfl
theorem in_15 {w : Nat} (hw : w < 3) : (w + 4, 15) ∈ zids := zin_w hw (by decide)
theorem in4_15 : (4, 15) ∈ zids := zin_w (w := 0) (by decide) (by decide)
theorem in5_15 : (5, 15) ∈ zids := zin_w (w := 1) (by decide) (by decide)
theorem in6_15 : (6, 15) ∈ zids := zin_w (w := 2) (by decide) (by decide)
theorem sh_15 {w : Nat} : zsh (w + 4) 15 = some (.inl (0, 6)) := rfl
theorem in_16 {w : Nat} (hw : w < 3) : (w + 4, 16) ∈ zids := zin_w hw (by decide)
theorem in4_16 : (4, 16) ∈ zids := zin_w (w := 0) (by decide) (by decide)
theorem in5_16 : (5, 16) ∈ zids := zin_w (w := 1) (by decide) (by decide)
theorem in6_16 : (6, 16) ∈ zids := zin_w (w := 2) (by decide) (by decide)
theorem sh_16 {w : Nat} : zsh (w + 4) 16 = some (.inl (0, 6)) := rfl
theorem in_17 {w : Nat} (hw : w < 3) : (w + 4, 17) ∈ zids := zin_w hw (by decide)
theorem in4_17 : (4, 17) ∈ zids := zin_w (w := 0) (by decide) (by decide)
theorem in5_17 : (5, 17) ∈ zids := zin_w (w := 1) (by decide) (by decide)
theorem in6_17 : (6, 17) ∈ zids := zin_w (w := 2) (by decide) (by decide)
theorem sh_17 {w : Nat} : zsh (w + 4) 17 = some (.inl (0, 6)) := rfl
theorem in_18 {w : Nat} (hw : w < 3) : (w + 4, 18) ∈ zids := zin_w hw (by decide)
theorem in4_18 : (4, 18) ∈ zids := zin_w (w := 0) (by decide) (by decide)
theorem in5_18 : (5, 18) ∈ zids := zin_w (w := 1) (by decide) (by decide)
theorem in6_18 : (6, 18) ∈ zids := zin_w (w := 2) (by decide) (by decide)
theorem sh_18 {w : Nat} : zsh (w + 4) 18 = some (.inl (0, 36)) := rfl
theorem in_19 {w : Nat} (hw : w < 3) : (w + 4, 19) ∈ zids := zin_w hw (by decide)
theorem in4_19 : (4, 19) ∈ zids := zin_w (w := 0) (by decide) (by decide)
theorem in5_19 : (5, 19) ∈ zids := zin_w (w := 1) (by decide) (by decide)
theorem in6_19 : (6, 19) ∈ zids := zin_w (w := 2) (by decide) (by decide)
theorem sh_19 {w : Nat} : zsh (w + 4) 19 = some (.inl (0, 36)) := rfl
theorem in_20 {w : Nat} (hw : w < 3) : (w + 4, 20) ∈ zids := zin_w hw (by decide)
theorem in4_20 : (4, 20) ∈ zids := zin_w (w := 0) (by decide) (by decide)
theorem in5_20 : (5, 20) ∈ zids := zin_w (w := 1) (by decide) (by decide)
theorem in6_20 : (6, 20) ∈ zids := zin_w (w := 2) (by decide) (by decide)
theorem sh_20 {w : Nat} : zsh (w + 4) 20 = some (.inl (0, 36)) := rfl
theorem in_21 {w : Nat} (hw : w < 3) : (w + 4, 21) ∈ zids := zin_w hw (by decide)
theorem in4_21 : (4, 21) ∈ zids := zin_w (w := 0) (by decide) (by decide)
theorem in5_21 : (5, 21) ∈ zids := zin_w (w := 1) (by decide) (by decide)
theorem in6_21 : (6, 21) ∈ zids := zin_w (w := 2) (by decide) (by decide)
theorem sh_21 {w : Nat} : zsh (w + 4) 21 = some (.inl (0, 72)) := rfl
theorem in_22 {w : Nat} (hw : w < 3) : (w + 4, 22) ∈ zids := zin_w hw (by decide)
theorem in4_22 : (4, 22) ∈ zids := zin_w (w := 0) (by decide) (by decide)
theorem in5_22 : (5, 22) ∈ zids := zin_w (w := 1) (by decide) (by decide)
theorem in6_22 : (6, 22) ∈ zids := zin_w (w := 2) (by decide) (by decide)
theorem sh_22 {w : Nat} : zsh (w + 4) 22 = some (.inl (0, 72)) := rfl
theorem in_23 {w : Nat} (hw : w < 3) : (w + 4, 23) ∈ zids := zin_w hw (by decide)
theorem in4_23 : (4, 23) ∈ zids := zin_w (w := 0) (by decide) (by decide)
theorem in5_23 : (5, 23) ∈ zids := zin_w (w := 1) (by decide) (by decide)
theorem in6_23 : (6, 23) ∈ zids := zin_w (w := 2) (by decide) (by decide)
theorem sh_23 {w : Nat} : zsh (w + 4) 23 = some (.inl (0, 72)) := rfl
theorem in_24 {w : Nat} (hw : w < 3) : (w + 4, 24) ∈ zids := zin_w hw (by decide)
theorem in4_24 : (4, 24) ∈ zids := zin_w (w := 0) (by decide) (by decide)
theorem in5_24 : (5, 24) ∈ zids := zin_w (w := 1) (by decide) (by decide)
theorem in6_24 : (6, 24) ∈ zids := zin_w (w := 2) (by decide) (by decide)
theorem sh_24 {w : Nat} : zsh (w + 4) 24 = some (.inl (0, 72)) := rfl
theorem in_25 {w : Nat} (hw : w < 3) : (w + 4, 25) ∈ zids := zin_w hw (by decide)
theorem in4_25 : (4, 25) ∈ zids := zin_w (w := 0) (by decide) (by decide)
theorem in5_25 : (5, 25) ∈ zids := zin_w (w := 1) (by decide) (by decide)
theorem in6_25 : (6, 25) ∈ zids := zin_w (w := 2) (by decide) (by decide)
theorem sh_25 {w : Nat} : zsh (w + 4) 25 = some (.inl (0, 72)) := rfl
theorem in_26 {w : Nat} (hw : w < 3) : (w + 4, 26) ∈ zids := zin_w hw (by decide)
theorem in4_26 : (4, 26) ∈ zids := zin_w (w := 0) (by decide) (by decide)
theorem in5_26 : (5, 26) ∈ zids := zin_w (w := 1) (by decide) (by decide)
theorem in6_26 : (6, 26) ∈ zids := zin_w (w := 2) (by decide) (by decide)
theorem sh_26 {w : Nat} : zsh (w + 4) 26 = some (.inl (0, 72)) := rfl
theorem in_27 {w : Nat} (hw : w < 3) : (w + 4, 27) ∈ zids := zin_w hw (by decide)
theorem in4_27 : (4, 27) ∈ zids := zin_w (w := 0) (by decide) (by decide)
theorem in5_27 : (5, 27) ∈ zids := zin_w (w := 1) (by decide) (by decide)
theorem in6_27 : (6, 27) ∈ zids := zin_w (w := 2) (by decide) (by decide)
theorem sh_27 {w : Nat} : zsh (w + 4) 27 = some (.inl (0, 72)) := rfl
theorem in_28 {w : Nat} (hw : w < 3) : (w + 4, 28) ∈ zids := zin_w hw (by decide)
theorem in4_28 : (4, 28) ∈ zids := zin_w (w := 0) (by decide) (by decide)
theorem in5_28 : (5, 28) ∈ zids := zin_w (w := 1) (by decide) (by decide)
theorem in6_28 : (6, 28) ∈ zids := zin_w (w := 2) (by decide) (by decide)
theorem sh_28 {w : Nat} : zsh (w + 4) 28 = some (.inl (0, 72)) := rfl
theorem in_29 {w : Nat} (hw : w < 3) : (w + 4, 29) ∈ zids := zin_w hw (by decide)
theorem in4_29 : (4, 29) ∈ zids := zin_w (w := 0) (by decide) (by decide)
theorem in5_29 : (5, 29) ∈ zids := zin_w (w := 1) (by decide) (by decide)
theorem in6_29 : (6, 29) ∈ zids := zin_w (w := 2) (by decide) (by decide)
theorem sh_29 {w : Nat} : zsh (w + 4) 29 = some (.inl (0, 72)) := rfl
theorem in_30 {w : Nat} (hw : w < 3) : (w + 4, 30) ∈ zids := zin_w hw (by decide)
theorem in4_30 : (4, 30) ∈ zids := zin_w (w := 0) (by decide) (by decide)
theorem in5_30 : (5, 30) ∈ zids := zin_w (w := 1) (by decide) (by decide)
theorem in6_30 : (6, 30) ∈ zids := zin_w (w := 2) (by decide) (by decide)
theorem sh_30 {w : Nat} : zsh (w + 4) 30 = some (.inl (0, 72)) := rfl
theorem in_31 {w : Nat} (hw : w < 3) : (w + 4, 31) ∈ zids := zin_w hw (by decide)
theorem in4_31 : (4, 31) ∈ zids := zin_w (w := 0) (by decide) (by decide)
theorem in5_31 : (5, 31) ∈ zids := zin_w (w := 1) (by decide) (by decide)
theorem in6_31 : (6, 31) ∈ zids := zin_w (w := 2) (by decide) (by decide)
theorem sh_31 {w : Nat} : zsh (w + 4) 31 = some (.inl (0, 72)) := rfl
theorem in_32 {w : Nat} (hw : w < 3) : (w + 4, 32) ∈ zids := zin_w hw (by decide)
theorem in4_32 : (4, 32) ∈ zids := zin_w (w := 0) (by decide) (by decide)
theorem in5_32 : (5, 32) ∈ zids := zin_w (w := 1) (by decide) (by decide)
theorem in6_32 : (6, 32) ∈ zids := zin_w (w := 2) (by decide) (by decide)
theorem sh_32 {w : Nat} : zsh (w + 4) 32 = some (.inl (0, 72)) := rfl
theorem in_33 {w : Nat} (hw : w < 3) : (w + 4, 33) ∈ zids := zin_w hw (by decide)
theorem in4_33 : (4, 33) ∈ zids := zin_w (w := 0) (by decide) (by decide)
theorem in5_33 : (5, 33) ∈ zids := zin_w (w := 1) (by decide) (by decide)
theorem in6_33 : (6, 33) ∈ zids := zin_w (w := 2) (by decide) (by decide)
theorem sh_33 {w : Nat} : zsh (w + 4) 33 = some (.inl (0, 72)) := rfl
theorem in_34 {w : Nat} (hw : w < 3) : (w + 4, 34) ∈ zids := zin_w hw (by decide)
theorem in4_34 : (4, 34) ∈ zids := zin_w (w := 0) (by decide) (by decide)
theorem in5_34 : (5, 34) ∈ zids := zin_w (w := 1) (by decide) (by decide)
theorem in6_34 : (6, 34) ∈ zids := zin_w (w := 2) (by decide) (by decide)
theorem sh_34 {w : Nat} : zsh (w + 4) 34 = some (.inl (0, 10)) := rfl
theorem in_35 {w : Nat} (hw : w < 3) : (w + 4, 35) ∈ zids := zin_w hw (by decide)
theorem in4_35 : (4, 35) ∈ zids := zin_w (w := 0) (by decide) (by decide)
theorem in5_35 : (5, 35) ∈ zids := zin_w (w := 1) (by decide) (by decide)
theorem in6_35 : (6, 35) ∈ zids := zin_w (w := 2) (by decide) (by decide)
theorem sh_35 {w : Nat} : zsh (w + 4) 35 = some (.inl (0, 10)) := rfl
theorem in_36 {w : Nat} (hw : w < 3) : (w + 4, 36) ∈ zids := zin_w hw (by decide)
theorem in4_36 : (4, 36) ∈ zids := zin_w (w := 0) (by decide) (by decide)
theorem in5_36 : (5, 36) ∈ zids := zin_w (w := 1) (by decide) (by decide)
theorem in6_36 : (6, 36) ∈ zids := zin_w (w := 2) (by decide) (by decide)
theorem sh_36 {w : Nat} : zsh (w + 4) 36 = some (.inl (0, 10)) := rfl
theorem in_37 {w : Nat} (hw : w < 3) : (w + 4, 37) ∈ zids := zin_w hw (by decide)
theorem in4_37 : (4, 37) ∈ zids := zin_w (w := 0) (by decide) (by decide)
theorem in5_37 : (5, 37) ∈ zids := zin_w (w := 1) (by decide) (by decide)
theorem in6_37 : (6, 37) ∈ zids := zin_w (w := 2) (by decide) (by decide)
theorem sh_37 {w : Nat} : zsh (w + 4) 37 = some (.inl (0, 10)) := rfl
theorem in_38 {w : Nat} (hw : w < 3) : (w + 4, 38) ∈ zids := zin_w hw (by decide)
theorem in4_38 : (4, 38) ∈ zids := zin_w (w := 0) (by decide) (by decide)
theorem in5_38 : (5, 38) ∈ zids := zin_w (w := 1) (by decide) (by decide)
theorem in6_38 : (6, 38) ∈ zids := zin_w (w := 2) (by decide) (by decide)
theorem sh_38 {w : Nat} : zsh (w + 4) 38 = some (.inl (0, 10)) := rfl
theorem in_39 {w : Nat} (hw : w < 3) : (w + 4, 39) ∈ zids := zin_w hw (by decide)
theorem in4_39 : (4, 39) ∈ zids := zin_w (w := 0) (by decide) (by decide)
theorem in5_39 : (5, 39) ∈ zids := zin_w (w := 1) (by decide) (by decide)
theorem in6_39 : (6, 39) ∈ zids := zin_w (w := 2) (by decide) (by decide)
theorem sh_39 {w : Nat} : zsh (w + 4) 39 = some (.inl (0, 36)) := rfl
theorem in_40 {w : Nat} (hw : w < 3) : (w + 4, 40) ∈ zids := zin_w hw (by decide)
theorem in4_40 : (4, 40) ∈ zids := zin_w (w := 0) (by decide) (by decide)
theorem in5_40 : (5, 40) ∈ zids := zin_w (w := 1) (by decide) (by decide)
theorem in6_40 : (6, 40) ∈ zids := zin_w (w := 2) (by decide) (by decide)
theorem sh_40 {w : Nat} : zsh (w + 4) 40 = some (.inl (0, 36)) := rfl
theorem in_41 {w : Nat} (hw : w < 3) : (w + 4, 41) ∈ zids := zin_w hw (by decide)
theorem in4_41 : (4, 41) ∈ zids := zin_w (w := 0) (by decide) (by decide)
theorem in5_41 : (5, 41) ∈ zids := zin_w (w := 1) (by decide) (by decide)
theorem in6_41 : (6, 41) ∈ zids := zin_w (w := 2) (by decide) (by decide)
theorem sh_41 {w : Nat} : zsh (w + 4) 41 = some (.inl (0, 36)) := rfl
theorem in_42 {w : Nat} (hw : w < 3) : (w + 4, 42) ∈ zids := zin_w hw (by decide)
theorem in4_42 : (4, 42) ∈ zids := zin_w (w := 0) (by decide) (by decide)
theorem in5_42 : (5, 42) ∈ zids := zin_w (w := 1) (by decide) (by decide)
theorem in6_42 : (6, 42) ∈ zids := zin_w (w := 2) (by decide) (by decide)
theorem sh_42 {w : Nat} : zsh (w + 4) 42 = some (.inl (0, 36)) := rfl
theorem in_43 {w : Nat} (hw : w < 3) : (w + 4, 43) ∈ zids := zin_w hw (by decide)
theorem in4_43 : (4, 43) ∈ zids := zin_w (w := 0) (by decide) (by decide)
theorem in5_43 : (5, 43) ∈ zids := zin_w (w := 1) (by decide) (by decide)
theorem in6_43 : (6, 43) ∈ zids := zin_w (w := 2) (by decide) (by decide)
theorem sh_43 {w : Nat} : zsh (w + 4) 43 = some (.inl (0, 36)) := rfl
theorem in_44 {w : Nat} (hw : w < 3) : (w + 4, 44) ∈ zids := zin_w hw (by decide)
theorem in4_44 : (4, 44) ∈ zids := zin_w (w := 0) (by decide) (by decide)
theorem in5_44 : (5, 44) ∈ zids := zin_w (w := 1) (by decide) (by decide)
theorem in6_44 : (6, 44) ∈ zids := zin_w (w := 2) (by decide) (by decide)
theorem sh_44 {w : Nat} : zsh (w + 4) 44 = some (.inl (0, 6)) := rfl
theorem in_45 {w : Nat} (hw : w < 3) : (w + 4, 45) ∈ zids := zin_w hw (by decide)
theorem in4_45 : (4, 45) ∈ zids := zin_w (w := 0) (by decide) (by decide)
theorem in5_45 : (5, 45) ∈ zids := zin_w (w := 1) (by decide) (by decide)
theorem in6_45 : (6, 45) ∈ zids := zin_w (w := 2) (by decide) (by decide)
theorem sh_45 {w : Nat} : zsh (w + 4) 45 = some (.inl (0, 64)) := rfl
theorem in_46 {w : Nat} (hw : w < 3) : (w + 4, 46) ∈ zids := zin_w hw (by decide)
theorem in4_46 : (4, 46) ∈ zids := zin_w (w := 0) (by decide) (by decide)
theorem in5_46 : (5, 46) ∈ zids := zin_w (w := 1) (by decide) (by decide)
theorem in6_46 : (6, 46) ∈ zids := zin_w (w := 2) (by decide) (by decide)
theorem sh_46 {w : Nat} : zsh (w + 4) 46 = some (.inl (0, 64)) := rfl
theorem in_47 {w : Nat} (hw : w < 3) : (w + 4, 47) ∈ zids := zin_w hw (by decide)
theorem in4_47 : (4, 47) ∈ zids := zin_w (w := 0) (by decide) (by decide)
theorem in5_47 : (5, 47) ∈ zids := zin_w (w := 1) (by decide) (by decide)
theorem in6_47 : (6, 47) ∈ zids := zin_w (w := 2) (by decide) (by decide)
theorem sh_47 {w : Nat} : zsh (w + 4) 47 = some (.inl (0, 64)) := rfl
theorem in_48 {w : Nat} (hw : w < 3) : (w + 4, 48) ∈ zids := zin_w hw (by decide)
theorem in4_48 : (4, 48) ∈ zids := zin_w (w := 0) (by decide) (by decide)
theorem in5_48 : (5, 48) ∈ zids := zin_w (w := 1) (by decide) (by decide)
theorem in6_48 : (6, 48) ∈ zids := zin_w (w := 2) (by decide) (by decide)
theorem sh_48 {w : Nat} : zsh (w + 4) 48 = some (.inl (0, 64)) := rfl
theorem in_49 {w : Nat} (hw : w < 3) : (w + 4, 49) ∈ zids := zin_w hw (by decide)
theorem in4_49 : (4, 49) ∈ zids := zin_w (w := 0) (by decide) (by decide)
theorem in5_49 : (5, 49) ∈ zids := zin_w (w := 1) (by decide) (by decide)
theorem in6_49 : (6, 49) ∈ zids := zin_w (w := 2) (by decide) (by decide)
theorem sh_49 {w : Nat} : zsh (w + 4) 49 = some (.inl (0, 64)) := rfl
theorem in_50 {w : Nat} (hw : w < 3) : (w + 4, 50) ∈ zids := zin_w hw (by decide)
theorem in4_50 : (4, 50) ∈ zids := zin_w (w := 0) (by decide) (by decide)
theorem in5_50 : (5, 50) ∈ zids := zin_w (w := 1) (by decide) (by decide)
theorem in6_50 : (6, 50) ∈ zids := zin_w (w := 2) (by decide) (by decide)
theorem sh_50 {w : Nat} : zsh (w + 4) 50 = some (.inl (0, 64)) := rfl
theorem in_51 {w : Nat} (hw : w < 3) : (w + 4, 51) ∈ zids := zin_w hw (by decide)
theorem in4_51 : (4, 51) ∈ zids := zin_w (w := 0) (by decide) (by decide)
theorem in5_51 : (5, 51) ∈ zids := zin_w (w := 1) (by decide) (by decide)
theorem in6_51 : (6, 51) ∈ zids := zin_w (w := 2) (by decide) (by decide)
theorem sh_51 {w : Nat} : zsh (w + 4) 51 = some (.inl (0, 64)) := rfl
theorem in_52 {w : Nat} (hw : w < 3) : (w + 4, 52) ∈ zids := zin_w hw (by decide)
theorem in4_52 : (4, 52) ∈ zids := zin_w (w := 0) (by decide) (by decide)
theorem in5_52 : (5, 52) ∈ zids := zin_w (w := 1) (by decide) (by decide)
theorem in6_52 : (6, 52) ∈ zids := zin_w (w := 2) (by decide) (by decide)
theorem sh_52 {w : Nat} : zsh (w + 4) 52 = some (.inl (0, 64)) := rfl
theorem in_53 {w : Nat} (hw : w < 3) : (w + 4, 53) ∈ zids := zin_w hw (by decide)
theorem in4_53 : (4, 53) ∈ zids := zin_w (w := 0) (by decide) (by decide)
theorem in5_53 : (5, 53) ∈ zids := zin_w (w := 1) (by decide) (by decide)
theorem in6_53 : (6, 53) ∈ zids := zin_w (w := 2) (by decide) (by decide)
theorem sh_53 {w : Nat} : zsh (w + 4) 53 = some (.inl (0, 64)) := rfl
theorem in_54 {w : Nat} (hw : w < 3) : (w + 4, 54) ∈ zids := zin_w hw (by decide)
theorem in4_54 : (4, 54) ∈ zids := zin_w (w := 0) (by decide) (by decide)
theorem in5_54 : (5, 54) ∈ zids := zin_w (w := 1) (by decide) (by decide)
theorem in6_54 : (6, 54) ∈ zids := zin_w (w := 2) (by decide) (by decide)
theorem sh_54 {w : Nat} : zsh (w + 4) 54 = some (.inl (0, 64)) := rfl
theorem in_55 {w : Nat} (hw : w < 3) : (w + 4, 55) ∈ zids := zin_w hw (by decide)
theorem in4_55 : (4, 55) ∈ zids := zin_w (w := 0) (by decide) (by decide)
theorem in5_55 : (5, 55) ∈ zids := zin_w (w := 1) (by decide) (by decide)
theorem in6_55 : (6, 55) ∈ zids := zin_w (w := 2) (by decide) (by decide)
theorem sh_55 {w : Nat} : zsh (w + 4) 55 = some (.inl (0, 240)) := rfl
theorem in0_0 : (0, 0) ∈ zids := by decide +kernel
theorem sh0_0 : zsh 0 0 = some (.inr (11, [some (0, 1), some (0, 3), some (4, 0), some (5, 0), some (6, 0), none, none])) := rfl
theorem in0_1 : (0, 1) ∈ zids := by decide +kernel
theorem sh0_1 : zsh 0 1 = some (.inr (7, [some (0, 2), none])) := rfl
theorem in0_2 : (0, 2) ∈ zids := by decide +kernel
theorem sh0_2 : zsh 0 2 = some (.inl (1, 400)) := rfl
theorem in0_3 : (0, 3) ∈ zids := by decide +kernel
theorem sh0_3 : zsh 0 3 = some (.inr (6, [some (0, 1), none, none, none])) := rfl
theorem in1_0 : (1, 0) ∈ zids := by decide +kernel
theorem sh1_0 : zsh 1 0 = some (.inr (12, [none, some (1, 1), some (1, 2), some (1, 3), some (1, 4), none, some (1, 5), none, none, none, none, none, some (1, 6), some (1, 7), some (1, 8), some (1, 9), none, some (1, 10), some (1, 11)])) := rfl
theorem in1_1 : (1, 1) ∈ zids := by decide +kernel
theorem sh1_1 : zsh 1 1 = some (.inl (0, 2422)) := rfl
theorem in1_2 : (1, 2) ∈ zids := by decide +kernel
theorem sh1_2 : zsh 1 2 = some (.inl (0, 2422)) := rfl
theorem in1_3 : (1, 3) ∈ zids := by decide +kernel
theorem sh1_3 : zsh 1 3 = some (.inl (0, 2422)) := rfl
theorem in1_4 : (1, 4) ∈ zids := by decide +kernel
theorem sh1_4 : zsh 1 4 = some (.inl (0, 2422)) := rfl
theorem in1_5 : (1, 5) ∈ zids := by decide +kernel
theorem sh1_5 : zsh 1 5 = some (.inl (1, 400)) := rfl
theorem in1_6 : (1, 6) ∈ zids := by decide +kernel
theorem sh1_6 : zsh 1 6 = some (.inl (0, 5)) := rfl
theorem in1_7 : (1, 7) ∈ zids := by decide +kernel
theorem sh1_7 : zsh 1 7 = some (.inl (0, 36)) := rfl
theorem in1_8 : (1, 8) ∈ zids := by decide +kernel
theorem sh1_8 : zsh 1 8 = some (.inl (0, 36)) := rfl
theorem in1_9 : (1, 9) ∈ zids := by decide +kernel
theorem sh1_9 : zsh 1 9 = some (.inl (0, 36)) := rfl
theorem in1_10 : (1, 10) ∈ zids := by decide +kernel
theorem sh1_10 : zsh 1 10 = some (.inl (2, 6)) := rfl
theorem in1_11 : (1, 11) ∈ zids := by decide +kernel
theorem sh1_11 : zsh 1 11 = some (.inl (0, 6)) := rfl
theorem in2_0 : (2, 0) ∈ zids := by decide +kernel
theorem sh2_0 : zsh 2 0 = some (.inl (3, 1)) := rfl
/-- a method of a class that has natives of its own, itself none of them -/
theorem zMet_ofF {l : Launch} {y : MethodName} {ws ws' : List Cond} {rm : Room} {Pc : Array Value → State → Prop} {Qc : Array Value → State → Outcome → State → Prop} {mc ms : Nat} {free : Addr → Prop} {cc : ByteArray} {maxL : Nat} {ret : Option FieldType}
    (hy : plainFor y = true) (hw : ws = Cond.code y cc maxL ret :: ws')
    (body : ∀ p e s m args below meth c s₁, BodyLoose p l y (headSpec ws rm) cc maxL ret e s m args below meth c s₁ → c.maxLocals = maxL → Pc args s →
      W p l e (headSpec ws rm).room s m args below meth c s.heap [] 0 0 (MQ below Qc args s mc ms free) (entryFrame m args maxL)) : Met l y ws rm Pc Qc mc ms free := by
  refine MetFree.of_bodySF (code := cc) (maxLocals := maxL) (ret := ret) hy (fun args s m h hn => ?_) (fun p e s m args below meth c s₁ B hml hP _ => ?_)
  · obtain ⟨meth, c, h1, h2, h3, h4, h5, h6, -⟩ := Cond.code_spec hn (atoms_spec (ws := ws) h _ (hw ▸ List.mem_cons_self))
    exact ⟨meth, c, h1, h2, h3, h4, h5, h6⟩
  · obtain ⟨t, a1, o, b1, b2, b3⟩ := body p e s m args below meth c s₁ B hml hP s₁ (by rw [B.state]; rfl) (Stand.of_body B)
    exact ⟨t, o, a1, b1, b2, b3⟩
theorem LM.ofF {M : zY} {n : Nat} {av : List zV} {μ : zM} {r : Option zV} {μ' : zM} (hp : plainFor M.1 = true) (ha : av.all (fun v => match v with | .inr (.inr _) => false | _ => true) = true) (hlen : av.length ≤ M.2.2.1) (h : zJ M n (0, 0) (0, 0) (zQ r μ') 0 (av.map some ++ List.replicate (M.2.2.1 - av.length) none) [] μ) : LM M n av μ r μ' := by
  intro l G hf ok
  refine zMet_ofF (cc := M.2.1) (maxL := M.2.2.1) (ret := M.2.2.2) hp rfl ?_
  intro p e s m args below meth c s₁ B hml hv
  obtain ⟨rfl, hw⟩ := hv
  rw [lg_entry_eq]
  have hl := lv_entry (av.map (rv G)) (n := M.2.2.1) (by rw [zsl_len G av ha]; exact hlen)
  refine h l G _ p e s m _ below meth c s.heap [] _ hf ok ⟨Nat.le_refl _, Nat.le_refl _, rfl, rfl, Nat.le_refl _, Nat.le_refl _⟩ ⟨B.exec, B.bytes, hml, B.returns, B.notSynchronized, findClass_of_methodNamed B.named⟩ hw ?_ va_S.rf hw.2.2.2.1
  refine ⟨hl.1, by simp; omega, hl.2.1, fun i v hi => ?_⟩
  have hi' : i < av.length := by
    rcases Nat.lt_or_ge i av.length with q | q
    · exact q
    · rw [List.getElem?_append_right (by simpa using q)] at hi
      have := List.eq_of_mem_replicate (List.mem_of_getElem? hi)
      cases this
  rw [List.getElem?_append_left (by simpa using hi'), List.getElem?_map] at hi
  have hv : av[i]? = some v := by
    cases hx : av[i]? with
    | none => rw [hx] at hi; cases hi
    | some y => rw [hx] at hi; cases hi; rfl
  obtain ⟨h1, h2⟩ := zarg_loc G av 0 ha i v hv
  rw [Nat.zero_add] at h2
  exact ⟨h1, hl.2.2 _ h2⟩
/-! what the methods compute, in the Option monad: none where the machine would throw by itself, or the fuel is short -/
def zchk {α : Type} (b : Bool) (o : Option α) : Option α := if b = true then o else none
theorem zchk_some {α : Type} {b : Bool} {o : Option α} {y : α} (h : zchk b o = some y) : b = true ∧ o = some y := by
  unfold zchk at h; split at h
  · next hb => exact ⟨hb, h⟩
  · cases h
theorem zchk_t {α : Type} {b : Bool} {o : Option α} (h : b = true) : zchk b o = o := if_pos h
def zin (i : Int32) (n : Nat) : Bool := decide (¬ (i < 0 ∨ n ≤ i.toNatClampNeg))
theorem zin_vp {i : Int32} {n : Nat} (h : zin i n = true) : vp_in i n := show ¬ (i < 0 ∨ n ≤ i.toNatClampNeg) from of_decide_eq_true h
theorem zin_nI {i n : Nat} (h : i < n) (hn : n < 2 ^ 31) : zin (nI i) n = true := decide_eq_true (show ¬ (nI i < 0 ∨ n ≤ (nI i).toNatClampNeg) from vp_in_nI h hn)
def znz (y : Int32) : Bool := decide (¬ y = 0)
theorem znz_ne {y : Int32} (h : znz y = true) : ¬ y = 0 := of_decide_eq_true h
def zlet {α β : Type} (x : α) (f : α → β) : β := f x
def zbd {α β : Type} (o : Option α) (f : α → Option β) : Option β := match o with
  | some a => f a
  | none => none
theorem zbd_some {α β : Type} {o : Option α} {f : α → Option β} {y : β} (h : zbd o f = some y) : ∃ a, o = some a ∧ f a = some y := by
  cases o with
  | none => cases h
  | some a => exact ⟨a, rfl, h⟩
theorem zbd_of {α β : Type} {o : Option α} {f : α → Option β} {a : α} (h : o = some a) : zbd o f = f a := by rw [h]; rfl


section ZN
variable {M : zY} {n : Nat} {C u : Nat × Nat} {Q : zQT} {pc pc' tgt : Nat} {L : List (Option zV)} {S : List zV} {μ : zM} {j k N i : Nat} {X : zX}
theorem z_ialdN (hd : zd M.2.1 pc .iaload 1 pc') (hin : (j, k) ∈ zids) (hs : zsh j k = some (.inl (0, N))) (hi : i < N) (hN : N < 2 ^ 31) (kk : zJ M n C u Q pc' L (zi (X k i) :: S) (zg μ j X)) : zJ M n C u Q pc L (zi (nI i) :: zq j k :: S) (zg μ j X) := by
  refine z_iald hd hin hs (vp_in_nI hi hN) ?_
  rw [nI_clamp (Nat.lt_trans hi hN)]; exact kk
theorem z_laldN (hd : zd M.2.1 pc .laload 1 pc') (hin : (j, k) ∈ zids) (hs : zsh j k = some (.inl (3, N))) (hi : i < N) (hN : N < 2 ^ 31) (kk : zJ M n C u Q pc' L (zl (X k i) :: S) (zg μ j X)) : zJ M n C u Q pc L (zi (nI i) :: zq j k :: S) (zg μ j X) := by
  refine z_lald hd hin hs (vp_in_nI hi hN) ?_
  rw [nI_clamp (Nat.lt_trans hi hN)]; exact kk
theorem z_iastN {v : Int32} (hd : zd M.2.1 pc .iastore 1 pc') (hin : (j, k) ∈ zids) (hs : zsh j k = some (.inl (0, N))) (hi : i < N) (hN : N < 2 ^ 31) (kk : zJ M n C u Q pc' L S (zg μ j (zw X k i v))) : zJ M n C u Q pc L (zi v :: zi (nI i) :: zq j k :: S) (zg μ j X) := by
  refine z_iast hd hin hs (vp_in_nI hi hN) ?_
  rw [nI_clamp (Nat.lt_trans hi hN)]; exact kk
theorem z_lastN {v : Int32} (hd : zd M.2.1 pc .lastore 1 pc') (hin : (j, k) ∈ zids) (hs : zsh j k = some (.inl (3, N))) (hi : i < N) (hN : N < 2 ^ 31) (kk : zJ M n C u Q pc' L S (zg μ j (zw X k i v))) : zJ M n C u Q pc L (zl v :: zi (nI i) :: zq j k :: S) (zg μ j X) := by
  refine z_last hd hin hs (vp_in_nI hi hN) ?_
  rw [nI_clamp (Nat.lt_trans hi hN)]; exact kk
end ZN
