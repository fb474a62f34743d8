/-! rows for the functions in the Option monad -/
theorem zlet_h {α β : Type} {x : α} {f : α → β} {y : β} (h : zlet x f = y) : f x = y := h
theorem ziT {c : Prop} [Decidable c] {α : Type} {a b y : α} (h : (if c then a else b) = y) (hc : c) : a = y := by rw [if_pos hc] at h; exact h
theorem ziF {c : Prop} [Decidable c] {α : Type} {a b y : α} (h : (if c then a else b) = y) (hc : ¬ c) : b = y := by rw [if_neg hc] at h; exact h
def zmask : List Bool → List (Option zV) → List (Option zV)
  | b :: bs, o :: L => (bif b then o else none) :: zmask bs L
  | _, L => L
theorem zmask_len : ∀ (bs : List Bool) (L : List (Option zV)), (zmask bs L).length = L.length
  | [], L => by cases L <;> rfl
  | b :: bs, [] => rfl
  | b :: bs, o :: L => by simp [zmask, zmask_len bs L]
theorem zmask_at : ∀ (bs : List Bool) (L : List (Option zV)) (i : Nat) (v : zV), (zmask bs L)[i]? = some (some v) → L[i]? = some (some v)
  | [], L, i, v, h => by cases L <;> exact h
  | b :: bs, [], i, v, h => h
  | b :: bs, o :: L, 0, v, h => by
    cases b with
    | true => exact h
    | false => simp [zmask] at h
  | b :: bs, o :: L, i + 1, v, h => by
    simp only [zmask, List.getElem?_cons_succ] at h ⊢
    exact zmask_at bs L i v h
section ZO
variable {M : zY} {n : Nat} {C u : Nat × Nat} {Q : zQT} {pc pc' tgt : Nat} {L : List (Option zV)} {S : List zV} {μ : zM}
theorem z_mask (bs : List Bool) (k : zJ M n C u Q pc (zmask bs L) S μ) : zJ M n C u Q pc L S μ := by
  intro l G R p e s m args below meth c H locs ls hf ok hR hE hw hl hS hz
  refine k l G R p e s m args below meth c H locs ls hf ok hR hE hw ⟨hl.1, by rw [zmask_len]; exact hl.2.1, hl.2.2.1, fun i v h => hl.2.2.2 i v (zmask_at bs L i v h)⟩ hS hz
theorem z_iretQ {r : Int32} (hd : zd M.2.1 pc .ireturn 1 pc') (hr : M.2.2.2 = some .int) (h : zQ (some (zi r)) μ = Q) : zJ M n C (0, 0) Q pc L [zi r] μ := z_iret hd hr h rfl rfl
theorem z_zretQ {r : Int32} {ty : FieldType} (hd : zd M.2.1 pc .ireturn 1 pc') (hr : M.2.2.2 = some ty) (hn : narrow ty (.int r) = .int r) (h : zQ (some (zi r)) μ = Q) : zJ M n C (0, 0) Q pc L [zi r] μ := z_zret hd hr hn h rfl rfl
theorem z_vretQ (hd : zd M.2.1 pc .return_ 1 pc') (hr : M.2.2.2 = none) (h : zQ none μ = Q) : zJ M n C (0, 0) Q pc L [] μ := z_vret hd hr h rfl rfl
end ZO
def zbl (v : Int32) : Bool := decide (v = 0 ∨ v = 1)
theorem zbl_n {v : Int32} (h : zbl v = true) : narrow .boolean (.int v) = .int v := by
  rcases of_decide_eq_true h with rfl | rfl <;> rfl
theorem zbl_f {v : Int32} (h : zbl v = true) : fits .boolean (.int v) = true := by
  rcases of_decide_eq_true h with rfl | rfl <;> rfl
/-- a switch's way out -/
def zNe (x : Int32) (n : Nat) : Prop := ∀ k, k < n → ¬ x = nI k
theorem zsw_0 {x : Int32} : zNe x 0 := fun _ h => absurd h (Nat.not_lt_zero _)
theorem zsw_s {x : Int32} {n : Nat} (h : zNe x n) (h2 : ¬ x = nI n) : zNe x (n + 1) := fun k hk => by
  rcases Nat.lt_succ_iff_lt_or_eq.mp hk with q | rfl
  · exact h k q
  · exact h2
theorem zsw_out {x : Int32} {n : Nat} {hi : Int} (h : zNe x n) (hn : n < 1000 ∧ hi = (n : Int) - 1) : x.toInt < 0 ∨ hi < x.toInt := by
  rcases Decidable.em (x < 0) with q | q
  · exact Or.inl (by simpa using Int32.lt_iff_toInt_lt.mp q)
  · obtain ⟨j, hj, rfl⟩ := nI_of q
    refine Or.inr ?_
    rw [nI_toInt hj]
    have : ¬ j < n := fun z => h j z rfl
    omega
theorem z_ldcw {M : zY} {n : Nat} {C u : Nat × Nat} {Q : zQT} {pc pc' : Nat} {L : List (Option zV)} {S : List zV} {μ : zM} {v : Int32} {i : Nat} (hd : zd M.2.1 pc (.ldc_w i) 3 pc') (hw0 : Cond.constant M.1.cls i v ∈ lw_tbl) (k : zJ M n C u Q pc' L (zi v :: S) μ) : zJ M n C u Q pc L S μ := by
  intro l G R p e s m args below meth c H locs ls hf ok hR hE hw hl hS hz
  obtain ⟨h1, rfl⟩ := hd
  exact lv_ldcw hE.1 hE.2.1 hE.2.2.2.2.2 (z_word ok hw hw0 rfl) h1 (k l G R p e s m args below meth c H locs ls hf ok hR hE hw hl hS hz)
