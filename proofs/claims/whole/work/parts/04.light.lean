/-! THE LIGHT MACHINE: memory is group, cell, place ↦ Int32; references are cell numbers; the shape never changes -/
abbrev zV : Type := Int32 ⊕ (Nat × Nat) ⊕ Int32
abbrev zX : Type := Nat → Nat → Int32
abbrev zM : Type := Nat → zX
abbrev zi (x : Int32) : zV := .inl x
abbrev zq (j k : Nat) : zV := .inr (.inl (j, k))
abbrev zl (x : Int32) : zV := .inr (.inr x)
def zg (μ : zM) (j : Nat) (X : zX) : zM := fun a => if a = j then X else μ a
def zr (X : zX) (k : Nat) (f : Nat → Int32) : zX := fun a => if a = k then f else X a
theorem zg_at (μ : zM) (j : Nat) (X : zX) : zg μ j X j = X := if_pos rfl
theorem zg_ne {μ : zM} {j a : Nat} {X : zX} (h : a ≠ j) : zg μ j X a = μ a := if_neg h
theorem zg_zg (μ : zM) (j : Nat) (X Y : zX) : zg (zg μ j X) j Y = zg μ j Y := by
  funext a; unfold zg; split <;> rfl
theorem zg_id (μ : zM) (j : Nat) : zg μ j (μ j) = μ := by
  funext a; unfold zg; split
  · next h => rw [h]
  · rfl
theorem zg_com (μ : zM) {i j : Nat} (h : i ≠ j) (X Y : zX) : zg (zg μ i X) j Y = zg (zg μ j Y) i X := by
  funext a; unfold zg
  by_cases h1 : a = j
  · subst h1; rw [if_pos rfl, if_neg (fun z => h z.symm), if_pos rfl]
  · rw [if_neg h1, if_neg h1]
theorem zr_at (X : zX) (k : Nat) (f : Nat → Int32) : zr X k f k = f := if_pos rfl
theorem zr_ne {X : zX} {k a : Nat} {f : Nat → Int32} (h : a ≠ k) : zr X k f a = X a := if_neg h
theorem zr_zr (X : zX) (k : Nat) (f g : Nat → Int32) : zr (zr X k f) k g = zr X k g := by
  funext a; unfold zr; split <;> rfl
theorem zr_id (X : zX) (k : Nat) : zr X k (X k) = X := by
  funext a; unfold zr; split
  · next h => rw [h]
  · rfl
theorem zr_com (X : zX) {i j : Nat} (h : i ≠ j) (f g : Nat → Int32) : zr (zr X i f) j g = zr (zr X j g) i f := by
  funext a; unfold zr
  by_cases h1 : a = j
  · subst h1; rw [if_pos rfl, if_neg (fun z => h z.symm), if_pos rfl]
  · rw [if_neg h1, if_neg h1]
/-- one place written -/
def zw (X : zX) (k i : Nat) (v : Int32) : zX := zr X k (upd (X k) i v)
theorem zw_at (X : zX) (k i : Nat) (v : Int32) : zw X k i v k i = v := by unfold zw; rw [zr_at]; exact if_pos rfl
theorem zw_nk {X : zX} {k i a : Nat} {v : Int32} (h : a ≠ k) : zw X k i v a = X a := zr_ne h
theorem zw_ni {X : zX} {k i b : Nat} {v : Int32} (h : b ≠ i) : zw X k i v k b = X k b := by unfold zw; rw [zr_at]; exact if_neg h
theorem zw_row (X : zX) (k i : Nat) (v : Int32) : zw X k i v k = upd (X k) i v := zr_at _ _ _
theorem zw_zw (X : zX) (k i : Nat) (v v' : Int32) : zw (zw X k i v) k i v' = zw X k i v' := by
  unfold zw; rw [zr_zr, zr_at]; congr 1; funext a; unfold upd; split <;> rfl
theorem zw_com {X : zX} {k i k' i' : Nat} {v v' : Int32} (h : k ≠ k' ∨ i ≠ i') : zw (zw X k i v) k' i' v' = zw (zw X k' i' v') k i v := by
  funext a b
  unfold zw zr upd
  by_cases h1 : a = k <;> by_cases h2 : a = k' <;> by_cases h3 : b = i <;> by_cases h4 : b = i' <;> simp_all
def zB (c : Prop) [Decidable c] : Int32 := if c then 1 else 0
theorem zB_0 {c : Prop} [Decidable c] : zB c = 0 ↔ ¬ c := by unfold zB; by_cases h : c <;> simp [h]
theorem zB_n0 {c : Prop} [Decidable c] : ¬ zB c = 0 ↔ c := by unfold zB; by_cases h : c <;> simp [h]
theorem zB_1 {c : Prop} [Decidable c] : zB c = 1 ↔ c := by unfold zB; by_cases h : c <;> simp [h]
theorem zB_t {c : Prop} [Decidable c] (h : c) : zB c = 1 := if_pos h
theorem zB_f {c : Prop} [Decidable c] (h : ¬ c) : zB c = 0 := if_neg h
abbrev zn (x : Int32) : Nat := x.toNatClampNeg
/-- a cell: an array (kind, length), or an object (class, its fields: none an int, some a fixed cell) -/
abbrev zSh : Type := (Nat × Nat) ⊕ (Nat × List (Option (Nat × Nat)))
def zwsh (j : Nat) : Nat → Option zSh
  | 0 => some (.inr (10, [some (j, 1), some (j, 2), some (j, 3), some (j, 4), some (j, 5), some (j, 6), some (j, 7), some (j, 8), none, none, none, none, none, none]))
  | 1 => some (.inr (8, [none, none, none, none, none, none, none, none]))
  | 2 => some (.inr (1, [none, none]))
  | 3 => some (.inr (4, [none, none, some (j, 9), some (j, 10), some (j, 11), some (j, 12), some (j, 13), some (j, 14), some (j, 15), some (j, 16), some (j, 17), some (j, 18), some (j, 19), some (j, 20)]))
  | 4 => some (.inr (5, [some (j, 21), some (j, 22), some (j, 23), some (j, 24), some (j, 25), some (j, 26), some (j, 27), some (j, 28), some (j, 29), some (j, 30), some (j, 31), some (j, 32), some (j, 33)]))
  | 5 => some (.inr (2, [none, none, some (j, 34), some (j, 35), some (j, 36), some (j, 37), some (j, 38)]))
  | 6 => some (.inr (9, [none, some (j, 39), some (j, 40), some (j, 41), some (j, 42), some (j, 43), some (j, 44)]))
  | 7 => some (.inr (0, [none, some (j, 45), some (j, 46), some (j, 47), some (j, 48), some (j, 49), some (j, 50), some (j, 51), some (j, 52), some (j, 53), some (j, 54)]))
  | 8 => some (.inr (3, [none, none, some (j, 55)]))
  | k + 9 => if k < 9 then some (.inl (0, 6)) else if k < 12 then some (.inl (0, 36)) else if k < 25 then some (.inl (0, 72)) else if k < 30 then some (.inl (0, 10)) else if k < 35 then some (.inl (0, 36)) else if k < 36 then some (.inl (0, 6)) else if k < 46 then some (.inl (0, 64)) else if k < 47 then some (.inl (0, 240)) else none
def zsh (j : Nat) (k : Nat) : Option zSh := match j with
  | 0 => match k with
    | 0 => some (.inr (11, [some (0, 1), some (0, 3), some (4, 0), some (5, 0), some (6, 0), none, none]))
    | 1 => some (.inr (7, [some (0, 2), none]))
    | 2 => some (.inl (1, 400))
    | 3 => some (.inr (6, [some (0, 1), none, none, none]))
    | _ => none
  | 1 => match k with
    | 0 => some (.inr (12, [none, some (1, 1), some (1, 2), some (1, 3), some (1, 4), none, some (1, 5), none, none, none, none, none, some (1, 6), some (1, 7), some (1, 8), some (1, 9), none, some (1, 10), some (1, 11)]))
    | 5 => some (.inl (1, 400))
    | 6 => some (.inl (0, 5))
    | 10 => some (.inl (2, 6))
    | 11 => some (.inl (0, 6))
    | k => if k < 5 then some (.inl (0, 2422)) else if k < 10 then some (.inl (0, 36)) else none
  | 2 => match k with
    | 0 => some (.inl (3, 1))
    | _ => none
  | 3 => none
  | w + 4 => zwsh (w + 4) k
def zids : List (Nat × Nat) := (List.range 4).map (fun k => (0, k)) ++ (List.range 12).map (fun k => (1, k)) ++ [(2, 0)] ++ (List.range 56).map (fun k => (4, k)) ++ (List.range 56).map (fun k => (5, k)) ++ (List.range 56).map (fun k => (6, k))
theorem zids_nd : va_nd (zids.map fun q => q.1 * 100 + q.2) = true := by decide +kernel
theorem zids_inj {a b : Nat} {q : Nat × Nat} (h1 : zids[a]? = some q) (h2 : zids[b]? = some q) : a = b := by
  refine va_nd_inj _ zids_nd a b (q.1 * 100 + q.2) ?_ ?_
  · rw [List.getElem?_map, h1]; rfl
  · rw [List.getElem?_map, h2]; rfl
theorem zin_w {w k : Nat} (hw : w < 3) (hk : k < 56) : (w + 4, k) ∈ zids := by
  have h : ∀ w : Fin 3, ∀ k : Fin 56, (w.val + 4, k.val) ∈ zids := by decide +kernel
  exact h ⟨w, hw⟩ ⟨k, hk⟩
/-- the world's constants: the law's start, classes, addresses, array classes, the script -/
abbrev zG : Type := State × va_G × (Nat → Nat → Nat) × (Nat → ClassId) × (Nat → Int32) × Nat
def z0 (G : zG) : State := G.1
def zD (G : zG) : va_G := G.2.1
def za (G : zG) : Nat → Nat → Nat := G.2.2.1
def zc (G : zG) : Nat → ClassId := G.2.2.2.1
def zxs (G : zG) : Nat → Int32 := G.2.2.2.2.1
def zLn (G : zG) : Nat := G.2.2.2.2.2
def rv (G : zG) : zV → Value
  | .inl x => .int x
  | .inr (.inl q) => .ref (za G q.1 q.2)
  | .inr (.inr x) => .long x.toInt64
def zty (G : zG) : List (ClassId × FieldType) := [(zc G 0, .int), (zc G 1, .byte), (zc G 2, .boolean), (zc G 3, .long)]
def zfl (G : zG) (row : Nat → Int32) : Nat → List (Option (Nat × Nat)) → List Value
  | _, [] => []
  | i, none :: t => .int (row i) :: zfl G row (i + 1) t
  | i, some q :: t => .ref (za G q.1 q.2) :: zfl G row (i + 1) t
def zen (G : zG) (row : Nat → Int32) : zSh → va_E
  | .inl (t, n) => .inl (zc G t, n, if t = 3 then .inr (.inl fun i => (row i).toInt64) else .inl row)
  | .inr (ci, fl) => .inr (ci, zfl G row 0 fl)
def zWS (G : zG) (μ : zM) : va_W := zids.map fun q => (za G q.1 q.2, zen G (μ q.1 q.2) ((zsh q.1 q.2).getD (.inl (0, 0))))
theorem zfl_get (G : zG) (row : Nat → Int32) : ∀ (fl : List (Option (Nat × Nat))) (i0 f : Nat), (zfl G row i0 fl)[f]? = (fl[f]?).map fun o => match o with | none => Value.int (row (i0 + f)) | some q => Value.ref (za G q.1 q.2)
  | [], i0, f => by simp [zfl]
  | none :: t, i0, 0 => by simp [zfl]
  | some q :: t, i0, 0 => by simp [zfl]
  | none :: t, i0, f + 1 => by
    simp only [zfl, List.getElem?_cons_succ]
    rw [zfl_get G row t (i0 + 1) f, show i0 + 1 + f = i0 + (f + 1) by omega]
  | some q :: t, i0, f + 1 => by
    simp only [zfl, List.getElem?_cons_succ]
    rw [zfl_get G row t (i0 + 1) f, show i0 + 1 + f = i0 + (f + 1) by omega]
theorem zfl_len (G : zG) (row : Nat → Int32) : ∀ (fl : List (Option (Nat × Nat))) (i0 : Nat), (zfl G row i0 fl).length = fl.length
  | [], i0 => rfl
  | none :: t, i0 => by simp [zfl, zfl_len G row t (i0 + 1)]
  | some q :: t, i0 => by simp [zfl, zfl_len G row t (i0 + 1)]
theorem zfl_set (G : zG) (row : Nat → Int32) {fl : List (Option (Nat × Nat))} {f : Nat} (v : Int32) (h : fl[f]? = some none) : (zfl G row 0 fl).set f (.int v) = zfl G (upd row f v) 0 fl := by
  apply List.ext_getElem?
  intro i
  by_cases hi : i = f
  · subst hi
    have hl : i < (zfl G row 0 fl).length := by rw [zfl_len]; exact (List.getElem?_eq_some_iff.mp h).1
    rw [List.getElem?_set_self hl, zfl_get, h]
    simp [upd]
  · rw [List.getElem?_set_ne (fun z => hi z.symm), zfl_get, zfl_get]
    cases fl[i]? with
    | none => rfl
    | some o => cases o <;> simp [upd, hi]
theorem zWS_at (G : zG) (μ : zM) {j k : Nat} {sh : zSh} (hin : (j, k) ∈ zids) (hs : zsh j k = some sh) : ∃ n, (zWS G μ)[n]? = some (za G j k, zen G (μ j k) sh) ∧ ∀ row, (zWS G μ).set n (za G j k, zen G row sh) = zWS G (zg μ j (zr (μ j) k row)) := by
  obtain ⟨n, hn⟩ := List.getElem?_of_mem hin
  have hq : (zWS G μ)[n]? = some (za G j k, zen G (μ j k) sh) := by
    unfold zWS; rw [List.getElem?_map, hn]; simp [hs]
  refine ⟨n, hq, fun row => ?_⟩
  apply List.ext_getElem?
  intro i
  by_cases hi : i = n
  · subst hi
    rw [List.getElem?_set_self (List.getElem?_eq_some_iff.mp hq).1]
    unfold zWS; rw [List.getElem?_map, hn]
    simp [hs, zg_at, zr_at]
  · rw [List.getElem?_set_ne (fun z => hi z.symm)]
    unfold zWS
    rw [List.getElem?_map, List.getElem?_map]
    cases hz : zids[i]? with
    | none => rfl
    | some q =>
      obtain ⟨j', k'⟩ := q
      have hne : ¬ (j' = j ∧ k' = k) := fun z => hi (zids_inj hz (by rw [z.1, z.2]; exact hn))
      have : zg μ j (zr (μ j) k row) j' k' = μ j' k' := by
        by_cases h1 : j' = j
        · subst h1
          rw [zg_at, zr_ne (fun z => hne ⟨rfl, z⟩)]
        · rw [zg_ne h1]
      simp [this]
