/-! the relation of the class's world (X) and the reference's row (Y 1) -/
def fr (L : List Nat) (X X' : zX) : Prop := ∀ k, L.contains k = false → X' k = X k
theorem fr.refl (L : List Nat) (X : zX) : fr L X X := fun _ _ => rfl
theorem fr.trans {L : List Nat} {X X' X'' : zX} (h : fr L X X') (h2 : fr L X' X'') : fr L X X'' := fun k hk => (h2 k hk).trans (h k hk)
theorem fr.mono {L L' : List Nat} {X X' : zX} (h : fr L X X') (hL : ∀ k, L'.contains k = false → L.contains k = false) : fr L' X X' := fun k hk => h k (hL k hk)
theorem fr_w {L : List Nat} {X X' : zX} {k i : Nat} {v : Int32} (h : fr L X X') (hk : L.contains k = true) : fr L X (zw X' k i v) := by
  intro a ha
  rw [zw_row_ne (fun z => by rw [z, hk] at ha; cases ha)]
  exact h a ha
def rc (d : Prop) (s l m : Nat) (k i a : Nat) : Prop :=
  (k = 0 ∧ ((i = 8 ∧ a = 2) ∨ (i = 9 ∧ a = 4) ∨ (i = 10 ∧ a = 13) ∨ (i = 11 ∧ a = 16) ∨ (i = 12 ∧ a = 14)))
  ∨ (k = 1 ∧ ((i = 0 ∧ a = 3) ∨ (1 ≤ i ∧ i ≤ 7 ∧ a = i + 4)))
  ∨ (i = 0 ∧ ((k = 2 ∧ a = 17) ∨ (k = 3 ∧ a = 0) ∨ (k = 5 ∧ a = 1) ∨ (k = 7 ∧ a = 12) ∨ (k = 8 ∧ a = 15)))
  ∨ (9 ≤ k ∧ k ≤ 17 ∧ i < s ∧ a = 18 + 244 * i + (k - 8))
  ∨ (18 ≤ k ∧ k ≤ 20 ∧ ∃ n o, n < s ∧ o < s ∧ n ≠ o ∧ i = n * 6 + o ∧ a = 18 + 244 * n + (10 + 3 * o + (k - 18)))
  ∨ (((21 ≤ k ∧ k ≤ 26) ∨ k = 29) ∧ ∃ n p, n < s ∧ p < 12 ∧ i = n * 12 + p ∧ a = 18 + 244 * n + (28 + 18 * p + (k - 21)))
  ∨ ((k = 32 ∨ k = 33) ∧ ∃ n p, n < s ∧ p < 12 ∧ i = n * 12 + p ∧ a = 18 + 244 * n + (28 + 18 * p + (k - 23)))
  ∨ ((34 ≤ k ∧ k ≤ 37) ∧ i < l ∧ a = 1482 + 6 * i + (k - 34))
  ∨ (d ∧ k = 38 ∧ i < l ∧ a = 1482 + 6 * i + 5)
  ∨ ((45 ≤ k ∧ k ≤ 52) ∧ i < m ∧ a = 1542 + 10 * i + (k - 45))
def gapR (g b : Int32) (f : Nat → Int32) : Prop :=
  (g = -1 ∧ b = nI 0 ∧ f 11 = nI 0) ∨ (g ≠ -1 ∧ b = nI 0 ∧ f 11 = nI 1 ∧ f 12 = g)
  ∨ (∃ c, 1 ≤ c ∧ c ≤ 5 ∧ g = nI 1 ∧ b = nI c ∧ f 11 = nI (c + 1) ∧ (∀ k, k < c → f (12 + k) = nI 1) ∧ f (12 + c) = nI 0)
/-- the special clauses -/
def eUp (s : Nat) (X Y : zX) : Prop := ∀ n, n < s → (hb (X 3 1) n → Y 1 (18 + 244 * n + 0) = nI 1) ∧ (¬ hb (X 3 1) n → Y 1 (18 + 244 * n + 0) = nI 0)
def eCut (l : Nat) (X Y : zX) : Prop := ∀ i, i < l → (hb (X 5 1) i → Y 1 (1482 + 6 * i + 4) = nI 1) ∧ (¬ hb (X 5 1) i → Y 1 (1482 + 6 * i + 4) = nI 0)
def eAns (s : Nat) (X Y : zX) : Prop := ∀ n p, n < s → p < 12 → (X 26 (n * 12 + p) ≠ -1 → Y 1 (18 + 244 * n + (28 + 18 * p + 6)) = X 27 (n * 12 + p) ∧ Y 1 (18 + 244 * n + (28 + 18 * p + 7)) = X 28 (n * 12 + p)) ∧ (X 26 (n * 12 + p) = -1 → X 27 (n * 12 + p) = -1)
def eGap (s : Nat) (X Y : zX) : Prop := ∀ n p, n < s → p < 12 → gapR (X 30 (n * 12 + p)) (X 31 (n * 12 + p)) (fun w => Y 1 (18 + 244 * n + (28 + 18 * p + w)))
def eLog (X Y : zX) : Prop := ∃ q t, q ≤ 60 ∧ t < 60 ∧ X 8 0 = nI q ∧ X 8 1 = nI t ∧ ∀ a w, a < q → w < 4 → Y 1 (2182 + 4 * a + w) = X 55 ((t + 60 - a) % 60 * 4 + w)
def eEch (lo : Nat × (Nat → Int32)) (m : Nat) (X Y : zX) : Prop := ∀ k, k < m → lo.1 ≤ k → X 48 k = nI 3 → Y 1 (1542 + 10 * k + 8) = X 53 k ∧ Y 1 (1542 + 10 * k + 9) = X 54 k
/-- what lies below: as it was -/
def eOld (lo : Nat × (Nat → Int32)) (Y : zX) : Prop := ∀ a, 1542 ≤ a → a < 1542 + 10 * lo.1 → a < 2182 → Y 1 a = lo.2 a
def eDir (lo : Nat × (Nat → Int32)) (s l m : Nat) (X Y : zX) : Prop := ∀ k i a, rc (X 2 1 = 0) s l m k i a → (45 ≤ k → lo.1 ≤ i) → Y 1 a = X k i
def J0 (s l : Nat) (X : zX) : Prop := s ≤ 6 ∧ l ≤ 10 ∧ X 3 0 = nI s ∧ X 5 0 = nI l
def J1 (T : Nat × Nat) (X : zX) : Prop := leN (X 0 12) T.1 ∧ T.2 ≤ 12 ∧ X 0 9 = nI T.2
def J2 (s : Nat) (X : zX) : Prop := (∃ q, q < 6 ∧ ((s = 0 ∧ q = 0) ∨ q < s) ∧ X 1 0 = nI q) ∧ (∀ w, 4 ≤ w → w ≤ 7 → leN (X 1 w) 32)
/-- what was heard of: below the next one -/
def hdO (nx : Nat) (v : Int32) : Prop := -1 ≤ v.toInt ∧ v.toInt < (nx : Int) ∧ nx ≤ 12
def J3 (s nx : Nat) (X : zX) : Prop := ∀ n, n < s → leN (X 9 n) 4095 ∧ hdO nx (X 10 n)
/-- who has a packet heard of it: not so between the getting of one and the hearing -/
def K3 (s : Nat) (X : zX) : Prop := ∀ n, n < s → ∀ p : Nat, p < 12 → hb (X 9 n) p → (p : Int) ≤ (X 10 n).toInt
def J4 (s : Nat) (X : zX) : Prop := ∀ n, n < s → leN (X 11 n) 32 ∧ leN (X 12 n) 32
def J5 (s : Nat) (T : Nat × Nat) (X : zX) : Prop := ∀ n o, n < s → o < s → n ≠ o → leN (X 18 (n * 6 + o)) (T.1 + 4) ∧ 1 ≤ (X 18 (n * 6 + o)).toInt ∧ ((X 19 (n * 6 + o) = -1 ∧ X 20 (n * 6 + o) = -1) ∨ (leN (X 19 (n * 6 + o)) T.1 ∧ leN (X 20 (n * 6 + o)) T.1))
def J6 (s : Nat) (X : zX) : Prop := ∀ n p : Nat, n < s → p < 12 → (X 21 (n * 12 + p) ≠ -1 → (p : Int) ≤ (X 10 n).toInt) ∧ (X 26 (n * 12 + p) ≠ -1 → (p : Int) ≤ (X 10 n).toInt ∧ ∃ o, o < s ∧ o ≠ n ∧ X 27 (n * 12 + p) = nI o)
def J7 (s : Nat) (X : zX) : Prop := ∀ n p, n < s → p < 12 → X 32 (n * 12 + p) = -1 ∨ ∃ o, o < s ∧ X 32 (n * 12 + p) = nI o
def J8k (s : Nat) (T : Nat × Nat) (X : zX) (k : Nat) : Prop := (∃ a b, a < s ∧ b < s ∧ a ≠ b ∧ X 46 k = nI a ∧ X 47 k = nI b) ∧ leN (X 48 k) 3 ∧ hdO T.2 (X 50 k) ∧ leN (X 52 k) T.1
  ∧ (X 48 k ≠ nI 3 → ∃ p : Nat, p < 12 ∧ X 49 k = nI p ∧ (p : Int) ≤ (X 50 k).toInt)
  ∧ (X 48 k = nI 3 → X 53 k ≠ -1 → leN (X 53 k) T.1 ∧ -(T.1 : Int) ≤ (X 54 k).toInt ∧ (X 54 k).toInt ≤ T.1)
def J8 (s : Nat) (T : Nat × Nat) (m : Nat) (X : zX) : Prop := m ≤ 64 ∧ X 7 0 = nI m ∧ ∀ k, k < m → J8k s T X k
def J10 (s l : Nat) (X : zX) : Prop := (∀ i, i < l → ∃ a b e, a < s ∧ b < s ∧ a ≠ b ∧ 1 ≤ e ∧ e ≤ 9 ∧ X 34 i = nI a ∧ X 35 i = nI b ∧ X 36 i = nI e ∧ ∀ j, i < j → j < l → ¬ ((X 34 j = X 34 i ∧ X 35 j = X 35 i) ∨ (X 34 j = X 35 i ∧ X 35 j = X 34 i))) ∧ (∀ i, l ≤ i → i < 10 → X 38 i = nI 0 ∧ ¬ hb (X 5 1) i) ∧ ∀ n, s ≤ n → n < 6 → ¬ hb (X 3 1) n
def J11 (s : Nat) (X : zX) : Prop := ∀ n, s ≤ n → n < 6 → (X 9 n = nI 0 ∧ X 10 n = -1 ∧ X 13 n = nI 16 ∧ (∀ k, 14 ≤ k → k ≤ 17 → X k n = nI 0))
  ∧ (∀ o, o < 6 → X 18 (n * 6 + o) = nI 4 ∧ X 18 (o * 6 + n) = nI 4 ∧ ∀ k, 19 ≤ k → k ≤ 20 → X k (n * 6 + o) = -1 ∧ X k (o * 6 + n) = -1)
  ∧ (∀ p, p < 12 → X 21 (n * 12 + p) = -1 ∧ (∀ k, 22 ≤ k → k ≤ 25 → X k (n * 12 + p) = nI 0) ∧ X 26 (n * 12 + p) = -1 ∧ X 29 (n * 12 + p) = nI 0 ∧ X 30 (n * 12 + p) = -1 ∧ X 31 (n * 12 + p) = nI 0 ∧ X 32 (n * 12 + p) = -1 ∧ X 33 (n * 12 + p) = -1 ∧ X 27 (n * 12 + p) = -1)
/-- the class's own -/
def wI (s l m : Nat) (T : Nat × Nat) (X : zX) : Prop := J0 s l X ∧ J1 T X ∧ J2 s X ∧ J3 s T.2 X ∧ J4 s X ∧ J5 s T X ∧ J6 s X ∧ J7 s X ∧ J8 s T m X ∧ J10 s l X ∧ J11 s X
/-- both -/
def wD (lo : Nat × (Nat → Int32)) (s l m : Nat) (X Y : zX) : Prop := eDir lo s l m X Y ∧ eUp s X Y ∧ eCut l X Y ∧ eAns s X Y ∧ eGap s X Y ∧ eLog X Y ∧ eEch lo m X Y ∧ eOld lo Y
def wR (lo : Nat × (Nat → Int32)) (s l m : Nat) (T : Nat × Nat) (X Y : zX) : Prop := wI s l m T X ∧ wD lo s l m X Y
section JF
variable {L : List Nat} {X X' : zX} {s l m : Nat} {T : Nat × Nat}
theorem J0.fr (h : J0 s l X) (f : fr L X X') (hL : (!L.contains 3 && !L.contains 5) = true) : J0 s l X' := by
  simp only [Bool.and_eq_true, Bool.not_eq_true'] at hL
  unfold J0 at *; rw [f 3 hL.1, f 5 hL.2]; exact h
theorem J1.fr (h : J1 T X) (f : fr L X X') (hL : (!L.contains 0) = true) : J1 T X' := by
  simp only [Bool.not_eq_true'] at hL
  unfold J1 at *; rw [f 0 hL]; exact h
theorem J2.fr (h : J2 s X) (f : fr L X X') (hL : (!L.contains 1) = true) : J2 s X' := by
  simp only [Bool.not_eq_true'] at hL
  unfold J2 at *; rw [f 1 hL]; exact h
theorem J3.fr {nx : Nat} (h : J3 s nx X) (f : fr L X X') (hL : (!L.contains 9 && !L.contains 10) = true) : J3 s nx X' := by
  simp only [Bool.and_eq_true, Bool.not_eq_true'] at hL
  unfold J3 at *; rw [f 9 hL.1, f 10 hL.2]; exact h
theorem K3.fr (h : K3 s X) (f : fr L X X') (hL : (!L.contains 9 && !L.contains 10) = true) : K3 s X' := by
  simp only [Bool.and_eq_true, Bool.not_eq_true'] at hL
  unfold K3 at *; rw [f 9 hL.1, f 10 hL.2]; exact h
theorem J4.fr (h : J4 s X) (f : fr L X X') (hL : (!L.contains 11 && !L.contains 12) = true) : J4 s X' := by
  simp only [Bool.and_eq_true, Bool.not_eq_true'] at hL
  unfold J4 at *; rw [f 11 hL.1, f 12 hL.2]; exact h
theorem J5.fr (h : J5 s T X) (f : fr L X X') (hL : (!L.contains 18 && !L.contains 19 && !L.contains 20) = true) : J5 s T X' := by
  simp only [Bool.and_eq_true, Bool.not_eq_true'] at hL
  unfold J5 at *; rw [f 18 hL.1.1, f 19 hL.1.2, f 20 hL.2]; exact h
theorem J6.fr (h : J6 s X) (f : fr L X X') (hL : (!L.contains 10 && !L.contains 21 && !L.contains 26 && !L.contains 27) = true) : J6 s X' := by
  simp only [Bool.and_eq_true, Bool.not_eq_true'] at hL
  unfold J6 at *; rw [f 10 hL.1.1.1, f 21 hL.1.1.2, f 26 hL.1.2, f 27 hL.2]; exact h
theorem J7.fr (h : J7 s X) (f : fr L X X') (hL : (!L.contains 32) = true) : J7 s X' := by
  simp only [Bool.not_eq_true'] at hL
  unfold J7 at *; rw [f 32 hL]; exact h
theorem J8.fr (h : J8 s T m X) (f : fr L X X') (hL : (!L.contains 7 && !L.contains 46 && !L.contains 47 && !L.contains 48 && !L.contains 49 && !L.contains 50 && !L.contains 52 && !L.contains 53 && !L.contains 54) = true) : J8 s T m X' := by
  simp only [Bool.and_eq_true, Bool.not_eq_true'] at hL
  unfold J8 J8k at *
  rw [f 7 hL.1.1.1.1.1.1.1.1, f 46 hL.1.1.1.1.1.1.1.2, f 47 hL.1.1.1.1.1.1.2, f 48 hL.1.1.1.1.1.2, f 49 hL.1.1.1.1.2, f 50 hL.1.1.1.2, f 52 hL.1.1.2, f 53 hL.1.2, f 54 hL.2]; exact h
theorem J10.fr (h : J10 s l X) (f : fr L X X') (hL : (!L.contains 34 && !L.contains 35 && !L.contains 36 && !L.contains 38 && !L.contains 5 && !L.contains 3) = true) : J10 s l X' := by
  simp only [Bool.and_eq_true, Bool.not_eq_true'] at hL
  unfold J10 at *; rw [f 34 hL.1.1.1.1.1, f 35 hL.1.1.1.1.2, f 36 hL.1.1.1.2, f 38 hL.1.1.2, f 5 hL.1.2, f 3 hL.2]; exact h
theorem J10.w {k i : Nat} {v : Int32} (h : J10 s l X) (hk : k ≠ 5 ∧ k ≠ 34 ∧ k ≠ 35 ∧ k ≠ 36 ∧ k ≠ 3) (h38 : k = 38 → i < l) : J10 s l (zw X k i v) := by
  unfold J10 at *
  rw [zw_row_ne (fun z => hk.1 z.symm), zw_row_ne (fun z => hk.2.1 z.symm), zw_row_ne (fun z => hk.2.2.1 z.symm), zw_row_ne (fun z => hk.2.2.2.1 z.symm), zw_row_ne (fun z => hk.2.2.2.2 z.symm)]
  refine ⟨h.1, fun j h1 h2 => ?_, h.2.2⟩
  rw [zw_no (by
    by_cases c : k = 38
    · have := h38 c; omega
    · omega)]
  exact h.2.1 j h1 h2
/-- unused nodes: writes at used ones leave them -/
def usd (s k i : Nat) : Prop := (k < 9 ∨ 34 ≤ k) ∨ (9 ≤ k ∧ k ≤ 17 ∧ i < s) ∨ (k = 11 ∨ k = 12) ∨ (18 ≤ k ∧ k ≤ 20 ∧ ∃ n o, n < s ∧ o < s ∧ i = n * 6 + o) ∨ (21 ≤ k ∧ k ≤ 33 ∧ ∃ n p, n < s ∧ p < 12 ∧ i = n * 12 + p)
theorem J11.w {k i : Nat} {v : Int32} (h : J11 s X) (hs : s ≤ 6) (hu : usd s k i) : J11 s (zw X k i v) := by
  intro n h1 h2
  obtain ⟨⟨a1, a2, a3, a4⟩, a5, a6⟩ := h n h1 h2
  unfold usd at hu
  have key1 : ∀ k', (9 ≤ k' ∧ k' ≤ 17 ∧ k' ≠ 11 ∧ k' ≠ 12) → zw X k i v k' n = X k' n := fun k' hk' => zw_no (by
    rcases hu with q | q | q | ⟨q1, q2, q3⟩ | ⟨q1, q2, q3⟩ <;> omega)
  have key2 : ∀ k' o, 18 ≤ k' → k' ≤ 20 → o < 6 → zw X k i v k' (n * 6 + o) = X k' (n * 6 + o) := fun k' o g1 g2 g3 => zw_no (by
    rcases hu with q | q | q | ⟨q1, q2, n', o', q3, q4, q5⟩ | ⟨q1, q2, q3⟩ <;> omega)
  have key3 : ∀ k' o, 18 ≤ k' → k' ≤ 20 → o < 6 → zw X k i v k' (o * 6 + n) = X k' (o * 6 + n) := fun k' o g1 g2 g3 => zw_no (by
    rcases hu with q | q | q | ⟨q1, q2, n', o', q3, q4, q5⟩ | ⟨q1, q2, q3⟩ <;> omega)
  have key4 : ∀ k' p, 21 ≤ k' → k' ≤ 33 → p < 12 → zw X k i v k' (n * 12 + p) = X k' (n * 12 + p) := fun k' p g1 g2 g3 => zw_no (by
    rcases hu with q | q | q | ⟨q1, q2, q3⟩ | ⟨q1, q2, n', p', q3, q4, q5⟩ <;> omega)
  refine ⟨⟨?_, ?_, ?_, fun k' g1 g2 => ?_⟩, fun o ho => ⟨?_, ?_, fun k' g1 g2 => ⟨?_, ?_⟩⟩, fun p hp => ⟨?_, fun k' g1 g2 => ?_, ?_, ?_, ?_, ?_, ?_, ?_, ?_⟩⟩
  · rw [key1 9 (by omega)]; exact a1
  · rw [key1 10 (by omega)]; exact a2
  · rw [key1 13 (by omega)]; exact a3
  · rw [key1 k' (by omega)]; exact a4 k' g1 g2
  · rw [key2 18 o (by omega) (by omega) ho]; exact (a5 o ho).1
  · rw [key3 18 o (by omega) (by omega) ho]; exact (a5 o ho).2.1
  · rw [key2 k' o (by omega) (by omega) ho]; exact ((a5 o ho).2.2 k' g1 g2).1
  · rw [key3 k' o (by omega) (by omega) ho]; exact ((a5 o ho).2.2 k' g1 g2).2
  · rw [key4 21 p (by omega) (by omega) hp]; exact (a6 p hp).1
  · rw [key4 k' p (by omega) (by omega) hp]; exact (a6 p hp).2.1 k' g1 g2
  · rw [key4 26 p (by omega) (by omega) hp]; exact (a6 p hp).2.2.1
  · rw [key4 29 p (by omega) (by omega) hp]; exact (a6 p hp).2.2.2.1
  · rw [key4 30 p (by omega) (by omega) hp]; exact (a6 p hp).2.2.2.2.1
  · rw [key4 31 p (by omega) (by omega) hp]; exact (a6 p hp).2.2.2.2.2.1
  · rw [key4 32 p (by omega) (by omega) hp]; exact (a6 p hp).2.2.2.2.2.2.1
  · rw [key4 33 p (by omega) (by omega) hp]; exact (a6 p hp).2.2.2.2.2.2.2.1
  · rw [key4 27 p (by omega) (by omega) hp]; exact (a6 p hp).2.2.2.2.2.2.2.2
end JF
/-- the class's cell of an address -/
def kS : Nat → Nat × Nat
  | 0 => (3, 0) | 1 => (5, 0) | 2 => (0, 8) | 3 => (1, 0) | 4 => (0, 9) | 12 => (7, 0) | 13 => (0, 10) | 14 => (0, 12) | 15 => (8, 0) | 16 => (0, 11) | 17 => (2, 0) | a => (1, a - 4)
def kN (n w : Nat) : Nat × Nat := if w < 10 then (w + 8, n) else if w < 28 then (18 + (w - 10) % 3, n * 6 + (w - 10) / 3) else (if (w - 28) % 18 < 9 then 21 + (w - 28) % 18 else 23 + (w - 28) % 18, n * 12 + (w - 28) / 18)
def kI (a : Nat) : Nat × Nat := if a < 18 then kS a else if a < 1482 then kN ((a - 18) / 244) ((a - 18) % 244) else if a < 1542 then (if (a - 1482) % 6 = 5 then 38 else 34 + (a - 1482) % 6, (a - 1482) / 6) else (45 + (a - 1542) % 10, (a - 1542) / 10)
theorem kI_n {n w : Nat} (hn : n < 6) (hw : w < 244) : kI (18 + 244 * n + w) = kN n w := by
  unfold kI
  rw [if_neg (by omega), if_pos (by omega), show (18 + 244 * n + w - 18) / 244 = n by omega, show (18 + 244 * n + w - 18) % 244 = w by omega]
theorem kI_l {i w : Nat} (hi : i < 10) (hw : w < 6) : kI (1482 + 6 * i + w) = (if w = 5 then 38 else 34 + w, i) := by
  unfold kI
  rw [if_neg (by omega), if_neg (by omega), if_pos (by omega), show (1482 + 6 * i + w - 1482) / 6 = i by omega, show (1482 + 6 * i + w - 1482) % 6 = w by omega]
theorem kI_m {i w : Nat} (hw : w < 10) : kI (1542 + 10 * i + w) = (45 + w, i) := by
  unfold kI
  rw [if_neg (by omega), if_neg (by omega), if_neg (by omega), show (1542 + 10 * i + w - 1542) / 10 = i by omega, show (1542 + 10 * i + w - 1542) % 10 = w by omega]
theorem rc_kI {d : Prop} {s l m k i a : Nat} (hs : s ≤ 6) (hl : l ≤ 10) (h : rc d s l m k i a) : kI a = (k, i) := by
  unfold rc at h
  rcases h with ⟨rfl, ⟨rfl, rfl⟩ | ⟨rfl, rfl⟩ | ⟨rfl, rfl⟩ | ⟨rfl, rfl⟩ | ⟨rfl, rfl⟩⟩ | ⟨rfl, ⟨rfl, rfl⟩ | ⟨h1, h2, rfl⟩⟩ | ⟨rfl, ⟨rfl, rfl⟩ | ⟨rfl, rfl⟩ | ⟨rfl, rfl⟩ | ⟨rfl, rfl⟩ | ⟨rfl, rfl⟩⟩ | ⟨h1, h2, hn, rfl⟩ | ⟨h1, h2, n, o, hn, ho, hne, rfl, rfl⟩ | ⟨h1, n, p, hn, hp, rfl, rfl⟩ | ⟨h1, n, p, hn, hp, rfl, rfl⟩ | ⟨h1, hi, rfl⟩ | ⟨-, rfl, hi, rfl⟩ | ⟨h1, hi, rfl⟩
  any_goals rfl
  · have : i = 1 ∨ i = 2 ∨ i = 3 ∨ i = 4 ∨ i = 5 ∨ i = 6 ∨ i = 7 := by omega
    rcases this with rfl | rfl | rfl | rfl | rfl | rfl | rfl <;> rfl
  · rw [kI_n (by omega) (by omega)]
    unfold kN
    rw [if_pos (by omega), show k - 8 + 8 = k by omega]
  · rw [kI_n (by omega) (by omega)]
    unfold kN
    rw [if_neg (by omega), if_pos (by omega), show (10 + 3 * o + (k - 18) - 10) % 3 = k - 18 by omega, show (10 + 3 * o + (k - 18) - 10) / 3 = o by omega, show 18 + (k - 18) = k by omega]
  · rw [kI_n (by omega) (by omega)]
    unfold kN
    rw [if_neg (by omega), if_neg (by omega), show (28 + 18 * p + (k - 21) - 28) % 18 = k - 21 by omega, show (28 + 18 * p + (k - 21) - 28) / 18 = p by omega, if_pos (by omega), show 21 + (k - 21) = k by omega]
  · rw [kI_n (by omega) (by omega)]
    unfold kN
    rw [if_neg (by omega), if_neg (by omega), show (28 + 18 * p + (k - 23) - 28) % 18 = k - 23 by omega, show (28 + 18 * p + (k - 23) - 28) / 18 = p by omega, if_neg (by omega), show 23 + (k - 23) = k by omega]
  · rw [kI_l (by omega) (by omega), if_neg (by omega), show 34 + (k - 34) = k by omega]
  · rw [kI_l (by omega) (by omega)]; rfl
  · rw [kI_m (by omega), show 45 + (k - 45) = k by omega]
theorem rc_inj {d : Prop} {s l m k i k' i' a : Nat} (hs : s ≤ 6) (hl : l ≤ 10) (h : rc d s l m k i a) (h' : rc d s l m k' i' a) : k = k' ∧ i = i' := by
  have := (rc_kI hs hl h).symm.trans (rc_kI hs hl h')
  exact ⟨congrArg Prod.fst this, congrArg Prod.snd this⟩
theorem rc_fun {d : Prop} {s l m k i a a' : Nat} (hs : s ≤ 6) (h : rc d s l m k i a) (h' : rc d s l m k i a') : a = a' := by
  unfold rc at h h'
  rcases h with ⟨rfl, h⟩ | ⟨rfl, h⟩ | ⟨rfl, h⟩ | ⟨h1, h2, hn, ha⟩ | ⟨h1, h2, n, o, hn, ho, hne, hi, ha⟩ | ⟨h1, n, o, hn, ho, hi, ha⟩ | ⟨h1, n, o, hn, ho, hi, ha⟩ | ⟨h1, hi, ha⟩ | ⟨-, h1, hi, ha⟩ | ⟨h1, hi, ha⟩ <;>
  rcases h' with ⟨h1', h'⟩ | ⟨h1', h'⟩ | ⟨h2', h'⟩ | ⟨h1', h2', hn', ha'⟩ | ⟨h1', h2', n', o', hn', ho', hne', hi', ha'⟩ | ⟨h1', n', o', hn', ho', hi', ha'⟩ | ⟨h1', n', o', hn', ho', hi', ha'⟩ | ⟨h1', hi', ha'⟩ | ⟨-, h1', hi', ha'⟩ | ⟨h1', hi', ha'⟩ <;> omega
