/-! the messages on their way: dropped, appended -/
theorem rc_mi {d : Prop} {s l m m' k i a : Nat} (h : rc d s l m' k i a) (hk : k < 45) : rc d s l m k i a := by
  unfold rc at h ⊢
  rcases h with h | h | h | h | h | h | h | h | h | h
  · exact Or.inl h
  · exact Or.inr (Or.inl h)
  · exact Or.inr (Or.inr (Or.inl h))
  · exact Or.inr (Or.inr (Or.inr (Or.inl h)))
  · exact Or.inr (Or.inr (Or.inr (Or.inr (Or.inl h))))
  · exact Or.inr (Or.inr (Or.inr (Or.inr (Or.inr (Or.inl h)))))
  · exact Or.inr (Or.inr (Or.inr (Or.inr (Or.inr (Or.inr (Or.inl h))))))
  · exact Or.inr (Or.inr (Or.inr (Or.inr (Or.inr (Or.inr (Or.inr (Or.inl h)))))))
  · exact Or.inr (Or.inr (Or.inr (Or.inr (Or.inr (Or.inr (Or.inr (Or.inr (Or.inl h))))))))
  · omega
theorem rc_air {d : Prop} {s l m k i a : Nat} (h : rc d s l m k i a) (hk : 45 ≤ k) : k ≤ 52 ∧ i < m ∧ a = 1542 + 10 * i + (k - 45) := by
  unfold rc at h
  rcases h with ⟨h0, h⟩ | ⟨h0, h⟩ | ⟨h0, h⟩ | ⟨h1, h2, hn, ha⟩ | ⟨h1, h2, n, o, hn, ho, hne, hi, ha⟩ | ⟨h1, n, o, hn, ho, hi, ha⟩ | ⟨h1, n, o, hn, ho, hi, ha⟩ | ⟨h1, hi, ha⟩ | ⟨-, h1, hi, ha⟩ | ⟨h1, hi, ha⟩
  any_goals omega
theorem rc_7 {d : Prop} {s l m k i a : Nat} (h : rc d s l m k i a) (hk : k = 7) : a = 12 := by
  unfold rc at h
  rcases h with ⟨h0, h⟩ | ⟨h0, h⟩ | ⟨h0, h⟩ | ⟨h1, h2, hn, ha⟩ | ⟨h1, h2, n, o, hn, ho, hne, hi, ha⟩ | ⟨h1, n, o, hn, ho, hi, ha⟩ | ⟨h1, n, o, hn, ho, hi, ha⟩ | ⟨h1, hi, ha⟩ | ⟨-, h1, hi, ha⟩ | ⟨h1, hi, ha⟩
  all_goals omega
abbrev arL : List Nat := [7, 45, 46, 47, 48, 49, 50, 51, 52, 53, 54]
section AR
variable {lo : Nat × (Nat → Int32)} {s l m : Nat} {T : Nat × Nat} {X Y : zX}
theorem wS.newair (h : wS lo s l m T X Y) {X' Y' : zX} {m' : Nat} (Z : Nat → Int32) (f : fr arL X X') (g : fr [1] Y Y') (hm' : m' ≤ 64) (h7 : X' 7 0 = nI m') (h12 : Y' 1 12 = nI m') (hy : ∀ a, a ≠ 12 → (a < 1542 ∨ 2182 ≤ a) → Y' 1 a = Y 1 a) (h11 : J11 s X') (hj : ∀ i, i < m' → J8k s T X' i) (hd : ∀ i, i < m' → (∀ e, e < 8 → Y' 1 (1542 + 10 * i + e) = X' (45 + e) i) ∧ (X' 48 i = nI 3 → Y' 1 (1542 + 10 * i + 8) = X' 53 i ∧ Y' 1 (1542 + 10 * i + 9) = X' 54 i)) : wS (0, Z) s l m' T X' Y' := by
  have hs := h.1.hs
  have hl := h.1.hl
  have hm := h.1.hm
  obtain ⟨⟨⟨j0, j1, j2, j3, j4, j5, j6, j7, j8, j10, j11⟩, d1, d2, d3, d4, d5, d6, d7, d8⟩, hmo⟩ := h
  refine ⟨⟨⟨j0.fr f (by decide), j1.fr f (by decide), j2.fr f (by decide), j3.fr f (by decide), j4.fr f (by decide), j5.fr f (by decide), j6.fr f (by decide), j7.fr f (by decide), ⟨hm', h7, hj⟩, j10.fr f (by decide), h11⟩, ?_, ?_, ?_, ?_, ?_, ?_, ?_, ?_⟩, ?_⟩
  · intro k i a hc _
    rw [f 2 (by decide)] at hc
    by_cases hk : 45 ≤ k
    · obtain ⟨b1, b2, rfl⟩ := rc_air hc hk
      have := (hd i b2).1 (k - 45) (by omega)
      rw [this, show 45 + (k - 45) = k by omega]
    · have hc' : rc (X 2 1 = 0) s l m k i a := rc_mi hc (by omega)
      obtain ⟨-, -, -, -, -, -, -, -, -, -, -, -, -, b14, -⟩ := rc_bd hs hl hm hc'
      have hki := rc_kI hs hl hc'
      by_cases h12' : a = 12
      · subst h12'
        cases hki
        rw [h12, h7]
      · have hk7 : k ≠ 7 := fun z => h12' (rc_7 hc' z)
        rw [hy a h12' (Or.inl (b14 (by omega))), f k (by simp; omega)]
        exact d1 k i a hc' (fun z => absurd z hk)
  · intro n hn; rw [f 3 (by decide), hy _ (by omega) (by omega)]; exact d2 n hn
  · intro i hi; rw [f 5 (by decide), hy _ (by omega) (by omega)]; exact d3 i hi
  · intro n p hn hp
    rw [f 26 (by decide), f 27 (by decide), f 28 (by decide), hy _ (by omega) (by omega), hy _ (by omega) (by omega)]; exact d4 n p hn hp
  · intro n p hn hp
    rw [f 30 (by decide), f 31 (by decide)]
    exact (d5 n p hn hp).cong (fun w h1 h2 => hy _ (by omega) (by omega))
  · obtain ⟨q, t, g1, g2, g3, g4, g5⟩ := d6
    exact ⟨q, t, g1, g2, by rw [f 8 (by decide)]; exact g3, by rw [f 8 (by decide)]; exact g4, fun a w ha hw => by rw [f 55 (by decide), hy _ (by omega) (by omega)]; exact g5 a w ha hw⟩
  · intro i hi _ h3; exact (hd i hi).2 h3
  · intro a h1 h2; omega
  · rw [f 2 (by decide), g 0 (by decide)]; exact hmo
theorem wS.relo (h : wS lo s l m T X Y) {k : Nat} (hk : lo.1 ≤ k) : wS (k, Y 1) s l m T X Y := by
  obtain ⟨⟨i, d1, d2, d3, d4, d5, d6, d7, d8⟩, hmo⟩ := h
  exact ⟨⟨i, fun k' i' a' hc hq => d1 k' i' a' hc (fun z => Nat.le_trans hk (hq z)), d2, d3, d4, d5, d6, fun j hj hlj => d7 j hj (Nat.le_trans hk hlj), fun a _ _ _ => rfl⟩, hmo⟩
theorem wS.yair {k : Nat} {Z : Nat → Int32} (h : wS (k, Z) s l m T X Y) {Y' : zX} (g : fr [1] Y Y') (hk : k ≤ m) (hy : ∀ a, (a < 1542 ∨ 1542 + 10 * k ≤ a) → Y' 1 a = Y 1 a) : wS (k, Y' 1) s l m T X Y' := by
  have hs := h.1.hs
  have hl := h.1.hl
  have hm := h.1.hm
  obtain ⟨⟨i, d1, d2, d3, d4, d5, d6, d7, d8⟩, hmo⟩ := h
  refine ⟨⟨i, fun k' i' a' hc hq => ?_, ?_, ?_, ?_, ?_, ?_, ?_, fun a _ _ _ => rfl⟩, by rw [g 0 (by decide)]; exact hmo⟩
  · obtain ⟨-, -, -, -, -, -, -, -, -, -, -, -, -, b14, b15⟩ := rc_bd hs hl hm hc
    have hb : a' < 1542 ∨ 1542 + 10 * k ≤ a' := by
      by_cases z : 45 ≤ k'
      · have q1 := hq z
        have q2 := b15 z
        dsimp only at q1
        omega
      · have := b14 (by omega)
        omega
    rw [hy a' hb]
    exact d1 k' i' a' hc hq
  · intro n hn; rw [hy _ (by omega)]; exact d2 n hn
  · intro i hi; rw [hy _ (by omega)]; exact d3 i hi
  · intro n p hn hp; rw [hy _ (by omega), hy _ (by omega)]; exact d4 n p hn hp
  · intro n p hn hp; exact (d5 n p hn hp).cong (fun w h1 h2 => hy _ (by omega))
  · obtain ⟨q, t, g1, g2, g3, g4, g5⟩ := d6
    exact ⟨q, t, g1, g2, g3, g4, fun a w ha hw => by rw [hy _ (by omega)]; exact g5 a w ha hw⟩
  · intro j hj hlj h3
    dsimp only at hlj
    rw [hy _ (by omega), hy _ (by omega)]; exact d7 j hj hlj h3
theorem wS.old {k : Nat} {Z : Nat → Int32} (h : wS (k, Z) s l m T X Y) {a : Nat} (h1 : 1542 ≤ a) (h2 : a < 1542 + 10 * k) (h3 : a < 2182) : Y 1 a = Z a := h.1.2.2.2.2.2.2.2.2 a h1 h2 h3
end AR
/-- who stays -/
def kp (t : Int32) (A : zX) (j : Nat) : Bool := decide (t < A 45 j)
def cn (t : Int32) (A : zX) : Nat → Nat
  | 0 => 0
  | j + 1 => cn t A j + (if kp t A j then 1 else 0)
theorem cn_s (t : Int32) (A : zX) (j : Nat) : cn t A (j + 1) = cn t A j + (if kp t A j then 1 else 0) := rfl
theorem cn_le (t : Int32) (A : zX) : ∀ j, cn t A j ≤ j
  | 0 => Nat.le_refl _
  | j + 1 => by
    have := cn_le t A j
    rw [cn_s]; split <;> omega
theorem cn_t {t : Int32} {A : zX} {j : Nat} (h : kp t A j = true) : cn t A (j + 1) = cn t A j + 1 := by rw [cn_s, if_pos h]
theorem cn_f {t : Int32} {A : zX} {j : Nat} (h : ¬ kp t A j = true) : cn t A (j + 1) = cn t A j := by rw [cn_s, if_neg h]; rfl
theorem cn_mono (t : Int32) (A : zX) {i j : Nat} (h : i ≤ j) : cn t A i ≤ cn t A j := by
  induction j with
  | zero => have : i = 0 := by omega
            subst this; exact Nat.le_refl _
  | succ j ih =>
    by_cases q : i = j + 1
    · subst q; exact Nat.le_refl _
    · have := ih (by omega)
      rw [cn_s]; omega
theorem cn_lt {t : Int32} {A : zX} {i j : Nat} (hi : kp t A i = true) (h : i < j) : cn t A i < cn t A j := by
  have h1 := cn_t hi
  have h2 := cn_mono t A (show i + 1 ≤ j by omega)
  omega
theorem cn_on (t : Int32) (A : zX) : ∀ (j c : Nat), c < cn t A j → ∃ i, i < j ∧ kp t A i = true ∧ cn t A i = c
  | 0, c, h => absurd h (Nat.not_lt_zero _)
  | j + 1, c, h => by
    by_cases hk : kp t A j = true
    · rw [cn_t hk] at h
      by_cases q : c = cn t A j
      · exact ⟨j, by omega, hk, q.symm⟩
      · obtain ⟨i, h1, h2, h3⟩ := cn_on t A j c (by omega)
        exact ⟨i, by omega, h2, h3⟩
    · rw [cn_f hk] at h
      obtain ⟨i, h1, h2, h3⟩ := cn_on t A j c h
      exact ⟨i, by omega, h2, h3⟩
/-- the class drops what was due -/
theorem x_move (X : zX) {k c : Nat} (hk : k < 64) (hc : c < 64) : ∃ X', eX0_move (nI k) (nI c) X = some X' ∧ fr [45, 46, 47, 48, 49, 50, 51, 52, 53, 54] X X' ∧ ∀ r, 45 ≤ r → r ≤ 54 → X' r = upd (X r) c (X r k) := by
  refine ⟨zw (zw (zw (zw (zw (zw (zw (zw (zw (zw X 45 c (X 45 k)) 46 c (X 46 k)) 47 c (X 47 k)) 48 c (X 48 k)) 49 c (X 49 k)) 50 c (X 50 k)) 51 c (X 51 k)) 52 c (X 52 k)) 53 c (X 53 k)) 54 c (X 54 k), ?_, ?_, ?_⟩
  · unfold eX0_move
    simp only [qzin hk (show 64 < 2147483648 by decide), qzin hc (show 64 < 2147483648 by decide), qchk, qlet, qzn (show k < 2147483648 by omega), qzn (show c < 2147483648 by omega)]
  · exact fr_w (fr_w (fr_w (fr_w (fr_w (fr_w (fr_w (fr_w (fr_w (fr_w (fr.refl _ _) (by decide)) (by decide)) (by decide)) (by decide)) (by decide)) (by decide)) (by decide)) (by decide)) (by decide)) (by decide)
  · intro r h1 h2
    have : r = 45 ∨ r = 46 ∨ r = 47 ∨ r = 48 ∨ r = 49 ∨ r = 50 ∨ r = 51 ∨ r = 52 ∨ r = 53 ∨ r = 54 := by omega
    rcases this with rfl | rfl | rfl | rfl | rfl | rfl | rfl | rfl | rfl | rfl <;> simp only [zw_row_ne (show ¬ 45 = 46 by decide), zw_row_ne (show ¬ 45 = 47 by decide), zw_row_ne (show ¬ 45 = 48 by decide), zw_row_ne (show ¬ 45 = 49 by decide), zw_row_ne (show ¬ 45 = 50 by decide), zw_row_ne (show ¬ 45 = 51 by decide), zw_row_ne (show ¬ 45 = 52 by decide), zw_row_ne (show ¬ 45 = 53 by decide), zw_row_ne (show ¬ 45 = 54 by decide), zw_row_ne (show ¬ 46 = 47 by decide), zw_row_ne (show ¬ 46 = 48 by decide), zw_row_ne (show ¬ 46 = 49 by decide), zw_row_ne (show ¬ 46 = 50 by decide), zw_row_ne (show ¬ 46 = 51 by decide), zw_row_ne (show ¬ 46 = 52 by decide), zw_row_ne (show ¬ 46 = 53 by decide), zw_row_ne (show ¬ 46 = 54 by decide), zw_row_ne (show ¬ 47 = 48 by decide), zw_row_ne (show ¬ 47 = 49 by decide), zw_row_ne (show ¬ 47 = 50 by decide), zw_row_ne (show ¬ 47 = 51 by decide), zw_row_ne (show ¬ 47 = 52 by decide), zw_row_ne (show ¬ 47 = 53 by decide), zw_row_ne (show ¬ 47 = 54 by decide), zw_row_ne (show ¬ 48 = 49 by decide), zw_row_ne (show ¬ 48 = 50 by decide), zw_row_ne (show ¬ 48 = 51 by decide), zw_row_ne (show ¬ 48 = 52 by decide), zw_row_ne (show ¬ 48 = 53 by decide), zw_row_ne (show ¬ 48 = 54 by decide), zw_row_ne (show ¬ 49 = 50 by decide), zw_row_ne (show ¬ 49 = 51 by decide), zw_row_ne (show ¬ 49 = 52 by decide), zw_row_ne (show ¬ 49 = 53 by decide), zw_row_ne (show ¬ 49 = 54 by decide), zw_row_ne (show ¬ 50 = 51 by decide), zw_row_ne (show ¬ 50 = 52 by decide), zw_row_ne (show ¬ 50 = 53 by decide), zw_row_ne (show ¬ 50 = 54 by decide), zw_row_ne (show ¬ 51 = 52 by decide), zw_row_ne (show ¬ 51 = 53 by decide), zw_row_ne (show ¬ 51 = 54 by decide), zw_row_ne (show ¬ 52 = 53 by decide), zw_row_ne (show ¬ 52 = 54 by decide), zw_row_ne (show ¬ 53 = 54 by decide), zw_row, zw_row_ne (show ¬ 46 = 45 by decide), zw_row_ne (show ¬ 47 = 45 by decide), zw_row_ne (show ¬ 47 = 46 by decide), zw_row_ne (show ¬ 48 = 45 by decide), zw_row_ne (show ¬ 48 = 46 by decide), zw_row_ne (show ¬ 48 = 47 by decide), zw_row_ne (show ¬ 49 = 45 by decide), zw_row_ne (show ¬ 49 = 46 by decide), zw_row_ne (show ¬ 49 = 47 by decide), zw_row_ne (show ¬ 49 = 48 by decide), zw_row_ne (show ¬ 50 = 45 by decide), zw_row_ne (show ¬ 50 = 46 by decide), zw_row_ne (show ¬ 50 = 47 by decide), zw_row_ne (show ¬ 50 = 48 by decide), zw_row_ne (show ¬ 50 = 49 by decide), zw_row_ne (show ¬ 51 = 45 by decide), zw_row_ne (show ¬ 51 = 46 by decide), zw_row_ne (show ¬ 51 = 47 by decide), zw_row_ne (show ¬ 51 = 48 by decide), zw_row_ne (show ¬ 51 = 49 by decide), zw_row_ne (show ¬ 51 = 50 by decide), zw_row_ne (show ¬ 52 = 45 by decide), zw_row_ne (show ¬ 52 = 46 by decide), zw_row_ne (show ¬ 52 = 47 by decide), zw_row_ne (show ¬ 52 = 48 by decide), zw_row_ne (show ¬ 52 = 49 by decide), zw_row_ne (show ¬ 52 = 50 by decide), zw_row_ne (show ¬ 52 = 51 by decide), zw_row_ne (show ¬ 53 = 45 by decide), zw_row_ne (show ¬ 53 = 46 by decide), zw_row_ne (show ¬ 53 = 47 by decide), zw_row_ne (show ¬ 53 = 48 by decide), zw_row_ne (show ¬ 53 = 49 by decide), zw_row_ne (show ¬ 53 = 50 by decide), zw_row_ne (show ¬ 53 = 51 by decide), zw_row_ne (show ¬ 53 = 52 by decide), zw_row_ne (show ¬ 54 = 45 by decide), zw_row_ne (show ¬ 54 = 46 by decide), zw_row_ne (show ¬ 54 = 47 by decide), zw_row_ne (show ¬ 54 = 48 by decide), zw_row_ne (show ¬ 54 = 49 by decide), zw_row_ne (show ¬ 54 = 50 by decide), zw_row_ne (show ¬ 54 = 51 by decide), zw_row_ne (show ¬ 54 = 52 by decide), zw_row_ne (show ¬ 54 = 53 by decide)]
theorem x_drop (F : Nat) (t : Int32) (A : zX) {m : Nat} (hm : m ≤ 64) : ∀ (d k fu : Nat) (X : zX), m - k = d → k ≤ m → d < fu → X 7 0 = nI m → (∀ r, 45 ≤ r → r ≤ 54 → (∀ j, k ≤ j → X r j = A r j) ∧ (∀ j, j < k → kp t A j = true → X r (cn t A j) = A r j)) → ∃ X', hX0_dropDue_4 F fu t (nI (cn t A k)) (nI k) X = some X' ∧ fr arL X X' ∧ X' 7 0 = nI (cn t A m) ∧ (∀ r, 45 ≤ r → r ≤ 54 → ∀ j, j < m → kp t A j = true → X' r (cn t A j) = A r j) := by
  intro d
  induction d with
  | zero =>
    intro k fu X hd hk hf h7 hr
    obtain ⟨fu, rfl⟩ : ∃ g, fu = g + 1 := ⟨fu - 1, by omega⟩
    have : k = m := by omega
    subst this
    refine ⟨zw X 7 0 (nI (cn t A k)), ?_, fr_w (fr.refl _ _) (by decide), zw_at _ _ _ _, fun r h1 h2 j hj hkp => ?_⟩
    · unfold hX0_dropDue_4
      rw [h7, if_pos ((nI_leI (by omega) (by omega)).mpr (Nat.le_refl _))]
    · rw [zw_row_ne (by omega)]; exact (hr r h1 h2).2 j hj hkp
  | succ d ih =>
    intro k fu X hd hk hf h7 hr
    obtain ⟨fu, rfl⟩ : ∃ g, fu = g + 1 := ⟨fu - 1, by omega⟩
    have hck := cn_le t A k
    unfold hX0_dropDue_4
    rw [h7, if_neg (nI_ge (by omega) (by omega)), qzin (by omega) (by omega), qchk, qzn (by omega), (hr 45 (by omega) (by omega)).1 k (Nat.le_refl _), nI_add, nI_add]
    by_cases hkp : kp t A k = true
    · have hlt : t < A 45 k := of_decide_eq_true hkp
      have e1 : ¬ A 45 k ≤ t := by rw [Int32.le_iff_toInt_le]; rw [Int32.lt_iff_toInt_lt] at hlt; omega
      rw [if_neg e1, ← cn_t hkp]
      by_cases hle : k ≤ cn t A k
      · rw [if_pos ((nI_leI (by omega) (by omega)).mpr hle)]
        have ek : cn t A k = k := by omega
        refine ih (k + 1) fu X (by omega) (by omega) (by omega) h7 (fun r h1 h2 => ⟨fun j hj => (hr r h1 h2).1 j (by omega), fun j hj hkj => ?_⟩)
        by_cases q : j = k
        · subst q; rw [ek]; exact (hr r h1 h2).1 j (Nat.le_refl _)
        · exact (hr r h1 h2).2 j (by omega) hkj
      · rw [if_neg (fun z => hle ((nI_leI (by omega) (by omega)).mp z))]
        obtain ⟨X1, e, f1, hX1⟩ := x_move X (k := k) (c := cn t A k) (by omega) (by omega)
        rw [e, qbd]
        have hr' : ∀ r, 45 ≤ r → r ≤ 54 → (∀ j, k + 1 ≤ j → X1 r j = A r j) ∧ (∀ j, j < k + 1 → kp t A j = true → X1 r (cn t A j) = A r j) := by
          intro r h1 h2
          refine ⟨fun j hj => ?_, fun j hj hkj => ?_⟩
          · rw [hX1 r h1 h2]; unfold upd; rw [if_neg (by omega)]; exact (hr r h1 h2).1 j (by omega)
          rw [hX1 r h1 h2]; unfold upd
          by_cases q : j = k
          · subst q; rw [if_pos rfl]; exact (hr r h1 h2).1 j (Nat.le_refl _)
          · have := cn_lt hkj (show j < k by omega)
            rw [if_neg (by omega)]; exact (hr r h1 h2).2 j (by omega) hkj
        obtain ⟨X', e', f', g1, g2⟩ := ih (k + 1) fu X1 (by omega) (by omega) (by omega) (by rw [f1 7 (by decide)]; exact h7) hr'
        exact ⟨X', e', (f1.sub (by decide)).trans f', g1, g2⟩
    · have hge : A 45 k ≤ t := by
        have : ¬ t < A 45 k := fun z => hkp (decide_eq_true z)
        rw [Int32.le_iff_toInt_le]; rw [Int32.lt_iff_toInt_lt] at this; omega
      rw [if_pos hge, ← cn_f hkp]
      refine ih (k + 1) fu X (by omega) (by omega) (by omega) h7 (fun r h1 h2 => ⟨fun j hj => (hr r h1 h2).1 j (by omega), fun j hj hkj => ?_⟩)
      by_cases q : j = k
      · subst q; exact absurd hkj hkp
      · exact (hr r h1 h2).2 j (by omega) hkj
