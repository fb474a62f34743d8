/-! writes of what the two sides hold otherwise -/
theorem pA_ne {n p w n' p' w' : Nat} (hp : p < 12) (hw : w < 18) (hp' : p' < 12) (hw' : w' < 18) (h : n ≠ n' ∨ p ≠ p' ∨ w ≠ w') : 18 + 244 * n + (28 + 18 * p + w) ≠ 18 + 244 * n' + (28 + 18 * p' + w') := by
  intro e
  have a1 : (18 + 244 * n + (28 + 18 * p + w) - 18) / 244 = n := by omega
  have a2 : (18 + 244 * n' + (28 + 18 * p' + w') - 18) / 244 = n' := by omega
  have e1 : n = n' := by rw [← a1, ← a2, e]
  subst e1
  omega
theorem pA_lo {n p w n' w' : Nat} (hp : p < 12) (hw : w < 18) (hw' : w' < 28) : 18 + 244 * n' + w' ≠ 18 + 244 * n + (28 + 18 * p + w) := by
  intro e
  have a1 : (18 + 244 * n + (28 + 18 * p + w) - 18) / 244 = n := by omega
  have a2 : (18 + 244 * n' + w' - 18) / 244 = n' := by omega
  have e1 : n = n' := by rw [← a1, ← a2, e]
  subst e1
  omega
theorem spA_p {n p w : Nat} (hn : n < 6) (hp : p < 12) (hw : w = 6 ∨ w = 7 ∨ (11 ≤ w ∧ w < 18)) : spA (18 + 244 * n + (28 + 18 * p + w)) := Or.inr (Or.inl ⟨n, p, w, hn, hp, hw, rfl⟩)
section SW
variable {lo : Nat × (Nat → Int32)} {s l m : Nat} {T : Nat × Nat} {X Y : zX} {k i a : Nat} {v : Int32}
/-- a cell of the class alone -/
def cX (k i : Nat) : Prop := k = 27 ∨ k = 28 ∨ k = 30 ∨ k = 31 ∨ k = 53 ∨ k = 54 ∨ k = 55 ∨ (k = 3 ∧ i = 1) ∨ (k = 5 ∧ i = 1) ∨ (k = 8 ∧ i = 1) ∨ (k = 0 ∧ i = 13) ∨ (39 ≤ k ∧ k ≤ 44)
theorem rc_cX {d : Prop} (h : rc d s l m k i a) : ¬ cX k i := by
  unfold cX
  unfold rc at h
  rcases h with ⟨h0, h⟩ | ⟨h0, h⟩ | ⟨h0, h⟩ | ⟨h1, h2, hn, ha⟩ | ⟨h1, h2, n, o, hn, ho, hne, hi, ha⟩ | ⟨h1, n, o, hn, ho, hi, ha⟩ | ⟨h1, n, o, hn, ho, hi, ha⟩ | ⟨h1, hi, ha⟩ | ⟨-, h1, hi, ha⟩ | ⟨h1, hi, ha⟩ <;> omega
theorem eDir.wX (h : eDir lo s l m X Y) (hc : cX k i) : eDir lo s l m (zw X k i v) Y := by
  intro k' i' a' hc' hq
  have e : zw X k i v 2 1 = X 2 1 := zw_no (by unfold cX at hc; omega)
  rw [e] at hc'
  rw [zw_no]
  · exact h _ _ _ hc' hq
  · have := rc_cX hc'
    by_cases q : k' = k
    · by_cases q2 : i' = i
      · subst q; subst q2; exact absurd hc this
      · exact Or.inr q2
    · exact Or.inl q
theorem eDir.wY (hs : s ≤ 6) (hl : l ≤ 10) (hm : m ≤ 64) (h : eDir lo s l m X Y) (hc : spA a) : eDir lo s l m X (zw Y 1 a v) := by
  intro k' i' a' hc' hq
  rw [zw_no (Or.inr (fun z => rc_sp hs hl hm hc' hc z.symm))]
  exact h _ _ _ hc' hq
/-- the answer's three -/
theorem wR.w_ans (h : wR lo s l m T X Y) {n p o : Nat} (hn : n < s) (hp : p < 12) (ho : o < s) (hne : o ≠ n) (hh : (p : Int) ≤ (X 10 n).toInt) (hv : v ≠ -1) (sc : Int32) : wR lo s l m T (zw (zw (zw X 26 (n * 12 + p) v) 27 (n * 12 + p) (nI o)) 28 (n * 12 + p) sc) (zw (zw (zw Y 1 (18 + 244 * n + (28 + 18 * p + 5)) v) 1 (18 + 244 * n + (28 + 18 * p + 6)) (nI o)) 1 (18 + 244 * n + (28 + 18 * p + 7)) sc) := by
  have hs := h.hs
  have hl := h.hl
  have hm := h.hm
  obtain ⟨⟨j0, j1, j2, j3, j4, j5, j6, j7, j8, j10, j11⟩, d1, d2, d3, d4, d5, d6, d7, d8⟩ := h
  have f : fr [26, 27, 28] X (zw (zw (zw X 26 (n * 12 + p) v) 27 (n * 12 + p) (nI o)) 28 (n * 12 + p) sc) := fr_w (fr_w (fr_w (fr.refl _ _) (by decide)) (by decide)) (by decide)
  have hu : ∀ k, 21 ≤ k → k ≤ 33 → usd s k (n * 12 + p) := fun k h1 h2 => Or.inr (Or.inr (Or.inr (Or.inr ⟨h1, h2, n, p, hn, hp, rfl⟩)))
  have ny : ∀ a', (∀ w, 5 ≤ w → w ≤ 7 → a' ≠ 18 + 244 * n + (28 + 18 * p + w)) → zw (zw (zw Y 1 (18 + 244 * n + (28 + 18 * p + 5)) v) 1 (18 + 244 * n + (28 + 18 * p + 6)) (nI o)) 1 (18 + 244 * n + (28 + 18 * p + 7)) sc 1 a' = Y 1 a' := fun a' ha => by
    rw [zw_no (Or.inr (ha 7 (by omega) (by omega))), zw_no (Or.inr (ha 6 (by omega) (by omega))), zw_no (Or.inr (ha 5 (by omega) (by omega)))]
  refine ⟨⟨j0.fr f (by decide), j1.fr f (by decide), j2.fr f (by decide), j3.fr f (by decide), j4.fr f (by decide), j5.fr f (by decide), ?_, j7.fr f (by decide), j8.fr f (by decide), j10.fr f (by decide), ((j11.w hs (hu 26 (by omega) (by omega))).w hs (hu 27 (by omega) (by omega))).w hs (hu 28 (by omega) (by omega))⟩, ?_, ?_, ?_, ?_, ?_, ?_, ?_, fun a' g1 g2 g3 => by rw [ny a' (fun w h1 h2 => by omega)]; exact d8 a' g1 g2 g3⟩
  · intro n' p' hn' hp'
    obtain ⟨g1, g2⟩ := j6 n' p' hn' hp'
    rw [f 10 (by decide), f 21 (by decide)]
    refine ⟨g1, ?_⟩
    by_cases q : n' = n ∧ p' = p
    · obtain ⟨rfl, rfl⟩ := q
      intro _
      exact ⟨hh, o, ho, hne, by rw [zw_no (Or.inl (by decide)), zw_at]⟩
    · have q' : n' * 12 + p' ≠ n * 12 + p := by omega
      rw [zw_no (Or.inr q'), zw_no (Or.inr q'), zw_no (Or.inr q'), zw_no (Or.inr q'), zw_no (Or.inr q'), zw_no (Or.inr q')]
      exact g2
  · refine (((d1.w hs hl (rc_p (w := 5) hn hp (by decide)) (by omega)).wX (Or.inl rfl)).wX (Or.inr (Or.inl rfl))) |>.wY hs hl hm (spA_p (by omega) hp (Or.inl rfl)) |>.wY hs hl hm (spA_p (by omega) hp (Or.inr (Or.inl rfl)))
  · intro n' hn'
    rw [ny _ (fun w h1 h2 => pA_lo hp (by omega) (by omega)), f 3 (by decide)]; exact d2 n' hn'
  · intro j hj
    rw [ny _ (fun w h1 h2 => by omega), f 5 (by decide)]; exact d3 j hj
  · intro n' p' hn' hp'
    by_cases q : n' = n ∧ p' = p
    · obtain ⟨rfl, rfl⟩ := q
      refine ⟨fun _ => ⟨?_, ?_⟩, fun z => ?_⟩
      · rw [zw_no (Or.inr (by omega)), zw_at, zw_no (Or.inl (by decide)), zw_at]
      · rw [zw_at, zw_at]
      · rw [zw_no (Or.inl (by decide)), zw_no (Or.inl (by decide)), zw_at] at z
        exact absurd z hv
    · have q' : n' * 12 + p' ≠ n * 12 + p := by omega
      rw [ny _ (fun w h1 h2 => pA_ne hp' (by omega) hp (by omega) (by omega)), ny _ (fun w h1 h2 => pA_ne hp' (by omega) hp (by omega) (by omega))]
      rw [zw_no (a := 26) (Or.inr q'), zw_no (a := 26) (Or.inr q'), zw_no (a := 26) (Or.inr q'), zw_no (a := 27) (Or.inr q'), zw_no (a := 27) (Or.inr q'), zw_no (a := 27) (Or.inr q'), zw_no (a := 28) (Or.inr q'), zw_no (a := 28) (Or.inr q'), zw_no (a := 28) (Or.inr q')]
      exact d4 n' p' hn' hp'
  · intro n' p' hn' hp'
    rw [f 30 (by decide), f 31 (by decide)]
    exact (d5 n' p' hn' hp').cong (fun w h1 h2 => ny _ (fun w' h1 h2 => pA_ne hp' (by omega) hp (by omega) (by omega)))
  · obtain ⟨q, t, g1, g2, g3, g4, g5⟩ := d6
    refine ⟨q, t, g1, g2, by rw [f 8 (by decide)]; exact g3, by rw [f 8 (by decide)]; exact g4, fun a w ha hw => ?_⟩
    rw [ny _ (fun w h1 h2 => by omega), f 55 (by decide)]; exact g5 a w ha hw
  · intro j hj hlj
    rw [f 48 (by decide), f 53 (by decide), f 54 (by decide), ny _ (fun w h1 h2 => by omega), ny _ (fun w h1 h2 => by omega)]
    exact d7 j hj hlj
/-- no answer -/
theorem wR.w_noans (h : wR lo s l m T X Y) {n p : Nat} (hn : n < s) (hp : p < 12) (sc : Int32) : wR lo s l m T (zw (zw (zw X 26 (n * 12 + p) (-1)) 27 (n * 12 + p) (-1)) 28 (n * 12 + p) sc) (zw Y 1 (18 + 244 * n + (28 + 18 * p + 5)) (-1)) := by
  have hs := h.hs
  have hl := h.hl
  have hm := h.hm
  obtain ⟨⟨j0, j1, j2, j3, j4, j5, j6, j7, j8, j10, j11⟩, d1, d2, d3, d4, d5, d6, d7, d8⟩ := h
  have f : fr [26, 27, 28] X (zw (zw (zw X 26 (n * 12 + p) (-1)) 27 (n * 12 + p) (-1)) 28 (n * 12 + p) sc) := fr_w (fr_w (fr_w (fr.refl _ _) (by decide)) (by decide)) (by decide)
  have hu : ∀ k, 21 ≤ k → k ≤ 33 → usd s k (n * 12 + p) := fun k h1 h2 => Or.inr (Or.inr (Or.inr (Or.inr ⟨h1, h2, n, p, hn, hp, rfl⟩)))
  have ny : ∀ a', (∀ w, 5 ≤ w → w ≤ 7 → a' ≠ 18 + 244 * n + (28 + 18 * p + w)) → zw Y 1 (18 + 244 * n + (28 + 18 * p + 5)) (-1) 1 a' = Y 1 a' := fun a' ha => by
    rw [zw_no (Or.inr (ha 5 (by omega) (by omega)))]
  refine ⟨⟨j0.fr f (by decide), j1.fr f (by decide), j2.fr f (by decide), j3.fr f (by decide), j4.fr f (by decide), j5.fr f (by decide), ?_, j7.fr f (by decide), j8.fr f (by decide), j10.fr f (by decide), ((j11.w hs (hu 26 (by omega) (by omega))).w hs (hu 27 (by omega) (by omega))).w hs (hu 28 (by omega) (by omega))⟩, ?_, ?_, ?_, ?_, ?_, ?_, ?_, fun a' g1 g2 g3 => by rw [ny a' (fun w h1 h2 => by omega)]; exact d8 a' g1 g2 g3⟩
  · intro n' p' hn' hp'
    obtain ⟨g1, g2⟩ := j6 n' p' hn' hp'
    rw [f 10 (by decide), f 21 (by decide)]
    refine ⟨g1, ?_⟩
    by_cases q : n' = n ∧ p' = p
    · obtain ⟨rfl, rfl⟩ := q
      intro z
      rw [zw_no (Or.inl (by decide)), zw_no (Or.inl (by decide)), zw_at] at z
      exact absurd rfl z
    · have q' : n' * 12 + p' ≠ n * 12 + p := by omega
      rw [zw_no (Or.inr q'), zw_no (Or.inr q'), zw_no (Or.inr q'), zw_no (Or.inr q'), zw_no (Or.inr q'), zw_no (Or.inr q')]
      exact g2
  · refine (((d1.w hs hl (rc_p (w := 5) hn hp (by decide)) (by omega)).wX (Or.inl rfl)).wX (Or.inr (Or.inl rfl)))
  · intro n' hn'
    rw [ny _ (fun w h1 h2 => pA_lo hp (by omega) (by omega)), f 3 (by decide)]; exact d2 n' hn'
  · intro j hj
    rw [ny _ (fun w h1 h2 => by omega), f 5 (by decide)]; exact d3 j hj
  · intro n' p' hn' hp'
    by_cases q : n' = n ∧ p' = p
    · obtain ⟨rfl, rfl⟩ := q
      refine ⟨fun z => ?_, fun _ => ?_⟩
      · rw [zw_no (Or.inl (by decide)), zw_no (Or.inl (by decide)), zw_at] at z
        exact absurd rfl z
      · rw [zw_no (Or.inl (by decide)), zw_at]
    · have q' : n' * 12 + p' ≠ n * 12 + p := by omega
      rw [ny _ (fun w h1 h2 => pA_ne hp' (by omega) hp (by omega) (by omega)), ny _ (fun w h1 h2 => pA_ne hp' (by omega) hp (by omega) (by omega))]
      rw [zw_no (a := 26) (Or.inr q'), zw_no (a := 26) (Or.inr q'), zw_no (a := 26) (Or.inr q'), zw_no (a := 27) (Or.inr q'), zw_no (a := 27) (Or.inr q'), zw_no (a := 27) (Or.inr q'), zw_no (a := 28) (Or.inr q'), zw_no (a := 28) (Or.inr q'), zw_no (a := 28) (Or.inr q')]
      exact d4 n' p' hn' hp'
  · intro n' p' hn' hp'
    rw [f 30 (by decide), f 31 (by decide)]
    exact (d5 n' p' hn' hp').cong (fun w h1 h2 => ny _ (fun w' h1 h2 => pA_ne hp' (by omega) hp (by omega) (by omega)))
  · obtain ⟨q, t, g1, g2, g3, g4, g5⟩ := d6
    refine ⟨q, t, g1, g2, by rw [f 8 (by decide)]; exact g3, by rw [f 8 (by decide)]; exact g4, fun a w ha hw => ?_⟩
    rw [ny _ (fun w h1 h2 => by omega), f 55 (by decide)]; exact g5 a w ha hw
  · intro j hj hlj
    rw [f 48 (by decide), f 53 (by decide), f 54 (by decide), ny _ (fun w h1 h2 => by omega), ny _ (fun w h1 h2 => by omega)]
    exact d7 j hj hlj
/-- a gap -/
theorem wR.w_gapG (h : wR lo s l m T X Y) {n p : Nat} (hn : n < s) (hp : p < 12) {g b : Int32} {Y' : zX} (hy : ∀ a', (∀ w, 11 ≤ w → w < 18 → a' ≠ 18 + 244 * n + (28 + 18 * p + w)) → Y' 1 a' = Y 1 a') (hg : gapR g b (fun w => Y' 1 (18 + 244 * n + (28 + 18 * p + w)))) : wR lo s l m T (zw (zw X 30 (n * 12 + p) g) 31 (n * 12 + p) b) Y' := by
  have hs := h.hs
  have hl := h.hl
  have hm := h.hm
  obtain ⟨⟨j0, j1, j2, j3, j4, j5, j6, j7, j8, j10, j11⟩, d1, d2, d3, d4, d5, d6, d7, d8⟩ := h
  have f : fr [30, 31] X (zw (zw X 30 (n * 12 + p) g) 31 (n * 12 + p) b) := fr_w (fr_w (fr.refl _ _) (by decide)) (by decide)
  have hu : ∀ k, 21 ≤ k → k ≤ 33 → usd s k (n * 12 + p) := fun k h1 h2 => Or.inr (Or.inr (Or.inr (Or.inr ⟨h1, h2, n, p, hn, hp, rfl⟩)))
  refine ⟨⟨j0.fr f (by decide), j1.fr f (by decide), j2.fr f (by decide), j3.fr f (by decide), j4.fr f (by decide), j5.fr f (by decide), j6.fr f (by decide), j7.fr f (by decide), j8.fr f (by decide), j10.fr f (by decide), (j11.w hs (hu 30 (by omega) (by omega))).w hs (hu 31 (by omega) (by omega))⟩, ?_, ?_, ?_, ?_, ?_, ?_, ?_, fun a' g1 g2 g3 => by rw [hy a' (fun w h1 h2 => by omega)]; exact d8 a' g1 g2 g3⟩
  · intro k' i' a' hc' hq
    have d1' := (d1.wX (k := 30) (i := n * 12 + p) (v := g) (by unfold cX; omega)).wX (k := 31) (i := n * 12 + p) (v := b) (by unfold cX; omega)
    rw [hy _ (fun w h1 h2 z => rc_sp hs hl hm hc' (spA_p (by omega) hp (by omega)) z.symm)]
    exact d1' k' i' a' hc' hq
  · intro n' hn'
    rw [hy _ (fun w h1 h2 => pA_lo hp (by omega) (by omega)), f 3 (by decide)]; exact d2 n' hn'
  · intro j hj
    rw [hy _ (fun w h1 h2 => by omega), f 5 (by decide)]; exact d3 j hj
  · intro n' p' hn' hp'
    rw [f 26 (by decide), f 27 (by decide), f 28 (by decide), hy _ (fun w h1 h2 => pA_ne hp' (by omega) hp (by omega) (by omega)), hy _ (fun w h1 h2 => pA_ne hp' (by omega) hp (by omega) (by omega))]
    exact d4 n' p' hn' hp'
  · intro n' p' hn' hp'
    by_cases q : n' = n ∧ p' = p
    · obtain ⟨rfl, rfl⟩ := q
      rw [zw_no (Or.inl (by decide)), zw_at, zw_at]; exact hg
    · have q' : n' * 12 + p' ≠ n * 12 + p := by omega
      rw [zw_no (Or.inr q'), zw_no (Or.inr q'), zw_no (Or.inr q'), zw_no (Or.inr q')]
      exact (d5 n' p' hn' hp').cong (fun w h1 h2 => hy _ (fun w' h3 h4 => pA_ne hp' (by omega) hp (by omega) (by omega)))
  · obtain ⟨q, t, g1, g2, g3, g4, g5⟩ := d6
    refine ⟨q, t, g1, g2, by rw [f 8 (by decide)]; exact g3, by rw [f 8 (by decide)]; exact g4, fun a w ha hw => ?_⟩
    rw [hy _ (fun w h1 h2 => by omega), f 55 (by decide)]; exact g5 a w ha hw
  · intro j hj hlj
    rw [f 48 (by decide), f 53 (by decide), f 54 (by decide), hy _ (fun w h1 h2 => by omega), hy _ (fun w h1 h2 => by omega)]
    exact d7 j hj hlj
end SW
