/-! a text makes a world grow: what is told, a link more, a node more -/
section GW
variable {lo : Nat × (Nat → Int32)} {s l m : Nat} {T : Nat × Nat} {X Y : zX}
theorem wR.w_told (h : wR lo s l m T X Y) {i a : Nat} {v : Int32} (hia : (i = 0 ∧ a = 3) ∨ (1 ≤ i ∧ i ≤ 7 ∧ a = i + 4)) (h0 : i = 0 → ∃ q, q < s ∧ v = nI q) (h4 : 4 ≤ i → leN v 32) : wR lo s l m T (zw X 1 i v) (zw Y 1 a v) := by
  have hs := h.hs
  have hc : rc (X 2 1 = 0) s l m 1 i a := Or.inr (Or.inl ⟨rfl, hia⟩)
  obtain ⟨⟨j0, j1, j2, j3, j4, j5, j6, j7, j8, j10, j11⟩, d⟩ := h
  have f : fr [1] X (zw X 1 i v) := fr1
  refine ⟨⟨j0.fr f (by decide), j1.fr f (by decide), ⟨?_, fun w w1 w2 => ?_⟩, j3.fr f (by decide), j4.fr f (by decide), j5.fr f (by decide), j6.fr f (by decide), j7.fr f (by decide), j8.fr f (by decide), j10.fr f (by decide), j11.w j0.1 (rc_usd hc)⟩, d.w j0.1 j0.2.1 j8.1 hc ⟨by decide, by decide, by decide, by decide, by decide, by decide, fun z => absurd z (by decide)⟩⟩
  · by_cases c : i = 0
    · obtain ⟨q, q1, q2⟩ := h0 c
      exact ⟨q, by omega, Or.inr q1, by rw [c, zw_at, q2]⟩
    · obtain ⟨q, q1, q2, q3⟩ := j2.1
      exact ⟨q, q1, q2, by rw [zw_no (Or.inr (fun z => c z.symm))]; exact q3⟩
  · by_cases c : w = i
    · subst c; rw [zw_at]; exact h4 w1
    · rw [zw_no (Or.inr c)]; exact j2.2 w w1 w2
/-- rows 11 and 12 beyond the nodes don't count -/
theorem wR.r1112 (h : wR lo s l m T X Y) {X' : zX} (f : fr [11, 12] X X') (e : ∀ n, n < s → X' 11 n = X 11 n ∧ X' 12 n = X 12 n) : wR lo s l m T X' Y := by
  obtain ⟨⟨j0, j1, j2, j3, j4, j5, j6, j7, j8, j10, j11⟩, d1, d2, d3, d4, d5, d6, d7, d8⟩ := h
  have e11 : J11 s X' := by
    intro n h1 h2
    obtain ⟨⟨a1, a2, a3, a4⟩, a5, a6⟩ := j11 n h1 h2
    refine ⟨⟨by rw [f 9 (by decide)]; exact a1, by rw [f 10 (by decide)]; exact a2, by rw [f 13 (by decide)]; exact a3, fun k k1 k2 => by rw [f k (by simp; omega)]; exact a4 k k1 k2⟩, fun o ho => ?_, fun p hp => ?_⟩
    · obtain ⟨b1, b2, b3⟩ := a5 o ho
      rw [f 18 (by decide)]
      exact ⟨b1, b2, fun k k1 k2 => by rw [f k (by simp; omega)]; exact b3 k k1 k2⟩
    · obtain ⟨c1, c2, c3⟩ := a6 p hp
      rw [f 21 (by decide), f 26 (by decide), f 27 (by decide), f 29 (by decide), f 30 (by decide), f 31 (by decide), f 32 (by decide), f 33 (by decide)]
      exact ⟨c1, fun k k1 k2 => by rw [f k (by simp; omega)]; exact c2 k k1 k2, c3⟩
  refine ⟨⟨j0.fr f (by decide), j1.fr f (by decide), j2.fr f (by decide), j3.fr f (by decide), ?_, j5.fr f (by decide), j6.fr f (by decide), j7.fr f (by decide), j8.fr f (by decide), j10.fr f (by decide), e11⟩, ?_, ?_, ?_, ?_, ?_, ?_, ?_, d8⟩
  · intro n hn
    rw [(e n hn).1, (e n hn).2]
    exact j4 n hn
  · intro k i a hc hq
    rw [f 2 (by decide)] at hc
    by_cases z : k = 11 ∨ k = 12
    · have hi : i < s := by
        unfold rc at hc
        rcases hc with ⟨h0, h⟩ | ⟨h0, h⟩ | ⟨h0, h⟩ | ⟨h1, h2, hn, ha⟩ | ⟨h1, h2, n, o, hn, ho, hne, hi, ha⟩ | ⟨h1, n, o, hn, ho, hi, ha⟩ | ⟨h1, n, o, hn, ho, hi, ha⟩ | ⟨h1, hi, ha⟩ | ⟨-, h1, hi, ha⟩ | ⟨h1, hi, ha⟩ <;> omega
      rcases z with rfl | rfl
      · rw [(e i hi).1]; exact d1 11 i a hc hq
      · rw [(e i hi).2]; exact d1 12 i a hc hq
    · rw [f k (by simp; omega)]
      exact d1 k i a hc hq
  · intro n hn; rw [f 3 (by decide)]; exact d2 n hn
  · intro i hi; rw [f 5 (by decide)]; exact d3 i hi
  · intro n p hn hp; rw [f 26 (by decide), f 27 (by decide), f 28 (by decide)]; exact d4 n p hn hp
  · intro n p hn hp; rw [f 30 (by decide), f 31 (by decide)]; exact d5 n p hn hp
  · obtain ⟨q, t, g1, g2, g3, g4, g5⟩ := d6
    exact ⟨q, t, g1, g2, by rw [f 8 (by decide)]; exact g3, by rw [f 8 (by decide)]; exact g4, fun a w ha hw => by rw [f 55 (by decide)]; exact g5 a w ha hw⟩
  · intro i hi hli; rw [f 48 (by decide), f 53 (by decide), f 54 (by decide)]; exact d7 i hi hli
/-! a link more -/
theorem rc_l1 {d : Prop} {s l m k i a : Nat} (h : rc d s (l + 1) m k i a) : rc d s l m k i a ∨ (i = l ∧ 34 ≤ k ∧ k ≤ 37 ∧ a = 1482 + 6 * l + (k - 34)) ∨ (d ∧ i = l ∧ k = 38 ∧ a = 1482 + 6 * l + 5) := by
  unfold rc at h ⊢
  rcases h with h | h | h | h | h | h | h | ⟨h1, hi, ha⟩ | ⟨hd, h1, hi, ha⟩ | h
  · exact Or.inl (Or.inl h)
  · exact Or.inl (Or.inr (Or.inl h))
  · exact Or.inl (Or.inr (Or.inr (Or.inl h)))
  · exact Or.inl (Or.inr (Or.inr (Or.inr (Or.inl h))))
  · exact Or.inl (Or.inr (Or.inr (Or.inr (Or.inr (Or.inl h)))))
  · exact Or.inl (Or.inr (Or.inr (Or.inr (Or.inr (Or.inr (Or.inl h))))))
  · exact Or.inl (Or.inr (Or.inr (Or.inr (Or.inr (Or.inr (Or.inr (Or.inl h)))))))
  · by_cases c : i = l
    · exact Or.inr (Or.inl ⟨c, h1.1, h1.2, by rw [ha, c]⟩)
    · exact Or.inl (Or.inr (Or.inr (Or.inr (Or.inr (Or.inr (Or.inr (Or.inr (Or.inl ⟨h1, by omega, ha⟩))))))))
  · by_cases c : i = l
    · exact Or.inr (Or.inr ⟨hd, c, h1, by rw [ha, c]⟩)
    · exact Or.inl (Or.inr (Or.inr (Or.inr (Or.inr (Or.inr (Or.inr (Or.inr (Or.inr (Or.inl ⟨hd, h1, by omega, ha⟩)))))))))
  · exact Or.inl (Or.inr (Or.inr (Or.inr (Or.inr (Or.inr (Or.inr (Or.inr (Or.inr (Or.inr h)))))))))
theorem rc_adr {d : Prop} {s l m k i a : Nat} (hs : s ≤ 6) (h : rc d s l m k i a) : (a < 1482 + 6 * l ∨ 1542 ≤ a) ∧ (a = 1 ↔ (k = 5 ∧ i = 0)) ∧ (a = 0 ↔ (k = 3 ∧ i = 0)) ∧ (34 ≤ k → k ≤ 38 → i < l) ∧ (k = 5 → i = 0) ∧ (k = 3 → i = 0) := by
  unfold rc at h
  rcases h with ⟨h0, h⟩ | ⟨h0, h⟩ | ⟨h0, h⟩ | ⟨h1, h2, hn, ha⟩ | ⟨h1, h2, n, o, hn, ho, hne, hi, ha⟩ | ⟨h1, n, o, hn, ho, hi, ha⟩ | ⟨h1, n, o, hn, ho, hi, ha⟩ | ⟨h1, hi, ha⟩ | ⟨-, h1, hi, ha⟩ | ⟨h1, hi, ha⟩ <;> refine ⟨?_, ?_, ?_, ?_, ?_, ?_⟩ <;> omega
theorem wR.w_link (h : wR lo s l m T X Y) (hl : l < 10) {X1 Y1 : zX} {a b e : Nat} (ha : a < s) (hb' : b < s) (hab : a ≠ b) (he : 1 ≤ e) (he2 : e ≤ 9) (q : Int32) (hn : ∀ i, i < l → ¬ ((X 34 i = nI a ∧ X 35 i = nI b) ∨ (X 34 i = nI b ∧ X 35 i = nI a)))
    (fX : fr [5, 34, 35, 36, 37] X X1) (x5 : X1 5 0 = nI (l + 1)) (x5' : X1 5 1 = X 5 1) (xo : ∀ k, 34 ≤ k → k ≤ 37 → ∀ i, i ≠ l → X1 k i = X k i) (x34 : X1 34 l = nI a) (x35 : X1 35 l = nI b) (x36 : X1 36 l = nI e) (x37 : X1 37 l = q)
    (y1 : Y1 1 1 = nI (l + 1)) (y34 : Y1 1 (1482 + 6 * l + 0) = nI a) (y35 : Y1 1 (1482 + 6 * l + 1) = nI b) (y36 : Y1 1 (1482 + 6 * l + 2) = nI e) (y37 : Y1 1 (1482 + 6 * l + 3) = q) (yc : Y1 1 (1482 + 6 * l + 4) = nI 0) (yl : Y1 1 (1482 + 6 * l + 5) = nI 0)
    (yo : ∀ a, a ≠ 1 → (a < 1482 + 6 * l ∨ 1542 ≤ a) → Y1 1 a = Y 1 a) : wR lo s (l + 1) m T X1 Y1 := by
  have hs := h.hs
  have hm := h.hm
  obtain ⟨⟨j0, j1, j2, j3, j4, j5, j6, j7, j8, j10, j11⟩, d1, d2, d3, d4, d5, d6, d7, d8⟩ := h
  have J : J10 s (l + 1) X1 := by
    refine ⟨fun i hi => ?_, fun i g1 g2 => ?_, by rw [fX 3 (by decide)]; exact j10.2.2⟩
    · by_cases c : i = l
      · subst c
        exact ⟨a, b, e, ha, hb', hab, he, he2, x34, x35, x36, fun j g1 g2 => by omega⟩
      · obtain ⟨a', b', e', q1, q2, q3, q4, q5, q6, q7, q8, q9⟩ := j10.1 i (by omega)
        refine ⟨a', b', e', q1, q2, q3, q4, q5, by rw [xo 34 (by decide) (by decide) i c]; exact q6, by rw [xo 35 (by decide) (by decide) i c]; exact q7, by rw [xo 36 (by decide) (by decide) i c]; exact q8, fun j g1 g2 => ?_⟩
        rw [xo 34 (by decide) (by decide) i c, xo 35 (by decide) (by decide) i c]
        by_cases c2 : j = l
        · subst c2
          rw [x34, x35]
          have := hn i (by omega)
          rintro (⟨z1, z2⟩ | ⟨z1, z2⟩)
          · exact this (Or.inl ⟨z1.symm, z2.symm⟩)
          · exact this (Or.inr ⟨z2.symm, z1.symm⟩)
        · rw [xo 34 (by decide) (by decide) j c2, xo 35 (by decide) (by decide) j c2]
          exact q9 j g1 (by omega)
    · rw [fX 38 (by decide), x5']
      exact j10.2.1 i (by omega) g2
  have j11' : J11 s X1 := j11.cg (fun k h1 h2 => fX k (by simp; omega))
  refine ⟨⟨⟨j0.1, by omega, by rw [fX 3 (by decide)]; exact j0.2.2.1, x5⟩, j1.fr fX (by decide), j2.fr fX (by decide), j3.fr fX (by decide), j4.fr fX (by decide), j5.fr fX (by decide), j6.fr fX (by decide), j7.fr fX (by decide), j8.fr fX (by decide), J, j11'⟩, ?_, ?_, ?_, ?_, ?_, ?_, ?_, ?_⟩
  · intro k i a' hc hq
    rw [fX 2 (by decide)] at hc
    rcases rc_l1 hc with hc | ⟨rfl, k1, k2, rfl⟩ | ⟨hd, rfl, rfl, rfl⟩
    · obtain ⟨r1, r2, -, r4, r5, -⟩ := rc_adr hs hc
      by_cases c : k = 5
      · have i0 := r5 c
        have a1 := r2.mpr ⟨c, i0⟩
        rw [c, i0, a1, y1, x5]
      · rw [yo a' (fun z => c (r2.mp z).1) r1]
        have ex : X1 k i = X k i := by
          by_cases c2 : 34 ≤ k ∧ k ≤ 37
          · exact xo k c2.1 c2.2 i (by have := r4 c2.1 (by omega); omega)
          · rw [fX k (by simp; omega)]
        rw [ex]
        exact d1 k i a' hc hq
    · have : k = 34 ∨ k = 35 ∨ k = 36 ∨ k = 37 := by omega
      rcases this with rfl | rfl | rfl | rfl
      · rw [x34]; exact y34
      · rw [x35]; exact y35
      · rw [x36]; exact y36
      · rw [x37]; exact y37
    · rw [yl, fX 38 (by decide)]
      exact (j10.2.1 i (Nat.le_refl _) hl).1.symm
  · intro n hn'; rw [fX 3 (by decide), yo _ (by omega) (by omega)]; exact d2 n hn'
  · intro i hi
    rw [x5']
    by_cases c : i = l
    · subst c
      rw [yc]
      exact ⟨fun z => absurd z (j10.2.1 i (Nat.le_refl _) hl).2, fun _ => rfl⟩
    · rw [yo _ (by omega) (by omega)]
      exact d3 i (by omega)
  · intro n p hn' hp; rw [fX 26 (by decide), fX 27 (by decide), fX 28 (by decide), yo _ (by omega) (by omega), yo _ (by omega) (by omega)]; exact d4 n p hn' hp
  · intro n p hn' hp; rw [fX 30 (by decide), fX 31 (by decide)]; exact (d5 n p hn' hp).cong (fun w g1 g2 => yo _ (by omega) (by omega))
  · obtain ⟨q', t, g1, g2, g3, g4, g5⟩ := d6
    exact ⟨q', t, g1, g2, by rw [fX 8 (by decide)]; exact g3, by rw [fX 8 (by decide)]; exact g4, fun a' w ha' hw => by rw [fX 55 (by decide), yo _ (by omega) (by omega)]; exact g5 a' w ha' hw⟩
  · intro i hi hli; rw [fX 48 (by decide), fX 53 (by decide), fX 54 (by decide), yo _ (by omega) (by omega), yo _ (by omega) (by omega)]; exact d7 i hi hli
  · intro a' a1 a2 a3; rw [yo _ (by omega) (by omega)]; exact d8 a' a1 a2 a3
/-! a node more -/
theorem rc_s1 {d : Prop} {s l m k i a : Nat} (h : rc d (s + 1) l m k i a) : rc d s l m k i a ∨ (9 ≤ k ∧ k ≤ 17 ∧ i = s ∧ a = 18 + 244 * s + (k - 8)) ∨ (18 ≤ k ∧ k ≤ 20 ∧ ∃ o, o < s ∧ ((i = s * 6 + o ∧ a = 18 + 244 * s + (10 + 3 * o + (k - 18))) ∨ (i = o * 6 + s ∧ a = 18 + 244 * o + (10 + 3 * s + (k - 18))))) ∨ (((21 ≤ k ∧ k ≤ 26) ∨ k = 29) ∧ ∃ p, p < 12 ∧ i = s * 12 + p ∧ a = 18 + 244 * s + (28 + 18 * p + (k - 21))) ∨ ((k = 32 ∨ k = 33) ∧ ∃ p, p < 12 ∧ i = s * 12 + p ∧ a = 18 + 244 * s + (28 + 18 * p + (k - 23))) := by
  unfold rc at h ⊢
  rcases h with h | h | h | ⟨h1, h2, hn, ha⟩ | ⟨h1, h2, n, o, hn, ho, hne, hi, ha⟩ | ⟨h1, n, p, hn, hp, hi, ha⟩ | ⟨h1, n, p, hn, hp, hi, ha⟩ | h | h | h
  · exact Or.inl (Or.inl h)
  · exact Or.inl (Or.inr (Or.inl h))
  · exact Or.inl (Or.inr (Or.inr (Or.inl h)))
  · by_cases c : i = s
    · exact Or.inr (Or.inl ⟨h1, h2, c, by rw [ha, c]⟩)
    · exact Or.inl (Or.inr (Or.inr (Or.inr (Or.inl ⟨h1, h2, by omega, ha⟩))))
  · by_cases c : n = s
    · exact Or.inr (Or.inr (Or.inl ⟨h1, h2, o, by omega, Or.inl ⟨by rw [hi, c], by rw [ha, c]⟩⟩))
    · by_cases c2 : o = s
      · exact Or.inr (Or.inr (Or.inl ⟨h1, h2, n, by omega, Or.inr ⟨by rw [hi, c2], by rw [ha, c2]⟩⟩))
      · exact Or.inl (Or.inr (Or.inr (Or.inr (Or.inr (Or.inl ⟨h1, h2, n, o, by omega, by omega, hne, hi, ha⟩)))))
  · by_cases c : n = s
    · exact Or.inr (Or.inr (Or.inr (Or.inl ⟨h1, p, hp, by rw [hi, c], by rw [ha, c]⟩)))
    · exact Or.inl (Or.inr (Or.inr (Or.inr (Or.inr (Or.inr (Or.inl ⟨h1, n, p, by omega, hp, hi, ha⟩))))))
  · by_cases c : n = s
    · exact Or.inr (Or.inr (Or.inr (Or.inr ⟨h1, p, hp, by rw [hi, c], by rw [ha, c]⟩)))
    · exact Or.inl (Or.inr (Or.inr (Or.inr (Or.inr (Or.inr (Or.inr (Or.inl ⟨h1, n, p, by omega, hp, hi, ha⟩)))))))
  · exact Or.inl (Or.inr (Or.inr (Or.inr (Or.inr (Or.inr (Or.inr (Or.inr (Or.inl h))))))))
  · exact Or.inl (Or.inr (Or.inr (Or.inr (Or.inr (Or.inr (Or.inr (Or.inr (Or.inr (Or.inl h)))))))))
  · exact Or.inl (Or.inr (Or.inr (Or.inr (Or.inr (Or.inr (Or.inr (Or.inr (Or.inr (Or.inr h)))))))))
/-- an address that a new node s leaves as it is -/
def ndO (s a : Nat) : Prop := a ≠ 0 ∧ (∀ w, w < 244 → a ≠ 18 + 244 * s + w) ∧ ∀ o j, o < 6 → j < 3 → a ≠ 18 + 244 * o + (10 + 3 * s + j)
theorem nd_ne {n o u v : Nat} (hu : u < 244) (hv : v < 244) (h : u ≠ v ∨ n ≠ o) : 18 + 244 * n + u ≠ 18 + 244 * o + v := by
  rcases Nat.lt_trichotomy n o with z | z | z <;> omega
theorem ndO_n {s n u : Nat} (hs : s < 6) (hn : n < s) (hu : u < 244) (h : u < 10 ∨ 28 ≤ u) : ndO s (18 + 244 * n + u) := ⟨by omega, fun w hw => nd_ne hu hw (Or.inr (by omega)), fun o j ho hj => nd_ne hu (by omega) (Or.inl (by omega))⟩
theorem rc_ndO {d : Prop} {s l m k i a : Nat} (hs : s < 6) (h : rc d s l m k i a) : ndO s a ∨ (k = 3 ∧ i = 0 ∧ a = 0) := by
  by_cases z : a = 0
  · exact Or.inr ⟨((rc_adr (by omega) h).2.2.1.mp z).1, ((rc_adr (by omega) h).2.2.1.mp z).2, z⟩
  · refine Or.inl ⟨z, fun w hw => ?_, fun o' j ho' hj => ?_⟩
    · unfold rc at h
      rcases h with ⟨h0, h⟩ | ⟨h0, h⟩ | ⟨h0, h⟩ | ⟨h1, h2, hn, ha⟩ | ⟨h1, h2, n, o, hn, ho, hne, hi, ha⟩ | ⟨h1, n, o, hn, ho, hi, ha⟩ | ⟨h1, n, o, hn, ho, hi, ha⟩ | ⟨h1, hi, ha⟩ | ⟨-, h1, hi, ha⟩ | ⟨h1, hi, ha⟩ <;> omega
    · unfold rc at h
      rcases h with ⟨h0, h⟩ | ⟨h0, h⟩ | ⟨h0, h⟩ | ⟨h1, h2, hn, ha⟩ | ⟨h1, h2, n, o, hn, ho, hne, hi, ha⟩ | ⟨h1, n, o, hn, ho, hi, ha⟩ | ⟨h1, n, o, hn, ho, hi, ha⟩ | ⟨h1, hi, ha⟩ | ⟨-, h1, hi, ha⟩ | ⟨h1, hi, ha⟩
      any_goals omega
      all_goals
        rw [ha]
        exact nd_ne (by omega) (by omega) (Or.inl (by omega))
theorem wR.w_node (h : wR lo s l m T X Y) (hs : s < 6) {X1 Y1 : zX} {up c1 c2 : Int32} (hc1 : leN c1 32) (hc2 : leN c2 32)
    (fX : fr [3, 11, 12] X X1) (x30 : X1 3 0 = nI (s + 1)) (x31 : ∀ q, q < 6 → q ≠ s → (hb (X1 3 1) q ↔ hb (X 3 1) q)) (x31s : (hb (X1 3 1) s → up = nI 1) ∧ (¬ hb (X1 3 1) s → up = nI 0)) (x11 : ∀ n, n ≠ s → X1 11 n = X 11 n) (x12 : ∀ n, n ≠ s → X1 12 n = X 12 n) (x11s : X1 11 s = c1) (x12s : X1 12 s = c2)
    (y0 : Y1 1 0 = nI (s + 1)) (yo : ∀ a, ndO s a → Y1 1 a = Y 1 a) (yw0 : Y1 1 (18 + 244 * s + 0) = up) (yw1 : Y1 1 (18 + 244 * s + 1) = nI 0) (yw2 : Y1 1 (18 + 244 * s + 2) = -1) (yw3 : Y1 1 (18 + 244 * s + 3) = c1) (yw4 : Y1 1 (18 + 244 * s + 4) = c2) (yw5 : Y1 1 (18 + 244 * s + 5) = nI 16) (yw6 : ∀ w, 6 ≤ w → w ≤ 9 → Y1 1 (18 + 244 * s + w) = nI 0)
    (yk : ∀ o j, o < s → j < 3 → Y1 1 (18 + 244 * s + (10 + 3 * o + j)) = (if j = 0 then nI 4 else -1) ∧ Y1 1 (18 + 244 * o + (10 + 3 * s + j)) = (if j = 0 then nI 4 else -1))
    (yp : ∀ p w, p < 12 → w < 12 → Y1 1 (18 + 244 * s + (28 + 18 * p + w)) = (if w = 0 ∨ w = 5 ∨ w = 9 ∨ w = 10 then -1 else nI 0)) : wR lo (s + 1) l m T X1 Y1 := by
  have hl := h.hl
  have hm := h.hm
  obtain ⟨⟨j0, j1, j2, j3, j4, j5, j6, j7, j8, j10, j11⟩, d1, d2, d3, d4, d5, d6, d7, d8⟩ := h
  obtain ⟨⟨u1, u2, u3, u4⟩, u5, u6⟩ := j11 s (Nat.le_refl _) hs
  have R : ∀ k, k ≠ 3 → k ≠ 11 → k ≠ 12 → X1 k = X k := fun k a1 a2 a3 => fX k (by simp [a1, a2, a3])
  have r11 : ∀ n, n < s → X1 11 n = X 11 n ∧ X1 12 n = X 12 n := fun n hn => ⟨x11 n (by omega), x12 n (by omega)⟩
  have cs : ∀ n, n < s + 1 → n < s ∨ n = s := fun n hn => by omega
  have q0 : ∀ a, ndO s a → Y1 1 a = Y 1 a := yo
  refine ⟨⟨⟨by omega, j0.2.1, x30, by rw [fX 5 (by decide)]; exact j0.2.2.2⟩, j1.fr fX (by decide), ?_, ?_, ?_, ?_, ?_, ?_, ?_, ?_, ?_⟩, ?_, ?_, ?_, ?_, ?_, ?_, ?_, ?_⟩
  · unfold J2 at j2 ⊢
    rw [R 1 (by decide) (by decide) (by decide)]
    obtain ⟨⟨q, q1, q2, q3⟩, q4⟩ := j2
    exact ⟨⟨q, q1, by omega, q3⟩, q4⟩
  · intro n hn
    rw [R 9 (by decide) (by decide) (by decide), R 10 (by decide) (by decide) (by decide)]
    rcases cs n hn with hn | rfl
    · exact j3 n hn
    · rw [u1, u2]
      have := j1.2.1
      refine ⟨leN_nI (by omega), ?_⟩
      unfold hdO
      rw [q_m1]
      omega
  · intro n hn
    rcases cs n hn with hn | rfl
    · rw [(r11 n hn).1, (r11 n hn).2]; exact j4 n hn
    · rw [x11s, x12s]; exact ⟨hc1, hc2⟩
  · intro n o hn ho hne
    rw [R 18 (by decide) (by decide) (by decide), R 19 (by decide) (by decide) (by decide), R 20 (by decide) (by decide) (by decide)]
    have new : X 18 (n * 6 + o) = nI 4 → X 19 (n * 6 + o) = -1 → X 20 (n * 6 + o) = -1 → leN (X 18 (n * 6 + o)) (T.1 + 4) ∧ 1 ≤ (X 18 (n * 6 + o)).toInt ∧ ((X 19 (n * 6 + o) = -1 ∧ X 20 (n * 6 + o) = -1) ∨ (leN (X 19 (n * 6 + o)) T.1 ∧ leN (X 20 (n * 6 + o)) T.1)) := fun a1 a2 a3 => by
      rw [a1, a2, a3, nI_toInt (by omega)]
      exact ⟨leN_nI (by omega), by omega, Or.inl ⟨rfl, rfl⟩⟩
    rcases cs n hn with hn | rfl
    · rcases cs o ho with ho | rfl
      · exact j5 n o hn ho hne
      · exact new (u5 n (by omega)).2.1 ((u5 n (by omega)).2.2 19 (by decide) (by decide)).2 ((u5 n (by omega)).2.2 20 (by decide) (by decide)).2
    · exact new (u5 o (by omega)).1 ((u5 o (by omega)).2.2 19 (by decide) (by decide)).1 ((u5 o (by omega)).2.2 20 (by decide) (by decide)).1
  · intro n p hn hp
    rw [R 21 (by decide) (by decide) (by decide), R 10 (by decide) (by decide) (by decide), R 26 (by decide) (by decide) (by decide), R 27 (by decide) (by decide) (by decide)]
    rcases cs n hn with hn | rfl
    · obtain ⟨a1, a2⟩ := j6 n p hn hp
      refine ⟨a1, fun z => ?_⟩
      obtain ⟨b1, o, b2, b3⟩ := a2 z
      exact ⟨b1, o, by omega, b3⟩
    · obtain ⟨c1, -, c3, -⟩ := u6 p hp
      exact ⟨fun z => absurd c1 z, fun z => absurd c3 z⟩
  · intro n p hn hp
    rw [R 32 (by decide) (by decide) (by decide)]
    rcases cs n hn with hn | rfl
    · rcases j7 n p hn hp with z | ⟨o, o1, o2⟩
      · exact Or.inl z
      · exact Or.inr ⟨o, by omega, o2⟩
    · exact Or.inl (u6 p hp).2.2.2.2.2.2.1
  · have j8' := j8.fr fX (by decide)
    refine ⟨j8'.1, j8'.2.1, fun k hk => ?_⟩
    obtain ⟨⟨a, b, a1, a2, a3⟩, b1⟩ := j8'.2.2 k hk
    exact ⟨⟨a, b, by omega, by omega, a3⟩, b1⟩
  · unfold J10 at j10 ⊢
    rw [fX 34 (by decide), fX 35 (by decide), fX 36 (by decide), fX 38 (by decide), fX 5 (by decide)]
    refine ⟨fun i hi => ?_, j10.2.1, fun n g1 g2 => by rw [x31 n g2 (by omega)]; exact j10.2.2 n (by omega) g2⟩
    obtain ⟨a, b, e, a1, a2, a3⟩ := j10.1 i hi
    exact ⟨a, b, e, by omega, by omega, a3⟩
  · intro n h1 h2
    obtain ⟨⟨a1, a2, a3, a4⟩, a5, a6⟩ := j11 n (by omega) h2
    refine ⟨⟨by rw [fX 9 (by decide)]; exact a1, by rw [fX 10 (by decide)]; exact a2, by rw [fX 13 (by decide)]; exact a3, fun k k1 k2 => by rw [R k (by omega) (by omega) (by omega)]; exact a4 k k1 k2⟩, fun o ho => ?_, fun p hp => ?_⟩
    · obtain ⟨b1, b2, b3⟩ := a5 o ho
      rw [fX 18 (by decide)]
      exact ⟨b1, b2, fun k k1 k2 => by rw [R k (by omega) (by omega) (by omega)]; exact b3 k k1 k2⟩
    · obtain ⟨c1, c2, c3⟩ := a6 p hp
      rw [fX 21 (by decide), fX 26 (by decide), fX 27 (by decide), fX 29 (by decide), fX 30 (by decide), fX 31 (by decide), fX 32 (by decide), fX 33 (by decide)]
      exact ⟨c1, fun k k1 k2 => by rw [R k (by omega) (by omega) (by omega)]; exact c2 k k1 k2, c3⟩
  · intro k i a hc hq
    rw [fX 2 (by decide)] at hc
    rcases rc_s1 hc with hc | ⟨k1, k2, rfl, rfl⟩ | ⟨k1, k2, o, ho, ⟨rfl, rfl⟩ | ⟨rfl, rfl⟩⟩ | ⟨k1, p, hp, rfl, rfl⟩ | ⟨k1, p, hp, rfl, rfl⟩
    · rcases rc_ndO hs hc with z | ⟨rfl, rfl, rfl⟩
      · have hk3 : k ≠ 3 := fun w => by
          have r := rc_adr (by omega) hc
          exact z.1 (r.2.2.1.mpr ⟨w, r.2.2.2.2.2 w⟩)
        rw [yo a z]
        have ex : X1 k i = X k i := by
          by_cases c : k = 11 ∨ k = 12
          · have hi : i < s := by
              unfold rc at hc
              rcases hc with ⟨h0, h⟩ | ⟨h0, h⟩ | ⟨h0, h⟩ | ⟨h1, h2, hn, ha⟩ | ⟨h1, h2, n, o, hn, ho, hne, hi, ha⟩ | ⟨h1, n, o, hn, ho, hi, ha⟩ | ⟨h1, n, o, hn, ho, hi, ha⟩ | ⟨h1, hi, ha⟩ | ⟨-, h1, hi, ha⟩ | ⟨h1, hi, ha⟩ <;> omega
            rcases c with rfl | rfl
            · exact (r11 i hi).1
            · exact (r11 i hi).2
          · rw [R k hk3 (by omega) (by omega)]
        rw [ex]
        exact d1 k i a hc hq
      · rw [x30]; exact y0
    · have : k = 9 ∨ k = 10 ∨ k = 11 ∨ k = 12 ∨ k = 13 ∨ (14 ≤ k ∧ k ≤ 17) := by omega
      rcases this with rfl | rfl | rfl | rfl | rfl | ⟨k3, k4⟩
      · rw [R 9 (by decide) (by decide) (by decide), u1]; exact yw1
      · rw [R 10 (by decide) (by decide) (by decide), u2]; exact yw2
      · rw [x11s]; exact yw3
      · rw [x12s]; exact yw4
      · rw [R 13 (by decide) (by decide) (by decide), u3]; exact yw5
      · rw [R k (by omega) (by omega) (by omega), u4 k k3 k4]; exact yw6 (k - 8) (by omega) (by omega)
    · rw [R k (by omega) (by omega) (by omega), (yk o (k - 18) ho (by omega)).1]
      by_cases c : k = 18
      · subst c; rw [if_pos (by decide)]; exact (u5 o (by omega)).1.symm
      · rw [if_neg (by omega)]; exact ((u5 o (by omega)).2.2 k (by omega) k2).1.symm
    · rw [R k (by omega) (by omega) (by omega), (yk o (k - 18) ho (by omega)).2]
      by_cases c : k = 18
      · subst c; rw [if_pos (by decide)]; exact (u5 o (by omega)).2.1.symm
      · rw [if_neg (by omega)]; exact ((u5 o (by omega)).2.2 k (by omega) k2).2.symm
    · obtain ⟨c1, c2, c3, c4, -⟩ := u6 p hp
      rw [R k (by omega) (by omega) (by omega), yp p (k - 21) hp (by omega)]
      have : k = 21 ∨ (22 ≤ k ∧ k ≤ 25) ∨ k = 26 ∨ k = 29 := by omega
      rcases this with rfl | ⟨k3, k4⟩ | rfl | rfl
      · rw [if_pos (by decide)]; exact c1.symm
      · rw [if_neg (by omega)]; exact (c2 k k3 k4).symm
      · rw [if_pos (by decide)]; exact c3.symm
      · rw [if_neg (by decide)]; exact c4.symm
    · obtain ⟨-, -, -, -, -, -, c7, c8, -⟩ := u6 p hp
      rw [R k (by omega) (by omega) (by omega), yp p (k - 23) hp (by omega), if_pos (by omega)]
      rcases k1 with rfl | rfl
      · exact c7.symm
      · exact c8.symm
  · intro n hn
    rcases cs n hn with hn | rfl
    · rw [q0 _ (ndO_n hs hn (by omega) (by omega))]
      obtain ⟨a1, a2⟩ := d2 n hn
      exact ⟨fun z => a1 ((x31 n (by omega) (by omega)).mp z), fun z => a2 (fun w => z ((x31 n (by omega) (by omega)).mpr w))⟩
    · rw [yw0]; exact x31s
  · intro i hi
    rw [fX 5 (by decide), q0 _ ⟨by omega, fun w hw => by omega, fun o j ho hj => by omega⟩]
    exact d3 i hi
  · intro n p hn hp
    rw [R 26 (by decide) (by decide) (by decide), R 27 (by decide) (by decide) (by decide), R 28 (by decide) (by decide) (by decide)]
    rcases cs n hn with hn | rfl
    · rw [q0 _ (ndO_n hs hn (by omega) (by omega)), q0 _ (ndO_n hs hn (by omega) (by omega))]
      exact d4 n p hn hp
    · obtain ⟨-, -, c3, -, -, -, -, -, c9⟩ := u6 p hp
      exact ⟨fun z => absurd c3 z, fun _ => c9⟩
  · intro n p hn hp
    rw [R 30 (by decide) (by decide) (by decide), R 31 (by decide) (by decide) (by decide)]
    rcases cs n hn with hn | rfl
    · exact (d5 n p hn hp).cong (fun w g1 g2 => q0 _ (ndO_n hs hn (by omega) (by omega)))
    · obtain ⟨-, -, -, -, c5, c6, -⟩ := u6 p hp
      refine Or.inl ⟨c5, c6, ?_⟩
      have := yp p 11 hp (by decide)
      rw [if_neg (by decide)] at this
      exact this
  · obtain ⟨q', t, g1, g2, g3, g4, g5⟩ := d6
    exact ⟨q', t, g1, g2, by rw [fX 8 (by decide)]; exact g3, by rw [fX 8 (by decide)]; exact g4, fun a w ha hw => by rw [fX 55 (by decide), q0 _ ⟨by omega, fun w hw => by omega, fun o j ho hj => by omega⟩]; exact g5 a w ha hw⟩
  · intro i hi hli; rw [fX 48 (by decide), fX 53 (by decide), fX 54 (by decide), q0 _ ⟨by omega, fun w hw => by omega, fun o j ho hj => by omega⟩, q0 _ ⟨by omega, fun w hw => by omega, fun o j ho hj => by omega⟩]; exact d7 i hi hli
  · intro a a1 a2 a3; rw [q0 _ ⟨by omega, fun w hw => by omega, fun o j ho hj => by omega⟩]; exact d8 a a1 a2 a3
end GW
