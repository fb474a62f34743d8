/-! gaps, givers, the log -/
section GP
variable {lo : Nat × (Nat → Int32)} {s l m : Nat} {T : Nat × Nat} {X Y : zX}
theorem wS.mk' (h : wS lo s l m T X Y) {X' Y' : zX} (hr : wR lo s l m T X' Y') (f : X' 2 1 = X 2 1) (g : Y' 0 = Y 0) : wS lo s l m T X' Y' := ⟨hr, by rw [f, g]; exact h.2⟩
theorem x_setGap (X : zX) {n p : Nat} (hn : n < 6) (hp : p < 12) (g : Int32) : eX5_setGap (nI (n * 12 + p)) g X = some (zw (zw X 30 (n * 12 + p) g) 31 (n * 12 + p) (nI 0)) := by
  unfold eX5_setGap
  rw [x_in hn hp, qchk, qchk, x_zn hn hp]
theorem y_hasGap (Y : zX) {n p : Nat} (hn : n < 6) (hp : p < 12) (g : Int32) : eX12_hasGap (nI n) (nI p) g Y = some (zw (zw Y 1 (18 + 244 * n + (28 + 18 * p + 11)) (nI 1)) 1 (18 + 244 * n + (28 + 18 * p + 12)) g) := by
  unfold eX12_hasGap
  simp only [a_p]
  rw [y_in (by omega), qchk, qlet, y_in (by omega), qchk, qlet, qzn (by omega), qzn (by omega)]
theorem y_noGap (Y : zX) {n p : Nat} (hn : n < 6) (hp : p < 12) : eX12_noGap (nI n) (nI p) Y = some (zw Y 1 (18 + 244 * n + (28 + 18 * p + 11)) (nI 0)) := by
  unfold eX12_noGap
  simp only [a_p]
  rw [y_in (by omega), qchk, qlet, qzn (by omega)]
theorem s_hasGap (h : wS lo s l m T X Y) {n p : Nat} (hn : n < s) (hp : p < 12) {g : Int32} (hg : g ≠ -1) : wS lo s l m T (zw (zw X 30 (n * 12 + p) g) 31 (n * 12 + p) (nI 0)) (zw (zw Y 1 (18 + 244 * n + (28 + 18 * p + 11)) (nI 1)) 1 (18 + 244 * n + (28 + 18 * p + 12)) g) := by
  refine h.mk' (h.1.w_gapG hn hp (fun a' ha => ?_) (Or.inr (Or.inl ⟨hg, rfl, ?_, ?_⟩))) ?_ ?_
  · rw [zw_no (Or.inr (ha 12 (by omega) (by omega))), zw_no (Or.inr (ha 11 (by omega) (by omega)))]
  · dsimp only; rw [zw_no (by omega), zw_at]
  · dsimp only; rw [zw_at]
  · rw [zw_no (Or.inl (by decide)), zw_no (Or.inl (by decide))]
  · rw [zw_row_ne (by decide), zw_row_ne (by decide)]
theorem s_noGap (h : wS lo s l m T X Y) {n p : Nat} (hn : n < s) (hp : p < 12) : wS lo s l m T (zw (zw X 30 (n * 12 + p) (-1)) 31 (n * 12 + p) (nI 0)) (zw Y 1 (18 + 244 * n + (28 + 18 * p + 11)) (nI 0)) := by
  refine h.mk' (h.1.w_gapG hn hp (fun a' ha => ?_) (Or.inl ⟨rfl, rfl, ?_⟩)) ?_ ?_
  · rw [zw_no (Or.inr (ha 11 (by omega) (by omega)))]
  · dsimp only; rw [zw_at]
  · rw [zw_no (Or.inl (by decide)), zw_no (Or.inl (by decide))]
  · rw [zw_row_ne (by decide)]
/-- a gap that has k others behind it, the last one a lost one -/
def gpc (X : zX) (c k : Nat) : Prop := (k = 0 ∧ X 30 c = nI 0 ∧ X 31 c = nI 0) ∨ (1 ≤ k ∧ k ≤ 4 ∧ X 30 c = nI 1 ∧ X 31 c = nI k)
theorem gpc_R {X : zX} {c k : Nat} (h : gpc X c k) {f : Nat → Int32} (hg : gapR (X 30 c) (X 31 c) f) : k ≤ 4 ∧ X 31 c = nI k ∧ f 11 = nI (k + 1) ∧ (∀ j, j < k → f (12 + j) = nI 1) ∧ f (12 + k) = nI 0 := by
  rcases h with ⟨rfl, h1, h2⟩ | ⟨h0, h4, h1, h2⟩
  · rw [h1, h2] at hg
    rcases hg with ⟨q, -⟩ | ⟨-, -, q1, q2⟩ | ⟨c, -, -, q, -⟩
    · exact absurd q (nI_ne_m1 (by decide))
    · exact ⟨by omega, h2, q1, fun j hj => absurd hj (by omega), q2⟩
    · exact absurd q (by decide)
  · rw [h1, h2] at hg
    rcases hg with ⟨q, -⟩ | ⟨-, q, -⟩ | ⟨c, c1, c5, -, q, q1, q2, q3⟩
    · exact absurd q (nI_ne_m1 (by decide))
    · exact absurd ((nI_eq (by omega) (by omega)).mp q) (by omega)
    · have : k = c := (nI_eq (by omega) (by omega)).mp q
      subst this
      exact ⟨h4, h2, q1, q2, q3⟩
theorem y_behind_loop (F : Nat) {n p o k : Nat} (hn : n < 6) (hp : p < 12) (ho : o < 6) (hno : n ≠ o) (hk : k ≤ 4) : ∀ (d : Nat) (fu j : Nat) (Y : zX), k + 1 - j = d → j ≤ k + 1 → d < fu → ∃ Y', hX12_hasGapBehind_20 F fu (nI n) (nI p) (nI o) (nI (k + 1)) (nI j) Y = some Y' ∧ fr [1] Y Y' ∧
    (∀ a', (∀ w, 11 ≤ w → w < 18 → a' ≠ 18 + 244 * n + (28 + 18 * p + w)) → Y' 1 a' = Y 1 a') ∧ (∀ i, i < j → Y' 1 (18 + 244 * n + (28 + 18 * p + (13 + i))) = Y 1 (18 + 244 * n + (28 + 18 * p + (13 + i)))) ∧ Y' 1 (18 + 244 * n + (28 + 18 * p + 12)) = Y 1 (18 + 244 * n + (28 + 18 * p + 12)) ∧
    (∀ i, j ≤ i → i ≤ k → Y' 1 (18 + 244 * n + (28 + 18 * p + (13 + i))) = Y 1 (18 + 244 * o + (28 + 18 * p + (12 + i)))) ∧ Y' 1 (18 + 244 * n + (28 + 18 * p + 11)) = nI (k + 2)
  | 0, fu + 1, j, Y, hd, hj, hf => by
    have hj' : j = k + 1 := by omega
    subst hj'
    refine ⟨_, ?_, fr_w (fr.refl _ _) (by decide), fun a' ha => zw_no (Or.inr (ha 11 (by omega) (by omega))), fun i hi => zw_no (Or.inr (by omega)), zw_no (Or.inr (by omega)), fun i h1 h2 => absurd h1 (by omega), zw_at _ _ _ _⟩
    unfold hX12_hasGapBehind_20
    simp only [a_p]
    rw [if_pos ((nI_leI (by omega) (by omega)).mpr (by omega)), y_in (by omega), qchk, qlet, qzn (by omega), nI_add]
  | d + 1, fu + 1, j, Y, hd, hj, hf => by
    obtain ⟨Y', e, f, g1, g2, g3, g4, g5⟩ := y_behind_loop F hn hp ho hno hk d fu (j + 1) (zw Y 1 (18 + 244 * n + (28 + 18 * p + (13 + j))) (Y 1 (18 + 244 * o + (28 + 18 * p + (12 + j))))) (by omega) (by omega) (by omega)
    refine ⟨Y', ?_, (fr_w (fr.refl [1] Y) (by decide)).trans f, fun a' ha => ?_, fun i hi => ?_, ?_, fun i h1 h2 => ?_, g5⟩
    · unfold hX12_hasGapBehind_20
      rw [if_neg (nI_ge (by omega) (by omega)), nI_add, y_pk Y ho hp (by omega), qbd, nI_add]
      simp only [a_p]
      rw [y_in (by omega), qchk, qlet, qzn (by omega), nI_add, e]
    · rw [g1 a' ha, zw_no (Or.inr (ha (13 + j) (by omega) (by omega)))]
    · rw [g2 i (by omega), zw_no (Or.inr (by omega))]
    · rw [g3, zw_no (Or.inr (by omega))]
    · by_cases q : i = j
      · subst q; rw [g2 i (by omega), zw_at]
      · rw [g4 i (by omega) h2, zw_no (Or.inr (pA_ne hp (by omega) hp (by omega) (by omega)))]
theorem s_behind (F : Nat) (hF : 100 ≤ F) (h : wS lo s l m T X Y) {n p o k : Nat} (hn : n < s) (hp : p < 12) (ho : o < s) (hno : n ≠ o) (hg : gpc X (o * 12 + p) k) : ∃ X' Y', eX5_setGapBehind (nI (n * 12 + p)) (nI (o * 12 + p)) X = some X' ∧ eX12_hasGapBehind F (nI n) (nI p) (nI o) Y = some Y' ∧ wS lo s l m T X' Y' ∧ fr [30, 31] X X' ∧ fr [1] Y Y' ∧ X' 30 (n * 12 + p) = nI 1 ∧ X' 31 (n * 12 + p) = nI (k + 1) ∧ (∀ c, c ≠ n * 12 + p → X' 30 c = X 30 c ∧ X' 31 c = X 31 c) := by
  have hs := h.1.hs
  obtain ⟨hk, e31, q1, q2, q3⟩ := gpc_R hg (h.1.2.2.2.2.2.1 o p ho hp)
  obtain ⟨Y', e, f, g1, -, g3, g4, g5⟩ := y_behind_loop F (n := n) (o := o) (p := p) (by omega) hp (by omega) hno hk (k + 1) F 0 (zw (zw Y 1 (18 + 244 * n + (28 + 18 * p + 11)) (nI 1)) 1 (18 + 244 * n + (28 + 18 * p + 12)) (nI 1)) (by omega) (by omega) (by omega)
  have hx : eX5_setGapBehind (nI (n * 12 + p)) (nI (o * 12 + p)) X = some (zw (zw X 30 (n * 12 + p) (nI 1)) 31 (n * 12 + p) (nI (k + 1))) := by
    unfold eX5_setGapBehind
    rw [x_in (by omega) hp, qchk, x_in (by omega) hp, qchk, qchk, qlet, x_zn (by omega) hp, x_zn (by omega) hp, e31, nI_add]
  have hw : ∀ j, j ≤ k → zw (zw Y 1 (18 + 244 * n + (28 + 18 * p + 11)) (nI 1)) 1 (18 + 244 * n + (28 + 18 * p + 12)) (nI 1) 1 (18 + 244 * o + (28 + 18 * p + (12 + j))) = Y 1 (18 + 244 * o + (28 + 18 * p + (12 + j))) := fun j hj => by
    rw [zw_no (Or.inr (pA_ne hp (by omega) hp (by omega) (by omega))), zw_no (Or.inr (pA_ne hp (by omega) hp (by omega) (by omega)))]
  refine ⟨_, Y', hx, ?_, h.mk' (h.1.w_gapG hn hp (fun a' ha => ?_) (Or.inr (Or.inr ⟨k + 1, by omega, by omega, rfl, rfl, g5, fun j hj => ?_, ?_⟩))) ?_ ?_, fr_w (fr_w (fr.refl _ _) (by decide)) (by decide), (fr_w (fr_w (fr.refl [1] Y) (by decide)) (by decide)).trans f, ?_, ?_, fun c hc => ⟨?_, ?_⟩⟩
  · unfold eX12_hasGapBehind
    rw [y_pk Y (by omega) hp (by omega), qbd, y_hasGap Y (by omega) hp, qbd, q1]
    exact e
  · rw [g1 a' ha, zw_no (Or.inr (ha 12 (by omega) (by omega))), zw_no (Or.inr (ha 11 (by omega) (by omega)))]
  · dsimp only
    by_cases q : j = 0
    · subst q; rw [g3, zw_at]
    · have := g4 (j - 1) (by omega) (by omega)
      rw [show 13 + (j - 1) = 12 + j by omega] at this
      rw [this, hw (j - 1) (by omega), q2 (j - 1) (by omega)]
  · dsimp only
    have := g4 k (by omega) (by omega)
    rw [show 13 + k = 12 + (k + 1) by omega] at this
    rw [this, hw k (by omega), q3]
  · rw [zw_no (Or.inl (by decide)), zw_no (Or.inl (by decide))]
  · rw [f 0 (by decide), zw_row_ne (by decide), zw_row_ne (by decide)]
  · rw [zw_no (Or.inl (by decide)), zw_at]
  · rw [zw_at]
  · rw [zw_no (Or.inl (by decide)), zw_no (Or.inr hc)]
  · rw [zw_no (Or.inr hc), zw_no (Or.inl (by decide))]
theorem s_giver (h : wS lo s l m T X Y) {n p : Nat} (hn : n < s) (hp : p < 12) {g t : Int32} (hg : g = -1 ∨ ∃ o, o < s ∧ g = nI o) : ∃ X' Y', eX5_setGiver (nI (n * 12 + p)) g t X = some X' ∧ eX12_hasItFrom (nI n) (nI p) g t Y = some Y' ∧ wS lo s l m T X' Y' ∧ fr [32, 33] X X' ∧ fr [1] Y Y' := by
  have hs := h.1.hs
  have h1 := h.w (h.1.w_from hn hp hg) (Or.inl (by decide))
  have h2 := h1.w (h1.1.w0 (v := t) (rc_p2 (w := 10) hn hp (by decide)) (by decide)) (Or.inl (by decide))
  refine ⟨_, _, ?_, ?_, h2, fr_w (fr_w (fr.refl _ _) (by decide)) (by decide), fr_w (fr_w (fr.refl _ _) (by decide)) (by decide)⟩
  · unfold eX5_setGiver
    rw [x_in (by omega) hp, qchk, qchk, x_zn (by omega) hp]
  · unfold eX12_hasItFrom
    simp only [a_p]
    rw [y_in (by omega), qchk, qlet, y_in (by omega), qchk, qlet, qzn (by omega), qzn (by omega)]
/-- the log -/
theorem wR.w_log (h : wR lo s l m T X Y) {X' Y' : zX} (f : fr [8, 55] X X') {q : Nat} (h1 : X' 8 0 = nI q) (h2 : Y' 1 15 = nI q) (hy : ∀ a, a < 2182 → a ≠ 15 → Y' 1 a = Y 1 a) (hl : eLog X' Y') (h11 : J11 s X') : wR lo s l m T X' Y' := by
  have hm := h.hm
  have hs := h.hs
  have hl' := h.hl
  obtain ⟨⟨j0, j1, j2, j3, j4, j5, j6, j7, j8, j10, j11⟩, d1, d2, d3, d4, d5, d6, d7, d8⟩ := h
  refine ⟨⟨j0.fr f (by decide), j1.fr f (by decide), j2.fr f (by decide), j3.fr f (by decide), j4.fr f (by decide), j5.fr f (by decide), j6.fr f (by decide), j7.fr f (by decide), j8.fr f (by decide), j10.fr f (by decide), h11⟩, ?_, ?_, ?_, ?_, ?_, hl, ?_, fun a' g1 g2 g3 => by rw [hy a' (by omega) (by omega)]; exact d8 a' g1 g2 g3⟩
  · intro k i a hc hq
    rw [f 2 (by decide)] at hc
    by_cases q : a = 15
    · have hk := rc_kI hs hl' hc
      subst q
      cases hk
      rw [h1, h2]
    · obtain ⟨b1, -, -, -, -, -, -, -, -, -, b11, b12, -⟩ := rc_bd hs hl' hm hc
      rw [hy a b12 q, f k (by simp; omega)]
      exact d1 k i a hc hq
  · intro n hn; rw [f 3 (by decide), hy _ (by omega) (by omega)]; exact d2 n hn
  · intro i hi; rw [f 5 (by decide), hy _ (by omega) (by omega)]; exact d3 i hi
  · intro n p hn hp
    rw [f 26 (by decide), f 27 (by decide), f 28 (by decide), hy _ (by omega) (by omega), hy _ (by omega) (by omega)]; exact d4 n p hn hp
  · intro n p hn hp
    rw [f 30 (by decide), f 31 (by decide)]
    exact (d5 n p hn hp).cong (fun w h1 h2 => hy _ (by omega) (by omega))
  · intro i hi hli
    rw [f 48 (by decide), f 53 (by decide), f 54 (by decide), hy _ (by omega) (by omega), hy _ (by omega) (by omega)]; exact d7 i hi hli
theorem nI_m1 {j : Nat} : nI (j + 1) + -1 = nI j := by
  rw [← Int32.sub_eq_add_neg]; exact nI_pred j
theorem y_told_loop (F : Nat) (a1 a2 a3 : Int32) : ∀ (j fu : Nat) (Y : zX), 3 ≤ j → j ≤ 239 → j < fu + 3 → ∃ Y', hX12_isTold_5 F fu a1 a2 a3 (nI j) Y = some Y' ∧ fr [1] Y Y' ∧ (∀ a, a < 2182 → a ≠ 15 → Y' 1 a = Y 1 a) ∧ Y' 1 15 = zmn (nI 60) ((Y 1 15) + nI 1) ∧ Y' 1 2182 = Y 1 14 ∧ Y' 1 2183 = a1 ∧ Y' 1 2184 = a2 ∧ Y' 1 2185 = a3 ∧ (∀ i, 4 ≤ i → i ≤ j → Y' 1 (2182 + i) = Y 1 (2182 + i - 4)) ∧ (∀ i, j < i → Y' 1 (2182 + i) = Y 1 (2182 + i)) := by
  intro j
  induction j with
  | zero => intro fu Y h; omega
  | succ j ih =>
    intro fu Y h3 h9 hf
    obtain ⟨fu, rfl⟩ : ∃ g, fu = g + 1 := ⟨fu - 1, by omega⟩
    by_cases q : j + 1 = 3
    · refine ⟨zw (zw (zw (zw (zw Y 1 2182 (Y 1 14)) 1 2183 a1) 1 2184 a2) 1 2185 a3) 1 15 (zmn (nI 60) (Y 1 15 + nI 1)), ?_, fr_w (fr_w (fr_w (fr_w (fr_w (fr.refl _ _) (by decide)) (by decide)) (by decide)) (by decide)) (by decide), fun a h1 h2 => ?_, zw_at _ _ _ _, ?_, ?_, ?_, ?_, fun i h1 h2 => by omega, fun i h1 => by rw [zw_no (by omega), zw_no (by omega), zw_no (by omega), zw_no (by omega), zw_no (by omega)]⟩
      · unfold hX12_isTold_5
        rw [if_pos ((nI_ltI (by omega) (by decide)).mpr (by omega)), qlet]
        rw [zw_no (i := 2185) (b := 15) (by decide), zw_no (i := 2184) (b := 15) (by decide), zw_no (i := 2183) (b := 15) (by decide), zw_no (i := 2182) (b := 15) (by decide)]
      · rw [zw_no (by omega), zw_no (by omega), zw_no (by omega), zw_no (by omega), zw_no (by omega)]
      · rw [zw_no (by decide), zw_no (by decide), zw_no (by decide), zw_no (by decide), zw_at]
      · rw [zw_no (by decide), zw_no (by decide), zw_no (by decide), zw_at]
      · rw [zw_no (by decide), zw_no (by decide), zw_at]
      · rw [zw_no (by decide), zw_at]
    · obtain ⟨Y', e, f, g1, g2, g3, g4, g5, g6, g7, g8⟩ := ih fu (zw Y 1 (2182 + (j + 1)) (Y 1 (2182 + (j + 1) - 4))) (by omega) (by omega) (by omega)
      refine ⟨Y', ?_, (fr_w (fr.refl [1] Y) (by decide)).trans f, fun a h1 h2 => by rw [g1 a h1 h2, zw_no (by omega)], by rw [g2, zw_no (by omega)], by rw [g3, zw_no (by omega)], g4, g5, g6, fun i h1 h2 => ?_, fun i h1 => by rw [g8 i (by omega), zw_no (by omega)]⟩
      · unfold hX12_isTold_5
        rw [if_neg (nI_nlt (by omega) (by omega)), nI_add, nI_sub (by omega), y_in (by omega), qchk, y_in (by omega), qchk, qlet, qzn (by omega), qzn (by omega), nI_m1, e]
      · by_cases q2 : i = j + 1
        · subst q2
          rw [g8 _ (by omega), zw_at]
        · rw [g7 i h1 (by omega), zw_no (by omega)]
theorem s_log (F : Nat) (hF : 300 ≤ F) (h : wS lo s l m T X Y) {n p q : Nat} : ∃ X' Y', eX3_put (X 0 12) (nI n) (nI q) (nI p) X = some X' ∧ eX12_isTold F (nI n) (nI q) (nI p) Y = some Y' ∧ wS lo s l m T X' Y' ∧ fr [8, 55] X X' ∧ fr [1] Y Y' ∧ (∀ a, a < 2182 → a ≠ 15 → Y' 1 a = Y 1 a) := by
  obtain ⟨k, t, hk, ht, e1, e2, e3⟩ := h.1.2.2.2.2.2.2.1
  obtain ⟨Y', ey, f, g1, g2, g3, g4, g5, g6, g7, g8⟩ := y_told_loop F (nI n) (nI q) (nI p) 239 F Y (by omega) (by omega) (by omega)
  have er : zrem ((X 8 1) + (nI 1)) (nI 60) = nI ((t + 1) % 60) := by rw [e2, nI_add, nI_rem (by omega) (by omega)]
  have hu : (t + 1) % 60 < 60 := Nat.mod_lt _ (by omega)
  refine ⟨zw (zw (zw (zw (zw (zw X 8 1 (nI ((t + 1) % 60))) 55 ((t + 1) % 60 * 4) (X 0 12)) 55 ((t + 1) % 60 * 4 + 1) (nI n)) 55 ((t + 1) % 60 * 4 + 2) (nI q)) 55 ((t + 1) % 60 * 4 + 3) (nI p)) 8 0 (nI (min (k + 1) 60)), Y', ?_, ?_, ?_, ?_, f, g1⟩
  · unfold eX3_put
    simp only [er, zw_at, nI_mul, nI_add, qlet]
    rw [qzin (by omega) (by omega), qchk, qzin (by omega) (by omega), qchk, qzin (by omega) (by omega), qchk, qzin (by omega) (by omega), qchk, qzn (by omega), qzn (by omega), qzn (by omega), qzn (by omega), zw_no (i := 1) (b := 0) (by decide), e1, nI_add, zmn_nI (by omega) (by omega)]
  · unfold eX12_isTold
    exact ey
  · have f' : fr [8, 55] X (zw (zw (zw (zw (zw (zw X 8 1 (nI ((t + 1) % 60))) 55 ((t + 1) % 60 * 4) (X 0 12)) 55 ((t + 1) % 60 * 4 + 1) (nI n)) 55 ((t + 1) % 60 * 4 + 2) (nI q)) 55 ((t + 1) % 60 * 4 + 3) (nI p)) 8 0 (nI (min (k + 1) 60))) := fr_w (fr_w (fr_w (fr_w (fr_w (fr_w (fr.refl _ _) (by decide)) (by decide)) (by decide)) (by decide)) (by decide)) (by decide)
    have hs := h.1.hs
    have u8 : ∀ i, usd s 8 i := fun i => Or.inl (by omega)
    have u55 : ∀ i, usd s 55 i := fun i => Or.inl (by omega)
    refine h.mk' (h.1.w_log f' (zw_at _ _ _ _) ?_ g1 ⟨min (k + 1) 60, (t + 1) % 60, by omega, hu, zw_at _ _ _ _, ?_, fun a w ha hw => ?_⟩ ((((((h.1.1.2.2.2.2.2.2.2.2.2.2.w hs (u8 _)).w hs (u55 _)).w hs (u55 _)).w hs (u55 _)).w hs (u55 _)).w hs (u8 _))) (by rw [f' 2 (by decide)]) (f 0 (by decide))
    · rw [g2, h.1.logn, e1, nI_add, zmn_nI (by omega) (by omega), Nat.min_comm]
    · rw [zw_no (by decide), zw_no (by omega), zw_no (by omega), zw_no (by omega), zw_no (by omega), zw_at]
    · by_cases q0 : a = 0
      · subst q0
        rw [show ((t + 1) % 60 + 60 - 0) % 60 = (t + 1) % 60 by omega, zw_no (Or.inl (by decide))]
        have : w = 0 ∨ w = 1 ∨ w = 2 ∨ w = 3 := by omega
        rcases this with rfl | rfl | rfl | rfl
        · rw [zw_no (by omega), zw_no (by omega), zw_no (by omega), Nat.add_zero ((t + 1) % 60 * 4), zw_at]
          exact g3.trans h.1.tick
        · rw [zw_no (by omega), zw_no (by omega), zw_at, g4]
        · rw [zw_no (by omega), zw_at, g5]
        · rw [zw_at, g6]
      · have := g7 (4 * a + w) (by omega) (by omega)
        rw [show 2182 + 4 * a + w = 2182 + (4 * a + w) by omega, this, show 2182 + (4 * a + w) - 4 = 2182 + 4 * (a - 1) + w by omega, e3 (a - 1) w (by omega) hw]
        have ea : ((t + 1) % 60 + 60 - a) % 60 = (t + 60 - (a - 1)) % 60 := by omega
        have hne : (t + 60 - (a - 1)) % 60 ≠ (t + 1) % 60 := by omega
        rw [ea, zw_no (Or.inl (by decide)), zw_no (by omega), zw_no (by omega), zw_no (by omega), zw_no (by omega), zw_no (Or.inl (by decide))]
  · exact fr_w (fr_w (fr_w (fr_w (fr_w (fr_w (fr.refl _ _) (by decide)) (by decide)) (by decide)) (by decide)) (by decide)) (by decide)
end GP
