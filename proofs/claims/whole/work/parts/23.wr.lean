/-! reads and writes of the relation -/
theorem rc_bd {d : Prop} {s l m k i a : Nat} (hs : s ≤ 6) (hl : l ≤ 10) (hm : m ≤ 64) (h : rc d s l m k i a) : (k = 8 → a = 15) ∧ (34 ≤ k → k ≤ 37 → 1482 ≤ a) ∧ (k = 38 → a = 1482 + 6 * i + 5) ∧ ¬ k = 27 ∧ ¬ k = 28 ∧ ¬ k = 53 ∧ ¬ k = 54 ∧ (39 ≤ k → ¬ k ≤ 44) ∧ ¬ k = 30 ∧ ¬ k = 31 ∧ ¬ 55 ≤ k ∧ a < 2182 ∧ (k = 2 → i = 0) ∧ (k < 45 → a < 1542) ∧ (45 ≤ k → 1542 + 10 * i ≤ a) := by
  unfold rc at h
  rcases h with ⟨h0, h⟩ | ⟨h0, h⟩ | ⟨h0, h⟩ | ⟨h1, h2, hn, ha⟩ | ⟨h1, h2, n, o, hn, ho, hne, hi, ha⟩ | ⟨h1, n, o, hn, ho, hi, ha⟩ | ⟨h1, n, o, hn, ho, hi, ha⟩ | ⟨h1, hi, ha⟩ | ⟨-, h1, hi, ha⟩ | ⟨h1, hi, ha⟩ <;> refine ⟨?_, ?_, ?_, ?_, ?_, ?_, ?_, ?_, ?_, ?_, ?_, ?_, ?_, ?_, ?_⟩ <;> omega
theorem rc_usd {d : Prop} {s l m k i a : Nat} (h : rc d s l m k i a) : usd s k i := by
  unfold rc at h
  unfold usd
  rcases h with ⟨h0, h⟩ | ⟨h0, h⟩ | ⟨h0, h⟩ | ⟨h1, h2, hn, ha⟩ | ⟨h1, h2, n, o, hn, ho, hne, hi, ha⟩ | ⟨h1, n, o, hn, ho, hi, ha⟩ | ⟨h1, n, o, hn, ho, hi, ha⟩ | ⟨h1, hi, ha⟩ | ⟨-, h1, hi, ha⟩ | ⟨h1, hi, ha⟩
  · exact Or.inl (by omega)
  · exact Or.inl (by omega)
  · exact Or.inl (by omega)
  · exact Or.inr (Or.inl ⟨h1, h2, hn⟩)
  · exact Or.inr (Or.inr (Or.inr (Or.inl ⟨h1, h2, n, o, hn, ho, hi⟩)))
  · exact Or.inr (Or.inr (Or.inr (Or.inr ⟨by omega, by omega, n, o, hn, ho, hi⟩)))
  · exact Or.inr (Or.inr (Or.inr (Or.inr ⟨by omega, by omega, n, o, hn, ho, hi⟩)))
  · exact Or.inl (by omega)
  · exact Or.inl (by omega)
  · exact Or.inl (by omega)
/-- an address that stands for no cell -/
def spA (a : Nat) : Prop := (∃ n, n < 6 ∧ a = 18 + 244 * n + 0) ∨ (∃ n p w, n < 6 ∧ p < 12 ∧ (w = 6 ∨ w = 7 ∨ (11 ≤ w ∧ w < 18)) ∧ a = 18 + 244 * n + (28 + 18 * p + w)) ∨ (∃ i, i < 10 ∧ a = 1482 + 6 * i + 4) ∨ (∃ i w, i < 64 ∧ (w = 8 ∨ w = 9) ∧ a = 1542 + 10 * i + w) ∨ 2182 ≤ a
theorem rc_sp {d : Prop} {s l m k i a a' : Nat} (hs : s ≤ 6) (hl : l ≤ 10) (hm : m ≤ 64) (h : rc d s l m k i a) (h' : spA a') : a' ≠ a := by
  rintro rfl
  have hk := rc_kI hs hl h
  obtain ⟨b1, b2, b3, b4, b5, b6, b7, b8, b9, b10, b11, b12, -⟩ := rc_bd hs hl hm h
  rcases h' with ⟨n, hn, rfl⟩ | ⟨n, p, w, hn, hp, hw, rfl⟩ | ⟨j, hj, rfl⟩ | ⟨j, w, hj, hw, rfl⟩ | h'
  · rw [kI_n hn (by omega)] at hk
    simp [kN] at hk
    omega
  · rw [kI_n hn (by omega)] at hk
    unfold kN at hk
    rw [if_neg (by omega), if_neg (by omega), show (28 + 18 * p + w - 28) % 18 = w by omega] at hk
    have := congrArg Prod.fst hk
    simp only at this
    split at this <;> omega
  · rw [kI_l hj (by omega)] at hk
    simp at hk
    omega
  · rw [kI_m (by omega)] at hk
    have := congrArg Prod.fst hk
    simp only at this
    omega
  · omega
theorem gapR.cong {g b : Int32} {f f' : Nat → Int32} (h : gapR g b f) (hf : ∀ w, 11 ≤ w → w < 18 → f' w = f w) : gapR g b f' := by
  rcases h with ⟨h1, h2, h3⟩ | ⟨h1, h2, h3, h4⟩ | ⟨c, h1, h2, h3, h4, h5, h6, h7⟩
  · exact Or.inl ⟨h1, h2, by rw [hf _ (by omega) (by omega)]; exact h3⟩
  · exact Or.inr (Or.inl ⟨h1, h2, by rw [hf _ (by omega) (by omega)]; exact h3, by rw [hf _ (by omega) (by omega)]; exact h4⟩)
  · exact Or.inr (Or.inr ⟨c, h1, h2, h3, h4, by rw [hf _ (by omega) (by omega)]; exact h5, fun k hk => by rw [hf _ (by omega) (by omega)]; exact h6 k hk, by rw [hf _ (by omega) (by omega)]; exact h7⟩)
section WR
variable {lo : Nat × (Nat → Int32)} {s l m : Nat} {T : Nat × Nat} {X Y : zX} {k i a : Nat} {v : Int32}
theorem eDir.w (hs : s ≤ 6) (hl : l ≤ 10) (h : eDir lo s l m X Y) (hc : rc (X 2 1 = 0) s l m k i a) (hk : k = 2 → i = 0) : eDir lo s l m (zw X k i v) (zw Y 1 a v) := by
  intro k' i' a' hc' hq
  have e : zw X k i v 2 1 = X 2 1 := zw_no (by omega)
  rw [e] at hc'
  rw [zw_in, zw_in]
  by_cases q : k' = k ∧ i' = i
  · obtain ⟨rfl, rfl⟩ := q
    rw [if_pos ⟨rfl, rc_fun hs hc' hc⟩, if_pos ⟨rfl, rfl⟩]
  · rw [if_neg q, if_neg]
    · exact h k' i' a' hc' hq
    · rintro ⟨-, rfl⟩
      exact q (rc_inj hs hl hc' hc)
theorem eSp (hs : s ≤ 6) (hl : l ≤ 10) (hm : m ≤ 64) (hc : rc (X 2 1 = 0) s l m k i a) {a' : Nat} (h' : spA a') : zw Y 1 a v 1 a' = Y 1 a' := zw_no (Or.inr (rc_sp hs hl hm hc h'))
theorem wD.w (hs : s ≤ 6) (hl : l ≤ 10) (hm : m ≤ 64) (h : wD lo s l m X Y) (hc : rc (X 2 1 = 0) s l m k i a) (hk : k < 45 ∧ k ≠ 3 ∧ k ≠ 5 ∧ k ≠ 7 ∧ k ≠ 8 ∧ k ≠ 48 ∧ (k = 26 → False)) : wD lo s l m (zw X k i v) (zw Y 1 a v) := by
  obtain ⟨h1, h2, h3, h4, h5, h6, h7, h8⟩ := h
  obtain ⟨b1, b2, b3, b4, b5, b6, b7, b8, b9, b10, b11, b12, b13, b14, b15⟩ := rc_bd hs hl hm hc
  refine ⟨h1.w hs hl hc b13, fun n hn => ?_, fun j hj => ?_, fun n p hn hp => ?_, fun n p hn hp => ?_, ?_, fun j hj hlj h8 => ?_, fun a' g1 g2 g3 => by rw [zw_no (Or.inr (by have := b14 hk.1; omega))]; exact h8 a' g1 g2 g3⟩
  · rw [eSp hs hl hm hc (Or.inl ⟨n, by omega, rfl⟩), zw_no (by omega)]; exact h2 n hn
  · rw [eSp hs hl hm hc (Or.inr (Or.inr (Or.inl ⟨j, by omega, rfl⟩))), zw_no (by omega)]; exact h3 j hj
  · rw [eSp hs hl hm hc (Or.inr (Or.inl ⟨n, p, 6, by omega, hp, by omega, rfl⟩)), eSp hs hl hm hc (Or.inr (Or.inl ⟨n, p, 7, by omega, hp, by omega, rfl⟩)), zw_no (a := 26) (Or.inl (fun z => hk.2.2.2.2.2.2 z.symm)), zw_no (a := 27) (by omega), zw_no (a := 28) (by omega)]
    exact h4 n p hn hp
  · rw [zw_no (by omega), zw_no (by omega)]
    refine (h5 n p hn hp).cong (fun w g1 g2 => ?_)
    rw [eSp hs hl hm hc (Or.inr (Or.inl ⟨n, p, w, by omega, hp, by omega, rfl⟩))]
  · obtain ⟨q, t, g1, g2, g3, g4, g5⟩ := h6
    refine ⟨q, t, g1, g2, by rw [zw_no (by omega)]; exact g3, by rw [zw_no (by omega)]; exact g4, fun a w ha hw => ?_⟩
    rw [eSp hs hl hm hc (Or.inr (Or.inr (Or.inr (Or.inr (by omega))))), zw_no (by omega)]; exact g5 a w ha hw
  · rw [zw_no (by omega)] at h8
    rw [eSp hs hl hm hc (Or.inr (Or.inr (Or.inr (Or.inl ⟨j, 8, by omega, by omega, rfl⟩)))), eSp hs hl hm hc (Or.inr (Or.inr (Or.inr (Or.inl ⟨j, 9, by omega, by omega, rfl⟩)))), zw_no (by omega), zw_no (by omega)]
    exact h7 j hj hlj h8
theorem wR.hs (h : wR lo s l m T X Y) : s ≤ 6 := h.1.1.1
theorem wR.hl (h : wR lo s l m T X Y) : l ≤ 10 := h.1.1.2.1
theorem wR.hm (h : wR lo s l m T X Y) : m ≤ 64 := h.1.2.2.2.2.2.2.2.2.1.1
theorem wR.nodes (h : wR lo s l m T X Y) : X 3 0 = nI s := h.1.1.2.2.1
theorem wR.links (h : wR lo s l m T X Y) : X 5 0 = nI l := h.1.1.2.2.2
theorem wR.airs (h : wR lo s l m T X Y) : X 7 0 = nI m := h.1.2.2.2.2.2.2.2.2.1.2.1
theorem wR.rd (h : wR lo s l m T X Y) (hc : rc (X 2 1 = 0) s l m k i a) (hq : 45 ≤ k → lo.1 ≤ i) : Y 1 a = X k i := h.2.1 k i a hc hq
theorem fr1 : fr [k] X (zw X k i v) := fun a ha => zw_row_ne (by rintro rfl; simp at ha)
theorem rc_38 {d : Prop} {s l m i a : Nat} (h : rc d s l m 38 i a) : i < l := by
  unfold rc at h
  rcases h with ⟨h0, h⟩ | ⟨h0, h⟩ | ⟨h0, h⟩ | ⟨h1, h2, hn, ha⟩ | ⟨h1, h2, n, o, hn, ho, hne, hi, ha⟩ | ⟨h1, n, o, hn, ho, hi, ha⟩ | ⟨h1, n, o, hn, ho, hi, ha⟩ | ⟨h1, hi, ha⟩ | ⟨-, h1, hi, ha⟩ | ⟨h1, hi, ha⟩ <;> omega
/-- a cell of which the class's own clauses don't speak -/
theorem wR.w0 (h : wR lo s l m T X Y) (hc : rc (X 2 1 = 0) s l m k i a) (hk : [2, 13, 14, 15, 16, 17, 22, 23, 24, 25, 29, 33, 37, 38].contains k = true) : wR lo s l m T (zw X k i v) (zw Y 1 a v) := by
  obtain ⟨⟨j0, j1, j2, j3, j4, j5, j6, j7, j8, j10, j11⟩, d⟩ := h
  have f : fr [k] X (zw X k i v) := fr1
  refine ⟨⟨j0.fr f ?_, j1.fr f ?_, j2.fr f ?_, j3.fr f ?_, j4.fr f ?_, j5.fr f ?_, j6.fr f ?_, j7.fr f ?_, j8.fr f ?_, j10.w ?_ (fun z => by subst z; exact rc_38 hc), j11.w j0.1 (rc_usd hc)⟩, d.w j0.1 j0.2.1 j8.1 hc ?_⟩
  all_goals
    simp only [List.contains_cons, List.contains_nil, Bool.or_false, Bool.or_eq_true, beq_iff_eq] at hk
    clear hc f
    rcases hk with rfl | rfl | rfl | rfl | rfl | rfl | rfl | rfl | rfl | rfl | rfl | rfl | rfl | rfl <;> first | decide | exact ⟨by decide, by decide, by decide, by decide, by decide, by decide, fun z => absurd z (by decide)⟩

theorem wR.texts (h : wR lo s l m T X Y) : Y 1 2 = X 0 8 := h.rd (Or.inl ⟨rfl, by decide⟩) (fun z => absurd z (by decide))
theorem wR.next (h : wR lo s l m T X Y) : Y 1 4 = X 0 9 := h.rd (Or.inl ⟨rfl, by decide⟩) (fun z => absurd z (by decide))
theorem wR.crowd (h : wR lo s l m T X Y) : Y 1 13 = X 0 10 := h.rd (Or.inl ⟨rfl, by decide⟩) (fun z => absurd z (by decide))
theorem wR.alone (h : wR lo s l m T X Y) : Y 1 16 = X 0 11 := h.rd (Or.inl ⟨rfl, by decide⟩) (fun z => absurd z (by decide))
theorem wR.tick (h : wR lo s l m T X Y) : Y 1 14 = X 0 12 := h.rd (Or.inl ⟨rfl, by decide⟩) (fun z => absurd z (by decide))
theorem wR.source (h : wR lo s l m T X Y) : Y 1 3 = X 1 0 := h.rd (Or.inr (Or.inl ⟨rfl, by decide⟩)) (fun z => absurd z (by decide))
theorem wR.scope (h : wR lo s l m T X Y) : Y 1 5 = X 1 1 := h.rd (Or.inr (Or.inl ⟨rfl, by decide⟩)) (fun z => absurd z (by decide))
theorem wR.period (h : wR lo s l m T X Y) : Y 1 6 = X 1 2 := h.rd (Or.inr (Or.inl ⟨rfl, by decide⟩)) (fun z => absurd z (by decide))
theorem wR.rate (h : wR lo s l m T X Y) : Y 1 7 = X 1 3 := h.rd (Or.inr (Or.inl ⟨rfl, by decide⟩)) (fun z => absurd z (by decide))
theorem wR.tc1 (h : wR lo s l m T X Y) : Y 1 8 = X 1 4 := h.rd (Or.inr (Or.inl ⟨rfl, by decide⟩)) (fun z => absurd z (by decide))
theorem wR.tc2 (h : wR lo s l m T X Y) : Y 1 9 = X 1 5 := h.rd (Or.inr (Or.inl ⟨rfl, by decide⟩)) (fun z => absurd z (by decide))
theorem wR.td1 (h : wR lo s l m T X Y) : Y 1 10 = X 1 6 := h.rd (Or.inr (Or.inl ⟨rfl, by decide⟩)) (fun z => absurd z (by decide))
theorem wR.td2 (h : wR lo s l m T X Y) : Y 1 11 = X 1 7 := h.rd (Or.inr (Or.inl ⟨rfl, by decide⟩)) (fun z => absurd z (by decide))
theorem wR.seed (h : wR lo s l m T X Y) : Y 1 17 = X 2 0 := h.rd (Or.inr (Or.inr (Or.inl ⟨rfl, by decide⟩))) (fun z => absurd z (by decide))
theorem wR.nn (h : wR lo s l m T X Y) : Y 1 0 = X 3 0 := h.rd (Or.inr (Or.inr (Or.inl ⟨rfl, by decide⟩))) (fun z => absurd z (by decide))
theorem wR.ln (h : wR lo s l m T X Y) : Y 1 1 = X 5 0 := h.rd (Or.inr (Or.inr (Or.inl ⟨rfl, by decide⟩))) (fun z => absurd z (by decide))
theorem wR.mn (h : wR lo s l m T X Y) : Y 1 12 = X 7 0 := h.rd (Or.inr (Or.inr (Or.inl ⟨rfl, by decide⟩))) (fun z => absurd z (by decide))
theorem wR.logn (h : wR lo s l m T X Y) : Y 1 15 = X 8 0 := h.rd (Or.inr (Or.inr (Or.inl ⟨rfl, by decide⟩))) (fun z => absurd z (by decide))
theorem rc_n {d : Prop} {n w : Nat} (hn : n < s) (h1 : 1 ≤ w) (h2 : w ≤ 9) : rc d s l m (w + 8) n (18 + 244 * n + w) := Or.inr (Or.inr (Or.inr (Or.inl ⟨by omega, by omega, hn, by omega⟩)))
theorem rc_o {d : Prop} {n o w : Nat} (hn : n < s) (ho : o < s) (hne : n ≠ o) (h2 : w ≤ 2) : rc d s l m (18 + w) (n * 6 + o) (18 + 244 * n + (10 + 3 * o + w)) := Or.inr (Or.inr (Or.inr (Or.inr (Or.inl ⟨by omega, by omega, n, o, hn, ho, hne, rfl, by omega⟩))))
theorem rc_p {d : Prop} {n p w : Nat} (hn : n < s) (hp : p < 12) (h2 : w ≤ 5 ∨ w = 8) : rc d s l m (21 + w) (n * 12 + p) (18 + 244 * n + (28 + 18 * p + w)) := Or.inr (Or.inr (Or.inr (Or.inr (Or.inr (Or.inl ⟨by omega, n, p, hn, hp, rfl, by omega⟩)))))
theorem rc_p2 {d : Prop} {n p w : Nat} (hn : n < s) (hp : p < 12) (h2 : w = 9 ∨ w = 10) : rc d s l m (23 + w) (n * 12 + p) (18 + 244 * n + (28 + 18 * p + w)) := Or.inr (Or.inr (Or.inr (Or.inr (Or.inr (Or.inr (Or.inl ⟨by omega, n, p, hn, hp, rfl, by omega⟩))))))
theorem rc_l {d : Prop} {w : Nat} (hi : i < l) (h2 : w ≤ 3) : rc d s l m (34 + w) i (1482 + 6 * i + w) := Or.inr (Or.inr (Or.inr (Or.inr (Or.inr (Or.inr (Or.inr (Or.inl ⟨by omega, hi, by omega⟩)))))))
theorem rc_ld {d : Prop} (hd : d) (hi : i < l) : rc d s l m 38 i (1482 + 6 * i + 5) := Or.inr (Or.inr (Or.inr (Or.inr (Or.inr (Or.inr (Or.inr (Or.inr (Or.inl ⟨hd, rfl, hi, rfl⟩))))))))
theorem rc_m {d : Prop} {w : Nat} (hi : i < m) (h2 : w ≤ 7) : rc d s l m (45 + w) i (1542 + 10 * i + w) := Or.inr (Or.inr (Or.inr (Or.inr (Or.inr (Or.inr (Or.inr (Or.inr (Or.inr ⟨by omega, hi, by omega⟩))))))))
theorem wR.has (h : wR lo s l m T X Y) {n : Nat} (hn : n < s) : Y 1 (18 + 244 * n + 1) = X 9 n := h.rd (rc_n (w := 1) hn (by decide) (by decide)) (fun z => absurd z (by decide))
theorem wR.heard (h : wR lo s l m T X Y) {n : Nat} (hn : n < s) : Y 1 (18 + 244 * n + 2) = X 10 n := h.rd (rc_n (w := 2) hn (by decide) (by decide)) (fun z => absurd z (by decide))
theorem wR.c1 (h : wR lo s l m T X Y) {n : Nat} (hn : n < s) : Y 1 (18 + 244 * n + 3) = X 11 n := h.rd (rc_n (w := 3) hn (by decide) (by decide)) (fun z => absurd z (by decide))
theorem wR.c2 (h : wR lo s l m T X Y) {n : Nat} (hn : n < s) : Y 1 (18 + 244 * n + 4) = X 12 n := h.rd (rc_n (w := 4) hn (by decide) (by decide)) (fun z => absurd z (by decide))
theorem wR.ave (h : wR lo s l m T X Y) {n : Nat} (hn : n < s) : Y 1 (18 + 244 * n + 5) = X 13 n := h.rd (rc_n (w := 5) hn (by decide) (by decide)) (fun z => absurd z (by decide))
theorem wR.nreq (h : wR lo s l m T X Y) {n : Nat} (hn : n < s) : Y 1 (18 + 244 * n + 6) = X 14 n := h.rd (rc_n (w := 6) hn (by decide) (by decide)) (fun z => absurd z (by decide))
theorem wR.nrep (h : wR lo s l m T X Y) {n : Nat} (hn : n < s) : Y 1 (18 + 244 * n + 7) = X 15 n := h.rd (rc_n (w := 7) hn (by decide) (by decide)) (fun z => absurd z (by decide))
theorem wR.dup (h : wR lo s l m T X Y) {n : Nat} (hn : n < s) : Y 1 (18 + 244 * n + 8) = X 16 n := h.rd (rc_n (w := 8) hn (by decide) (by decide)) (fun z => absurd z (by decide))
theorem wR.sup (h : wR lo s l m T X Y) {n : Nat} (hn : n < s) : Y 1 (18 + 244 * n + 9) = X 17 n := h.rd (rc_n (w := 9) hn (by decide) (by decide)) (fun z => absurd z (by decide))
theorem wR.est (h : wR lo s l m T X Y) {n o : Nat} (hn : n < s) (ho : o < s) (hne : n ≠ o) : Y 1 (18 + 244 * n + (10 + 3 * o + 0)) = X 18 (n * 6 + o) := h.rd (rc_o (w := 0) hn ho hne (by decide)) (fun z => absurd z (by decide))
theorem wR.sent (h : wR lo s l m T X Y) {n o : Nat} (hn : n < s) (ho : o < s) (hne : n ≠ o) : Y 1 (18 + 244 * n + (10 + 3 * o + 1)) = X 19 (n * 6 + o) := h.rd (rc_o (w := 1) hn ho hne (by decide)) (fun z => absurd z (by decide))
theorem wR.came (h : wR lo s l m T X Y) {n o : Nat} (hn : n < s) (ho : o < s) (hne : n ≠ o) : Y 1 (18 + 244 * n + (10 + 3 * o + 2)) = X 20 (n * 6 + o) := h.rd (rc_o (w := 2) hn ho hne (by decide)) (fun z => absurd z (by decide))
theorem wR.ask (h : wR lo s l m T X Y) {n p : Nat} (hn : n < s) (hp : p < 12) : Y 1 (18 + 244 * n + (28 + 18 * p + 0)) = X 21 (n * 12 + p) := h.rd (rc_p (w := 0) hn hp (by decide)) (fun z => absurd z (by decide))
theorem wR.backed (h : wR lo s l m T X Y) {n p : Nat} (hn : n < s) (hp : p < 12) : Y 1 (18 + 244 * n + (28 + 18 * p + 1)) = X 22 (n * 12 + p) := h.rd (rc_p (w := 1) hn hp (by decide)) (fun z => absurd z (by decide))
theorem wR.asked (h : wR lo s l m T X Y) {n p : Nat} (hn : n < s) (hp : p < 12) : Y 1 (18 + 244 * n + (28 + 18 * p + 2)) = X 23 (n * 12 + p) := h.rd (rc_p (w := 2) hn hp (by decide)) (fun z => absurd z (by decide))
theorem wR.reqs (h : wR lo s l m T X Y) {n p : Nat} (hn : n < s) (hp : p < 12) : Y 1 (18 + 244 * n + (28 + 18 * p + 3)) = X 24 (n * 12 + p) := h.rd (rc_p (w := 3) hn hp (by decide)) (fun z => absurd z (by decide))
theorem wR.ignore (h : wR lo s l m T X Y) {n p : Nat} (hn : n < s) (hp : p < 12) : Y 1 (18 + 244 * n + (28 + 18 * p + 4)) = X 25 (n * 12 + p) := h.rd (rc_p (w := 4) hn hp (by decide)) (fun z => absurd z (by decide))
theorem wR.answer (h : wR lo s l m T X Y) {n p : Nat} (hn : n < s) (hp : p < 12) : Y 1 (18 + 244 * n + (28 + 18 * p + 5)) = X 26 (n * 12 + p) := h.rd (rc_p (w := 5) hn hp (by decide)) (fun z => absurd z (by decide))
theorem wR.hold (h : wR lo s l m T X Y) {n p : Nat} (hn : n < s) (hp : p < 12) : Y 1 (18 + 244 * n + (28 + 18 * p + 8)) = X 29 (n * 12 + p) := h.rd (rc_p (w := 8) hn hp (by decide)) (fun z => absurd z (by decide))
theorem wR.giver (h : wR lo s l m T X Y) {n p : Nat} (hn : n < s) (hp : p < 12) : Y 1 (18 + 244 * n + (28 + 18 * p + 9)) = X 32 (n * 12 + p) := h.rd (rc_p2 (w := 9) hn hp (by decide)) (fun z => absurd z (by decide))
theorem wR.since (h : wR lo s l m T X Y) {n p : Nat} (hn : n < s) (hp : p < 12) : Y 1 (18 + 244 * n + (28 + 18 * p + 10)) = X 33 (n * 12 + p) := h.rd (rc_p2 (w := 10) hn hp (by decide)) (fun z => absurd z (by decide))
theorem wR.lone (h : wR lo s l m T X Y) (hi : i < l) : Y 1 (1482 + 6 * i + 0) = X 34 i := h.rd (rc_l (w := 0) hi (by decide)) (fun z => absurd z (by decide))
theorem wR.ltwo (h : wR lo s l m T X Y) (hi : i < l) : Y 1 (1482 + 6 * i + 1) = X 35 i := h.rd (rc_l (w := 1) hi (by decide)) (fun z => absurd z (by decide))
theorem wR.ldelay (h : wR lo s l m T X Y) (hi : i < l) : Y 1 (1482 + 6 * i + 2) = X 36 i := h.rd (rc_l (w := 2) hi (by decide)) (fun z => absurd z (by decide))
theorem wR.lloss (h : wR lo s l m T X Y) (hi : i < l) : Y 1 (1482 + 6 * i + 3) = X 37 i := h.rd (rc_l (w := 3) hi (by decide)) (fun z => absurd z (by decide))
theorem wR.lload (h : wR lo s l m T X Y) (h0 : X 2 1 = 0) (hi : i < l) : Y 1 (1482 + 6 * i + 5) = X 38 i := h.rd (rc_ld h0 hi) (fun z => absurd z (by decide))
theorem wR.due (h : wR lo s l m T X Y) (hi : i < m) (hlo : lo.1 ≤ i) : Y 1 (1542 + 10 * i + 0) = X 45 i := h.rd (rc_m (w := 0) hi (by decide)) (fun _ => hlo)
theorem wR.to (h : wR lo s l m T X Y) (hi : i < m) (hlo : lo.1 ≤ i) : Y 1 (1542 + 10 * i + 1) = X 46 i := h.rd (rc_m (w := 1) hi (by decide)) (fun _ => hlo)
theorem wR.afrom (h : wR lo s l m T X Y) (hi : i < m) (hlo : lo.1 ≤ i) : Y 1 (1542 + 10 * i + 2) = X 47 i := h.rd (rc_m (w := 2) hi (by decide)) (fun _ => hlo)
theorem wR.kind (h : wR lo s l m T X Y) (hi : i < m) (hlo : lo.1 ≤ i) : Y 1 (1542 + 10 * i + 3) = X 48 i := h.rd (rc_m (w := 3) hi (by decide)) (fun _ => hlo)
theorem wR.apk (h : wR lo s l m T X Y) (hi : i < m) (hlo : lo.1 ≤ i) : Y 1 (1542 + 10 * i + 4) = X 49 i := h.rd (rc_m (w := 4) hi (by decide)) (fun _ => hlo)
theorem wR.ahd (h : wR lo s l m T X Y) (hi : i < m) (hlo : lo.1 ≤ i) : Y 1 (1542 + 10 * i + 5) = X 50 i := h.rd (rc_m (w := 5) hi (by decide)) (fun _ => hlo)
theorem wR.asc (h : wR lo s l m T X Y) (hi : i < m) (hlo : lo.1 ≤ i) : Y 1 (1542 + 10 * i + 6) = X 51 i := h.rd (rc_m (w := 6) hi (by decide)) (fun _ => hlo)
theorem wR.atm (h : wR lo s l m T X Y) (hi : i < m) (hlo : lo.1 ≤ i) : Y 1 (1542 + 10 * i + 7) = X 52 i := h.rd (rc_m (w := 7) hi (by decide)) (fun _ => hlo)
theorem wR.w_row0 (h : wR lo s l m T X Y) {i a : Nat} (hi : (i = 8 ∧ a = 2) ∨ (i = 10 ∧ a = 13) ∨ (i = 11 ∧ a = 16)) : wR lo s l m T (zw X 0 (i) v) (zw Y 1 (a) v) := by
  have hc : rc (X 2 1 = 0) s l m 0 (i) (a) := Or.inl ⟨rfl, by omega⟩
  obtain ⟨⟨j0, j1, j2, j3, j4, j5, j6, j7, j8, j10, j11⟩, d⟩ := h
  have f : fr [0] X (zw X 0 (i) v) := fr1
  refine ⟨⟨j0.fr f (by decide), ?_, j2.fr f (by decide), j3.fr f (by decide), j4.fr f (by decide), j5.fr f (by decide), j6.fr f (by decide), j7.fr f (by decide), j8.fr f (by decide), j10.fr f (by decide), j11.w j0.1 (rc_usd hc)⟩, d.w j0.1 j0.2.1 j8.1 hc ⟨by decide, by decide, by decide, by decide, by decide, by decide, fun z => absurd z (by decide)⟩⟩
  · exact ⟨by rw [zw_no (by omega)]; exact j1.1, j1.2.1, by rw [zw_no (by omega)]; exact j1.2.2⟩
theorem wR.w_has (h : wR lo s l m T X Y) {n : Nat} (hn : n < s) (hv : leN v 4095) : wR lo s l m T (zw X 9 (n) v) (zw Y 1 (18 + 244 * n + 1) v) := by
  have hc : rc (X 2 1 = 0) s l m 9 (n) (18 + 244 * n + 1) := rc_n (w := 1) hn (by decide) (by decide)
  obtain ⟨⟨j0, j1, j2, j3, j4, j5, j6, j7, j8, j10, j11⟩, d⟩ := h
  have f : fr [9] X (zw X 9 (n) v) := fr1
  refine ⟨⟨j0.fr f (by decide), j1.fr f (by decide), j2.fr f (by decide), ?_, j4.fr f (by decide), j5.fr f (by decide), j6.fr f (by decide), j7.fr f (by decide), j8.fr f (by decide), j10.fr f (by decide), j11.w j0.1 (rc_usd hc)⟩, d.w j0.1 j0.2.1 j8.1 hc ⟨by decide, by decide, by decide, by decide, by decide, by decide, fun z => absurd z (by decide)⟩⟩
  · intro n' hn'
    by_cases q : n' = n
    · subst q
      rw [zw_at, zw_no (by omega)]
      exact ⟨hv, (j3 n' hn').2⟩
    · rw [zw_no (by omega), zw_no (by omega)]; exact j3 n' hn'
theorem wR.w_heard (h : wR lo s l m T X Y) {n : Nat} (hn : n < s) (hv : hdO T.2 v) (hv2 : (X 10 n).toInt ≤ v.toInt) : wR lo s l m T (zw X 10 (n) v) (zw Y 1 (18 + 244 * n + 2) v) := by
  have hc : rc (X 2 1 = 0) s l m 10 (n) (18 + 244 * n + 2) := rc_n (w := 2) hn (by decide) (by decide)
  obtain ⟨⟨j0, j1, j2, j3, j4, j5, j6, j7, j8, j10, j11⟩, d⟩ := h
  have f : fr [10] X (zw X 10 (n) v) := fr1
  refine ⟨⟨j0.fr f (by decide), j1.fr f (by decide), j2.fr f (by decide), ?_, j4.fr f (by decide), j5.fr f (by decide), ?_, j7.fr f (by decide), j8.fr f (by decide), j10.fr f (by decide), j11.w j0.1 (rc_usd hc)⟩, d.w j0.1 j0.2.1 j8.1 hc ⟨by decide, by decide, by decide, by decide, by decide, by decide, fun z => absurd z (by decide)⟩⟩
  · intro n' hn'
    by_cases q : n' = n
    · subst q
      rw [zw_at, zw_no (by omega)]
      exact ⟨(j3 n' hn').1, hv⟩
    · rw [zw_no (by omega), zw_no (by omega)]; exact j3 n' hn'
  · intro n' p hn' hp
    obtain ⟨g1, g2⟩ := j6 n' p hn' hp
    rw [zw_no (a := 21) (by omega), zw_no (a := 26) (by omega), zw_no (a := 27) (by omega)]
    by_cases q : n' = n
    · subst q
      rw [zw_at]
      exact ⟨fun z => Int.le_trans (g1 z) hv2, fun z => ⟨Int.le_trans (g2 z).1 hv2, (g2 z).2⟩⟩
    · rw [zw_no (by omega)]; exact ⟨g1, g2⟩
theorem wR.w_c1 (h : wR lo s l m T X Y) {n : Nat} (hn : n < s) (hv : leN v 32) : wR lo s l m T (zw X 11 (n) v) (zw Y 1 (18 + 244 * n + 3) v) := by
  have hc : rc (X 2 1 = 0) s l m 11 (n) (18 + 244 * n + 3) := rc_n (w := 3) hn (by decide) (by decide)
  obtain ⟨⟨j0, j1, j2, j3, j4, j5, j6, j7, j8, j10, j11⟩, d⟩ := h
  have f : fr [11] X (zw X 11 (n) v) := fr1
  refine ⟨⟨j0.fr f (by decide), j1.fr f (by decide), j2.fr f (by decide), j3.fr f (by decide), ?_, j5.fr f (by decide), j6.fr f (by decide), j7.fr f (by decide), j8.fr f (by decide), j10.fr f (by decide), j11.w j0.1 (rc_usd hc)⟩, d.w j0.1 j0.2.1 j8.1 hc ⟨by decide, by decide, by decide, by decide, by decide, by decide, fun z => absurd z (by decide)⟩⟩
  · intro n' hn'
    by_cases q : n' = n
    · subst q
      rw [zw_at, zw_no (by omega)]
      exact ⟨hv, (j4 n' hn').2⟩
    · rw [zw_no (by omega), zw_no (by omega)]; exact j4 n' hn'
theorem wR.w_c2 (h : wR lo s l m T X Y) {n : Nat} (hn : n < s) (hv : leN v 32) : wR lo s l m T (zw X 12 (n) v) (zw Y 1 (18 + 244 * n + 4) v) := by
  have hc : rc (X 2 1 = 0) s l m 12 (n) (18 + 244 * n + 4) := rc_n (w := 4) hn (by decide) (by decide)
  obtain ⟨⟨j0, j1, j2, j3, j4, j5, j6, j7, j8, j10, j11⟩, d⟩ := h
  have f : fr [12] X (zw X 12 (n) v) := fr1
  refine ⟨⟨j0.fr f (by decide), j1.fr f (by decide), j2.fr f (by decide), j3.fr f (by decide), ?_, j5.fr f (by decide), j6.fr f (by decide), j7.fr f (by decide), j8.fr f (by decide), j10.fr f (by decide), j11.w j0.1 (rc_usd hc)⟩, d.w j0.1 j0.2.1 j8.1 hc ⟨by decide, by decide, by decide, by decide, by decide, by decide, fun z => absurd z (by decide)⟩⟩
  · intro n' hn'
    by_cases q : n' = n
    · subst q
      rw [zw_at, zw_no (by omega)]
      exact ⟨(j4 n' hn').1, hv⟩
    · rw [zw_no (by omega), zw_no (by omega)]; exact j4 n' hn'
theorem wR.w_est (h : wR lo s l m T X Y) {n o : Nat} (hn : n < s) (ho : o < s) (hne : n ≠ o) (hv : leN v (T.1 + 4)) (hv2 : 1 ≤ v.toInt) : wR lo s l m T (zw X 18 (n * 6 + o) v) (zw Y 1 (18 + 244 * n + (10 + 3 * o + 0)) v) := by
  have hc : rc (X 2 1 = 0) s l m 18 (n * 6 + o) (18 + 244 * n + (10 + 3 * o + 0)) := rc_o (w := 0) hn ho hne (by decide)
  obtain ⟨⟨j0, j1, j2, j3, j4, j5, j6, j7, j8, j10, j11⟩, d⟩ := h
  have f : fr [18] X (zw X 18 (n * 6 + o) v) := fr1
  refine ⟨⟨j0.fr f (by decide), j1.fr f (by decide), j2.fr f (by decide), j3.fr f (by decide), j4.fr f (by decide), ?_, j6.fr f (by decide), j7.fr f (by decide), j8.fr f (by decide), j10.fr f (by decide), j11.w j0.1 (rc_usd hc)⟩, d.w j0.1 j0.2.1 j8.1 hc ⟨by decide, by decide, by decide, by decide, by decide, by decide, fun z => absurd z (by decide)⟩⟩
  · intro n' o' hn' ho' hne'
    obtain ⟨g1, g2, g3⟩ := j5 n' o' hn' ho' hne'
    rw [zw_no (a := 19) (by omega), zw_no (a := 20) (by omega), zw_in]
    split
    · exact ⟨hv, hv2, g3⟩
    · exact ⟨g1, g2, g3⟩
theorem wR.w_ask (h : wR lo s l m T X Y) {n p : Nat} (hn : n < s) (hp : p < 12) (hv : v ≠ -1 → (p : Int) ≤ (X 10 n).toInt) : wR lo s l m T (zw X 21 (n * 12 + p) v) (zw Y 1 (18 + 244 * n + (28 + 18 * p + 0)) v) := by
  have hc : rc (X 2 1 = 0) s l m 21 (n * 12 + p) (18 + 244 * n + (28 + 18 * p + 0)) := rc_p (w := 0) hn hp (by decide)
  obtain ⟨⟨j0, j1, j2, j3, j4, j5, j6, j7, j8, j10, j11⟩, d⟩ := h
  have f : fr [21] X (zw X 21 (n * 12 + p) v) := fr1
  refine ⟨⟨j0.fr f (by decide), j1.fr f (by decide), j2.fr f (by decide), j3.fr f (by decide), j4.fr f (by decide), j5.fr f (by decide), ?_, j7.fr f (by decide), j8.fr f (by decide), j10.fr f (by decide), j11.w j0.1 (rc_usd hc)⟩, d.w j0.1 j0.2.1 j8.1 hc ⟨by decide, by decide, by decide, by decide, by decide, by decide, fun z => absurd z (by decide)⟩⟩
  · intro n' p' hn' hp'
    obtain ⟨g1, g2⟩ := j6 n' p' hn' hp'
    rw [zw_no (a := 10) (by omega), zw_no (a := 26) (by omega), zw_no (a := 27) (by omega), zw_in]
    refine ⟨?_, g2⟩
    split
    · next q =>
      have e1 : n' = n := by have := hp; omega
      have e2 : p' = p := by omega
      subst e1; subst e2; exact hv
    · exact g1
theorem wR.w_from (h : wR lo s l m T X Y) {n p : Nat} (hn : n < s) (hp : p < 12) (hv : v = -1 ∨ ∃ o, o < s ∧ v = nI o) : wR lo s l m T (zw X 32 (n * 12 + p) v) (zw Y 1 (18 + 244 * n + (28 + 18 * p + 9)) v) := by
  have hc : rc (X 2 1 = 0) s l m 32 (n * 12 + p) (18 + 244 * n + (28 + 18 * p + 9)) := rc_p2 (w := 9) hn hp (by decide)
  obtain ⟨⟨j0, j1, j2, j3, j4, j5, j6, j7, j8, j10, j11⟩, d⟩ := h
  have f : fr [32] X (zw X 32 (n * 12 + p) v) := fr1
  refine ⟨⟨j0.fr f (by decide), j1.fr f (by decide), j2.fr f (by decide), j3.fr f (by decide), j4.fr f (by decide), j5.fr f (by decide), j6.fr f (by decide), ?_, j8.fr f (by decide), j10.fr f (by decide), j11.w j0.1 (rc_usd hc)⟩, d.w j0.1 j0.2.1 j8.1 hc ⟨by decide, by decide, by decide, by decide, by decide, by decide, fun z => absurd z (by decide)⟩⟩
  · intro n' p' hn' hp'
    rw [zw_in]
    split
    · exact hv
    · exact j7 n' p' hn' hp'
end WR
