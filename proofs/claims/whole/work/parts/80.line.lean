/-! a line, the text -/
section LI
variable {tp : Nat → Int32} {e b a : Nat} {X Y : zX} {T : Nat × Nat} {μ : zM}
theorem bk_let (hT : byT tp e) (c : sL tp a = false) (ha : a < e) : bk tp e a = a := bk_no ha (by
  unfold sL at c; unfold sB
  have : (¬ tp a < nI 97) ∧ ¬ nI 122 < tp a := by simpa using c
  obtain ⟨q, q1, q2, q3⟩ := by_in (hT a ha) (by decide) (by decide) this
  rw [decide_eq_false (show ¬ tp a = nI 32 by rw [q3]; exact fun z => by have := (nI_eq (by omega) (by omega)).mp z; omega)]
  rfl)
theorem lw_none {a : Nat} (h : a = e ∨ (a < e ∧ sL tp a = true)) : lw tp e a = a := by
  unfold lw
  rcases h with rfl | ⟨h1, h2⟩
  · rw [Nat.sub_self]; rfl
  · obtain ⟨d, hd⟩ : ∃ d, e - a = d + 1 := ⟨e - a - 1, by omega⟩
    rw [hd, ff, if_pos h2]
/-- the class's new node -/
theorem x_add {lo : Nat × (Nat → Int32)} {s l m : Nat} {W : zX} (h : wR lo s l m T W Y) (hs : s < 6) (up : Int32) (hup : up = nI 0 ∨ up = nI 1) : ∃ W', eX4_add up (W 1 4) (W 1 5) W = some W' ∧ fr [3, 11, 12] W W' ∧ W' 3 0 = nI (s + 1) ∧ (∀ q, q < 6 → q ≠ s → (hb (W' 3 1) q ↔ hb (W 3 1) q)) ∧ (hb (W' 3 1) s ↔ up = nI 1) ∧ (∀ n, n ≠ s → W' 11 n = W 11 n) ∧ (∀ n, n ≠ s → W' 12 n = W 12 n) ∧ W' 11 s = W 1 4 ∧ W' 12 s = W 1 5 := by
  have key : ∀ v, jX4_add_29 (W 1 4) (W 1 5) v (W 3 1) W = some (zw (zw (zw (zw W 3 1 ((W 3 1) ||| v)) 11 s (W 1 4)) 12 s (W 1 5)) 3 0 (nI (s + 1))) := fun v => by
    unfold jX4_add_29
    have e3 : (zw W 3 1 ((W 3 1) ||| v)) 3 0 = nI s := by rw [zw_no (by decide)]; exact h.nodes
    rw [e3, qzin (show s < 6 by omega) (by omega), qchk, qlet, qchk, qlet, qzn (by omega), nI_add]
  have fr9 : ∀ v, fr [3, 11, 12] W (zw (zw (zw (zw W 3 1 ((W 3 1) ||| v)) 11 s (W 1 4)) 12 s (W 1 5)) 3 0 (nI (s + 1))) := fun v => fr_w (fr_w (fr_w (fr_w (fr.refl _ _) (by decide)) (by decide)) (by decide)) (by decide)
  have c31 : ∀ v, (zw (zw (zw (zw W 3 1 ((W 3 1) ||| v)) 11 s (W 1 4)) 12 s (W 1 5)) 3 0 (nI (s + 1))) 3 1 = (W 3 1) ||| v := fun v => by
    rw [zw_no (Or.inr (by decide)), zw_no (Or.inl (by decide)), zw_no (Or.inl (by decide)), zw_at]
  have hno : ¬ hb (W 3 1) s := h.1.2.2.2.2.2.2.2.2.2.1.2.2 s (Nat.le_refl _) hs
  unfold eX4_add
  rw [h.nodes, if_pos ((nI_ltI (by omega) (by omega)).mpr hs)]
  rcases hup with rfl | rfl
  · rw [if_pos (show nI 0 = 0 from rfl), key]
    refine ⟨_, rfl, fr9 _, zw_at _ _ _ _, fun q hq _ => by rw [c31, or_0], by rw [c31, or_0]; exact ⟨fun z => absurd z hno, fun w => absurd w (by decide)⟩, fun n hn => ?_, fun n hn => ?_, ?_, ?_⟩
    · rw [zw_no (Or.inl (by decide)), zw_no (Or.inl (by decide)), zw_no (Or.inr hn), zw_no (Or.inl (by decide))]
    · rw [zw_no (Or.inl (by decide)), zw_no (Or.inr hn), zw_no (Or.inl (by decide)), zw_no (Or.inl (by decide))]
    · rw [zw_no (Or.inl (by decide)), zw_no (Or.inl (by decide)), zw_at]
    · rw [zw_no (Or.inl (by decide)), zw_at]
  · rw [if_neg (show ¬ nI 1 = 0 by decide), key]
    refine ⟨_, rfl, fr9 _, zw_at _ _ _ _, fun q hq hne => by rw [c31, hb_or (by omega) (by omega)]; exact ⟨fun z => z.resolve_right hne, Or.inl⟩, by rw [c31, hb_or (by omega) (by omega)]; exact ⟨fun _ => rfl, fun _ => Or.inr rfl⟩, fun n hn => ?_, fun n hn => ?_, ?_, ?_⟩
    · rw [zw_no (Or.inl (by decide)), zw_no (Or.inl (by decide)), zw_no (Or.inr hn), zw_no (Or.inl (by decide))]
    · rw [zw_no (Or.inl (by decide)), zw_no (Or.inr hn), zw_no (Or.inl (by decide)), zw_no (Or.inl (by decide))]
    · rw [zw_no (Or.inl (by decide)), zw_no (Or.inl (by decide)), zw_at]
    · rw [zw_no (Or.inl (by decide)), zw_at]
end LI
