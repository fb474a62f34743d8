/-! a link holds together: the ways without it are fewer -/
theorem cnt_mono {P Q : Nat → Bool} : ∀ j, (∀ q, q < j → P q = true → Q q = true) → cntP P j ≤ cntP Q j
  | 0, _ => Nat.le_refl _
  | j + 1, h => by
    have := cnt_mono j (fun q hq => h q (by omega))
    unfold cntP
    by_cases c : P j = true
    · rw [if_pos c, if_pos (h j (by omega) c)]; omega
    · rw [if_neg c]; omega
theorem cnt_lt {P Q : Nat → Bool} {q : Nat} (hQ : Q q = true) (hP : ¬ P q = true) : ∀ j, q < j → (∀ q, q < j → P q = true → Q q = true) → cntP P j < cntP Q j
  | 0, hq, _ => absurd hq (Nat.not_lt_zero _)
  | j + 1, hq, h => by
    unfold cntP
    by_cases e : q = j
    · subst e
      have := cnt_mono (P := P) (Q := Q) q (fun q hq => h q (by omega))
      rw [if_neg hP, if_pos hQ]; omega
    · have := cnt_lt hQ hP j (by omega) (fun q hq => h q (by omega))
      by_cases c : P j = true
      · rw [if_pos c, if_pos (h j (by omega) c)]; omega
      · rw [if_neg c]; omega
section SW
variable {G H : gT} {s : Nat}
theorem sum_le (h : ∀ a q, a < s → q < s → iw H s a q = true → iw G s a q = true) : ∀ j, j ≤ s → sumW H s j ≤ sumW G s j
  | 0, _ => Nat.le_refl _
  | j + 1, hj => by
    have := sum_le h j (by omega)
    have := cnt_mono (P := iw H s j) (Q := iw G s j) s (fun q hq => h j q (by omega) hq)
    unfold sumW
    omega
theorem sum_lt (h : ∀ a q, a < s → q < s → iw H s a q = true → iw G s a q = true) {a q : Nat} (ha : a < s) (hq : q < s) (hG : iw G s a q = true) (hH : ¬ iw H s a q = true) : ∀ j, j ≤ s → a < j → sumW H s j < sumW G s j
  | 0, _, h0 => absurd h0 (Nat.not_lt_zero _)
  | j + 1, hj, haj => by
    unfold sumW
    by_cases e : a = j
    · subst e
      have := sum_le h a (by omega)
      have := cnt_lt hG hH s hq (fun q hq => h a q ha hq)
      omega
    · have := sum_lt h ha hq hG hH j (by omega) (by omega)
      have := cnt_mono (P := iw H s j) (Q := iw G s j) s (fun q hq => h j q (by omega) hq)
      omega
theorem iw_mk {a q : Nat} (h1 : a ≠ q) (h2 : gW G s a q < 1000000) : iw G s a q = true := by
  unfold iw
  simp only [decide_eq_true_eq]
  exact ⟨h1, h2⟩
theorem sum_iff (h : gOK G s) (h' : gOK H s) (e1 : gl H = gl G) (e2 : go H = go G) (e3 : gt H = gt G) (e4 : ∀ j, j < gl G → gc G j = true → gc H j = true) {i : Nat} (hi : i < gl G) (hc : ¬ gc G i = true) (e5 : ∀ j, j < gl G → j ≠ i → gc H j = true → gc G j = true) : sumW G s s ≤ sumW H s s ↔ gW H s (go G i) (gt G i) < 1000000 := by
  obtain ⟨g1, g2, g3, g4, g5⟩ := h.2.2.1 i hi
  have sub : ∀ a q, a < s → q < s → iw H s a q = true → iw G s a q = true := fun a q ha hq z =>
    iw_mk (iw_t z).1 (rc_sub h h' e1 e2 e3 e4 ha hq (iw_t z).2)
  constructor
  · intro z
    refine Classical.byContradiction fun w => ?_
    have hd := dl_lk h hi hc
    have m := gW_cl h (b := go G i) g1 (go G i) (gt G i)
    rw [gW_0] at m
    have := sum_lt sub g1 g2 (iw_mk g3 (by omega)) (fun y => w (iw_t y).2) s (Nat.le_refl _) g1
    omega
  · intro z
    exact sum_le (H := G) (G := H) (fun a q ha hq y => iw_mk (iw_t y).1 (rc_same h h' e1 e2 e3 hi e5 z ha hq (iw_t y).2)) s (Nat.le_refl _)
end SW
