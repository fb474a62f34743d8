/-! how many ways there are, for the parts a link holds together -/
def sumW (G : gT) (s : Nat) : Nat → Nat
  | 0 => 0
  | j + 1 => sumW G s j + cntP (iw G s j) s
section MW
variable {G : gT} {s : Nat}
theorem many_in (hG : gOK G s) (F : Nat) (K : Int32 → Int32 → zX → Option (Int32 × zX)) {Y : zX} (hn : Y 1 0 = nI s) (hY : wY G s Y) {a : Nat} (ha : a < s) (acc : Nat) : ∀ (d fu j : Nat), s - j = d → j ≤ s → d < fu → hX12_waysMany_18 F K fu (nI (acc + cntP (iw G s a) j)) (nI a) (nI j) Y = K (nI (acc + cntP (iw G s a) s)) (nI (a + 1)) Y := by
  have hs := hG.1
  intro d
  induction d with
  | zero =>
    intro fu j h1 h2 h3
    obtain ⟨fu, rfl⟩ := Nat.exists_eq_succ_of_ne_zero (show fu ≠ 0 by omega)
    have : j = s := by omega
    subst this
    unfold hX12_waysMany_18
    rw [hn, if_pos ((nI_leI (by omega) (by omega)).mpr (Nat.le_refl _)), nI_add]
  | succ d ih =>
    intro fu j h1 h2 h3
    obtain ⟨fu, rfl⟩ := Nat.exists_eq_succ_of_ne_zero (show fu ≠ 0 by omega)
    have hj : j < s := by omega
    have e := ih fu (j + 1) (by omega) (by omega) (by omega)
    unfold hX12_waysMany_18
    rw [hn, if_neg (nI_ge hj (by omega)), y_isWay hG (by omega) (by omega) (hY a j ha hj).1, qbd]
    unfold jX12_waysMany_41
    by_cases c : iw G s a j = true
    · rw [if_pos c, if_neg (show ¬ nI 1 = 0 by decide)]
      simp only [nI_add]
      rw [cntP, if_pos c] at e
      exact e
    · rw [if_neg c, if_pos (show nI 0 = 0 from rfl)]
      simp only [nI_add]
      rw [cntP, if_neg c] at e
      exact e
theorem many_out (hG : gOK G s) (F : Nat) (hF : 300 ≤ F) {Y : zX} (hn : Y 1 0 = nI s) (hY : wY G s Y) : ∀ (d fu j : Nat), s - j = d → j ≤ s → d < fu → hX12_waysMany_8 F fu (nI (sumW G s j)) (nI j) Y = some (nI (sumW G s s), Y) := by
  have hs := hG.1
  intro d
  induction d with
  | zero =>
    intro fu j h1 h2 h3
    obtain ⟨fu, rfl⟩ := Nat.exists_eq_succ_of_ne_zero (show fu ≠ 0 by omega)
    have : j = s := by omega
    subst this
    unfold hX12_waysMany_8
    rw [hn, if_pos ((nI_leI (by omega) (by omega)).mpr (Nat.le_refl _))]
  | succ d ih =>
    intro fu j h1 h2 h3
    obtain ⟨fu, rfl⟩ := Nat.exists_eq_succ_of_ne_zero (show fu ≠ 0 by omega)
    have hj : j < s := by omega
    have e := ih fu (j + 1) (by omega) (by omega) (by omega)
    have e2 := many_in hG F (hX12_waysMany_8 F fu) hn hY hj (sumW G s j) s F 0 rfl (Nat.zero_le _) (by omega)
    unfold hX12_waysMany_8
    rw [hn, if_neg (nI_ge hj (by omega))]
    have e2' : hX12_waysMany_18 F (hX12_waysMany_8 F fu) F (nI (sumW G s j)) (nI j) (nI 0) Y = _ := e2
    rw [e2']
    exact e
theorem y_many (hG : gOK G s) (F : Nat) (hF : 300 ≤ F) {Y : zX} (gy : gY G s Y) : ∃ Y', eX12_waysMany F Y = some (nI (sumW G s s), Y') ∧ fr [7, 8, 9] Y Y' ∧ wY G s Y' := by
  have hs := hG.1
  obtain ⟨Y', e, f, w⟩ := y_lays hG F (by omega) gy
  refine ⟨Y', ?_, f, w⟩
  unfold eX12_waysMany
  rw [e, qbd]
  exact many_out hG F hF (by rw [f 1 (by decide)]; exact gy.1) w s F 0 rfl (Nat.zero_le _) (by omega)
end MW
