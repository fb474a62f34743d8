/-! the ways, read between calls -/
section WY
variable {lo : Nat × (Nat → Int32)} {s l m : Nat} {T : Nat × Nat} {X Y : zX}
/-- the reference has laid its ways -/
def laid (G : gT) (s : Nat) (Y Y' : zX) : Prop := fr [7, 8, 9] (zw Y 0 0 (nI 0)) Y' ∧ wY G s Y'
theorem laid.st {G : gT} {Y' : zX} (h : laid G s Y Y') : stY Y Y' := (st_0 _).trans (stY.fr h.1 (by decide))
theorem laid.r1 {G : gT} {Y' : zX} (h : laid G s Y Y') : Y' 1 = Y 1 := (h.1 1 (by decide)).trans (r_0 _)
theorem laid.z {G : gT} {Y' : zX} (h : laid G s Y Y') : Y' 0 0 = nI 0 := by rw [h.1 0 (by decide), zw_at]
theorem laid.t {G : gT} {Y' : zX} (h : laid G s Y Y') (v : Int32) : stY Y (zw Y' 0 0 v) ∧ (zw Y' 0 0 v) 1 = Y 1 ∧ (zw Y' 0 0 v) 0 0 = v := ⟨h.st.w0 (i := 0) (v := v) (by decide), by rw [zw_row_ne (by decide)]; exact h.r1, zw_at _ _ _ _⟩
theorem r_lays (F : Nat) (hF : 300 ≤ F) (h : wR lo s l m T X Y) : ∃ Y', eX12_laysWays F (zw Y 0 0 (nI 0)) = some Y' ∧ laid (gOf l X) s Y Y' := by
  obtain ⟨g1, g2⟩ := gOf_X h.1.1 h.1.2.2.2.2.2.2.2.2.2.1
  have h0 := h.row (Y' := zw Y 0 0 (nI 0)) (r_0 _)
  obtain ⟨Y', e, f, w⟩ := y_lays g1 F (by omega) (h0.gY g2 rfl)
  exact ⟨Y', e, f, w⟩
theorem r_G (h : wR lo s l m T X Y) : gOK (gOf l X) s := (gOf_X h.1.1 h.1.2.2.2.2.2.2.2.2.2.1).1
theorem y_two1 (F : Nat) (hF : 300 ≤ F) (h : wR lo s l m T X Y) {n o : Nat} (hn : n < s) (ho : o < s) : ∃ Y', eX12_noTwo F (nI n) (nI o) Y = some (nI 0, Y') ∧ laid (gOf l X) s Y Y' := by
  obtain ⟨Y', e, w⟩ := r_lays F hF h
  have h' := h.row (Y' := Y') w.r1
  refine ⟨Y', ?_, w⟩
  unfold eX12_noTwo
  rw [e, qbd, y_noNode1 h' hn, qbd, if_pos (show nI 0 = 0 from rfl), y_noNode1 h' ho, qbd, if_pos (show nI 0 = 0 from rfl)]
  unfold jX12_noTwo_31
  rw [y_thr0, qbd]; rfl
theorem y_two2 (F : Nat) (hF : 300 ≤ F) (h : wR lo s l m T X Y) {x y : Int32} (hx : (x < 0 ∨ nI s ≤ x) ∨ (y < 0 ∨ nI s ≤ y)) : ∃ Y', eX12_noTwo F x y Y = some (nI 1, zw Y' 0 0 (nI 1)) ∧ laid (gOf l X) s Y Y' := by
  have hs := h.hs
  obtain ⟨Y', e, w⟩ := r_lays F hF h
  have h' := h.row (Y' := Y') w.r1
  have e26 : jX12_noTwo_26 F Y' = some (nI 1, zw Y' 0 0 (nI 1)) := by
    unfold jX12_noTwo_26 jX12_noTwo_31
    rw [y_thr1, qbd]; rfl
  refine ⟨Y', ?_, w⟩
  unfold eX12_noTwo
  rw [e, qbd]
  rcases rg_cases x (N := s) (by omega) with ⟨n, hn, rfl⟩ | hx2
  · rw [y_noNode1 h' hn, qbd, if_pos (show nI 0 = 0 from rfl), y_noNode2 h' (hx.resolve_left (rg_in hn (by omega))), qbd, if_neg (by decide), e26]
  · rw [y_noNode2 h' hx2, qbd, if_neg (by decide), e26]
/-- the class's ways beside the reference's -/
theorem w_rows {G : gT} (hG : gOK G s) (hW : wC G s X) (hY : wY G s Y) {a b : Nat} (ha : a < s) (hb : b < s) : X 39 (a * 6 + b) = lenE (gW G s a b) ∧ Y 7 (6 * a + b) = nI (gW G s a b) ∧ X 40 (a * 6 + b) = Y 8 (6 * a + b) ∧ Y 8 (6 * a + b) = (if iw G s a b then nI (gP G s a b) else -1) ∧ X 42 (a * 6 + b) = (if a = b then nI 0 else if iw G s a b then nI (gH G s a b) else -1) ∧ Y 9 (6 * a + b) = (if iw G s a b then nI (gH G s a b) else -1) := by
  obtain ⟨y7, y8, y9⟩ := hY a b ha hb
  obtain ⟨w1, ⟨w2, w2'⟩, w3, w4, -⟩ := hW.2 a ha
  by_cases c : a = b
  · subst c
    have ci : iw G s a a = false := by unfold iw; simp
    rw [if_pos rfl, y8, ci]
    exact ⟨w1 a ha, y7, w2, rfl, w2', by rw [y9, ci]⟩
  · rw [if_neg c]
    by_cases ci : iw G s a b = true
    · obtain ⟨x1, x2, x3⟩ := w3 b hb ci
      rw [y8, ci]
      exact ⟨w1 b hb, y7, x1, rfl, x3, by rw [y9, ci]⟩
    · have ci' : iw G s a b = false := by simpa using ci
      obtain ⟨x1, x2⟩ := w4 b hb (fun z => c z.symm) ci'
      rw [y8, ci']
      exact ⟨w1 b hb, y7, x1, rfl, x2, by rw [y9, ci']⟩
theorem iw_t {G : gT} {a b : Nat} (h : iw G s a b = true) : a ≠ b ∧ gW G s a b < 1000000 := by unfold iw at h; simpa using h
theorem iw_f {G : gT} {a b : Nat} (h : ¬ iw G s a b = true) (hab : a ≠ b) : ¬ gW G s a b < 1000000 := fun z => h (by unfold iw; simp [hab, z])
theorem r_holdB (F : Nat) (h : wR lo s l m T X Y) (p : Int32) : ∀ (d fu j : Nat) (acc : Int32), s - j = d → j ≤ s → d < fu → ∃ r, hX4_holdersOf_4 F fu p acc (nI j) X = some r ∧ ∀ q, q < 32 → (hb r q ↔ hb acc q ∨ (j ≤ q ∧ q < s ∧ ((X 3 1 >>> (nI q &&& 31)) &&& nI 1) = nI 1 ∧ ((X 9 q >>> (p &&& 31)) &&& nI 1) = nI 1)) := by
  have hs := h.hs
  intro d
  induction d with
  | zero =>
    intro fu j acc h1 h2 h3
    obtain ⟨fu, rfl⟩ := Nat.exists_eq_succ_of_ne_zero (show fu ≠ 0 by omega)
    unfold hX4_holdersOf_4
    rw [h.nodes, if_pos ((nI_leI (by omega) (by omega)).mpr (by omega))]
    exact ⟨_, rfl, fun q hq => ⟨fun z => Or.inl z, fun z => z.elim id (fun w => by omega)⟩⟩
  | succ d ih =>
    intro fu j acc h1 h2 h3
    obtain ⟨fu, rfl⟩ := Nat.exists_eq_succ_of_ne_zero (show fu ≠ 0 by omega)
    have hj : j < s := by omega
    unfold hX4_holdersOf_4
    rw [h.nodes, if_neg (nI_ge hj (by omega)), x_hasP X (by omega) p, qbd]
    unfold jX4_holdersOf_36 jX4_holdersOf_37
    rw [nI_add]
    have no : ¬ (((X 3 1 >>> (nI j &&& 31)) &&& nI 1) = nI 1 ∧ ((X 9 j >>> (p &&& 31)) &&& nI 1) = nI 1) → ∃ r, hX4_holdersOf_4 F fu p (acc ||| nI 0) (nI (j + 1)) X = some r ∧ ∀ q, q < 32 → (hb r q ↔ hb acc q ∨ (j ≤ q ∧ q < s ∧ ((X 3 1 >>> (nI q &&& 31)) &&& nI 1) = nI 1 ∧ ((X 9 q >>> (p &&& 31)) &&& nI 1) = nI 1)) := fun c => by
      obtain ⟨r, e, k⟩ := ih fu (j + 1) (acc ||| nI 0) (by omega) (by omega) (by omega)
      refine ⟨r, e, fun q hq => (k q hq).trans ?_⟩
      rw [hb_orw hq]
      constructor
      · rintro ((z | z) | ⟨z1, z2⟩)
        · exact Or.inl z
        · exact absurd z (hb_0 hq)
        · exact Or.inr ⟨by omega, z2⟩
      · rintro (z | ⟨z1, z2, z3⟩)
        · exact Or.inl (Or.inl z)
        · refine Or.inr ⟨?_, z2, z3⟩
          by_cases w : q = j
          · subst w; exact absurd z3 c
          · omega
    by_cases c : ((X 3 1 >>> (nI j &&& 31)) &&& nI 1) = nI 1
    · rw [if_pos c]
      by_cases c2 : ((X 9 j >>> (p &&& 31)) &&& nI 1) = nI 1
      · rw [if_neg (zB_n0.mpr c2)]
        obtain ⟨r, e, k⟩ := ih fu (j + 1) (acc ||| (nI 1 <<< (nI j &&& 31))) (by omega) (by omega) (by omega)
        refine ⟨r, e, fun q hq => (k q hq).trans ?_⟩
        rw [hb_or (by omega) hq]
        constructor
        · rintro ((z | z) | ⟨z1, z2⟩)
          · exact Or.inl z
          · subst z; exact Or.inr ⟨Nat.le_refl _, by omega, c, c2⟩
          · exact Or.inr ⟨by omega, z2⟩
        · rintro (z | ⟨z1, z2, z3⟩)
          · exact Or.inl (Or.inl z)
          · by_cases w : q = j
            · exact Or.inl (Or.inr w)
            · exact Or.inr ⟨by omega, z2, z3⟩
      · rw [if_pos (zB_0.mpr c2)]
        exact no (fun z => c2 z.2)
    · rw [if_neg c]
      exact no (fun z => c z.1)
end WY
section F8
variable {T : Nat} {μ : zM}
theorem f_above (F : Nat) (hF : 300 ≤ F) (h : INV T μ) (x0 x1 : Int32) : ∃ res, eX11_above x0 x1 μ = some (res, μ) ∧ okR T μ res [eIO] (eX12_above F x0 x1 (μ 1)) := by
  obtain ⟨s, l, nx, m, Z, hw, hW, hK⟩ := h.2.2.2.1
  have hs := hw.hs
  have hl := hw.hl
  have hm := hw.hm
  have hw0 := hw.row (Y' := zw (μ 1) 0 0 (nI 0)) (r_0 _)
  have hG := r_G hw
  unfold eX11_above eX12_above
  rw [hw.nodes, zg_id]
  rcases rg_cases x0 (N := s) (by omega) with ⟨n, hn, rfl⟩ | hx
  · rw [if_neg (rg_in hn (by omega))]
    rcases rg_cases x1 (N := s) (by omega) with ⟨o, ho, rfl⟩ | hy
    · have n6 : n < 6 := by omega
      have o6 : o < 6 := by omega
      obtain ⟨Y', e, w⟩ := y_two1 F hF hw hn ho
      rw [if_neg (rg_in ho (by omega)), e, qbd, if_pos q00]
      dsimp only
      obtain ⟨k1, k2, k3, k4, k5, k6⟩ := w_rows hG hW w.2 hn ho
      rw [x_6, x_in6 n6 o6, qchk, x_zn6 n6 o6, a_6, qzin (by omega) (by omega), qchk, qzn (by omega), k3]
      exact ⟨_, rfl, okR_val h w.st w.r1 w.z _ _⟩
    · obtain ⟨Y', e, w⟩ := y_two2 F hF hw (x := nI n) (Or.inr hy)
      rw [if_pos hy, e, qbd, if_neg q11]
      exact ⟨_, rfl, okR_thr h (w.t _).1 (w.t _).2.1 0 rfl (w.t _).2.2 _⟩
  · obtain ⟨Y', e, w⟩ := y_two2 F hF hw (y := x1) (Or.inl hx)
    rw [if_pos hx, e, qbd, if_neg q11]
    exact ⟨_, rfl, okR_thr h (w.t _).1 (w.t _).2.1 0 rfl (w.t _).2.2 _⟩
theorem f_way (F : Nat) (hF : 300 ≤ F) (h : INV T μ) (x0 x1 x2 : Int32) : ∃ res, eX11_way x0 x1 x2 μ = some (res, μ) ∧ okR T μ res [eIO] (eX12_way F x0 x1 x2 (μ 1)) := by
  obtain ⟨s, l, nx, m, Z, hw, hW, hK⟩ := h.2.2.2.1
  have hs := hw.hs
  have hl := hw.hl
  have hm := hw.hm
  have hw0 := hw.row (Y' := zw (μ 1) 0 0 (nI 0)) (r_0 _)
  have hG := r_G hw
  unfold eX11_way eX12_way
  rw [hw.nodes, zg_id]
  rcases rg_cases x0 (N := s) (by omega) with ⟨n, hn, rfl⟩ | hx
  · rw [if_neg (rg_in hn (by omega))]
    rcases rg_cases x1 (N := s) (by omega) with ⟨o, ho, rfl⟩ | hy
    · have n6 : n < 6 := by omega
      have o6 : o < 6 := by omega
      obtain ⟨Y', e, w⟩ := y_two1 F hF hw hn ho
      rw [if_neg (rg_in ho (by omega)), e, qbd, if_pos q00]
      dsimp only
      obtain ⟨k1, k2, k3, k4, k5, k6⟩ := w_rows hG hW w.2 hn ho
      rw [x_6, x_in6 n6 o6, qchk, qchk, x_zn6 n6 o6]
      by_cases c : n = o
      · subst c
        rw [if_pos rfl] at k5
        rw [if_pos rfl, k1, k5, gW_0, lenE_lt (by omega), ite_self]
        exact ⟨_, rfl, okR_val h w.st w.r1 w.z _ _⟩
      · rw [if_neg c] at k5
        rw [if_neg (fun z => c ((nI_eq (by omega) (by omega)).mp z)), y_isWay hG n6 o6 k2, qbd]
        by_cases ci : iw (gOf l (μ 4)) s n o = true
        · rw [if_pos ci] at k5 k6
          rw [if_pos ci, if_neg (show ¬ nI 1 = 0 by decide), a_6, qzin (by omega) (by omega), qchk, qchk, qzn (by omega), k1, k2, k5, k6, lenE_lt (iw_t ci).2]
          by_cases cx : x2 = 0
          · rw [if_pos cx, if_pos cx]
            exact ⟨_, rfl, okR_val h w.st w.r1 w.z _ _⟩
          · rw [if_neg cx, if_neg cx]
            exact ⟨_, rfl, okR_val h w.st w.r1 w.z _ _⟩
        · rw [if_neg ci] at k5 k6
          have k1' : lenE (gW (gOf l (μ 4)) s n o) = -1 := by unfold lenE; exact if_neg (iw_f ci c)
          rw [if_neg ci, if_pos (show nI 0 = 0 from rfl), k1, k5, k1', ite_self]
          exact ⟨_, rfl, okR_val h w.st w.r1 w.z _ _⟩
    · obtain ⟨Y', e, w⟩ := y_two2 F hF hw (x := nI n) (Or.inr hy)
      rw [if_pos hy, e, qbd, if_neg q11]
      exact ⟨_, rfl, okR_thr h (w.t _).1 (w.t _).2.1 0 rfl (w.t _).2.2 _⟩
  · obtain ⟨Y', e, w⟩ := y_two2 F hF hw (y := x1) (Or.inl hx)
    rw [if_pos hx, e, qbd, if_neg q11]
    exact ⟨_, rfl, okR_thr h (w.t _).1 (w.t _).2.1 0 rfl (w.t _).2.2 _⟩
end F8
