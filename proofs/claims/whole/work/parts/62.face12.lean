/-! a trial: the world goes on beside, and is brought back -/
theorem rc_imp {d d' : Prop} {s l m k i a : Nat} (h : rc d s l m k i a) (hd : d → d') : rc d' s l m k i a := by
  unfold rc at h ⊢
  exact h.imp id (Or.imp id (Or.imp id (Or.imp id (Or.imp id (Or.imp id (Or.imp id (Or.imp id (Or.imp (And.imp hd id) id))))))))
section TR
variable {lo : Nat × (Nat → Int32)} {s l m : Nat} {T : Nat × Nat} {X Y : zX}
theorem wR.mode (h : wR lo s l m T X Y) {v : Int32} (hv : ¬ v = 0) : wR lo s l m T (zw X 2 1 v) Y := by
  have hs := h.hs
  have hl := h.hl
  have hm := h.hm
  obtain ⟨⟨j0, j1, j2, j3, j4, j5, j6, j7, j8, j10, j11⟩, d1, d2, d3, d4, d5, d6, d7, d8⟩ := h
  have f : fr [2] X (zw X 2 1 v) := fr1
  refine ⟨⟨j0.fr f (by decide), j1.fr f (by decide), j2.fr f (by decide), j3.fr f (by decide), j4.fr f (by decide), j5.fr f (by decide), j6.fr f (by decide), j7.fr f (by decide), j8.fr f (by decide), j10.fr f (by decide), j11.cg (fun k h1 h2 => zw_row_ne (by omega))⟩, ?_, ?_, ?_, ?_, ?_, ?_, ?_, d8⟩
  · intro k i a hc hq
    rw [zw_at] at hc
    have hc' : rc (X 2 1 = 0) s l m k i a := rc_imp hc (fun z => absurd z hv)
    obtain ⟨b1, b2, b3, b4, b5, b6, b7, b8, b9, b10, b11, b12, b13⟩ := rc_bd hs hl hm hc'
    rw [zw_no (by omega)]
    exact d1 k i a hc' hq
  · intro n hn; rw [f 3 (by decide)]; exact d2 n hn
  · intro i hi; rw [f 5 (by decide)]; exact d3 i hi
  · intro n p hn hp; rw [f 26 (by decide), f 27 (by decide), f 28 (by decide)]; exact d4 n p hn hp
  · intro n p hn hp; rw [f 30 (by decide), f 31 (by decide)]; exact d5 n p hn hp
  · obtain ⟨q, t, g1, g2, g3, g4, g5⟩ := d6
    exact ⟨q, t, g1, g2, by rw [f 8 (by decide)]; exact g3, by rw [f 8 (by decide)]; exact g4, fun a w ha hw => by rw [f 55 (by decide)]; exact g5 a w ha hw⟩
  · intro i hi hli; rw [f 48 (by decide), f 53 (by decide), f 54 (by decide)]; exact d7 i hi hli
theorem y_keeps (F : Nat) : ∀ (d fu j : Nat) (Y : zX), 2422 - j = d → j ≤ 2422 → d < fu → ∃ Y', hX12_keepsAll_2 F fu (nI j) Y = some Y' ∧ fr [4] Y Y' ∧ (∀ a, j ≤ a → a < 2422 → Y' 4 a = Y 1 a) ∧ (∀ a, a < j → Y' 4 a = Y 4 a) := by
  intro d
  induction d with
  | zero =>
    intro fu j Y h1 h2 h3
    obtain ⟨fu, rfl⟩ := Nat.exists_eq_succ_of_ne_zero (show fu ≠ 0 by omega)
    have : j = 2422 := by omega
    subst this
    unfold hX12_keepsAll_2
    rw [if_pos (by decide)]
    exact ⟨_, rfl, fr.refl _ _, fun a h1 h2 => by omega, fun a _ => rfl⟩
  | succ d ih =>
    intro fu j Y h1 h2 h3
    obtain ⟨fu, rfl⟩ := Nat.exists_eq_succ_of_ne_zero (show fu ≠ 0 by omega)
    obtain ⟨Y', e, k1, k4, k5⟩ := ih fu (j + 1) (zw Y 4 j (Y 1 j)) (by omega) (by omega) (by omega)
    refine ⟨Y', ?_, (fr1 (k := 4)).trans k1, fun a g1 g2 => ?_, fun a g1 => by rw [k5 a (by omega), zw_no (Or.inr (by omega))]⟩
    · unfold hX12_keepsAll_2
      rw [if_neg (nI_ge (show j < 2422 by omega) (by omega)), y_in (by omega), qchk, qchk, qzn (by omega), nI_add, e]
    · by_cases c : a = j
      · subst c
        rw [k5 a (by omega), zw_at]
      · rw [k4 a (by omega) g2, zw_no (Or.inl (by decide))]
theorem y_brings (F : Nat) : ∀ (d fu j : Nat) (Y : zX), 2422 - j = d → j ≤ 2422 → d < fu → ∃ Y', hX12_bringsBack_2 F fu (nI j) Y = some Y' ∧ fr [1] Y Y' ∧ (∀ a, j ≤ a → a < 2422 → Y' 1 a = Y 4 a) ∧ (∀ a, a < j → Y' 1 a = Y 1 a) := by
  intro d
  induction d with
  | zero =>
    intro fu j Y h1 h2 h3
    obtain ⟨fu, rfl⟩ := Nat.exists_eq_succ_of_ne_zero (show fu ≠ 0 by omega)
    have : j = 2422 := by omega
    subst this
    unfold hX12_bringsBack_2
    rw [if_pos (by decide)]
    exact ⟨_, rfl, fr.refl _ _, fun a h1 h2 => by omega, fun a _ => rfl⟩
  | succ d ih =>
    intro fu j Y h1 h2 h3
    obtain ⟨fu, rfl⟩ := Nat.exists_eq_succ_of_ne_zero (show fu ≠ 0 by omega)
    obtain ⟨Y', e, k1, k4, k5⟩ := ih fu (j + 1) (zw Y 1 j (Y 4 j)) (by omega) (by omega) (by omega)
    refine ⟨Y', ?_, (fr1 (k := 1)).trans k1, fun a g1 g2 => ?_, fun a g1 => by rw [k5 a (by omega), zw_no (Or.inr (by omega))]⟩
    · unfold hX12_bringsBack_2
      rw [if_neg (nI_ge (show j < 2422 by omega) (by omega)), y_in (by omega), qchk, qchk, qzn (by omega), nI_add, e]
    · by_cases c : a = j
      · subst c
        rw [k5 a (by omega), zw_at]
      · rw [k4 a (by omega) g2, zw_no (Or.inl (by decide))]
theorem y_wh0 (F : Nat) (h : wR lo s l m T X Y) (b : Int32) : ∀ (d fu j : Nat), s - j = d → j ≤ s → d < fu → hX12_isWhole_15 F fu (nI 0) b (nI j) Y = some (nI 0) := by
  have hs := h.hs
  intro d
  induction d with
  | zero =>
    intro fu j h1 h2 h3
    obtain ⟨fu, rfl⟩ := Nat.exists_eq_succ_of_ne_zero (show fu ≠ 0 by omega)
    unfold hX12_isWhole_15
    rw [h.nn, h.nodes, if_pos ((nI_leI (by omega) (by omega)).mpr (by omega))]; rfl
  | succ d ih =>
    intro fu j h1 h2 h3
    obtain ⟨fu, rfl⟩ := Nat.exists_eq_succ_of_ne_zero (show fu ≠ 0 by omega)
    unfold hX12_isWhole_15
    rw [h.nn, h.nodes, if_neg (nI_ge (show j < s by omega) (by omega)), if_pos (show nI 0 = 0 from rfl)]
    unfold jX12_isWhole_51
    rw [nI_add]
    exact ih fu (j + 1) (by omega) (by omega) (by omega)
theorem r_wh (F : Nat) (h : wR lo s l m T X Y) (b : Int32) : ∀ (d fu fu' j : Nat), s - j = d → j ≤ s → d < fu → d < fu' → ∃ r, (r = nI 0 ∨ r = nI 1) ∧ hX10_isWhole_10 F fu b (nI j) X = some r ∧ hX12_isWhole_15 F fu' (nI 1) b (nI j) Y = some r := by
  have hs := h.hs
  intro d
  induction d with
  | zero =>
    intro fu fu' j h1 h2 h3 h4
    obtain ⟨fu, rfl⟩ := Nat.exists_eq_succ_of_ne_zero (show fu ≠ 0 by omega)
    obtain ⟨fu', rfl⟩ := Nat.exists_eq_succ_of_ne_zero (show fu' ≠ 0 by omega)
    unfold hX12_isWhole_15 hX10_isWhole_10
    rw [h.nn, h.nodes, if_pos ((nI_leI (by omega) (by omega)).mpr (by omega)), if_pos ((nI_leI (by omega) (by omega)).mpr (by omega))]
    exact ⟨nI 1, Or.inr rfl, rfl, rfl⟩
  | succ d ih =>
    intro fu fu' j h1 h2 h3 h4
    obtain ⟨fu, rfl⟩ := Nat.exists_eq_succ_of_ne_zero (show fu ≠ 0 by omega)
    obtain ⟨fu', rfl⟩ := Nat.exists_eq_succ_of_ne_zero (show fu' ≠ 0 by omega)
    have hj : j < s := by omega
    obtain ⟨r, e0, e1, e2⟩ := ih fu fu' (j + 1) (by omega) (by omega) (by omega) (by omega)
    unfold hX12_isWhole_15 hX10_isWhole_10
    rw [h.nn, h.nodes, if_neg (nI_ge hj (by omega)), if_neg (nI_ge hj (by omega)), if_neg (show ¬ nI 1 = 0 by decide), r_isUp h hj, qbd, qzin (show j < 6 by omega) (by omega), qchk, qzn (by omega), y_of _ (by omega) (by decide), qbd, h.has hj]
    unfold jX12_isWhole_47 jX12_isWhole_51
    rw [nI_add]
    by_cases c : ((X 3 1 >>> (nI j &&& 31)) &&& nI 1) = nI 1
    · rw [if_pos c, if_neg (zB_n0.mpr c)]
      by_cases c2 : X 9 j &&& b = b
      · rw [if_pos c2, if_pos c2]
        exact ⟨r, e0, e1, e2⟩
      · rw [if_neg c2, if_neg c2]
        exact ⟨nI 0, Or.inl rfl, rfl, y_wh0 F h b d fu' (j + 1) (by omega) (by omega) (by omega)⟩
    · rw [if_neg c, if_pos (zB_0.mpr c)]
      exact ⟨r, e0, e1, e2⟩
theorem r_isWhole (F : Nat) (hF : 300 ≤ F) (h : wR lo s l m T X Y) : ∃ r, (r = nI 0 ∨ r = nI 1) ∧ eX10_isWhole F X = some r ∧ eX12_isWhole F Y = some r := by
  have hs := h.hs
  unfold eX10_isWhole eX12_isWhole
  rw [h.next]
  exact r_wh F h _ s F F 0 rfl (Nat.zero_le _) (by omega) (by omega)
end TR
section F15
variable {T : Nat} {μ : zM}
theorem INV.trial (h : INV T μ) {X' Y' : zX} (st : stY (μ 1) Y') (hc : ∀ a, a < 2422 → Y' 1 a = (μ 1) 1 a) : INV T (zg (zg μ 6 X') 1 Y') := by
  obtain ⟨⟨len, a1, a2, a3, a4⟩, b, c, ⟨s, l, nx, d⟩, e⟩ := h
  have g0 : zg (zg μ 6 X') 1 Y' 0 = μ 0 := by rw [zg_ne (by decide), zg_ne (by decide)]
  have g1 : zg (zg μ 6 X') 1 Y' 1 = Y' := zg_at _ _ _
  have g4 : zg (zg μ 6 X') 1 Y' 4 = μ 4 := by rw [zg_ne (by decide), zg_ne (by decide)]
  have g5 : zg (zg μ 6 X') 1 Y' 5 = μ 5 := by rw [zg_ne (by decide), zg_ne (by decide)]
  unfold INV tapeR keptR
  rw [g0, g1, g4, g5]
  refine ⟨⟨len, a1, a2, by rw [st.2.2.2.1]; exact a3, fun i hi => by rw [st.2.1]; exact a4 i hi⟩, by rw [st.2.2.2.2]; exact b, c, ⟨s, l, nx, d.cell hc⟩, ?_⟩
  rcases e with ⟨e1, e2⟩ | ⟨e1, e2, e3, s', l', nx', e4⟩
  · exact Or.inl ⟨e1, by rw [st.2.2.1]; exact e2⟩
  · exact Or.inr ⟨e1, by rw [st.2.2.1]; exact e2, e3, s', l', nx', e4.row (by rw [zr_at, zr_at]; exact st.1)⟩
theorem r_trial (F : Nat) (hF : 300 ≤ F) {s l : Nat} : ∀ (d fu fu' k : Nat) (t : Nat × Nat) (X Y : zX), 120 - k = d → k ≤ 120 → d < fu → d + 1 < fu' → t.1 + d + 1 < 1000000 → sS s l t X Y → ∃ r X' Y' a2, hX11_whole_7 F fu (nI k) (zg μ 6 X) = some (r, zg μ 6 X') ∧ hX12_whole_24 F fu' (nI k) Y = jX12_whole_48 F a2 Y' ∧ (if a2 ≤ nI 120 then a2 else -1) = r ∧ fr yL Y Y' := by
  intro d
  induction d with
  | zero =>
    intro fu fu' k t X Y h1 h2 h3 h4 h5 h
    obtain ⟨fu, rfl⟩ := Nat.exists_eq_succ_of_ne_zero (show fu ≠ 0 by omega)
    obtain ⟨fu', rfl⟩ : ∃ g, fu' = g + 1 + 1 := ⟨fu' - 2, by omega⟩
    have : k = 120 := by omega
    subst this
    obtain ⟨m, Z, hw, hW, hK⟩ := id h
    obtain ⟨r, e0, e1, e2⟩ := r_isWhole F hF hw.1
    unfold hX11_whole_7
    conv => arg 1; ext r; arg 1; ext X'; arg 1; ext Y'; arg 1; ext a2; rhs; lhs; lhs; unfold hX12_whole_24
    rw [if_pos (show nI 120 ≤ nI 120 by decide), if_neg (show ¬ nI 120 < nI 120 by decide), zg_at, e1, e2, qbd, qbd, zg_zg]
    rcases e0 with rfl | rfl
    · rw [if_pos (show nI 0 = 0 from rfl), if_pos (show nI 0 = 0 from rfl)]
      obtain ⟨X1, Y1, r1, nx1, b1, b2, b3, b4, b5⟩ := s_step F hF (by omega) h
      rw [b2, qbd, nI_add]
      conv => arg 1; ext r; arg 1; ext X'; arg 1; ext Y'; arg 1; ext a2; rhs; lhs; lhs; unfold hX12_whole_24
      rw [if_pos (show nI 120 < nI (120 + 1) by decide)]
      exact ⟨_, _, _, _, rfl, rfl, if_neg (by decide), b5⟩
    · rw [if_neg (show ¬ nI 1 = 0 by decide), if_neg (show ¬ nI 1 = 0 by decide)]
      exact ⟨_, _, _, _, rfl, rfl, if_pos (by decide), fr.refl _ _⟩
  | succ d ih =>
    intro fu fu' k t X Y h1 h2 h3 h4 h5 h
    obtain ⟨fu, rfl⟩ := Nat.exists_eq_succ_of_ne_zero (show fu ≠ 0 by omega)
    obtain ⟨fu', rfl⟩ := Nat.exists_eq_succ_of_ne_zero (show fu' ≠ 0 by omega)
    obtain ⟨m, Z, hw, hW, hK⟩ := id h
    obtain ⟨r, e0, e1, e2⟩ := r_isWhole F hF hw.1
    unfold hX11_whole_7 hX12_whole_24
    rw [if_neg (nI_ge (show k < 120 by omega) (by omega)), if_neg (nI_nlt (show k ≤ 120 by omega) (by omega)), zg_at, e1, e2, qbd, qbd]
    rcases e0 with rfl | rfl
    · rw [if_pos (show nI 0 = 0 from rfl), if_pos (show nI 0 = 0 from rfl)]
      obtain ⟨X1, Y1, r1, nx1, b1, b2, b3, b4, b5⟩ := s_step F hF (by omega) h
      obtain ⟨r, X', Y', a2, c1, c2, c3, c4⟩ := ih fu fu' (k + 1) (t.1 + 1, nx1) X1 Y1 (by omega) (by omega) (by omega) (by omega) (by dsimp only; omega) b3
      rw [b1, b2, qbd, qbd, nI_add, zg_zg]
      exact ⟨r, X', Y', a2, c1, c2, c3, b5.trans c4⟩
    · rw [if_neg (show ¬ nI 1 = 0 by decide), if_neg (show ¬ nI 1 = 0 by decide), zg_zg]
      exact ⟨_, _, _, _, rfl, rfl, if_pos ((nI_leI (by omega) (by omega)).mpr h2), fr.refl _ _⟩
theorem f_whole (F : Nat) (hF : 3000 ≤ F) (hT : T + 200 < 1000000) (h : INV T μ) (x0 : Int32) : ∃ r μ', eX11_whole F x0 μ = some (r, μ') ∧ okR T μ' (.inl r) [] (eX12_whole F x0 (μ 1)) := by
  obtain ⟨s, l, nx, m, Z, hw, hW, hK⟩ := h.2.2.2.1
  have hs := hw.hs
  have hl := hw.hl
  have hm := hw.hm
  have hw0 := hw.row (Y' := zw (μ 1) 0 0 (nI 0)) (r_0 _)
  unfold eX11_whole eX12_whole eX11_lookAhead jX11_lookAhead_27 jX12_whole_19 eX12_keepsAll
  obtain ⟨Y1, k1, k2, k3, -⟩ := y_keeps F 2422 F 0 (zw (μ 1) 0 0 (nI 0)) rfl (Nat.zero_le _) (by omega)
  have k1' : hX12_keepsAll_2 F F (nI 0) (zw (μ 1) 0 0 (nI 0)) = some Y1 := k1
  rw [k1', qbd]
  simp only [zg_at, zg_zg]
  have key : ∀ b, ¬ b = 0 → ∃ r μ', (hX11_whole_7 F F (nI 0) (zg μ 6 (zw (μ 4) 2 1 b))) = some (r, μ') ∧ okR T μ' (.inl r) [] (hX12_whole_24 F F (nI 0) (zw Y1 0 16 b)) := by
    intro b hb0
    have h2 : sS s l (T, nx) (zw (μ 4) 2 1 b) (zw Y1 0 16 b) := ⟨m, Z, ⟨(hw0.mode hb0).row (by rw [zw_row_ne (by decide), k2 1 (by decide)]), by rw [zw_at, zw_at]⟩, wC_fr hW fr1 (by decide), hK.fr fr1 (by decide)⟩
    obtain ⟨r, X', Y', a2, c1, c2, c3, c4⟩ := r_trial (μ := μ) F (by omega) 120 F F 0 (T, nx) _ _ rfl (Nat.zero_le _) (by omega) (by omega) (by dsimp only; omega) h2
    have c1' : hX11_whole_7 F F (nI 0) (zg μ 6 (zw (μ 4) 2 1 b)) = _ := c1
    have c2' : hX12_whole_24 F F (nI 0) (zw Y1 0 16 b) = _ := c2
    rw [c1', c2']
    unfold jX12_whole_48 eX12_bringsBack
    obtain ⟨Y2, d1, d2, d3, -⟩ := y_brings F 2422 F 0 Y' rfl (Nat.zero_le _) (by omega)
    have d1' : hX12_bringsBack_2 F F (nI 0) Y' = some Y2 := d1
    rw [d1', qbd]
    have st : stY (μ 1) Y2 := ((((st_0 (μ 1)).trans (stY.fr k2 (by decide))).w0 (i := 16) (v := b) (by decide)).trans (stY.fr c4 (by decide))).trans (stY.fr d2 (by decide))
    have cells : ∀ a, a < 2422 → Y2 1 a = (μ 1) 1 a := fun a ha => by
      rw [d3 a (Nat.zero_le _) ha, c4 4 (by decide), zw_no (Or.inl (by decide)), k3 a (Nat.zero_le _) ha, zw_no (Or.inl (by decide))]
    have z0 : Y2 0 0 = nI 0 := by
      rw [d2 0 (by decide), c4 0 (by decide), zw_no (by decide), k2 0 (by decide), zw_at]
    by_cases c : a2 ≤ nI 120
    · rw [if_pos c] at c3
      rw [if_pos c]
      exact ⟨_, _, rfl, _, _, rfl, h.trial st cells, z0, c3⟩
    · rw [if_neg c] at c3
      rw [if_neg c]
      exact ⟨_, _, rfl, _, _, rfl, h.trial st cells, z0, c3⟩
  by_cases c : x0 = 0
  · rw [if_pos c, if_pos c, qbd]
    exact key (nI 1) (by decide)
  · rw [if_neg c, if_neg c, qbd]
    exact key (nI 2) (by decide)
end F15
