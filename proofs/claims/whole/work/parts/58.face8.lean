/-! the links of ways, and the nodes of one -/
section CR
variable {lo : Nat × (Nat → Int32)} {s l m : Nat} {T : Nat × Nat} {X Y : zX} {G : gT}
theorem bw_P (hG : gOK G s) {a b : Nat} (ha : a < s) (hi : iw G s a b = true) : bw G (gP G s a b) b < gl G ∧ gP G s a b < s := by
  obtain ⟨h1, h2⟩ := iw_t hi
  obtain ⟨p1, p2, p3, p4, p5⟩ := gP_ok hG ha h1 h2
  refine ⟨?_, p1⟩
  have hle := bw_le G (gP G s a b) b
  have : bw G (gP G s a b) b ≠ gl G := fun z => by
    unfold dl at p4
    rw [if_pos z] at p4
    omega
  omega
theorem x_cross (F : Nat) (hG : gOK G s) (hW : wC G s X) {a N c : Nat} {f : Nat → Nat} (ha : a < s) (hc : c ≤ 5) (ho : ordX G s a s N f) (e44 : X 44 a = nI N) (e43 : ∀ k, k < N → X 43 (a * 6 + k) = nI (f k)) : ∀ (d fu k : Nat) (acc : Int32), N - k = d → k ≤ N → d < fu → ∃ r, hX9_linksWithin_5 F fu (nI a) (nI c) acc (nI k) X = some r ∧ ∀ q, q < 32 → (hb r q ↔ hb acc q ∨ ∃ j, k ≤ j ∧ j < N ∧ gH G s a (f j) ≤ c ∧ q = bw G (gP G s a (f j)) (f j)) := by
  have hs := hG.1
  have hgl := hG.2.1
  have hN := ho.1
  intro d
  induction d with
  | zero =>
    intro fu k acc h1 h2 h3
    obtain ⟨fu, rfl⟩ := Nat.exists_eq_succ_of_ne_zero (show fu ≠ 0 by omega)
    unfold hX9_linksWithin_5
    rw [qzin (show a < 6 by omega) (by omega), qchk, qzn (by omega), e44, if_pos ((nI_leI (by omega) (by omega)).mpr (by omega))]
    exact ⟨_, rfl, fun q hq => ⟨fun z => Or.inl z, fun z => z.elim id (fun ⟨j, w⟩ => by omega)⟩⟩
  | succ d ih =>
    intro fu k acc h1 h2 h3
    obtain ⟨fu, rfl⟩ := Nat.exists_eq_succ_of_ne_zero (show fu ≠ 0 by omega)
    have hk : k < N := by omega
    obtain ⟨b1, b2⟩ := ho.2.1 k hk
    have hle := (gH_le hG ha b1 (iw_t b2).2).2
    have hbw := (bw_P hG ha b2).1
    obtain ⟨w1, w2, w3⟩ := (hW.2 a ha).2.2.1 (f k) b1 b2
    unfold hX9_linksWithin_5
    rw [qzin (show a < 6 by omega) (by omega), qchk, qzn (by omega), e44, if_neg (nI_ge hk (by omega)), x_6, x_in6 (by omega) (by omega), qchk, x_zn6 (by omega) (by omega), e43 k hk, x_6, qlet, x_in6 (by omega) (by omega), qchk, qchk, x_zn6 (by omega) (by omega), w3, w2]
    unfold jX9_linksWithin_58
    rw [nI_add]
    by_cases cc : c < gH G s a (f k)
    · rw [if_pos ((nI_ltI (by omega) (by omega)).mpr cc)]
      obtain ⟨r, e, kk⟩ := ih fu (k + 1) (acc ||| nI 0) (by omega) (by omega) (by omega)
      refine ⟨r, e, fun q hq => (kk q hq).trans ?_⟩
      rw [hb_orw hq]
      constructor
      · rintro ((z | z) | ⟨j, z1, z2⟩)
        · exact Or.inl z
        · exact absurd z (hb_0 hq)
        · exact Or.inr ⟨j, by omega, z2⟩
      · rintro (z | ⟨j, z1, z2, z3, z4⟩)
        · exact Or.inl (Or.inl z)
        · refine Or.inr ⟨j, ?_, z2, z3, z4⟩
          by_cases w : j = k
          · subst w; omega
          · omega
    · rw [if_neg (fun z => cc ((nI_ltI (by omega) (by omega)).mp z))]
      obtain ⟨r, e, kk⟩ := ih fu (k + 1) (acc ||| (nI 1 <<< (nI (bw G (gP G s a (f k)) (f k)) &&& 31))) (by omega) (by omega) (by omega)
      refine ⟨r, e, fun q hq => (kk q hq).trans ?_⟩
      rw [hb_or (by omega) hq]
      constructor
      · rintro ((z | z) | ⟨j, z1, z2⟩)
        · exact Or.inl z
        · exact Or.inr ⟨k, Nat.le_refl _, hk, by omega, z⟩
        · exact Or.inr ⟨j, by omega, z2⟩
      · rintro (z | ⟨j, z1, z2, z3, z4⟩)
        · exact Or.inl (Or.inl z)
        · by_cases w : j = k
          · subst w; exact Or.inl (Or.inr z4)
          · exact Or.inr ⟨j, by omega, z2, z3, z4⟩
theorem y_cross (F : Nat) (hF : 300 ≤ F) (h : wR lo s l m T X Y) (hG : gOK G s) (gy : gY G s Y) (hY : wY G s Y) {a c : Nat} (ha : a < s) (hc : c ≤ 5) : ∀ (d fu j : Nat) (acc : Int32), s - j = d → j ≤ s → d < fu → ∃ r, hX12_crossed_51 F fu (nI a) (nI c) acc (nI j) Y = some (r, Y) ∧ ∀ q, q < 32 → (hb r q ↔ hb acc q ∨ ∃ b, j ≤ b ∧ b < s ∧ iw G s a b = true ∧ gH G s a b ≤ c ∧ q = bw G (gP G s a b) b) := by
  have hs := h.hs
  have hgl := hG.2.1
  intro d
  induction d with
  | zero =>
    intro fu j acc h1 h2 h3
    obtain ⟨fu, rfl⟩ := Nat.exists_eq_succ_of_ne_zero (show fu ≠ 0 by omega)
    unfold hX12_crossed_51
    rw [h.nn, h.nodes, if_pos ((nI_leI (by omega) (by omega)).mpr (by omega))]
    exact ⟨_, rfl, fun q hq => ⟨fun z => Or.inl z, fun z => z.elim id (fun ⟨b, w⟩ => by omega)⟩⟩
  | succ d ih =>
    intro fu j acc h1 h2 h3
    obtain ⟨fu, rfl⟩ := Nat.exists_eq_succ_of_ne_zero (show fu ≠ 0 by omega)
    have hj : j < s := by omega
    obtain ⟨k7, k8, k9⟩ := hY a j ha hj
    unfold hX12_crossed_51
    rw [h.nn, h.nodes, if_neg (nI_ge hj (by omega)), y_isWay hG (by omega) (by omega) k7, qbd, nI_add]
    have no : ¬ (iw G s a j = true ∧ gH G s a j ≤ c) → ∃ r, hX12_crossed_51 F fu (nI a) (nI c) acc (nI (j + 1)) Y = some (r, Y) ∧ ∀ q, q < 32 → (hb r q ↔ hb acc q ∨ ∃ b, j ≤ b ∧ b < s ∧ iw G s a b = true ∧ gH G s a b ≤ c ∧ q = bw G (gP G s a b) b) := fun cn => by
      obtain ⟨r, e, k⟩ := ih fu (j + 1) acc (by omega) (by omega) (by omega)
      refine ⟨r, e, fun q hq => (k q hq).trans ?_⟩
      constructor
      · rintro (z | ⟨b, z1, z2⟩)
        · exact Or.inl z
        · exact Or.inr ⟨b, by omega, z2⟩
      · rintro (z | ⟨b, z1, z2, z3, z4, z5⟩)
        · exact Or.inl z
        · refine Or.inr ⟨b, ?_, z2, z3, z4, z5⟩
          by_cases w : b = j
          · subst w; exact absurd ⟨z3, z4⟩ cn
          · omega
    by_cases ci : iw G s a j = true
    · have hle := (gH_le hG ha hj (iw_t ci).2).2
      obtain ⟨hbw, hP⟩ := bw_P hG ha ci
      rw [if_pos ci] at k9 k8
      rw [if_pos ci, if_neg (show ¬ nI 1 = 0 by decide), a_6, qzin (by omega) (by omega), qchk, qchk, qzn (by omega), k9, k8, y_bw hG gy F (by omega) (by omega) (by omega), qbd, bw_sym G j, if_neg (show ¬ bw G (gP G s a j) j = gl G by omega)]
      by_cases cc : c < gH G s a j
      · rw [if_pos ((nI_ltI (by omega) (by omega)).mpr cc)]
        exact no (fun z => by omega)
      · rw [if_neg (fun z => cc ((nI_ltI (by omega) (by omega)).mp z))]
        obtain ⟨r, e, k⟩ := ih fu (j + 1) (acc ||| (nI 1 <<< (nI (bw G (gP G s a j) j) &&& 31))) (by omega) (by omega) (by omega)
        refine ⟨r, e, fun q hq => (k q hq).trans ?_⟩
        rw [hb_or (by omega) hq]
        constructor
        · rintro ((z | z) | ⟨b, z1, z2⟩)
          · exact Or.inl z
          · exact Or.inr ⟨j, Nat.le_refl _, hj, ci, by omega, z⟩
          · exact Or.inr ⟨b, by omega, z2⟩
        · rintro (z | ⟨b, z1, z2, z3, z4, z5⟩)
          · exact Or.inl (Or.inl z)
          · by_cases w : b = j
            · subst w; exact Or.inl (Or.inr z5)
            · exact Or.inr ⟨b, by omega, z2, z3, z4, z5⟩
    · rw [if_neg ci, if_pos (show nI 0 = 0 from rfl)]
      exact no (fun z => ci z.1)
theorem r_gY (h : wR lo s l m T X Y) : gY (gOf l X) s Y := h.gY (gOf_X h.1.1 h.1.2.2.2.2.2.2.2.2.2.1).2 rfl
end CR
section F10
variable {T : Nat} {μ : zM}
theorem rt_0 (F : Nat) {a1 a3 a5 a6 : Int32} (c : a6 ≤ a3) : ∀ fu, fu ≠ 0 → hX11_route_47 F fu a1 a3 a5 a6 μ = some (.inl a5, μ)
  | 0, h => absurd rfl h
  | fu + 1, _ => by
    unfold hX11_route_47
    rw [if_pos c]
theorem r_route (F : Nat) {s : Nat} {Y : zX} {G : gT} (hG : gOK G s) (hW : wC G s (μ 4)) (hY : wY G s Y) {a c D : Nat} (ha : a < s) (hc : c ≤ 5) (hD : D ≤ 5) : ∀ (d fu fu' b i : Nat), gH G s a b = c + d → b < s → (b = a ∨ iw G s a b = true) → i + d = D → d < fu → d < fu' → ∃ r, hX11_route_47 F fu (nI a) (nI c) (nI b) (nI (c + d)) μ = some (.inl r, μ) ∧ hX12_route_70 F fu' (nI a) (nI D) (nI b) (nI i) Y = some (r, Y) := by
  have hs := hG.1
  intro d
  induction d with
  | zero =>
    intro fu fu' b i h1 h2 h3 h4 h5 h6
    obtain ⟨fu', rfl⟩ := Nat.exists_eq_succ_of_ne_zero (show fu' ≠ 0 by omega)
    refine ⟨nI b, rt_0 F ((nI_leI (by omega) (by omega)).mpr (by omega)) fu (by omega), ?_⟩
    unfold hX12_route_70
    rw [if_pos ((nI_leI (by omega) (by omega)).mpr (by omega))]
  | succ d ih =>
    intro fu fu' b i h1 h2 h3 h4 h5 h6
    obtain ⟨fu, rfl⟩ := Nat.exists_eq_succ_of_ne_zero (show fu ≠ 0 by omega)
    obtain ⟨fu', rfl⟩ := Nat.exists_eq_succ_of_ne_zero (show fu' ≠ 0 by omega)
    have hi : iw G s a b = true := h3.resolve_left (fun z => by subst z; rw [gH_0 ha] at h1; omega)
    obtain ⟨i1, i2⟩ := iw_t hi
    obtain ⟨p1, p2, p3, p4, p5⟩ := gP_ok hG ha i1 i2
    have hst := gH_s hG ha h2 i1 i2
    obtain ⟨k1, k2, k3, k4, -⟩ := w_rows hG hW hY ha h2
    rw [hi, if_pos rfl] at k4
    rw [k4] at k3
    unfold hX11_route_47 hX12_route_70
    rw [if_neg (nI_ge (show c < c + (d + 1) by omega) (by omega)), if_neg (nI_ge (show i < D by omega) (by omega)), x_6, x_in6 (by omega) (by omega), qchk, x_zn6 (by omega) (by omega), a_6, qzin (by omega) (by omega), qchk, qzn (by omega), k3, k4, zg_id, nI_add, ← Nat.add_assoc, nI_m1]
    refine ih fu fu' (gP G s a b) (i + 1) (by omega) p1 ?_ (by omega) (by omega) (by omega)
    by_cases z : gP G s a b = a
    · exact Or.inl z
    · right
      unfold iw
      simp only [decide_eq_true_eq]
      exact ⟨fun y => z y.symm, by omega⟩
theorem f_crossed (F : Nat) (hF : 300 ≤ F) (h : INV T μ) (x0 x1 : Int32) : ∃ res, eX11_crossed F x0 x1 μ = some (res, μ) ∧ okR T μ res [eIO, eIA] (eX12_crossed F x0 x1 (μ 1)) := by
  obtain ⟨s, l, nx, m, Z, hw, hW, hK⟩ := h.2.2.2.1
  have hs := hw.hs
  have hl := hw.hl
  have hm := hw.hm
  have hw0 := hw.row (Y' := zw (μ 1) 0 0 (nI 0)) (r_0 _)
  have hG := r_G hw
  unfold eX11_crossed eX12_crossed
  rw [hw.nodes, zg_id]
  rcases rg_cases x0 (N := s) (by omega) with ⟨n, hn, rfl⟩ | hx
  · rw [if_neg (rg_in hn (by omega)), y_noNode1 hw0 hn, qbd, y_thr0, qbd, if_pos q00]
    dsimp only
    unfold jX12_crossed_33
    rcases rg_sw x1 (N := 5) (by decide) with ⟨k, hk, rfl⟩ | ⟨hx1, hx2⟩
    · have c1 : (¬ (nI k < nI 0)) ∧ ¬ (nI 5 < nI k) := ⟨nI_pos (by omega), nI_nlt (by omega) (by omega)⟩
      obtain ⟨Y', e, w⟩ := r_lays F hF hw
      have hw' := hw.row (Y' := Y') w.r1
      obtain ⟨-, -, -, -, N, f, ho, e44, e43⟩ := hW.2 n hn
      have hN := ho.1
      obtain ⟨r1, e1, q1⟩ := x_cross F hG hW hn hk ho e44 e43 N F 0 (nI 0) rfl (Nat.zero_le _) (by omega)
      obtain ⟨r2, e2, q2⟩ := y_cross F hF hw' hG (r_gY hw') w.2 hn hk s F 0 (nI 0) rfl (Nat.zero_le _) (by omega)
      have er : r1 = r2 := hb_ext fun q hq => by
        rw [q1 q hq, q2 q hq]
        constructor
        · rintro (z | ⟨j, z1, z2, z3, z4⟩)
          · exact Or.inl z
          · exact Or.inr ⟨f j, Nat.zero_le _, (ho.2.1 j z2).1, (ho.2.1 j z2).2, z3, z4⟩
        · rintro (z | ⟨b, z1, z2, z3, z4, z5⟩)
          · exact Or.inl z
          · obtain ⟨j, w1, w2⟩ := ho.2.2.2 b z2 z3
            exact Or.inr ⟨j, Nat.zero_le _, w1, by rw [w2]; exact z4, by rw [w2]; exact z5⟩
      have e1' : eX9_linksWithin F (nI n) (nI k) (μ 4) = some r1 := e1
      have e2' : hX12_crossed_51 F F (nI n) (nI k) (nI 0) (nI 0) Y' = _ := e2
      rw [if_neg (fun z => z.elim c1.1 c1.2), if_pos c1, y_thr0, qbd, if_pos q00]
      dsimp only
      rw [e, qbd, e1', e2', qbd, er]
      exact ⟨_, rfl, okR_val h w.st w.r1 w.z _ _⟩
    · have c1 : x1 < 0 ∨ nI 5 < x1 := Decidable.byContradiction fun z => hx1 ⟨fun y => z (Or.inl y), fun y => z (Or.inr y)⟩
      rw [if_pos c1, if_neg hx1, y_thr1, qbd, if_neg q11]
      exact ⟨_, rfl, okR_thr h (st_00 _ _) (r_00 _ _) 1 rfl (zw_at _ _ _ _) _⟩
  · rw [if_pos hx, y_noNode2 hw0 hx, qbd, y_thr1, qbd, if_neg q11]
    exact ⟨_, rfl, okR_thr h (st_00 _ _) (r_00 _ _) 0 rfl (zw_at _ _ _ _) _⟩
theorem f_route (F : Nat) (hF : 300 ≤ F) (h : INV T μ) (x0 x1 x2 : Int32) : ∃ res, eX11_route F x0 x1 x2 μ = some (res, μ) ∧ okR T μ res [eIO] (eX12_route F x0 x1 x2 (μ 1)) := by
  obtain ⟨s, l, nx, m, Z, hw, hW, hK⟩ := h.2.2.2.1
  have hs := hw.hs
  have hl := hw.hl
  have hm := hw.hm
  have hw0 := hw.row (Y' := zw (μ 1) 0 0 (nI 0)) (r_0 _)
  have hG := r_G hw
  unfold eX11_route eX12_route
  rw [hw.nodes, zg_id]
  rcases rg_cases x0 (N := s) (by omega) with ⟨n, hn, rfl⟩ | hx
  · rw [if_neg (rg_in hn (by omega))]
    rcases rg_cases x1 (N := s) (by omega) with ⟨o, ho, rfl⟩ | hy
    · have n6 : n < 6 := by omega
      have o6 : o < 6 := by omega
      obtain ⟨Y', e, w⟩ := y_two1 F hF hw hn ho
      rw [if_neg (rg_in ho (by omega)), e, qbd, if_pos q00]
      dsimp only
      obtain ⟨k1, k2, k3, k4, k5, k6⟩ := w_rows hG hW w.2 hn ho
      rw [x_6, x_in6 n6 o6, qchk, x_zn6 n6 o6]
      unfold jX12_route_51
      by_cases c0 : x2 < 0
      · have cz : ¬ x2 = 0 := fun z => by rw [z] at c0; exact absurd c0 (by decide)
        rw [if_pos c0, if_pos c0, if_neg cz]
        by_cases c : n = o
        · subst c
          rw [if_pos rfl]
          exact ⟨_, rfl, okR_val h w.st w.r1 w.z _ _⟩
        · rw [if_neg (fun z => c ((nI_eq (by omega) (by omega)).mp z)), y_isWay hG n6 o6 k2, qbd, a_6, qzin (by omega) (by omega), qchk, if_pos c0, ite_self]
          exact ⟨_, rfl, okR_val h w.st w.r1 w.z _ _⟩
      · obtain ⟨c, hc, rfl⟩ := nI_of c0
        rw [if_neg c0, if_neg c0]
        by_cases cn : n = o
        · subst cn
          rw [if_pos rfl] at k5
          rw [if_pos rfl, k5]
          by_cases cz : c = 0
          · subst cz
            rw [if_pos (show nI 0 = 0 from rfl), if_pos (show nI 0 ≤ nI 0 by decide), rt_0 F (by decide) F (by omega)]
            exact ⟨_, rfl, okR_val h w.st w.r1 w.z _ _⟩
          · rw [if_neg (nI_ge (show 0 < c by omega) (by omega)), if_neg (show ¬ nI c = 0 from fun z => cz ((nI_eq hc (show 0 < 2147483648 by omega)).mp z))]
            exact ⟨_, rfl, okR_val h w.st w.r1 w.z _ _⟩
        · rw [if_neg cn] at k5
          rw [if_neg (fun z => cn ((nI_eq (by omega) (by omega)).mp z)), y_isWay hG n6 o6 k2, qbd, a_6, qzin (by omega) (by omega), qchk, qzn (by omega)]
          by_cases ci : iw (gOf l (μ 4)) s n o = true
          · rw [if_pos ci] at k5 k6
            have hle := (gH_le hG hn ho (iw_t ci).2).2
            rw [if_pos ci, if_neg (show ¬ nI 1 = 0 by decide), k5, k6]
            by_cases cc : c ≤ gH (gOf l (μ 4)) s n o
            · obtain ⟨r, e1, e2⟩ := r_route F hG hW w.2 hn (c := c) (D := gH (gOf l (μ 4)) s n o - c) (by omega) (by omega) (gH (gOf l (μ 4)) s n o - c) F F o 0 (by omega) ho (Or.inr ci) (by omega) (by omega) (by omega)
              rw [show c + (gH (gOf l (μ 4)) s n o - c) = gH (gOf l (μ 4)) s n o by omega] at e1
              rw [if_pos ((nI_leI hc (by omega)).mpr cc), e1, nI_sub cc, if_neg c0, if_pos (show (0 : Int32) ≤ nI (gH (gOf l (μ 4)) s n o - c) from nI_pos' (by omega)), e2]
              exact ⟨_, rfl, okR_val h w.st w.r1 w.z _ _⟩
            · have c9 : ¬ (0 : Int32) ≤ nI (gH (gOf l (μ 4)) s n o) - nI c := by
                rw [Int32.le_iff_toInt_le, Int32.toInt_sub, nI_toInt (by omega), nI_toInt hc, Int.bmod_def]
                have : (0 : Int32).toInt = 0 := rfl
                rw [this]
                split <;> omega
              rw [if_neg (fun z => cc ((nI_leI hc (by omega)).mp z)), if_neg c0, if_neg c9]
              exact ⟨_, rfl, okR_val h w.st w.r1 w.z _ _⟩
          · rw [if_neg ci] at k5
            rw [if_neg ci, if_pos (show nI 0 = 0 from rfl), k5]
            have c8 : ¬ nI c ≤ -1 := by
              rw [Int32.le_iff_toInt_le, nI_toInt hc]
              have : (-1 : Int32).toInt = -1 := rfl
              omega
            rw [if_neg c8, if_neg (show ¬ (0 : Int32) ≤ -1 by decide)]
            exact ⟨_, rfl, okR_val h w.st w.r1 w.z _ _⟩
    · obtain ⟨Y', e, w⟩ := y_two2 F hF hw (x := nI n) (Or.inr hy)
      rw [if_pos hy, e, qbd, if_neg q11]
      exact ⟨_, rfl, okR_thr h (w.t _).1 (w.t _).2.1 0 rfl (w.t _).2.2 _⟩
  · obtain ⟨Y', e, w⟩ := y_two2 F hF hw (y := x1) (Or.inl hx)
    rw [if_pos hx, e, qbd, if_neg q11]
    exact ⟨_, rfl, okR_thr h (w.t _).1 (w.t _).2.1 0 rfl (w.t _).2.2 _⟩
end F10
