/-! near, within reach, the links of a way -/
section NR
variable {lo : Nat × (Nat → Int32)} {s l m : Nat} {T : Nat × Nat} {X Y : zX} {G : gT}
theorem l_1m {v : Nat} (h : v ≤ 1000000) : ((1000000 : Int32) ≤ nI v ↔ v = 1000000) := by
  rw [show (1000000 : Int32) = nI 1000000 from rfl, nI_leI (by omega) (by omega)]
  omega
theorem r_near (F : Nat) (h : wR lo s l m T X Y) (hG : gOK G s) (hW : wC G s X) (hY : wY G s Y) {p bits : Int32} (hbits : ∀ q, q < 32 → (hb bits q ↔ (q < s ∧ ((X 3 1 >>> (nI q &&& 31)) &&& nI 1) = nI 1 ∧ ((X 9 q >>> (p &&& 31)) &&& nI 1) = nI 1))) {n : Nat} (hn : n < s) : ∀ (d fu fu' j : Nat) (a : Int32), s - j = d → j ≤ s → d < fu → d < fu' → (a = -1 ∨ ∃ o, o < s ∧ a = nI o ∧ gW G s n o < 1000000) → ∃ r, hX9_nearest_5 F fu (nI n) bits a (nI j) X = some r ∧ hX12_near_20 F fu' (nI n) p a (nI j) Y = some (r, Y) := by
  have hs := h.hs
  intro d
  induction d with
  | zero =>
    intro fu fu' j a h1 h2 h3 h4 hab
    obtain ⟨fu, rfl⟩ := Nat.exists_eq_succ_of_ne_zero (show fu ≠ 0 by omega)
    obtain ⟨fu', rfl⟩ := Nat.exists_eq_succ_of_ne_zero (show fu' ≠ 0 by omega)
    unfold hX9_nearest_5 hX12_near_20
    rw [hW.1, h.nn, h.nodes, if_pos ((nI_leI (by omega) (by omega)).mpr (by omega)), if_pos ((nI_leI (by omega) (by omega)).mpr (by omega))]
    exact ⟨_, rfl, rfl⟩
  | succ d ih =>
    intro fu fu' j a h1 h2 h3 h4 hab
    obtain ⟨fu, rfl⟩ := Nat.exists_eq_succ_of_ne_zero (show fu ≠ 0 by omega)
    obtain ⟨fu', rfl⟩ := Nat.exists_eq_succ_of_ne_zero (show fu' ≠ 0 by omega)
    have hj : j < s := by omega
    have h6 : j < 6 := by omega
    have n6 : n < 6 := by omega
    obtain ⟨k1, k2, -⟩ := w_rows hG hW hY hn hj
    have hfar := gW_far hG n j
    have K := fun a' => ih fu fu' (j + 1) a' (by omega) (by omega) (by omega) (by omega)
    unfold hX9_nearest_5 hX12_near_20
    unfold jX9_nearest_46 jX9_nearest_47 jX9_nearest_74 jX12_near_84
    rw [hW.1, h.nn, h.nodes, if_neg (nI_ge hj (by omega)), if_neg (nI_ge hj (by omega)), x_6, x_in6 n6 h6, qchk, x_zn6 n6 h6, a_6, qzin (by omega) (by omega), qchk, qchk, qzn (by omega), nI_add, k1, k2, if_neg (show ¬ nI 1 = 0 by decide), if_pos (show nI 0 = 0 from rfl)]
    by_cases c : ((X 3 1 >>> (nI j &&& 31)) &&& nI 1) = nI 1 ∧ ((X 9 j >>> (p &&& 31)) &&& nI 1) = nI 1
    · have cb : ((bits >>> (nI j &&& 31)) &&& nI 1) = nI 1 := (hbits j (by omega)).mpr ⟨hj, c⟩
      rw [if_pos cb, r_hold1 h hj c.1 c.2, qbd, if_neg (show ¬ nI 1 = 0 by decide)]
      by_cases cw : gW G s n j = 1000000
      · rw [if_pos ((lenE_m1 hfar).mpr cw), if_pos ((l_1m hfar).mpr cw)]
        exact K a hab
      · have cl : gW G s n j < 1000000 := by omega
        rw [if_neg (fun z => cw ((lenE_m1 hfar).mp z)), if_neg (fun z => cw ((l_1m hfar).mp z))]
        by_cases ca : a = -1
        · rw [if_pos ca, if_pos ca]
          exact K _ (Or.inr ⟨j, hj, rfl, cl⟩)
        · obtain ⟨o, ho, rfl, co⟩ := hab.resolve_left ca
          have o6 : o < 6 := by omega
          obtain ⟨q1, q2, -⟩ := w_rows hG hW hY hn ho
          rw [if_neg ca, if_neg ca, x_6, x_in6 n6 o6, qchk, x_zn6 n6 o6, a_6, qzin (by omega) (by omega), qchk, qzn (by omega), q1, q2, lenE_lt cl, lenE_lt co]
          by_cases cc : nI (gW G s n o) ≤ nI (gW G s n j)
          · rw [if_pos cc, if_pos cc]
            exact K _ hab
          · rw [if_neg cc, if_neg cc]
            exact K _ (Or.inr ⟨j, hj, rfl, cl⟩)
    · have cb : ¬ ((bits >>> (nI j &&& 31)) &&& nI 1) = nI 1 := fun z => c ((hbits j (by omega)).mp z).2
      rw [if_neg cb, r_hold0 h hj c, qbd, if_pos (show nI 0 = 0 from rfl)]
      exact K a hab
/-- within: the class goes over its order -/
theorem x_within (F : Nat) (hG : gOK G s) (hW : wC G s X) {a N c : Nat} {f : Nat → Nat} (ha : a < s) (hc : c ≤ 5) (ho : ordX G s a s N f) (e44 : X 44 a = nI N) (e43 : ∀ k, k < N → X 43 (a * 6 + k) = nI (f k)) : ∀ (d fu k : Nat) (acc : Int32), N - k = d → k ≤ N → d < fu → ∃ r, hX9_within_7 F fu (nI a) (nI c) acc (nI k) X = some r ∧ ∀ q, q < 32 → (hb r q ↔ hb acc q ∨ ∃ j, k ≤ j ∧ j < N ∧ f j = q ∧ gH G s a (f j) ≤ c) := by
  have hs := hG.1
  have hN := ho.1
  intro d
  induction d with
  | zero =>
    intro fu k acc h1 h2 h3
    obtain ⟨fu, rfl⟩ := Nat.exists_eq_succ_of_ne_zero (show fu ≠ 0 by omega)
    unfold hX9_within_7
    rw [qzin (show a < 6 by omega) (by omega), qchk, qzn (by omega), e44, if_pos ((nI_leI (by omega) (by omega)).mpr (by omega))]
    exact ⟨_, rfl, fun q hq => ⟨fun z => Or.inl z, fun z => z.elim id (fun ⟨j, w⟩ => by omega)⟩⟩
  | succ d ih =>
    intro fu k acc h1 h2 h3
    obtain ⟨fu, rfl⟩ := Nat.exists_eq_succ_of_ne_zero (show fu ≠ 0 by omega)
    have hk : k < N := by omega
    obtain ⟨b1, b2⟩ := ho.2.1 k hk
    have ne := (iw_t b2).1
    have hle := (gH_le hG ha b1 (iw_t b2).2).2
    obtain ⟨w1, w2, w3⟩ := (hW.2 a ha).2.2.1 (f k) b1 b2
    unfold hX9_within_7
    rw [qzin (show a < 6 by omega) (by omega), qchk, qzn (by omega), e44, if_neg (nI_ge hk (by omega)), x_6, x_in6 (by omega) (by omega), qchk, x_zn6 (by omega) (by omega), e43 k hk, x_6, x_in6 (by omega) (by omega), qchk, x_zn6 (by omega) (by omega), w3]
    unfold jX9_within_55
    rw [nI_add]
    by_cases cc : c < gH G s a (f k)
    · rw [if_pos ((nI_ltI (by omega) (by omega)).mpr cc)]
      obtain ⟨r, e, kk⟩ := ih fu (k + 1) (acc ||| nI 0) (by omega) (by omega) (by omega)
      refine ⟨r, e, fun q hq => (kk q hq).trans ?_⟩
      rw [hb_orw hq]
      constructor
      · rintro ((z | z) | ⟨j, z1, z2⟩)
        · exact Or.inl z
        · exact absurd z (hb_0 hq)
        · exact Or.inr ⟨j, by omega, z2⟩
      · rintro (z | ⟨j, z1, z2, z3, z4⟩)
        · exact Or.inl (Or.inl z)
        · refine Or.inr ⟨j, ?_, z2, z3, z4⟩
          by_cases w : j = k
          · subst w; omega
          · omega
    · rw [if_neg (fun z => cc ((nI_ltI (by omega) (by omega)).mp z))]
      obtain ⟨r, e, kk⟩ := ih fu (k + 1) (acc ||| (nI 1 <<< (nI (f k) &&& 31))) (by omega) (by omega) (by omega)
      refine ⟨r, e, fun q hq => (kk q hq).trans ?_⟩
      rw [hb_or (by omega) hq]
      constructor
      · rintro ((z | z) | ⟨j, z1, z2⟩)
        · exact Or.inl z
        · exact Or.inr ⟨k, Nat.le_refl _, hk, z.symm, by omega⟩
        · exact Or.inr ⟨j, by omega, z2⟩
      · rintro (z | ⟨j, z1, z2, z3, z4⟩)
        · exact Or.inl (Or.inl z)
        · by_cases w : j = k
          · subst w; exact Or.inl (Or.inr z3.symm)
          · exact Or.inr ⟨j, by omega, z2, z3, z4⟩
theorem y_reach (F : Nat) (h : wR lo s l m T X Y) (hG : gOK G s) (hY : wY G s Y) {a c : Nat} (ha : a < s) (hc : c ≤ 5) : ∀ (d fu j : Nat) (acc : Int32), s - j = d → j ≤ s → d < fu → ∃ r, hX12_reachOf_7 F fu (nI a) (nI c) acc (nI j) Y = some r ∧ ∀ q, q < 32 → (hb r q ↔ hb acc q ∨ (j ≤ q ∧ q < s ∧ iw G s a q = true ∧ gH G s a q ≤ c)) := by
  have hs := h.hs
  intro d
  induction d with
  | zero =>
    intro fu j acc h1 h2 h3
    obtain ⟨fu, rfl⟩ := Nat.exists_eq_succ_of_ne_zero (show fu ≠ 0 by omega)
    unfold hX12_reachOf_7
    rw [h.nn, h.nodes, if_pos ((nI_leI (by omega) (by omega)).mpr (by omega))]
    exact ⟨_, rfl, fun q hq => ⟨fun z => Or.inl z, fun z => z.elim id (fun w => by omega)⟩⟩
  | succ d ih =>
    intro fu j acc h1 h2 h3
    obtain ⟨fu, rfl⟩ := Nat.exists_eq_succ_of_ne_zero (show fu ≠ 0 by omega)
    have hj : j < s := by omega
    obtain ⟨k7, k8, k9⟩ := hY a j ha hj
    unfold hX12_reachOf_7
    rw [h.nn, h.nodes, if_neg (nI_ge hj (by omega)), y_isWay hG (by omega) (by omega) k7, qbd]
    unfold jX12_reachOf_49 jX12_reachOf_50
    rw [nI_add]
    have no : ¬ (iw G s a j = true ∧ gH G s a j ≤ c) → ∃ r, hX12_reachOf_7 F fu (nI a) (nI c) (acc ||| nI 0) (nI (j + 1)) Y = some r ∧ ∀ q, q < 32 → (hb r q ↔ hb acc q ∨ (j ≤ q ∧ q < s ∧ iw G s a q = true ∧ gH G s a q ≤ c)) := fun cn => by
      obtain ⟨r, e, k⟩ := ih fu (j + 1) (acc ||| nI 0) (by omega) (by omega) (by omega)
      refine ⟨r, e, fun q hq => (k q hq).trans ?_⟩
      rw [hb_orw hq]
      constructor
      · rintro ((z | z) | ⟨z1, z2⟩)
        · exact Or.inl z
        · exact absurd z (hb_0 hq)
        · exact Or.inr ⟨by omega, z2⟩
      · rintro (z | ⟨z1, z2, z3⟩)
        · exact Or.inl (Or.inl z)
        · refine Or.inr ⟨?_, z2, z3⟩
          by_cases w : q = j
          · subst w; exact absurd z3 cn
          · omega
    by_cases ci : iw G s a j = true
    · have hle := (gH_le hG ha hj (iw_t ci).2).2
      rw [if_pos ci] at k9
      rw [if_pos ci, if_neg (show ¬ nI 1 = 0 by decide), a_6, qzin (by omega) (by omega), qchk, qzn (by omega), k9]
      by_cases cc : c < gH G s a j
      · rw [if_pos ((nI_ltI (by omega) (by omega)).mpr cc)]
        exact no (fun z => by omega)
      · rw [if_neg (fun z => cc ((nI_ltI (by omega) (by omega)).mp z))]
        obtain ⟨r, e, k⟩ := ih fu (j + 1) (acc ||| (nI 1 <<< (nI j &&& 31))) (by omega) (by omega) (by omega)
        refine ⟨r, e, fun q hq => (k q hq).trans ?_⟩
        rw [hb_or (by omega) hq]
        constructor
        · rintro ((z | z) | ⟨z1, z2⟩)
          · exact Or.inl z
          · subst z; exact Or.inr ⟨Nat.le_refl _, by omega, ci, by omega⟩
          · exact Or.inr ⟨by omega, z2⟩
        · rintro (z | ⟨z1, z2, z3⟩)
          · exact Or.inl (Or.inl z)
          · by_cases w : q = j
            · exact Or.inl (Or.inr w)
            · exact Or.inr ⟨by omega, z2, z3⟩
    · rw [if_neg ci, if_pos (show nI 0 = 0 from rfl)]
      exact no (fun z => ci z.1)
theorem r_reach (F : Nat) (hF : 300 ≤ F) (h : wR lo s l m T X Y) (hG : gOK G s) (hW : wC G s X) (hY : wY G s Y) {a c : Nat} (ha : a < s) (hc : c ≤ 5) : ∃ r, eX9_within F (nI a) (nI c) X = some r ∧ eX12_reachOf F (nI a) (nI c) Y = some r ∧ ∀ q, q < 32 → (hb r q ↔ q = a ∨ (q < s ∧ iw G s a q = true ∧ gH G s a q ≤ c)) := by
  have hs := h.hs
  obtain ⟨-, -, -, -, N, f, ho, e44, e43⟩ := hW.2 a ha
  have hN := ho.1
  obtain ⟨r1, e1, k1⟩ := x_within F hG hW ha hc ho e44 e43 N F 0 (nI 1 <<< (nI a &&& 31)) rfl (Nat.zero_le _) (by omega)
  obtain ⟨r2, e2, k2⟩ := y_reach F h hG hY ha hc s F 0 (nI 1 <<< (nI a &&& 31)) rfl (Nat.zero_le _) (by omega)
  have h1 : ∀ q, q < 32 → (hb (nI 1 <<< (nI a &&& 31)) q ↔ q = a) := fun q hq => by
    rw [hb_bt hq, hb_1shl (by omega) hq]; simp
  have kk : ∀ q, q < 32 → (hb r2 q ↔ q = a ∨ (q < s ∧ iw G s a q = true ∧ gH G s a q ≤ c)) := fun q hq => by
    rw [k2 q hq, h1 q hq]
    exact ⟨fun z => z.imp id (fun w => w.2), fun z => z.imp id (fun w => ⟨Nat.zero_le _, w⟩)⟩
  have er : r1 = r2 := hb_ext fun q hq => by
    rw [kk q hq, k1 q hq, h1 q hq]
    constructor
    · rintro (z | ⟨j, z1, z2, rfl, z4⟩)
      · exact Or.inl z
      · exact Or.inr ⟨(ho.2.1 j z2).1, (ho.2.1 j z2).2, z4⟩
    · rintro (z | ⟨z1, z2, z3⟩)
      · exact Or.inl z
      · obtain ⟨k, w1, w2⟩ := ho.2.2.2 q z1 z2
        exact Or.inr ⟨k, Nat.zero_le _, w1, w2, by rw [w2]; exact z3⟩
  subst er
  exact ⟨r1, e1, e2, kk⟩
end NR
section F9
variable {T : Nat} {μ : zM}
theorem f_near (F : Nat) (hF : 300 ≤ F) (h : INV T μ) (x0 x1 : Int32) : ∃ res, eX11_near F x0 x1 μ = some (res, μ) ∧ okR T μ res [eIO] (eX12_near F x0 x1 (μ 1)) := by
  obtain ⟨s, l, nx, m, Z, hw, hW, hK⟩ := h.2.2.2.1
  have hs := hw.hs
  have hl := hw.hl
  have hm := hw.hm
  have hw0 := hw.row (Y' := zw (μ 1) 0 0 (nI 0)) (r_0 _)
  have hG := r_G hw
  unfold eX11_near eX12_near
  rw [hw.nodes, zg_id]
  rcases rg_cases x0 (N := s) (by omega) with ⟨n, hn, rfl⟩ | hx
  · rw [if_neg (rg_in hn (by omega))]
    rcases rg_cases x1 (N := 12) (by omega) with ⟨p, hp, rfl⟩ | hy
    · have n6 : n < 6 := by omega
      obtain ⟨Y', e, w⟩ := r_lays F hF hw
      have hw' := hw.row (Y' := Y') w.r1
      rw [if_neg (rg_in hp (by omega)), y_nnp1 hw hn hp, qbd, if_pos q00]
      dsimp only
      rw [e, qbd]
      obtain ⟨b, e1, k⟩ := r_holdB F hw' (nI p) s F 0 (nI 0) rfl (Nat.zero_le _) (by omega)
      obtain ⟨r, e2, e3⟩ := r_near F hw' hG hW w.2 (p := nI p) (bits := b) (fun q hq => (k q hq).trans ⟨fun z => z.elim (fun y => absurd y (hb_0 hq)) (fun y => y.2), fun z => Or.inr ⟨Nat.zero_le _, z⟩⟩) hn s F F 0 (-1) rfl (Nat.zero_le _) (by omega) (by omega) (Or.inl rfl)
      unfold eX4_holdersOf eX9_nearest
      have e2' : hX9_nearest_5 F F (nI n) b (-1) (nI 0) (μ 4) = _ := e2
      have e3' : hX12_near_20 F F (nI n) (nI p) (-1) (nI 0) Y' = _ := e3
      have e1' : hX4_holdersOf_4 F F (nI p) (nI 0) (nI 0) (μ 4) = _ := e1
      rw [e1', qbd, e2', qbd, e3']
      exact ⟨_, rfl, okR_val h w.st w.r1 w.z _ _⟩
    · rw [if_pos hy, y_nnp2 hw (Or.inr hy), qbd, if_neg q11]
      exact ⟨_, rfl, okR_thr h (st_00 _ _) (r_00 _ _) 0 rfl (zw_at _ _ _ _) _⟩
  · rw [if_pos hx, y_nnp2 hw (Or.inl hx), qbd, if_neg q11]
    exact ⟨_, rfl, okR_thr h (st_00 _ _) (r_00 _ _) 0 rfl (zw_at _ _ _ _) _⟩
theorem r_far (F : Nat) (hF : 300 ≤ F) {s l m : Nat} {lo : Nat × (Nat → Int32)} {t : Nat × Nat} {Y : zX} {G : gT} (h : wR lo s l m t (μ 4) Y) (hG : gOK G s) (hW : wC G s (μ 4)) (hY : wY G s Y) {n : Nat} (hn : n < s) {p hd : Int32} (e : eX12_holdersOf F p Y = some hd) : ∀ (d fu fu' j : Nat), 6 - j = d → j ≤ 6 → d < fu → d < fu' → ∃ r, hX11_far_24 F fu (nI n) hd (nI j) μ = some (.inl r, μ) ∧ hX12_far_17 F fu' (nI n) p (nI j) Y = some (r, Y) := by
  intro d
  induction d with
  | zero =>
    intro fu fu' j h1 h2 h3 h4
    obtain ⟨fu, rfl⟩ := Nat.exists_eq_succ_of_ne_zero (show fu ≠ 0 by omega)
    obtain ⟨fu', rfl⟩ := Nat.exists_eq_succ_of_ne_zero (show fu' ≠ 0 by omega)
    have : j = 6 := by omega
    subst this
    unfold hX11_far_24 hX12_far_17 jX12_far_43
    rw [if_pos (by decide), if_pos (by decide), if_neg (by decide)]
    exact ⟨_, rfl, rfl⟩
  | succ d ih =>
    intro fu fu' j h1 h2 h3 h4
    obtain ⟨fu, rfl⟩ := Nat.exists_eq_succ_of_ne_zero (show fu ≠ 0 by omega)
    obtain ⟨fu', rfl⟩ := Nat.exists_eq_succ_of_ne_zero (show fu' ≠ 0 by omega)
    obtain ⟨r, e1, e2, -⟩ := r_reach F hF h hG hW hY hn (c := j) (by omega)
    unfold hX11_far_24 hX12_far_17 jX12_far_43
    rw [if_neg (nI_nlt (by omega) (by omega)), if_neg (nI_nlt (by omega) (by omega)), e1, e2, e, qbd, qbd, qbd, nI_add, zg_id]
    by_cases c : r &&& hd = 0
    · rw [if_pos c, if_pos c]
      exact ih fu fu' (j + 1) (by omega) (by omega) (by omega) (by omega)
    · rw [if_neg c, if_neg c, if_pos ((nI_leI (by omega) (by omega)).mpr (by omega))]
      exact ⟨_, rfl, rfl⟩
theorem f_far (F : Nat) (hF : 300 ≤ F) (h : INV T μ) (x0 x1 : Int32) : ∃ res, eX11_far F x0 x1 μ = some (res, μ) ∧ okR T μ res [eIO] (eX12_far F x0 x1 (μ 1)) := by
  obtain ⟨s, l, nx, m, Z, hw, hW, hK⟩ := h.2.2.2.1
  have hs := hw.hs
  have hl := hw.hl
  have hm := hw.hm
  have hw0 := hw.row (Y' := zw (μ 1) 0 0 (nI 0)) (r_0 _)
  have hG := r_G hw
  unfold eX11_far eX12_far
  rw [hw.nodes, zg_id]
  rcases rg_cases x0 (N := s) (by omega) with ⟨n, hn, rfl⟩ | hx
  · rw [if_neg (rg_in hn (by omega))]
    rcases rg_cases x1 (N := 12) (by omega) with ⟨p, hp, rfl⟩ | hy
    · have n6 : n < 6 := by omega
      obtain ⟨Y', e, w⟩ := r_lays F hF hw
      have hw' := hw.row (Y' := Y') w.r1
      rw [if_neg (rg_in hp (by omega)), y_nnp1 hw hn hp, qbd, if_pos q00]
      dsimp only
      rw [e, qbd]
      obtain ⟨b, e1, e2⟩ := r_holders F hw' (nI p) s F F 0 (nI 0) rfl (Nat.zero_le _) (by omega) (by omega)
      have e2' : eX12_holdersOf F (nI p) Y' = some b := e2
      have e1' : eX4_holdersOf F (nI p) (μ 4) = some b := e1
      obtain ⟨r, e3, e4⟩ := r_far F hF hw' hG hW w.2 hn e2' 6 F F 0 rfl (Nat.zero_le _) (by omega) (by omega)
      have e3' : hX11_far_24 F F (nI n) b (nI 0) μ = _ := e3
      have e4' : hX12_far_17 F F (nI n) (nI p) (nI 0) Y' = _ := e4
      rw [e1', qbd, e3', e4']
      exact ⟨_, rfl, okR_val h w.st w.r1 w.z _ _⟩
    · rw [if_pos hy, y_nnp2 hw (Or.inr hy), qbd, if_neg q11]
      exact ⟨_, rfl, okR_thr h (st_00 _ _) (r_00 _ _) 0 rfl (zw_at _ _ _ _) _⟩
  · rw [if_pos hx, y_nnp2 hw (Or.inl hx), qbd, if_neg q11]
    exact ⟨_, rfl, okR_thr h (st_00 _ _) (r_00 _ _) 0 rfl (zw_at _ _ _ _) _⟩
theorem f_reach (F : Nat) (hF : 300 ≤ F) (h : INV T μ) (x0 x1 : Int32) : ∃ res, eX11_reach F x0 x1 μ = some (res, μ) ∧ okR T μ res [eIO, eIA] (eX12_reach F x0 x1 (μ 1)) := by
  obtain ⟨s, l, nx, m, Z, hw, hW, hK⟩ := h.2.2.2.1
  have hs := hw.hs
  have hl := hw.hl
  have hm := hw.hm
  have hw0 := hw.row (Y' := zw (μ 1) 0 0 (nI 0)) (r_0 _)
  have hG := r_G hw
  unfold eX11_reach eX12_reach
  rw [hw.nodes, zg_id]
  rcases rg_cases x0 (N := s) (by omega) with ⟨n, hn, rfl⟩ | hx
  · rw [if_neg (rg_in hn (by omega)), y_noNode1 hw0 hn, qbd, y_thr0, qbd, if_pos q00]
    dsimp only
    unfold jX12_reach_33
    rcases rg_sw x1 (N := 5) (by decide) with ⟨k, hk, rfl⟩ | ⟨hx1, hx2⟩
    · have c1 : (¬ (nI k < nI 0)) ∧ ¬ (nI 5 < nI k) := ⟨nI_pos (by omega), nI_nlt (by omega) (by omega)⟩
      obtain ⟨Y', e, w⟩ := r_lays F hF hw
      obtain ⟨r, e1, e2, -⟩ := r_reach F hF (hw.row (Y' := Y') w.r1) hG hW w.2 hn hk
      rw [if_neg (fun z => z.elim c1.1 c1.2), if_pos c1, y_thr0, qbd, if_pos q00]
      dsimp only
      rw [e, qbd, e1, e2, qbd, qbd]
      exact ⟨_, rfl, okR_val h w.st w.r1 w.z _ _⟩
    · have c1 : x1 < 0 ∨ nI 5 < x1 := Decidable.byContradiction fun z => hx1 ⟨fun y => z (Or.inl y), fun y => z (Or.inr y)⟩
      rw [if_pos c1, if_neg hx1, y_thr1, qbd, if_neg q11]
      exact ⟨_, rfl, okR_thr h (st_00 _ _) (r_00 _ _) 1 rfl (zw_at _ _ _ _) _⟩
  · rw [if_pos hx, y_noNode2 hw0 hx, qbd, y_thr1, qbd, if_neg q11]
    exact ⟨_, rfl, okR_thr h (st_00 _ _) (r_00 _ _) 0 rfl (zw_at _ _ _ _) _⟩
end F9
