/-! loops over nodes and packets, read between calls -/
section F4
variable {lo : Nat × (Nat → Int32)} {s l m : Nat} {T : Nat × Nat} {X Y : zX}
theorem r_hold1 (h : wR lo s l m T X Y) {n : Nat} (hn : n < s) {p : Int32} (c : ((X 3 1 >>> (nI n &&& 31)) &&& nI 1) = nI 1) (c2 : ((X 9 n >>> (p &&& 31)) &&& nI 1) = nI 1) : eX12_isHolder (nI n) p Y = some (nI 1) := by
  unfold eX12_isHolder
  rw [r_isUp h hn, qbd, if_neg (zB_n0.mpr c), r_has h hn, qbd, if_neg (zB_n0.mpr c2)]
theorem r_hold0 (h : wR lo s l m T X Y) {n : Nat} (hn : n < s) {p : Int32} (c : ¬ (((X 3 1 >>> (nI n &&& 31)) &&& nI 1) = nI 1 ∧ ((X 9 n >>> (p &&& 31)) &&& nI 1) = nI 1)) : eX12_isHolder (nI n) p Y = some (nI 0) := by
  unfold eX12_isHolder
  rw [r_isUp h hn, qbd]
  by_cases c1 : ((X 3 1 >>> (nI n &&& 31)) &&& nI 1) = nI 1
  · rw [if_neg (zB_n0.mpr c1), r_has h hn, qbd, if_pos (zB_0.mpr (fun z => c ⟨c1, z⟩))]
  · rw [if_pos (zB_0.mpr c1)]
theorem r_holders (F : Nat) (h : wR lo s l m T X Y) (p : Int32) : ∀ (d fu fu' j : Nat) (acc : Int32), s - j = d → j ≤ s → d < fu → d < fu' → ∃ r, hX4_holdersOf_4 F fu p acc (nI j) X = some r ∧ hX12_holdersOf_4 F fu' p acc (nI j) Y = some r := by
  have hs := h.hs
  intro d
  induction d with
  | zero =>
    intro fu fu' j acc h1 h2 h3 h4
    obtain ⟨fu, rfl⟩ := Nat.exists_eq_succ_of_ne_zero (show fu ≠ 0 by omega)
    obtain ⟨fu', rfl⟩ := Nat.exists_eq_succ_of_ne_zero (show fu' ≠ 0 by omega)
    have ej : j = s := by omega
    subst ej
    unfold hX4_holdersOf_4 hX12_holdersOf_4
    rw [h.nodes, h.nn, h.nodes, if_pos (show nI j ≤ nI j from (nI_leI (by omega) (by omega)).mpr (Nat.le_refl _)), if_pos (show nI j ≤ nI j from (nI_leI (by omega) (by omega)).mpr (Nat.le_refl _))]
    exact ⟨_, rfl, rfl⟩
  | succ d ih =>
    intro fu fu' j acc h1 h2 h3 h4
    obtain ⟨fu, rfl⟩ := Nat.exists_eq_succ_of_ne_zero (show fu ≠ 0 by omega)
    obtain ⟨fu', rfl⟩ := Nat.exists_eq_succ_of_ne_zero (show fu' ≠ 0 by omega)
    have hj : j < s := by omega
    unfold hX4_holdersOf_4 hX12_holdersOf_4
    rw [h.nodes, h.nn, h.nodes, if_neg (nI_ge hj (by omega)), if_neg (nI_ge hj (by omega)), x_hasP X (by omega) p, qbd]
    unfold jX4_holdersOf_36 jX4_holdersOf_37 jX12_holdersOf_29
    rw [nI_add]
    by_cases c : ((X 3 1 >>> (nI j &&& 31)) &&& nI 1) = nI 1
    · rw [if_pos c]
      by_cases c2 : ((X 9 j >>> (p &&& 31)) &&& nI 1) = nI 1
      · rw [if_neg (zB_n0.mpr c2), r_hold1 h hj c c2, qbd, if_neg (show ¬ nI 1 = 0 by decide)]
        exact ih fu fu' (j + 1) _ (by omega) (by omega) (by omega) (by omega)
      · rw [if_pos (zB_0.mpr c2), r_hold0 h hj (fun z => c2 z.2), qbd, if_pos (show nI 0 = 0 from rfl)]
        exact ih fu fu' (j + 1) _ (by omega) (by omega) (by omega) (by omega)
    · rw [if_neg c, r_hold0 h hj (fun z => c z.1), qbd, if_pos (show nI 0 = 0 from rfl)]
      exact ih fu fu' (j + 1) _ (by omega) (by omega) (by omega) (by omega)
theorem r_blind (F : Nat) (h : wR lo s l m T X Y) {n : Nat} (hn : n < s) : ∀ (d fu j : Nat) (acc : Int32), T.2 - j = d → j ≤ T.2 → d < fu → ∃ r, hX12_blind_31 F fu (nI n) acc (nI j) Y = some (r, Y) ∧ ∀ q, q < 32 → (hb r q ↔ hb acc q ∨ (j ≤ q ∧ q < T.2 ∧ ¬ hb (X 9 n) q)) := by
  have hs := h.hs
  obtain ⟨-, ht, en⟩ := h.1.2.1
  intro d
  induction d with
  | zero =>
    intro fu j acc h1 h2 h3
    obtain ⟨fu, rfl⟩ := Nat.exists_eq_succ_of_ne_zero (show fu ≠ 0 by omega)
    unfold hX12_blind_31
    rw [h.next, en, if_pos ((nI_leI (by omega) (by omega)).mpr (by omega))]
    exact ⟨_, rfl, fun q hq => ⟨fun z => Or.inl z, fun z => z.elim id (fun w => by omega)⟩⟩
  | succ d ih =>
    intro fu j acc h1 h2 h3
    obtain ⟨fu, rfl⟩ := Nat.exists_eq_succ_of_ne_zero (show fu ≠ 0 by omega)
    unfold hX12_blind_31
    rw [h.next, en, if_neg (nI_ge (by omega) (by omega)), r_has h hn, qbd]
    unfold jX12_blind_58
    rw [nI_add]
    by_cases c : hb (X 9 n) j
    · rw [if_neg (show ¬ zB (((X 9 n >>> (nI j &&& 31)) &&& nI 1) = nI 1) = 0 from zB_n0.mpr c)]
      obtain ⟨r, e, k⟩ := ih fu (j + 1) (acc ||| nI 0) (by omega) (by omega) (by omega)
      refine ⟨r, e, fun q hq => (k q hq).trans ?_⟩
      rw [hb_orw hq]
      constructor
      · rintro ((z | z) | ⟨z1, z2⟩)
        · exact Or.inl z
        · exact absurd z (hb_0 hq)
        · exact Or.inr ⟨by omega, z2⟩
      · rintro (z | ⟨z1, z2, z3⟩)
        · exact Or.inl (Or.inl z)
        · refine Or.inr ⟨?_, z2, z3⟩
          by_cases w : q = j
          · subst w; exact absurd c z3
          · omega
    · rw [if_pos (show zB (((X 9 n >>> (nI j &&& 31)) &&& nI 1) = nI 1) = 0 from zB_0.mpr c)]
      obtain ⟨r, e, k⟩ := ih fu (j + 1) (acc ||| (nI 1 <<< (nI j &&& 31))) (by omega) (by omega) (by omega)
      refine ⟨r, e, fun q hq => (k q hq).trans ?_⟩
      rw [hb_or (by omega) hq]
      constructor
      · rintro ((z | z) | ⟨z1, z2⟩)
        · exact Or.inl z
        · subst z; exact Or.inr ⟨Nat.le_refl _, by omega, c⟩
        · exact Or.inr ⟨by omega, z2⟩
      · rintro (z | ⟨z1, z2, z3⟩)
        · exact Or.inl (Or.inl z)
        · by_cases w : q = j
          · exact Or.inl (Or.inr w)
          · exact Or.inr ⟨by omega, z2, z3⟩
end F4
section F5
variable {T : Nat} {μ : zM}
theorem r_first (F : Nat) {s l m : Nat} {lo : Nat × (Nat → Int32)} {t : Nat × Nat} {Y : zX} (h : wR lo s l m t (μ 4) Y) {p : Nat} (hp : p < 12) : ∀ (d fu fu' j : Nat) (a b : Int32), s - j = d → j ≤ s → d < fu → d < fu' → (a = -1 ∨ ∃ o, o < s ∧ a = nI o ∧ b = (μ 4) 21 (o * 12 + p)) → ∃ r, hX11_first_11 F fu (nI p) a b (nI j) μ = some (.inl r, μ) ∧ hX12_first_23 F fu' (nI p) a (nI j) Y = some (r, Y) := by
  have hs := h.hs
  intro d
  induction d with
  | zero =>
    intro fu fu' j a b h1 h2 h3 h4 hab
    obtain ⟨fu, rfl⟩ := Nat.exists_eq_succ_of_ne_zero (show fu ≠ 0 by omega)
    obtain ⟨fu', rfl⟩ := Nat.exists_eq_succ_of_ne_zero (show fu' ≠ 0 by omega)
    unfold hX11_first_11 hX12_first_23
    rw [h.nodes, h.nn, h.nodes, if_pos ((nI_leI (by omega) (by omega)).mpr (by omega)), if_pos ((nI_leI (by omega) (by omega)).mpr (by omega)), zg_id]
    exact ⟨_, rfl, rfl⟩
  | succ d ih =>
    intro fu fu' j a b h1 h2 h3 h4 hab
    obtain ⟨fu, rfl⟩ := Nat.exists_eq_succ_of_ne_zero (show fu ≠ 0 by omega)
    obtain ⟨fu', rfl⟩ := Nat.exists_eq_succ_of_ne_zero (show fu' ≠ 0 by omega)
    have hj : j < s := by omega
    have h6 : j < 6 := by omega
    unfold hX11_first_11 hX12_first_23
    rw [h.nodes, h.nn, h.nodes, if_neg (nI_ge hj (by omega)), if_neg (nI_ge hj (by omega)), x_ix, x_in h6 hp, qchk, x_zn h6 hp, y_pk _ h6 hp (by decide), qbd, r_isUp h hj, qbd, h.ask hj hp, zg_id, nI_add]
    unfold jX11_first_77 jX12_first_71
    rw [nI_add]
    have K := fun a' b' => ih fu fu' (j + 1) a' b' (by omega) (by omega) (by omega) (by omega)
    by_cases c1 : (μ 4) 21 (j * 12 + p) = -1
    · rw [if_pos c1, if_pos c1, ite_self]
      exact K a b hab
    · rw [if_neg c1, if_neg c1]
      by_cases c2 : (((μ 4) 3 1 >>> (nI j &&& 31)) &&& nI 1) = nI 1
      · rw [if_pos c2, if_neg (zB_n0.mpr c2)]
        by_cases c3 : a = -1
        · rw [if_pos c3, if_pos c3]
          exact K _ _ (Or.inr ⟨j, hj, rfl, rfl⟩)
        · rw [if_neg c3, if_neg c3]
          obtain ⟨o, ho, rfl, rfl⟩ := hab.resolve_left c3
          rw [y_pk _ (by omega) hp (by decide), qbd, h.ask ho hp]
          by_cases c4 : (μ 4) 21 (o * 12 + p) ≤ (μ 4) 21 (j * 12 + p)
          · rw [if_pos c4, if_pos c4]
            exact K _ _ hab
          · rw [if_neg c4, if_neg c4]
            exact K _ _ (Or.inr ⟨j, hj, rfl, rfl⟩)
      · rw [if_neg c2, if_pos (zB_0.mpr c2)]
        exact K a b hab
theorem f_holders (F : Nat) (hF : 300 ≤ F) (h : INV T μ) (x0 : Int32) : ∃ res, eX11_holders F x0 μ = some (res, μ) ∧ okR T μ res [eIO] (eX12_holders F x0 (μ 1)) := by
  obtain ⟨s, l, nx, m, Z, hw, hW, hK⟩ := h.2.2.2.1
  have hs := hw.hs
  have hl := hw.hl
  have hm := hw.hm
  have hw0 := hw.row (Y' := zw (μ 1) 0 0 (nI 0)) (r_0 _)
  unfold eX11_holders eX12_holders
  rw [zg_id]
  rcases rg_cases x0 (N := 12) (by omega) with ⟨p, hp, rfl⟩ | hx
  · rw [if_neg (rg_in hp (by omega)), y_nR hp, y_thr0, qbd, if_pos q00]
    dsimp only
    obtain ⟨r, e1, e2⟩ := r_holders F hw0 (nI p) s F F 0 (nI 0) rfl (Nat.zero_le _) (by omega) (by omega)
    unfold eX4_holdersOf eX12_holdersOf
    rw [e1, e2, qbd, qbd]
    exact ⟨_, rfl, okR_val h (st_0 _) (r_0 _) (zw_at _ _ _ _) _ _⟩
  · rw [if_pos hx, y_oR hx, y_thr1, qbd, if_neg q11]
    exact ⟨_, rfl, okR_thr h (st_00 _ _) (r_00 _ _) 0 rfl (zw_at _ _ _ _) _⟩
theorem f_first (F : Nat) (hF : 300 ≤ F) (h : INV T μ) (x0 : Int32) : ∃ res, eX11_first F x0 μ = some (res, μ) ∧ okR T μ res [eIO] (eX12_first F x0 (μ 1)) := by
  obtain ⟨s, l, nx, m, Z, hw, hW, hK⟩ := h.2.2.2.1
  have hs := hw.hs
  have hl := hw.hl
  have hm := hw.hm
  have hw0 := hw.row (Y' := zw (μ 1) 0 0 (nI 0)) (r_0 _)
  unfold eX11_first eX12_first
  rcases rg_cases x0 (N := 12) (by omega) with ⟨p, hp, rfl⟩ | hx
  · rw [if_neg (rg_in hp (by omega)), y_nR hp, y_thr0, qbd, if_pos q00]
    dsimp only
    obtain ⟨r, e1, e2⟩ := r_first F hw0 hp s F F 0 (-1) (-1) rfl (Nat.zero_le _) (by omega) (by omega) (Or.inl rfl)
    have e1' : hX11_first_11 F F (nI p) (-1) (-1) (nI 0) μ = _ := e1
    rw [e1', e2]
    exact ⟨_, rfl, okR_val h (st_0 _) (r_0 _) (zw_at _ _ _ _) _ _⟩
  · rw [if_pos hx, y_oR hx, y_thr1, qbd, if_neg q11]
    exact ⟨_, rfl, okR_thr h (st_00 _ _) (r_00 _ _) 0 rfl (zw_at _ _ _ _) _⟩
theorem f_blind (F : Nat) (hF : 300 ≤ F) (h : INV T μ) (x0 : Int32) : ∃ res, eX11_blind x0 μ = some (res, μ) ∧ okR T μ res [eIO] (eX12_blind F x0 (μ 1)) := by
  obtain ⟨s, l, nx, m, Z, hw, hW, hK⟩ := h.2.2.2.1
  have hs := hw.hs
  have hl := hw.hl
  have hm := hw.hm
  have hw0 := hw.row (Y' := zw (μ 1) 0 0 (nI 0)) (r_0 _)
  unfold eX11_blind eX12_blind
  rw [hw.nodes, zg_id]
  rcases rg_cases x0 (N := s) (by omega) with ⟨n, hn, rfl⟩ | hx
  · have n6 : n < 6 := by omega
    rw [if_neg (rg_in hn (by omega)), y_noNode1 hw0 hn, qbd, y_thr0, qbd, if_pos q00]
    dsimp only
    obtain ⟨-, ht, en⟩ := hw0.1.2.1
    dsimp only at ht en
    obtain ⟨g1, g2, -⟩ := (hw0.1.2.2.2.1 n hn).2
    have eh : ∃ k, k ≤ nx ∧ (μ 4) 10 n + nI 1 = nI k := by
      refine ⟨((μ 4) 10 n).toInt.toNat + (if ((μ 4) 10 n).toInt = -1 then 0 else 1), ?_, ?_⟩
      · split <;> omega
      · apply Int32.toInt_inj.mp
        rw [Int32.toInt_add, i_1, nI_toInt (by split <;> omega)]
        split <;> rename_i w
        · rw [w]; rfl
        · rw [Int.bmod_def]; split <;> omega
    obtain ⟨k, hk, ek⟩ := eh
    rw [y_of _ n6 (by decide), qbd, hw0.heard hn, qzin n6 (by omega), qchk, qchk, qzn (by omega), ek]
    obtain ⟨r, e, kk⟩ := r_blind F hw0 hn (nx - k) F k (nI 0) rfl hk (by omega)
    rw [e]
    have er : (((nI 1) <<< (((μ 4) 0 9) &&& 31)) - nI 1) &&& ((((nI 1 <<< (nI k &&& 31)) - nI 1) ||| (μ 4) 9 n) ^^^ (-1)) = r := by
      rw [en]
      refine hb_ext fun q hq => ?_
      rw [kk q hq, hb_andw hq, hb_not hq, hb_orw hq, hb_bel (by omega) hq, hb_bel (by omega) hq]
      constructor
      · rintro ⟨z1, z2⟩
        refine Or.inr ⟨?_, z1, fun z => z2 (Or.inr z)⟩
        rcases Nat.lt_or_ge q k with z | z
        · exact absurd (Or.inl z) z2
        · exact z
      · rintro (z | ⟨z1, z2, z3⟩)
        · exact absurd z (hb_0 hq)
        · exact ⟨z2, fun z => z.elim (fun w => by omega) z3⟩
    unfold zlet
    dsimp only
    rw [er]
    exact ⟨_, rfl, okR_val h (st_0 _) (r_0 _) (zw_at _ _ _ _) _ _⟩
  · rw [if_pos hx, y_noNode2 hw0 hx, qbd, y_thr1, qbd, if_neg q11]
    exact ⟨_, rfl, okR_thr h (st_00 _ _) (r_00 _ _) 0 rfl (zw_at _ _ _ _) _⟩
theorem f_log (h : INV T μ) (x0 x1 : Int32) : ∃ res, eX11_log x0 x1 μ = some (res, μ) ∧ okR T μ res [eNS] (eX12_log x0 x1 (μ 1)) := by
  obtain ⟨s, l, nx, m, Z, hw, hW, hK⟩ := h.2.2.2.1
  have hs := hw.hs
  have hl := hw.hl
  have hm := hw.hm
  have hw0 := hw.row (Y' := zw (μ 1) 0 0 (nI 0)) (r_0 _)
  unfold eX11_log eX12_log
  rw [zg_id]
  rcases rg_cases x1 (N := 4) (by omega) with ⟨w, hw4, rfl⟩ | hx
  · have c3 : (¬ (nI w < nI 0)) ∧ ¬ (nI 3 < nI w) := ⟨nI_pos (by omega), nI_nlt (by omega) (by omega)⟩
    rw [if_neg (nI_pos (by omega)), if_pos ((nI_ltI (by omega) (by omega)).mpr hw4), if_pos c3]
    unfold jX12_log_20 eX3_told
    rw [y_thr0, qbd, if_pos q00]
    dsimp only
    obtain ⟨q, t, g1, g2, g3, g4, g5⟩ := hw0.2.2.2.2.2.2.1
    simp only [hw0.logn, g3, g4]
    rcases rg_cases x0 (N := q) (by omega) with ⟨a, ha, rfl⟩ | hy
    · rw [if_neg (nI_pos (by omega)), if_neg (nI_ge ha (by omega)), if_neg (nI_pos (by omega)), if_pos ((nI_ltI (by omega) (by omega)).mpr hw4), if_pos (rg_y ha (by omega))]
      have ei : nI t - nI a + nI 60 = nI (t + 60 - a) := by
        rw [← nI_sub (show a ≤ t + 60 by omega), ← nI_add, Int32.sub_eq_add_neg, Int32.sub_eq_add_neg, Int32.add_assoc, Int32.add_assoc, Int32.add_comm (-nI a)]
      rw [ei, nI_rem (by omega) (by omega), nI_mul, nI_add, qzin (by omega) (by omega), qchk, qzn (by omega), qbd, nI_mul, nI_add, nI_add, y_in (by omega), qchk, qzn (by omega), g5 a w ha hw4]
      exact ⟨_, rfl, okR_val h (st_0 _) (r_0 _) (zw_at _ _ _ _) _ _⟩
    · rw [if_neg (rg_n (by omega) hy)]
      have e : (if x0 < 0 then (some (-1) : Option Int32) else if nI q ≤ x0 then some (-1) else if nI w < 0 then some (-1) else if nI w < nI 4 then zchk (zin (((zrem ((nI t - x0) + (nI 60)) (nI 60)) * (nI 4)) + nI w) 240) (some ((μ 4) 55 (zn (((zrem ((nI t - x0) + (nI 60)) (nI 60)) * (nI 4)) + nI w)))) else some (-1)) = some (-1) := by
        rcases hy with z | z
        · rw [if_pos z]
        · rw [if_pos z, ite_self]
      rw [e, qbd]
      exact ⟨_, rfl, okR_val h (st_0 _) (r_0 _) (zw_at _ _ _ _) _ _⟩
  · have c3 : ¬ ((¬ (x1 < nI 0)) ∧ ¬ (nI 3 < x1)) := by
      have := rg_n (N := 4) (by omega) hx
      rw [nI_sub (by omega)] at this
      exact this
    have e : ∀ {a b : Option ((Int32 ⊕ String) × zM)}, (if x1 < 0 then b else if x1 < nI 4 then a else b) = b := by
      intro a b
      rcases hx with z | z
      · rw [if_pos z]
      · rw [if_neg (show ¬ x1 < nI 4 from fun y => by rw [Int32.lt_iff_toInt_lt] at y; rw [Int32.le_iff_toInt_le] at z; omega), ite_self]
    rw [e, if_neg c3]
    unfold jX12_log_20
    rw [y_thr1, qbd, if_neg q11]
    exact ⟨_, rfl, okR_thr h (st_00 _ _) (r_00 _ _) 0 rfl (zw_at _ _ _ _) _⟩
theorem f_count (h : INV T μ) (x0 : Int32) : ∃ r, eX11_count x0 μ = some r ∧ okR T μ (.inl r) [] (eX12_count x0 (μ 1)) := by
  obtain ⟨s, l, nx, m, Z, hw, hW, hK⟩ := h.2.2.2.1
  have hs := hw.hs
  have hl := hw.hl
  have hm := hw.hm
  have hw0 := hw.row (Y' := zw (μ 1) 0 0 (nI 0)) (r_0 _)
  unfold eX11_count eX12_count
  rcases rg_sw x0 (N := 16) (by decide) with ⟨k, hk, rfl⟩ | ⟨hx1, hx2⟩
  · have : k = 0 ∨ k = 1 ∨ k = 2 ∨ k = 3 ∨ k = 4 ∨ k = 5 ∨ k = 6 ∨ k = 7 ∨ k = 8 ∨ k = 9 ∨ k = 10 ∨ k = 11 ∨ k = 12 ∨ k = 13 ∨ k = 14 ∨ k = 15 ∨ k = 16 := by omega
    rcases this with rfl | rfl | rfl | rfl | rfl | rfl | rfl | rfl | rfl | rfl | rfl | rfl | rfl | rfl | rfl | rfl | rfl
    · rw [if_pos rfl, if_pos (show (¬ (nI 0 < nI 0)) ∧ (¬ (nI 16 < nI 0)) by decide), qzin (by decide) (by decide), qchk, qzn (by decide), hw.nn]
      exact ⟨_, rfl, okR_val h (st_0 _) (r_0 _) (zw_at _ _ _ _) _ _⟩
    · rw [if_neg (show ¬ nI 1 = nI 0 by decide), if_pos rfl, if_pos (show (¬ (nI 1 < nI 0)) ∧ (¬ (nI 16 < nI 1)) by decide), qzin (by decide) (by decide), qchk, qzn (by decide), hw.ln]
      exact ⟨_, rfl, okR_val h (st_0 _) (r_0 _) (zw_at _ _ _ _) _ _⟩
    · rw [if_neg (show ¬ nI 2 = nI 0 by decide), if_neg (show ¬ nI 2 = nI 1 by decide), if_pos rfl, if_pos (show (¬ (nI 2 < nI 0)) ∧ (¬ (nI 16 < nI 2)) by decide), qzin (by decide) (by decide), qchk, qzn (by decide), hw.texts]
      exact ⟨_, rfl, okR_val h (st_0 _) (r_0 _) (zw_at _ _ _ _) _ _⟩
    · rw [if_neg (show ¬ nI 3 = nI 0 by decide), if_neg (show ¬ nI 3 = nI 1 by decide), if_neg (show ¬ nI 3 = nI 2 by decide), if_pos rfl, if_pos (show (¬ (nI 3 < nI 0)) ∧ (¬ (nI 16 < nI 3)) by decide), qzin (by decide) (by decide), qchk, qzn (by decide), hw.source]
      exact ⟨_, rfl, okR_val h (st_0 _) (r_0 _) (zw_at _ _ _ _) _ _⟩
    · rw [if_neg (show ¬ nI 4 = nI 0 by decide), if_neg (show ¬ nI 4 = nI 1 by decide), if_neg (show ¬ nI 4 = nI 2 by decide), if_neg (show ¬ nI 4 = nI 3 by decide), if_pos rfl, if_pos (show (¬ (nI 4 < nI 0)) ∧ (¬ (nI 16 < nI 4)) by decide), qzin (by decide) (by decide), qchk, qzn (by decide), hw.next]
      exact ⟨_, rfl, okR_val h (st_0 _) (r_0 _) (zw_at _ _ _ _) _ _⟩
    · rw [if_neg (show ¬ nI 5 = nI 0 by decide), if_neg (show ¬ nI 5 = nI 1 by decide), if_neg (show ¬ nI 5 = nI 2 by decide), if_neg (show ¬ nI 5 = nI 3 by decide), if_neg (show ¬ nI 5 = nI 4 by decide), if_pos rfl, if_pos (show (¬ (nI 5 < nI 0)) ∧ (¬ (nI 16 < nI 5)) by decide), qzin (by decide) (by decide), qchk, qzn (by decide), hw.scope]
      exact ⟨_, rfl, okR_val h (st_0 _) (r_0 _) (zw_at _ _ _ _) _ _⟩
    · rw [if_neg (show ¬ nI 6 = nI 0 by decide), if_neg (show ¬ nI 6 = nI 1 by decide), if_neg (show ¬ nI 6 = nI 2 by decide), if_neg (show ¬ nI 6 = nI 3 by decide), if_neg (show ¬ nI 6 = nI 4 by decide), if_neg (show ¬ nI 6 = nI 5 by decide), if_pos rfl, if_pos (show (¬ (nI 6 < nI 0)) ∧ (¬ (nI 16 < nI 6)) by decide), qzin (by decide) (by decide), qchk, qzn (by decide), hw.period]
      exact ⟨_, rfl, okR_val h (st_0 _) (r_0 _) (zw_at _ _ _ _) _ _⟩
    · rw [if_neg (show ¬ nI 7 = nI 0 by decide), if_neg (show ¬ nI 7 = nI 1 by decide), if_neg (show ¬ nI 7 = nI 2 by decide), if_neg (show ¬ nI 7 = nI 3 by decide), if_neg (show ¬ nI 7 = nI 4 by decide), if_neg (show ¬ nI 7 = nI 5 by decide), if_neg (show ¬ nI 7 = nI 6 by decide), if_pos rfl, if_pos (show (¬ (nI 7 < nI 0)) ∧ (¬ (nI 16 < nI 7)) by decide), qzin (by decide) (by decide), qchk, qzn (by decide), hw.rate]
      exact ⟨_, rfl, okR_val h (st_0 _) (r_0 _) (zw_at _ _ _ _) _ _⟩
    · rw [if_neg (show ¬ nI 8 = nI 0 by decide), if_neg (show ¬ nI 8 = nI 1 by decide), if_neg (show ¬ nI 8 = nI 2 by decide), if_neg (show ¬ nI 8 = nI 3 by decide), if_neg (show ¬ nI 8 = nI 4 by decide), if_neg (show ¬ nI 8 = nI 5 by decide), if_neg (show ¬ nI 8 = nI 6 by decide), if_neg (show ¬ nI 8 = nI 7 by decide), if_pos rfl, if_pos (show (¬ (nI 8 < nI 0)) ∧ (¬ (nI 16 < nI 8)) by decide), qzin (by decide) (by decide), qchk, qzn (by decide), hw.tc1]
      exact ⟨_, rfl, okR_val h (st_0 _) (r_0 _) (zw_at _ _ _ _) _ _⟩
    · rw [if_neg (show ¬ nI 9 = nI 0 by decide), if_neg (show ¬ nI 9 = nI 1 by decide), if_neg (show ¬ nI 9 = nI 2 by decide), if_neg (show ¬ nI 9 = nI 3 by decide), if_neg (show ¬ nI 9 = nI 4 by decide), if_neg (show ¬ nI 9 = nI 5 by decide), if_neg (show ¬ nI 9 = nI 6 by decide), if_neg (show ¬ nI 9 = nI 7 by decide), if_neg (show ¬ nI 9 = nI 8 by decide), if_pos rfl, if_pos (show (¬ (nI 9 < nI 0)) ∧ (¬ (nI 16 < nI 9)) by decide), qzin (by decide) (by decide), qchk, qzn (by decide), hw.tc2]
      exact ⟨_, rfl, okR_val h (st_0 _) (r_0 _) (zw_at _ _ _ _) _ _⟩
    · rw [if_neg (show ¬ nI 10 = nI 0 by decide), if_neg (show ¬ nI 10 = nI 1 by decide), if_neg (show ¬ nI 10 = nI 2 by decide), if_neg (show ¬ nI 10 = nI 3 by decide), if_neg (show ¬ nI 10 = nI 4 by decide), if_neg (show ¬ nI 10 = nI 5 by decide), if_neg (show ¬ nI 10 = nI 6 by decide), if_neg (show ¬ nI 10 = nI 7 by decide), if_neg (show ¬ nI 10 = nI 8 by decide), if_neg (show ¬ nI 10 = nI 9 by decide), if_pos rfl, if_pos (show (¬ (nI 10 < nI 0)) ∧ (¬ (nI 16 < nI 10)) by decide), qzin (by decide) (by decide), qchk, qzn (by decide), hw.td1]
      exact ⟨_, rfl, okR_val h (st_0 _) (r_0 _) (zw_at _ _ _ _) _ _⟩
    · rw [if_neg (show ¬ nI 11 = nI 0 by decide), if_neg (show ¬ nI 11 = nI 1 by decide), if_neg (show ¬ nI 11 = nI 2 by decide), if_neg (show ¬ nI 11 = nI 3 by decide), if_neg (show ¬ nI 11 = nI 4 by decide), if_neg (show ¬ nI 11 = nI 5 by decide), if_neg (show ¬ nI 11 = nI 6 by decide), if_neg (show ¬ nI 11 = nI 7 by decide), if_neg (show ¬ nI 11 = nI 8 by decide), if_neg (show ¬ nI 11 = nI 9 by decide), if_neg (show ¬ nI 11 = nI 10 by decide), if_pos rfl, if_pos (show (¬ (nI 11 < nI 0)) ∧ (¬ (nI 16 < nI 11)) by decide), qzin (by decide) (by decide), qchk, qzn (by decide), hw.td2]
      exact ⟨_, rfl, okR_val h (st_0 _) (r_0 _) (zw_at _ _ _ _) _ _⟩
    · rw [if_neg (show ¬ nI 12 = nI 0 by decide), if_neg (show ¬ nI 12 = nI 1 by decide), if_neg (show ¬ nI 12 = nI 2 by decide), if_neg (show ¬ nI 12 = nI 3 by decide), if_neg (show ¬ nI 12 = nI 4 by decide), if_neg (show ¬ nI 12 = nI 5 by decide), if_neg (show ¬ nI 12 = nI 6 by decide), if_neg (show ¬ nI 12 = nI 7 by decide), if_neg (show ¬ nI 12 = nI 8 by decide), if_neg (show ¬ nI 12 = nI 9 by decide), if_neg (show ¬ nI 12 = nI 10 by decide), if_neg (show ¬ nI 12 = nI 11 by decide), if_pos rfl, if_pos (show (¬ (nI 12 < nI 0)) ∧ (¬ (nI 16 < nI 12)) by decide), qzin (by decide) (by decide), qchk, qzn (by decide), hw.mn]
      exact ⟨_, rfl, okR_val h (st_0 _) (r_0 _) (zw_at _ _ _ _) _ _⟩
    · rw [if_neg (show ¬ nI 13 = nI 0 by decide), if_neg (show ¬ nI 13 = nI 1 by decide), if_neg (show ¬ nI 13 = nI 2 by decide), if_neg (show ¬ nI 13 = nI 3 by decide), if_neg (show ¬ nI 13 = nI 4 by decide), if_neg (show ¬ nI 13 = nI 5 by decide), if_neg (show ¬ nI 13 = nI 6 by decide), if_neg (show ¬ nI 13 = nI 7 by decide), if_neg (show ¬ nI 13 = nI 8 by decide), if_neg (show ¬ nI 13 = nI 9 by decide), if_neg (show ¬ nI 13 = nI 10 by decide), if_neg (show ¬ nI 13 = nI 11 by decide), if_neg (show ¬ nI 13 = nI 12 by decide), if_pos rfl, if_pos (show (¬ (nI 13 < nI 0)) ∧ (¬ (nI 16 < nI 13)) by decide), qzin (by decide) (by decide), qchk, qzn (by decide), hw.crowd]
      exact ⟨_, rfl, okR_val h (st_0 _) (r_0 _) (zw_at _ _ _ _) _ _⟩
    · rw [if_neg (show ¬ nI 14 = nI 0 by decide), if_neg (show ¬ nI 14 = nI 1 by decide), if_neg (show ¬ nI 14 = nI 2 by decide), if_neg (show ¬ nI 14 = nI 3 by decide), if_neg (show ¬ nI 14 = nI 4 by decide), if_neg (show ¬ nI 14 = nI 5 by decide), if_neg (show ¬ nI 14 = nI 6 by decide), if_neg (show ¬ nI 14 = nI 7 by decide), if_neg (show ¬ nI 14 = nI 8 by decide), if_neg (show ¬ nI 14 = nI 9 by decide), if_neg (show ¬ nI 14 = nI 10 by decide), if_neg (show ¬ nI 14 = nI 11 by decide), if_neg (show ¬ nI 14 = nI 12 by decide), if_neg (show ¬ nI 14 = nI 13 by decide), if_pos rfl, if_pos (show (¬ (nI 14 < nI 0)) ∧ (¬ (nI 16 < nI 14)) by decide), qzin (by decide) (by decide), qchk, qzn (by decide), hw.tick]
      exact ⟨_, rfl, okR_val h (st_0 _) (r_0 _) (zw_at _ _ _ _) _ _⟩
    · rw [if_neg (show ¬ nI 15 = nI 0 by decide), if_neg (show ¬ nI 15 = nI 1 by decide), if_neg (show ¬ nI 15 = nI 2 by decide), if_neg (show ¬ nI 15 = nI 3 by decide), if_neg (show ¬ nI 15 = nI 4 by decide), if_neg (show ¬ nI 15 = nI 5 by decide), if_neg (show ¬ nI 15 = nI 6 by decide), if_neg (show ¬ nI 15 = nI 7 by decide), if_neg (show ¬ nI 15 = nI 8 by decide), if_neg (show ¬ nI 15 = nI 9 by decide), if_neg (show ¬ nI 15 = nI 10 by decide), if_neg (show ¬ nI 15 = nI 11 by decide), if_neg (show ¬ nI 15 = nI 12 by decide), if_neg (show ¬ nI 15 = nI 13 by decide), if_neg (show ¬ nI 15 = nI 14 by decide), if_pos rfl, if_pos (show (¬ (nI 15 < nI 0)) ∧ (¬ (nI 16 < nI 15)) by decide), qzin (by decide) (by decide), qchk, qzn (by decide), hw.logn]
      exact ⟨_, rfl, okR_val h (st_0 _) (r_0 _) (zw_at _ _ _ _) _ _⟩
    · rw [if_neg (show ¬ nI 16 = nI 0 by decide), if_neg (show ¬ nI 16 = nI 1 by decide), if_neg (show ¬ nI 16 = nI 2 by decide), if_neg (show ¬ nI 16 = nI 3 by decide), if_neg (show ¬ nI 16 = nI 4 by decide), if_neg (show ¬ nI 16 = nI 5 by decide), if_neg (show ¬ nI 16 = nI 6 by decide), if_neg (show ¬ nI 16 = nI 7 by decide), if_neg (show ¬ nI 16 = nI 8 by decide), if_neg (show ¬ nI 16 = nI 9 by decide), if_neg (show ¬ nI 16 = nI 10 by decide), if_neg (show ¬ nI 16 = nI 11 by decide), if_neg (show ¬ nI 16 = nI 12 by decide), if_neg (show ¬ nI 16 = nI 13 by decide), if_neg (show ¬ nI 16 = nI 14 by decide), if_neg (show ¬ nI 16 = nI 15 by decide), if_pos rfl, if_pos (show (¬ (nI 16 < nI 0)) ∧ (¬ (nI 16 < nI 16)) by decide), qzin (by decide) (by decide), qchk, qzn (by decide), hw.alone]
      exact ⟨_, rfl, okR_val h (st_0 _) (r_0 _) (zw_at _ _ _ _) _ _⟩
  · rw [if_neg hx1, if_neg (hx2 0 (by decide)), if_neg (hx2 1 (by decide)), if_neg (hx2 2 (by decide)), if_neg (hx2 3 (by decide)), if_neg (hx2 4 (by decide)), if_neg (hx2 5 (by decide)), if_neg (hx2 6 (by decide)), if_neg (hx2 7 (by decide)), if_neg (hx2 8 (by decide)), if_neg (hx2 9 (by decide)), if_neg (hx2 10 (by decide)), if_neg (hx2 11 (by decide)), if_neg (hx2 12 (by decide)), if_neg (hx2 13 (by decide)), if_neg (hx2 14 (by decide)), if_neg (hx2 15 (by decide)), if_neg (hx2 16 (by decide))]
    exact ⟨_, rfl, okR_val h (st_0 _) (r_0 _) (zw_at _ _ _ _) _ _⟩
theorem f_fault (h : INV T μ) : ∃ r, eX11_fault μ = some r ∧ okR T μ (.inl r) [] (eX12_fault (μ 1)) := by
  unfold eX11_fault eX12_fault
  rw [h.2.1, zw_no (by decide)]
  exact ⟨_, rfl, okR_val h (st_0 _) (r_0 _) (zw_at _ _ _ _) _ _⟩
theorem f_seed (h : INV T μ) (x0 : Int32) : ∃ r μ', eX11_seed x0 μ = some (r, μ') ∧ okR T μ' (.inl r) [] (eX12_seed x0 (μ 1)) := by
  obtain ⟨s, l, nx, m, Z, hw, hW, hK⟩ := h.2.2.2.1
  have hs := hw.hs
  have hl := hw.hl
  have hm := hw.hm
  have hw0 := hw.row (Y' := zw (μ 1) 0 0 (nI 0)) (r_0 _)
  unfold eX11_seed eX12_seed
  have h2 : wR (0, Z) s l m (T, nx) (zw (μ 4) 2 0 x0) (zw (zw (μ 1) 0 0 (nI 0)) 1 17 x0) := hw0.w0 (Or.inr (Or.inr (Or.inl ⟨rfl, by decide⟩))) (by decide)
  refine ⟨_, _, rfl, _, _, rfl, ?_, ?_, hw.seed⟩
  · refine h.now (Nat.le_refl _) ((st_0 _).w1 (by decide)) ?_ ⟨m, Z, h2, wC_fr hW fr1 (by decide), hK.fr fr1 (by decide)⟩
    exact ⟨by rw [zw_no (by decide)]; exact h.2.2.1.1, by rw [zw_no (by decide)]; exact h.2.2.1.2⟩
  · rw [zw_no (by decide), zw_at]
theorem f_end (h : INV T μ) (x0 : Int32) : ∃ r μ', eX11_end x0 μ = some (r, μ') ∧ okR T μ' (.inl r) [] (eX12_end x0 (μ 1)) := by
  unfold eX11_end eX12_end
  obtain ⟨⟨len, a1, a2, a3, a4⟩, b, c, ⟨s, l, nx, d⟩, e⟩ := id h
  have e7 : (zw (μ 1) 0 0 (nI 0)) 0 7 = nI len := by rw [zw_no (by decide)]; exact a3
  rw [e7, a2, zg_id]
  by_cases c0 : x0 < 0
  · rw [if_pos c0, if_pos c0]
    exact ⟨_, _, rfl, okR_val h (st_0 _) (r_0 _) (zw_at _ _ _ _) _ _⟩
  · obtain ⟨j, hj, rfl⟩ := nI_of c0
    rw [if_neg c0, if_neg c0]
    by_cases c1 : nI j ≤ nI len
    · rw [if_pos c1, if_pos c1]
      have hjl := (nI_leI hj (by omega)).mp c1
      refine ⟨_, _, rfl, _, _, rfl, ?_, ?_, rfl⟩
      · refine ⟨⟨j, by omega, ?_, ?_, fun i hi => ?_⟩, ?_, ?_, ⟨s, l, nx, ?_⟩, ?_⟩
        · rw [zg_ne (by decide), zg_at, zw_at]
        · rw [zg_at, zw_at]
        · rw [zg_ne (by decide), zg_at, zg_at, zw_no (Or.inl (by decide)), zw_no (Or.inl (by decide)), zw_no (Or.inl (by decide))]
          exact a4 i (by omega)
        · rw [zg_ne (by decide), zg_at, zg_at, zw_no (by decide), zw_no (by decide), zw_no (by decide)]
          exact b
        · rw [zg_ne (by decide), zg_ne (by decide)]; exact c
        · rw [zg_ne (by decide), zg_ne (by decide), zg_at]
          exact d.row (by rw [zw_row_ne (by decide), zw_row_ne (by decide)])
        · unfold keptR at e ⊢
          rw [zg_ne (show (0 : Nat) ≠ 1 by decide), zg_at, zg_at, zw_no (by decide), zw_no (by decide), zw_no (by decide), zg_ne (show (5 : Nat) ≠ 1 by decide), zg_ne (show (5 : Nat) ≠ 0 by decide)]
          rcases e with e | ⟨e1, e2, e3, s', l', nx', e4⟩
          · exact Or.inl e
          · exact Or.inr ⟨e1, e2, e3, s', l', nx', e4.row (by rw [zr_at, zr_at, zw_row_ne (by decide), zw_row_ne (by decide)])⟩
      · rw [zw_no (by decide), zw_at]
    · rw [if_neg c1, if_neg c1]
      exact ⟨_, _, rfl, okR_val h (st_0 _) (r_0 _) (zw_at _ _ _ _) _ _⟩
end F5
