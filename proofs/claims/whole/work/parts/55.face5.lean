/-! a packet is handed over, or taken away -/
theorem leN_off {v : Int32} (h : leN v 4095) {p : Nat} (hp : p < 12) : leN (v &&& ((nI 1 <<< (nI p &&& 31)) ^^^ (-1))) 4095 := by
  by_cases c : hb v p
  · obtain ⟨j, hj, rfl⟩ := h
    have ht := (hb_nI (k := j) (q := p) (by omega) (by omega)).mp c
    refine ⟨j ^^^ (2 ^ p), ?_, ?_⟩
    · have : j ^^^ 2 ^ p < 2 ^ 12 := Nat.xor_lt_two_pow (by omega) (Nat.pow_lt_pow_right (by omega) hp)
      omega
    · refine hb_ext fun q hq => ?_
      have h2 : j ^^^ 2 ^ p < 2 ^ 12 := Nat.xor_lt_two_pow (by omega) (Nat.pow_lt_pow_right (by omega) hp)
      rw [hb_off (by omega) hq, hb_nI (by omega) hq, hb_nI (by omega) hq, Nat.testBit_xor, Nat.testBit_two_pow]
      by_cases z : q = p
      · subst z
        simp [ht]
      · have z' : ¬ p = q := fun w => z w.symm
        simp [z, z']
  · have : v &&& ((nI 1 <<< (nI p &&& 31)) ^^^ (-1)) = v := hb_ext fun q hq => by
      rw [hb_off (by omega) hq]
      refine ⟨fun z => z.1, fun z => ⟨z, ?_⟩⟩
      rintro rfl
      exact c z
    rw [this]; exact h
section GV
variable {lo : Nat × (Nat → Int32)} {s l m : Nat} {T : Nat × Nat} {X Y : zX}
theorem r_gap0 (h : wR lo s l m T X Y) {n p : Nat} (hn : n < s) (hp : p < 12) : wR lo s l m T (zw (zw X 30 (n * 12 + p) (-1)) 31 (n * 12 + p) (nI 0)) (zw Y 1 (18 + 244 * n + (28 + 18 * p + 11)) (nI 0)) := by
  refine h.w_gapG hn hp (fun a' ha => ?_) (Or.inl ⟨rfl, rfl, ?_⟩)
  · rw [zw_no (Or.inr (ha 11 (by omega) (by omega)))]
  · dsimp only; rw [zw_at]
theorem r_gap1 (h : wR lo s l m T X Y) {n p : Nat} (hn : n < s) (hp : p < 12) {g : Int32} (hg : g ≠ -1) : wR lo s l m T (zw (zw X 30 (n * 12 + p) g) 31 (n * 12 + p) (nI 0)) (zw (zw Y 1 (18 + 244 * n + (28 + 18 * p + 11)) (nI 1)) 1 (18 + 244 * n + (28 + 18 * p + 12)) g) := by
  refine h.w_gapG hn hp (fun a' ha => ?_) (Or.inr (Or.inl ⟨hg, rfl, ?_, ?_⟩))
  · rw [zw_no (Or.inr (ha 12 (by omega) (by omega))), zw_no (Or.inr (ha 11 (by omega) (by omega)))]
  · dsimp only; rw [zw_no (by omega), zw_at]
  · dsimp only; rw [zw_at]
theorem r_giver (h : wR lo s l m T X Y) {n p : Nat} (hn : n < s) (hp : p < 12) {g t : Int32} (hg : g = -1 ∨ ∃ o, o < s ∧ g = nI o) : wR lo s l m T (zw (zw X 32 (n * 12 + p) g) 33 (n * 12 + p) t) (zw (zw Y 1 (18 + 244 * n + (28 + 18 * p + 9)) g) 1 (18 + 244 * n + (28 + 18 * p + 10)) t) :=
  (h.w_from hn hp hg).w0 (v := t) (rc_p2 (w := 10) hn hp (by decide)) (by decide)
theorem x_setGiver (X : zX) {n p : Nat} (hn : n < 6) (hp : p < 12) (g t : Int32) : eX5_setGiver (nI (n * 12 + p)) g t X = some (zw (zw X 32 (n * 12 + p) g) 33 (n * 12 + p) t) := by
  unfold eX5_setGiver
  rw [x_in hn hp, qchk, qchk, x_zn hn hp]
theorem y_from (Y : zX) {n p : Nat} (hn : n < 6) (hp : p < 12) (g t : Int32) : eX12_hasItFrom (nI n) (nI p) g t Y = some (zw (zw Y 1 (18 + 244 * n + (28 + 18 * p + 9)) g) 1 (18 + 244 * n + (28 + 18 * p + 10)) t) := by
  unfold eX12_hasItFrom
  simp only [a_p]
  rw [y_in (by omega), qchk, qlet, y_in (by omega), qchk, qlet, qzn (by omega), qzn (by omega)]
theorem s_handOver (h : wR lo s l m T X Y) (hK : K3 s X) {n p : Nat} (hn : n < s) (hp : p < T.2) : ∃ X' Y', eX10_handOver (nI n) (nI p) X = some X' ∧ (∀ r5 a3, ¬ a3 = 0 → r5 = 0 → (if a3 = 0 then jX12_give_143 (nI n) (nI p) a3 r5 Y else if r5 = 0 then zchk (zin (((nI 18) + ((nI 244) * nI n)) + (nI 1)) 2422) (zchk (zin (((nI 18) + ((nI 244) * nI n)) + (nI 1)) 2422) (zlet (zw Y 1 (zn (((nI 18) + ((nI 244) * nI n)) + (nI 1))) ((Y 1 (zn (((nI 18) + ((nI 244) * nI n)) + (nI 1)))) ||| ((nI 1) <<< (nI p &&& 31)))) fun X10 => zbd (eX12_hasItFrom (nI n) (nI p) (nI n) (X10 1 14) X10) fun y12 => zbd (eX12_of (nI n) (nI 2) y12) fun r14 => zchk (zin (((nI 18) + ((nI 244) * nI n)) + (nI 2)) 2422) (zlet (zw y12 1 (zn (((nI 18) + ((nI 244) * nI n)) + (nI 2))) (zmx r14 (nI p))) fun X16 => zchk (zin (((nI 18) + ((nI 244) * nI n)) + (((nI 28) + ((nI 18) * nI p)) + (nI 0))) 2422) (zlet (zw X16 1 (zn (((nI 18) + ((nI 244) * nI n)) + (((nI 28) + ((nI 18) * nI p)) + (nI 0)))) (-1)) fun X18 => zbd (eX12_noGap (nI n) (nI p) X18) fun y20 => jX12_give_143 (nI n) (nI p) a3 r5 y20)))) else jX12_give_143 (nI n) (nI p) a3 r5 Y) = some (nI 1, Y')) ∧ wR lo s l m T X' Y' ∧ K3 s X' ∧ fr [9, 10, 21, 30, 31, 32, 33] X X' ∧ fr [1] Y Y' := by
  have hs := h.hs
  obtain ⟨-, ht, en⟩ := h.1.2.1
  have hp12 : p < 12 := by omega
  have n6 : n < 6 := by omega
  obtain ⟨b9, b10⟩ := h.1.2.2.2.1 n hn
  have hz := zmx_int (X 10 n) (nI p)
  rw [nI_toInt (by omega)] at hz
  unfold hdO at b10
  have h1 := h.w_has (v := X 9 n ||| (nI 1 <<< (nI p &&& 31))) hn (leN_or b9 hp12)
  have h2 := r_giver h1 hn hp12 (g := nI n) (t := X 0 12) (Or.inr ⟨n, hn, rfl⟩)
  have r10 : (zw (zw (zw X 9 n (X 9 n ||| (nI 1 <<< (nI p &&& 31)))) 32 (n * 12 + p) (nI n)) 33 (n * 12 + p) (X 0 12)) 10 n = X 10 n := by
    rw [zw_no (Or.inl (by decide)), zw_no (Or.inl (by decide)), zw_no (Or.inl (by decide))]
  have h3 := h2.w_heard (v := zmx (X 10 n) (nI p)) hn (by unfold hdO; omega) (by rw [r10]; omega)
  have h4 := h3.w_ask (v := -1) hn hp12 (fun z => absurd rfl z)
  have h5 := r_gap0 h4 hn hp12
  have i6 : zin (nI n) 6 = true := qzin n6 (by omega)
  have z6 : zn (nI n) = n := qzn (by omega)
  refine ⟨_, _, ?_, ?_, h5, ?_, ?_, ?_⟩
  · unfold eX10_handOver
    rw [i6, qchk, qchk, qlet, qchk, qchk, z6, x_ix, x_setGiver _ n6 hp12, qbd, x_in n6 hp12, qchk, x_zn n6 hp12, x_setGap _ n6 hp12, qbd]
    rw [zw_com (k := 33) (k' := 10) (Or.inl (by decide)), zw_com (k := 32) (k' := 10) (Or.inl (by decide))]
  · intro r5 a3 c1 c2
    rw [if_neg c1, if_pos c2]
    simp only [a_n, a_p]
    rw [y_in (by omega), qchk, qchk, qlet, qzn (by omega), y_from _ n6 hp12, qbd, y_of _ n6 (by decide), qbd, y_in (by omega), qchk, qlet, qzn (by omega), y_in (by omega), qchk, qlet, qzn (by omega), y_noGap _ n6 hp12, qbd]
    unfold jX12_give_143 jX12_give_197
    rw [if_neg c1, if_neg (fun z => c1 (z.symm.trans c2)), h.has hn]
    rw [zw_no (b := 14) (Or.inr (by omega)), h.tick]
    rw [zw_no (b := 18 + 244 * n + 2) (Or.inr (by omega)), zw_no (b := 18 + 244 * n + 2) (Or.inr (by omega)), zw_no (b := 18 + 244 * n + 2) (Or.inr (by omega)), h.heard hn]
  · intro q hq w hw hbw
    rw [zw_no (Or.inl (by decide)), zw_no (Or.inl (by decide)), zw_no (Or.inl (by decide)), zw_no (Or.inl (by decide)), zw_no (Or.inl (by decide)), zw_no (Or.inl (by decide))] at hbw
    rw [zw_no (Or.inl (by decide)), zw_no (Or.inl (by decide)), zw_no (Or.inl (by decide))]
    by_cases c : q = n
    · subst c
      rw [zw_at] at hbw ⊢
      rw [hb_or (by omega) (by omega)] at hbw
      rcases hbw with z | z
      · have := hK q hq w hw z
        omega
      · subst z; omega
    · rw [zw_no (Or.inr c)] at hbw ⊢
      rw [zw_no (Or.inl (by decide)), zw_no (Or.inl (by decide)), zw_no (Or.inl (by decide))]
      exact hK q hq w hw hbw
  · exact fr_w (fr_w (fr_w (fr_w (fr_w (fr_w (fr_w (fr.refl _ _) (by decide)) (by decide)) (by decide)) (by decide)) (by decide)) (by decide)) (by decide)
  · exact fr_w (fr_w (fr_w (fr_w (fr_w (fr_w (fr.refl _ _) (by decide)) (by decide)) (by decide)) (by decide)) (by decide)) (by decide)
theorem s_takeAway (h : wR lo s l m T X Y) (hK : K3 s X) {n p : Nat} (hn : n < s) (hp12 : p < 12) : ∃ X' Y', eX10_takeAway (nI n) (nI p) X = some X' ∧ jX12_give_143 (nI n) (nI p) (nI 0) (nI 1) Y = some (nI 1, Y') ∧ wR lo s l m T X' Y' ∧ K3 s X' ∧ fr [9, 26, 27, 28, 30, 31, 32, 33] X X' ∧ fr [1] Y Y' := by
  have hs := h.hs
  have n6 : n < 6 := by omega
  obtain ⟨b9, b10⟩ := h.1.2.2.2.1 n hn
  have h1 := h.w_has (v := X 9 n &&& ((nI 1 <<< (nI p &&& 31)) ^^^ (-1))) hn (leN_off b9 hp12)
  have h2 := r_giver h1 hn hp12 (g := -1) (t := -1) (Or.inl rfl)
  have h3 := h2.w_noans hn hp12 (-1)
  have h5 := r_gap1 h3 hn hp12 (g := nI 5) (by decide)
  have i6 : zin (nI n) 6 = true := qzin n6 (by omega)
  have z6 : zn (nI n) = n := qzn (by omega)
  refine ⟨_, _, ?_, ?_, h5, ?_, ?_, ?_⟩
  · unfold eX10_takeAway eX5_dropAnswer eX5_beginAnswer
    rw [i6, qchk, qchk, qlet, z6, x_ix, x_setGiver _ n6 hp12, qbd, x_in n6 hp12, qchk, qchk, qchk, qlet, qbd, qbd, x_zn n6 hp12, x_setGap _ n6 hp12, qbd]
  · unfold jX12_give_143 jX12_give_197
    rw [if_pos (show nI 0 = 0 from rfl), if_neg (show ¬ nI 1 = 0 by decide)]
    simp only [a_n, a_p]
    rw [y_in (by omega), qchk, qchk, qlet, qzn (by omega), y_from _ n6 hp12, qbd, y_in (by omega), qchk, qlet, qzn (by omega), y_hasGap _ n6 hp12, qbd, if_neg (by decide), h.has hn]
  · intro q hq w hw hbw
    rw [zw_no (Or.inl (by decide)), zw_no (Or.inl (by decide)), zw_no (Or.inl (by decide)), zw_no (Or.inl (by decide)), zw_no (Or.inl (by decide)), zw_no (Or.inl (by decide)), zw_no (Or.inl (by decide))] at hbw
    rw [zw_no (Or.inl (by decide)), zw_no (Or.inl (by decide)), zw_no (Or.inl (by decide)), zw_no (Or.inl (by decide)), zw_no (Or.inl (by decide)), zw_no (Or.inl (by decide)), zw_no (Or.inl (by decide)), zw_no (Or.inl (by decide))]
    by_cases c : q = n
    · subst c
      rw [zw_at, hb_off (by omega) (by omega)] at hbw
      exact hK q hq w hw hbw.1
    · rw [zw_no (Or.inr c)] at hbw
      exact hK q hq w hw hbw
  · exact fr_w (fr_w (fr_w (fr_w (fr_w (fr_w (fr_w (fr_w (fr.refl _ _) (by decide)) (by decide)) (by decide)) (by decide)) (by decide)) (by decide)) (by decide)) (by decide)
  · exact fr_w (fr_w (fr_w (fr_w (fr_w (fr_w (fr.refl _ _) (by decide)) (by decide)) (by decide)) (by decide)) (by decide)) (by decide)
end GV
section F7
variable {T : Nat} {μ : zM}
theorem f_give (h : INV T μ) (x0 x1 : Int32) {x2 : Int32} (hx2 : x2 = nI 0 ∨ x2 = nI 1) : ∃ res μ', eX11_give x0 x1 x2 μ = some (res, μ') ∧ okR T μ' res [eIO, eIS] (eX12_give x0 x1 x2 (μ 1)) := by
  obtain ⟨s, l, nx, m, Z, hw, hW, hK⟩ := h.2.2.2.1
  have hs := hw.hs
  have hl := hw.hl
  have hm := hw.hm
  have hw0 := hw.row (Y' := zw (μ 1) 0 0 (nI 0)) (r_0 _)
  obtain ⟨-, ht, en⟩ := hw0.1.2.1
  dsimp only at ht en
  have e21 : jX12_give_21 x0 x1 x2 (zw (μ 1) 0 0 (nI 0)) = some (nI 0, zw (zw (μ 1) 0 0 (nI 0)) 0 0 (nI 1)) := by
    unfold jX12_give_21 jX12_give_26
    rw [y_thr1, qbd, if_neg q11]
  unfold eX11_give eX12_give
  rw [hw.nodes, zg_id]
  rcases rg_cases x0 (N := s) (by omega) with ⟨n, hn, rfl⟩ | hx
  · have n6 : n < 6 := by omega
    rw [if_neg (rg_in hn (by omega)), y_noNode1 hw0 hn, qbd, if_pos (show nI 0 = 0 from rfl)]
    rcases rg_cases x1 (N := 12) (by omega) with ⟨p, hp, rfl⟩ | hy
    · rw [if_neg (rg_in hp (by omega)), if_neg (show ¬ ¬ ((¬ (nI p < nI 0)) ∧ (¬ (nI 11 < nI p))) from fun z => z ⟨nI_pos (by omega), nI_nlt (by omega) (by omega)⟩)]
      unfold jX12_give_26
      rw [y_thr0, qbd, if_pos q00]
      dsimp only
      simp only [hw0.next, en]
      by_cases c : p < nx
      · rw [if_pos ((nI_ltI (by omega) (by omega)).mpr c), if_pos ((nI_ltI (by omega) (by omega)).mpr c), x_hasP _ n6, qbd]
        unfold jX12_give_49
        rw [y_thr0, qbd, if_pos q00]
        dsimp only
        rw [r_has hw0 hn, qbd]
        by_cases c9 : (((μ 4) 9 n >>> (nI p &&& 31)) &&& nI 1) = nI 1
        · rw [show zB ((((μ 4) 9 n >>> (nI p &&& 31)) &&& nI 1) = nI 1) = nI 1 from zB_t c9]
          rcases hx2 with rfl | rfl
          · obtain ⟨X', Y', k1, k2, k3, k4, k5, k6⟩ := s_takeAway hw0 hK hn hp
            rw [if_neg (show ¬ nI 1 = nI 0 by decide), if_pos (show nI 0 = 0 from rfl), k1, qbd, if_pos (show nI 0 = 0 from rfl), k2]
            refine ⟨_, _, rfl, _, _, rfl, ?_, ?_, rfl⟩
            · exact h.now (Nat.le_refl _) ((st_0 _).trans (stY.fr k6 (by decide))) (h.2.2.1.fr k5 (by decide)) ⟨m, Z, k3, wC_fr hW k5 (by decide), k4⟩
            · rw [k6 0 (by decide), zw_at]
          · rw [if_pos rfl, if_neg (show ¬ nI 1 = 0 by decide), if_neg (show ¬ nI 1 = 0 by decide)]
            unfold jX12_give_143 jX12_give_197
            rw [if_neg (show ¬ nI 1 = 0 by decide), if_pos rfl]
            exact ⟨_, _, rfl, okR_val h (st_0 _) (r_0 _) (zw_at _ _ _ _) _ _⟩
        · rw [show zB ((((μ 4) 9 n >>> (nI p &&& 31)) &&& nI 1) = nI 1) = nI 0 from zB_f c9]
          rcases hx2 with rfl | rfl
          · rw [if_pos rfl, if_pos (show nI 0 = 0 from rfl)]
            unfold jX12_give_143 jX12_give_197
            rw [if_pos (show nI 0 = 0 from rfl), if_pos (show nI 0 = 0 from rfl), if_pos rfl]
            exact ⟨_, _, rfl, okR_val h (st_0 _) (r_0 _) (zw_at _ _ _ _) _ _⟩
          · obtain ⟨X', Y', k1, k2, k3, k4, k5, k6⟩ := s_handOver hw0 hK hn c
            rw [if_neg (show ¬ nI 0 = nI 1 by decide), if_neg (show ¬ nI 1 = 0 by decide), k1, qbd, k2 (nI 0) (nI 1) (by decide) rfl]
            refine ⟨_, _, rfl, _, _, rfl, ?_, ?_, rfl⟩
            · exact h.now (Nat.le_refl _) ((st_0 _).trans (stY.fr k6 (by decide))) (h.2.2.1.fr k5 (by decide)) ⟨m, Z, k3, wC_fr hW k5 (by decide), k4⟩
            · rw [k6 0 (by decide), zw_at]
      · rw [if_neg (fun z => c ((nI_ltI (by omega) (by omega)).mp z)), if_neg (fun z => c ((nI_ltI (by omega) (by omega)).mp z))]
        unfold jX12_give_49
        rw [y_thr1, qbd, if_neg q11]
        exact ⟨_, _, rfl, okR_thr h (st_00 _ _) (r_00 _ _) 1 rfl (zw_at _ _ _ _) _⟩
    · have hy2 : ¬ ((¬ (x1 < nI 0)) ∧ (¬ ((nI 11) < x1))) := by
        have := rg_n (N := 12) (by omega) hy
        rw [nI_sub (by omega)] at this
        exact this
      rw [if_pos hy, if_pos hy2, e21]
      exact ⟨_, _, rfl, okR_thr h (st_00 _ _) (r_00 _ _) 0 rfl (zw_at _ _ _ _) _⟩
  · rw [if_pos hx, y_noNode2 hw0 hx, qbd, if_neg (by decide), e21]
    exact ⟨_, _, rfl, okR_thr h (st_00 _ _) (r_00 _ _) 0 rfl (zw_at _ _ _ _) _⟩
end F7
