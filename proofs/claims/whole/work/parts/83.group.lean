/-! a text is read -/
abbrev eUO : String := "java/lang/UnsupportedOperationException"
section RG
variable {tp : Nat → Int32} {e : Nat} {Y : zX} {T : Nat × Nat} {μ : zM}
theorem l_read (F : Nat) (hF : 500 ≤ F) (hT : byT tp e) {s l : Nat} (he : e ≤ 400) (hw : wP s l T (μ 6) Y) (hx : (μ 0) 1 1 = nI e) (hx2 : ∀ i, i < e → (μ 0) 2 i = tp i) (hy : Y 0 9 = nI e) (hy8 : Y 0 8 = nI 0) (hy2 : ∀ i, i < e → Y 5 i = tp i) : ∃ res X' W' g Y', eX6_read F μ = some (res, zg (zg μ 0 X') 6 W') ∧ eX12_readGroup F Y = some (g, Y') ∧ txO tp e T (μ 6) res W' g Y' ∧ fXr (μ 0) X' ∧ fY Y Y' := by
  obtain ⟨X0, eX0⟩ : ∃ X0, X0 = zw (zw (zw (μ 0) 3 1 (nI 0)) 3 2 (nI 0)) 3 3 (-1) := ⟨_, rfl⟩
  have f0 : fXr (μ 0) X0 := by rw [eX0]; exact ((fXr.w _ _ _).trans (fXr.w _ _ _)).trans (fXr.w _ _ _)
  have hX : tpX tp e 0 0 X0 := ⟨he, Nat.zero_le _, by rw [f0 1 (by decide)]; exact hx, by rw [eX0, zw_no (by decide), zw_at], by rw [eX0, zw_no (by decide), zw_no (by decide), zw_at], fun i hi => by rw [f0 2 (by decide)]; exact hx2 i hi⟩
  obtain ⟨b0, eb0⟩ : ∃ b0, b0 = Ys Y 0 0 := ⟨_, rfl⟩
  -- the reference's begin is not known yet
  have hL : hX12_blanks_0 F F Y = some (Ys Y (bk tp e 0) (bk tp e 0)) := by
    have hYs : tpY tp e 0 0 (Ys Y 0 0) := ⟨he, Nat.zero_le _, by rw [Ys_no _ _ _ (by decide)]; exact hy, by unfold Ys; rw [zw_no (by decide), zw_at], by unfold Ys; rw [zw_at], fun i hi => by rw [Ys_row _ _ _ (by decide)]; exact hy2 i hi⟩
    have key : ∀ (d fu a : Nat) (Y : zX), e - a = d → d < fu → a ≤ e → Y 0 9 = nI e → Y 0 8 = nI a → (∀ i, i < e → Y 5 i = tp i) → hX12_blanks_0 F fu Y = some (Ys Y (ff (sB tp) d a) (ff (sB tp) d a)) := by
      intro d
      induction d with
      | zero =>
        intro fu a Y h1 h2 h3 h4 h5 h6
        obtain ⟨fu, rfl⟩ := Nat.exists_eq_succ_of_ne_zero (show fu ≠ 0 by omega)
        unfold hX12_blanks_0 eX12_isAt
        rw [h4, h5, if_pos ((nI_leI (by omega) (by omega)).mpr (by omega)), qbd, if_pos (show nI 0 = 0 from rfl), ff]
        unfold Ys
        rw [zw_sf (v := nI a) (k := 0) (i := 8) (by rw [zw_no (by decide)]; exact h5.symm)]
      | succ d ih =>
        intro fu a Y h1 h2 h3 h4 h5 h6
        obtain ⟨fu, rfl⟩ := Nat.exists_eq_succ_of_ne_zero (show fu ≠ 0 by omega)
        have ha : a < e := by omega
        have at1 : eX12_isAt (nI 32) (nI 32) Y = some (if (¬ tp a < nI 32) ∧ ¬ nI 32 < tp a then nI 1 else nI 0) := by
          unfold eX12_isAt
          rw [h4, h5, if_neg (nI_ge ha (by omega)), qzin (show a < 400 by omega) (by omega), qchk, qchk, qzn (by omega), h6 a ha]
          by_cases c1 : tp a < nI 32
          · rw [if_pos c1, if_neg (fun z => z.1 c1)]
          · rw [if_neg c1]
            by_cases c2 : nI 32 < tp a
            · rw [if_pos c2, if_neg (fun z => z.2 c2)]
            · rw [if_neg c2, if_pos ⟨c1, c2⟩]
        unfold hX12_blanks_0
        rw [at1, qbd, h5, nI_add, ff]
        by_cases c : tp a = nI 32
        · have c' : (¬ tp a < nI 32) ∧ ¬ nI 32 < tp a := by rw [c]; exact ⟨by decide, by decide⟩
          rw [if_pos c', if_neg (show ¬ nI 1 = 0 by decide), if_neg (show ¬ sB tp a = true by unfold sB; simp [c]), ih fu (a + 1) _ (by omega) (by omega) (by omega) (by rw [zw_no (by decide)]; exact h4) (zw_at _ _ _ _) (fun i hi => by rw [zw_no (Or.inl (by decide))]; exact h6 i hi)]
          unfold Ys
          rw [zw_com (k := 0) (i := 8) (k' := 0) (i' := 10) (Or.inr (by decide)), zw_zw]
        · have c' : ¬ ((¬ tp a < nI 32) ∧ ¬ nI 32 < tp a) := fun z => c (by
            apply Int32.toInt_inj.mp
            rw [Int32.lt_iff_toInt_lt, Int32.lt_iff_toInt_lt] at z
            omega)
          rw [if_neg c', if_pos (show nI 0 = 0 from rfl), if_pos (show sB tp a = true by unfold sB; simp [c])]
          unfold Ys
          rw [zw_sf (v := nI a) (k := 0) (i := 8) (by rw [zw_no (by decide)]; exact h5.symm)]
    exact key e F 0 Y rfl (by omega) (Nat.zero_le _) hy hy8 hy2
  have hB := bk_b (tp := tp) (Nat.zero_le e)
  have hX1 := hX.s (b' := 0) hB.2
  have hY1 : tpY tp e (bk tp e 0) (bk tp e 0) (Ys Y (bk tp e 0) (bk tp e 0)) := ⟨he, hB.2, by rw [Ys_no _ _ _ (by decide)]; exact hy, by unfold Ys; rw [zw_no (by decide), zw_at], by unfold Ys; rw [zw_at], fun i hi => by rw [Ys_row _ _ _ (by decide)]; exact hy2 i hi⟩
  unfold eX6_read eX12_readGroup eX12_blanks
  rw [qlet, ← eX0, zg_at, x_skip F hF hT hX, qbd, hL, qbd, hX1.2.2.2.2.1, hX1.2.2.1, hY1.2.2.2.2.1, hY1.2.2.1, zg_zg]
  by_cases c : bk tp e 0 = e
  · rw [if_neg (nI_nlt (by omega) (by omega)), if_pos (show nI (bk tp e 0) = nI e by rw [c])]
    exact ⟨_, _, μ 6, _, _, by rw [zg_6], rfl, Or.inl ⟨rfl, rfl, ⟨s, l, hw.s _ _⟩, fr.refl _ _⟩, f0.trans (fXr.s _ _ _), fY.s _ _ _⟩
  · rw [if_pos ((nI_ltI (by omega) (by omega)).mpr (by omega)), if_neg (fun z => c ((nI_eq (by omega) (by omega)).mp z))]
    have e6 : (zg μ 0 (Xs X0 0 (bk tp e 0))) 6 = μ 6 := zg_ne (by decide)
    obtain ⟨res, X', W', g, Y', t1, t2, t3, t4, t5⟩ := l_text F hF hT 14 F F 0 0 (bk tp e 0) (bk tp e 0) (bk tp e 0) s l (zg μ 0 (Xs X0 0 (bk tp e 0))) (Ys Y (bk tp e 0) (bk tp e 0)) rfl (by omega) (by omega) (by rw [e6]; exact hw.s _ _) (by rw [zg_at]; exact hX1) hY1 (bk_bk (Nat.zero_le _))
    rw [e6] at t3
    rw [zg_at] at t4
    rw [zg_zg] at t1
    exact ⟨res, X', W', g, Y', t1, t2, t3, (f0.trans (fXr.s _ _ _)).trans t4, (fY.s _ _ _).trans t5⟩
end RG
section GR
variable {T : Nat} {μ : zM}
theorem wR.w_text {lo : Nat × (Nat → Int32)} {s l m : Nat} {T : Nat × Nat} {X Y : zX} (h : wR lo s l m T X Y) (v : Int32) : wR lo s l m T (zw X 0 8 v) (zw Y 1 2 v) := by
  have hc : rc (X 2 1 = 0) s l m 0 8 2 := Or.inl ⟨rfl, by decide⟩
  obtain ⟨⟨j0, j1, j2, j3, j4, j5, j6, j7, j8, j10, j11⟩, d⟩ := h
  have f : fr [0] X (zw X 0 8 v) := fr1
  exact ⟨⟨j0.fr f (by decide), ⟨by rw [zw_no (by decide)]; exact j1.1, j1.2.1, by rw [zw_no (by decide)]; exact j1.2.2⟩, j2.fr f (by decide), j3.fr f (by decide), j4.fr f (by decide), j5.fr f (by decide), j6.fr f (by decide), j7.fr f (by decide), j8.fr f (by decide), j10.fr f (by decide), j11.w j0.1 (rc_usd hc)⟩, d.w j0.1 j0.2.1 j8.1 hc ⟨by decide, by decide, by decide, by decide, by decide, by decide, fun z => absurd z (by decide)⟩⟩
theorem y_earlier (F : Nat) : ∀ (d fu j : Nat) (Y : zX), 2422 - j = d → j ≤ 2422 → d < fu → ∃ Y', hX12_group_25 F fu (nI j) Y = (zbd (eX12_readGroup F Y') fun y3 => if y3.1 = 0 then jX12_group_68 F y3.1 (y3.2 0 10) y3.2 else jX12_group_68 F y3.1 (-1) y3.2) ∧ fr [3] Y Y' ∧ (∀ a, j ≤ a → a < 2422 → Y' 3 a = Y 1 a) ∧ (∀ a, a < j → Y' 3 a = Y 3 a) := by
  intro d
  induction d with
  | zero =>
    intro fu j Y h1 h2 h3
    obtain ⟨fu, rfl⟩ := Nat.exists_eq_succ_of_ne_zero (show fu ≠ 0 by omega)
    have : j = 2422 := by omega
    subst this
    refine ⟨Y, ?_, fr.refl _ _, fun a h1 h2 => by omega, fun a _ => rfl⟩
    conv => lhs; unfold hX12_group_25
    rw [if_pos (by decide)]
  | succ d ih =>
    intro fu j Y h1 h2 h3
    obtain ⟨fu, rfl⟩ := Nat.exists_eq_succ_of_ne_zero (show fu ≠ 0 by omega)
    obtain ⟨Y', e, k1, k4, k5⟩ := ih fu (j + 1) (zw Y 3 j (Y 1 j)) (by omega) (by omega) (by omega)
    refine ⟨Y', ?_, (fr1 (k := 3)).trans k1, fun a g1 g2 => ?_, fun a g1 => by rw [k5 a (by omega), zw_no (Or.inr (by omega))]⟩
    · conv => lhs; unfold hX12_group_25
      rw [if_neg (nI_ge (show j < 2422 by omega) (by omega)), y_in (by omega), qchk, qchk, qzn (by omega), nI_add, e]
    · by_cases c : a = j
      · subst c
        rw [k5 a (by omega), zw_at]
      · rw [k4 a (by omega) g2, zw_no (Or.inl (by decide))]
theorem y_asWas (F : Nat) : ∀ (d fu j : Nat) (Y : zX), 2422 - j = d → j ≤ 2422 → d < fu → ∃ Y', hX12_group_114 F fu (nI j) Y = some (nI 0, Y') ∧ fr [1] Y Y' ∧ (∀ a, j ≤ a → a < 2422 → Y' 1 a = Y 3 a) ∧ (∀ a, a < j → Y' 1 a = Y 1 a) := by
  intro d
  induction d with
  | zero =>
    intro fu j Y h1 h2 h3
    obtain ⟨fu, rfl⟩ := Nat.exists_eq_succ_of_ne_zero (show fu ≠ 0 by omega)
    have : j = 2422 := by omega
    subst this
    unfold hX12_group_114
    rw [if_pos (by decide)]
    exact ⟨_, rfl, fr.refl _ _, fun a h1 h2 => by omega, fun a _ => rfl⟩
  | succ d ih =>
    intro fu j Y h1 h2 h3
    obtain ⟨fu, rfl⟩ := Nat.exists_eq_succ_of_ne_zero (show fu ≠ 0 by omega)
    obtain ⟨Y', e, k1, k4, k5⟩ := ih fu (j + 1) (zw Y 1 j (Y 3 j)) (by omega) (by omega) (by omega)
    refine ⟨Y', ?_, (fr1 (k := 1)).trans k1, fun a g1 g2 => ?_, fun a g1 => by rw [k5 a (by omega), zw_no (Or.inr (by omega))]⟩
    · unfold hX12_group_114
      rw [if_neg (nI_ge (show j < 2422 by omega) (by omega)), y_in (by omega), qchk, qchk, qzn (by omega), nI_add, e]
    · by_cases c : a = j
      · subst c
        rw [k5 a (by omega), zw_at]
      · rw [k4 a (by omega) g2, zw_no (Or.inl (by decide))]
/-- behind a text -/
theorem INV.tx (h : INV T μ) {μ' : zM} {Y' : zX} {s l nx : Nat} (h5 : μ' 5 = μ 5) (x11 : (μ' 0) 1 1 = nI 0) (y7 : Y' 0 7 = nI 0) (x6 : (μ' 0) 0 6 = Y' 0 11) (x5 : (μ' 0) 0 5 = (μ 0) 0 5) (y5 : Y' 0 5 = (μ 1) 0 5) (y2 : Y' 2 = (μ 1) 2) (hm : md (μ' 4)) (hr : rS s l (T, nx) (μ' 4) Y') : INV T (zg μ' 1 Y') := by
  obtain ⟨-, -, -, -, e⟩ := h
  have g0 : zg μ' 1 Y' 0 = μ' 0 := zg_ne (by decide)
  have g1 : zg μ' 1 Y' 1 = Y' := zg_at _ _ _
  have g4 : zg μ' 1 Y' 4 = μ' 4 := zg_ne (by decide)
  have g5 : zg μ' 1 Y' 5 = μ 5 := by rw [zg_ne (by decide), h5]
  unfold INV tapeR
  rw [g0, g1, g4]
  refine ⟨⟨0, Nat.zero_le _, x11, y7, fun i hi => absurd hi (Nat.not_lt_zero _)⟩, x6, hm, ⟨s, l, nx, hr⟩, ?_⟩
  unfold keptR at e ⊢
  rw [g0, g1, g5, x5, y5]
  rcases e with e | ⟨e1, e2, e3, s', l', nx', e4⟩
  · exact Or.inl e
  · exact Or.inr ⟨e1, e2, e3, s', l', nx', e4.row (by rw [zr_at, zr_at, y2])⟩
theorem f_group (F : Nat) (hF : 3000 ≤ F) (h : INV T μ) : ∃ res μ', eX11_group F μ = some (res, μ') ∧ okR T μ' res [eIA, eUO] (eX12_group F (μ 1)) := by
  obtain ⟨⟨len, a1, a2, a3, a4⟩, hf, hmd, ⟨s, l, nx, m, Z, hw, hW, hK⟩, hkept⟩ := id h
  have hs := hw.hs
  have hl := hw.hl
  unfold eX11_group eX12_group
  rw [qlet, zw_no (k := 0) (i := 0) (b := 7) (by decide), a3]
  obtain ⟨Y1, k1, k2, k3, -⟩ := y_earlier F 2422 F 0 (zw (zw (zw (zw (μ 1) 0 0 (nI 0)) 0 9 (nI len)) 0 7 (nI 0)) 0 8 (nI 0)) rfl (Nat.zero_le _) (by omega)
  have k1' : hX12_group_25 F F (nI 0) (zw (zw (zw (zw (μ 1) 0 0 (nI 0)) 0 9 (nI len)) 0 7 (nI 0)) 0 8 (nI 0)) = _ := k1
  have rY : ∀ k, k ≠ 0 → k ≠ 3 → Y1 k = (μ 1) k := fun k h1 h2 => by
    rw [k2 k (by simp [h2]), zw_row_ne h1, zw_row_ne h1, zw_row_ne h1, zw_row_ne h1]
  have cY : ∀ i, i ≠ 0 → i ≠ 9 → i ≠ 7 → i ≠ 8 → Y1 0 i = (μ 1) 0 i := fun i h1 h2 h3 h4 => by
    rw [k2 0 (by decide), zw_no (Or.inr h4), zw_no (Or.inr h3), zw_no (Or.inr h2), zw_no (Or.inr h1)]
  have y9 : Y1 0 9 = nI len := by rw [k2 0 (by decide), zw_no (by decide), zw_no (by decide), zw_at]
  have y8 : Y1 0 8 = nI 0 := by rw [k2 0 (by decide), zw_at]
  have y7 : Y1 0 7 = nI 0 := by rw [k2 0 (by decide), zw_no (by decide), zw_at]
  have y0 : Y1 0 0 = nI 0 := by rw [k2 0 (by decide), zw_no (by decide), zw_no (by decide), zw_no (by decide), zw_at]
  have y3 : ∀ a, a < 2422 → Y1 3 a = (μ 1) 1 a := fun a ha => by
    rw [k3 a (Nat.zero_le _) ha, zw_no (Or.inl (by decide)), zw_no (Or.inl (by decide)), zw_no (Or.inl (by decide)), zw_no (Or.inl (by decide))]
  have g60 : (zg μ 6 (μ 4)) 0 = μ 0 := zg_ne (by decide)
  have g66 : (zg μ 6 (μ 4)) 6 = μ 4 := zg_at _ _ _
  obtain ⟨res, X', W', g, Y2, r1, r2, r3, r4, r5⟩ := l_read (T := (T, nx)) (μ := zg μ 6 (μ 4)) (Y := Y1) (tp := fun i => (μ 1) 5 i) (e := len) (s := s) (l := l) F (by omega) (fun i hi => (a4 i hi).2) a1 (by rw [g66]; exact ⟨m, Z, hw.row (rY 1 (by decide) (by decide)), hK⟩) (by rw [g60]; exact a2) (fun i hi => by rw [g60]; exact (a4 i hi).1) y9 y8 (fun i hi => by rw [rY 5 (by decide) (by decide)])
  rw [g66] at r3
  rw [g60] at r4
  rw [k1', r2, qbd, r1, qbd]
  dsimp only
  have m0 : (zg (zg (zg μ 6 (μ 4)) 0 X') 6 W') 0 = X' := by rw [zg_ne (by decide), zg_at]
  have m4 : (zg (zg (zg μ 6 (μ 4)) 0 X') 6 W') 4 = μ 4 := by rw [zg_ne (by decide), zg_ne (by decide), zg_ne (by decide)]
  have m5 : (zg (zg (zg μ 6 (μ 4)) 0 X') 6 W') 5 = μ 5 := by rw [zg_ne (by decide), zg_ne (by decide), zg_ne (by decide)]
  have m6 : (zg (zg (zg μ 6 (μ 4)) 0 X') 6 W') 6 = W' := zg_at _ _ _
  simp only [m0, m4, m6, zw_at]
  have x05 : X' 0 5 = (μ 0) 0 5 := by rw [r4 0 (by decide)]
  -- group 0 behind it
  have q11 : (zw (zw X' 0 6 res) 1 1 (nI 0)) 1 1 = nI 0 := zw_at _ _ _ _
  have q06 : (zw (zw X' 0 6 res) 1 1 (nI 0)) 0 6 = res := by rw [zw_no (by decide), zw_at]
  have q05 : (zw (zw X' 0 6 res) 1 1 (nI 0)) 0 5 = (μ 0) 0 5 := by rw [zw_no (by decide), zw_no (by decide), x05]
  have back : ∀ (c : Nat) (Y3 : zX), (∀ a, a < 2422 → Y3 3 a = (μ 1) 1 a) → Y3 2 = (μ 1) 2 → Y3 0 5 = (μ 1) 0 5 → Y3 0 7 = nI 0 → Y3 0 11 = res → Y3 0 0 = nI c → ∃ Y4, hX12_group_114 F F (nI 0) Y3 = some (nI 0, Y4) ∧ (∀ μ' : zM, μ' 0 = zw (zw X' 0 6 res) 1 1 (nI 0) → μ' 4 = μ 4 → μ' 5 = μ 5 → INV T (zg μ' 1 Y4)) ∧ Y4 0 0 = nI c := by
    intro c Y3 h3 h2 h5 h7 h11 h0
    obtain ⟨Y4, e1, e2, e3, -⟩ := y_asWas F 2422 F 0 Y3 rfl (Nat.zero_le _) (by omega)
    refine ⟨Y4, e1, fun μ' n0 n4 n5 => ?_, by rw [e2 0 (by decide)]; exact h0⟩
    refine h.tx n5 (by rw [n0]; exact q11) (by rw [e2 0 (by decide)]; exact h7) (by rw [n0, q06, e2 0 (by decide)]; exact h11.symm) (by rw [n0]; exact q05) (by rw [e2 0 (by decide)]; exact h5) (by rw [e2 2 (by decide)]; exact h2) (by rw [n4]; exact hmd) (s := s) (l := l) (nx := nx) ?_
    rw [n4]
    have hr : rS s l (T, nx) (μ 4) (μ 1) := ⟨m, Z, hw, hW, hK⟩
    exact hr.cell fun a ha => by rw [e3 a (Nat.zero_le _) ha, h3 a ha]
  have cY2 : ∀ i, i ≠ 8 → i ≠ 10 → Y2 0 i = Y1 0 i := r5.2
  have rY2 : ∀ k, k ≠ 0 → k ≠ 1 → Y2 k = Y1 k := r5.1
  unfold jX12_group_68 jX12_group_81
  rcases r3 with ⟨rfl, rfl, ⟨s', l', m', Z', w1, w2⟩, f3⟩ | ⟨rfl, n, n1, rfl, n2⟩
  · rw [if_neg (show ¬ nI 1 = 0 by decide), if_neg (show ¬ nI 1 = 0 by decide), if_pos rfl, y_thr0, qbd]
    dsimp only
    rw [if_pos (show nI 0 = 0 from rfl), qlet]
    have w1' := w1.row (Y' := zw Y2 0 11 (-1)) (zw_row_ne (by decide))
    have et : (zw Y2 0 11 (-1)) 1 2 = (μ 4) 0 8 := by rw [w1'.texts, f3 0 (by decide)]
    have c0 : ∀ i, i ≠ 8 → i ≠ 10 → i ≠ 11 → (zw Y2 0 11 (-1)) 0 i = Y1 0 i := fun i h1 h2 h3 => by rw [zw_no (Or.inr h3), cY2 i h1 h2]
    obtain ⟨t, ht, e8⟩ := hmd.2
    simp only [et, e8]
    unfold jX12_group_105
    by_cases c : t = 12
    · rw [if_neg (show ¬ nI t < nI 12 from nI_nlt (by omega) (by omega)), if_pos (show nI t = nI 12 by rw [c]), y_thr1, qbd]
      dsimp only
      rw [if_neg (show ¬ nI 1 = 0 by decide)]
      obtain ⟨Y4, p1, p2, p3⟩ := back 2 (zw (zw Y2 0 11 (-1)) 0 0 (nI 2)) (fun a ha => by rw [zw_no (Or.inl (by decide)), zw_no (Or.inl (by decide)), rY2 3 (by decide) (by decide), y3 a ha]) (by rw [zw_row_ne (by decide), zw_row_ne (by decide), rY2 2 (by decide) (by decide), rY 2 (by decide) (by decide)]) (by rw [zw_no (by decide), c0 5 (by decide) (by decide) (by decide), cY 5 (by decide) (by decide) (by decide) (by decide)]) (by rw [zw_no (by decide), c0 7 (by decide) (by decide) (by decide), y7]) (by rw [zw_no (by decide), zw_at]) (zw_at _ _ _ _)
      rw [p1]
      exact ⟨_, _, rfl, _, Y4, rfl, p2 _ (by rw [zg_ne (by decide), zg_at]) (zg_at _ _ _) (by rw [zg_ne (by decide), zg_ne (by decide), m5]), 1, rfl, p3⟩
    · rw [if_pos ((nI_ltI (by omega) (by omega)).mpr (by omega)), if_neg (fun z => c ((nI_eq (by omega) (by omega)).mp z)), y_thr0, qbd]
      dsimp only
      rw [if_pos (show nI 0 = 0 from rfl), qlet, zw_at, et, e8]
      have eW8 : W' 0 8 = nI t := by rw [f3 0 (by decide), e8]
      rw [eW8, nI_add, zg_at, zg_zg]
      have w3 := w1'.w_text (nI (t + 1))
      obtain ⟨X9, v1, v2, v3, v4⟩ := s_ways F (by omega) w3
      rw [v1, qbd, zg_zg, v2 0 (by decide), zw_at]
      have fX9 : fr [0, 6, 39, 40, 41, 42, 43, 44] W' X9 := (fr1.sub (by decide)).trans (v2.sub (by decide))
      refine ⟨_, _, rfl, _, _, rfl, h.tx (s := s') (l := l') (nx := nx) ?_ ?_ ?_ ?_ ?_ ?_ ?_ ?_ ?_, ?_, rfl⟩
      · rw [zg_ne (by decide), zg_ne (by decide), m5]
      · rw [zg_ne (by decide), zg_at]; exact q11
      · rw [zw_no (Or.inl (by decide)), c0 7 (by decide) (by decide) (by decide), y7]
      · rw [zg_ne (by decide), zg_at, q06, zw_no (Or.inl (by decide)), zw_at]
      · rw [zg_ne (by decide), zg_at]; exact q05
      · rw [zw_no (Or.inl (by decide)), c0 5 (by decide) (by decide) (by decide), cY 5 (by decide) (by decide) (by decide) (by decide)]
      · rw [zw_row_ne (by decide), zw_row_ne (by decide), rY2 2 (by decide) (by decide), rY 2 (by decide) (by decide)]
      · rw [zg_at]
        exact ⟨by rw [v2 2 (by decide), zw_no (Or.inl (by decide)), f3 2 (by decide)]; exact hmd.1, by rw [v2 0 (by decide), zw_at]; exact leN_nI (by omega)⟩
      · rw [zg_at]
        exact ⟨m', Z', v4, v3, w2.fr fX9 (by decide)⟩
      · rw [zw_no (Or.inl (by decide)), c0 0 (by decide) (by decide) (by decide), y0]
  · rw [if_pos (show nI 0 = 0 from rfl), if_pos (show nI 0 = 0 from rfl), if_neg (nI_ne_m1 (by omega)), y_thr1, qbd]
    dsimp only
    rw [if_neg (show ¬ nI 1 = 0 by decide)]
    obtain ⟨Y4, p1, p2, p3⟩ := back 1 (zw (zw Y2 0 11 (Y2 0 10)) 0 0 (nI 1)) (fun a ha => by rw [zw_no (Or.inl (by decide)), zw_no (Or.inl (by decide)), rY2 3 (by decide) (by decide), y3 a ha]) (by rw [zw_row_ne (by decide), zw_row_ne (by decide), rY2 2 (by decide) (by decide), rY 2 (by decide) (by decide)]) (by rw [zw_no (by decide), zw_no (by decide), cY2 5 (by decide) (by decide), cY 5 (by decide) (by decide) (by decide) (by decide)]) (by rw [zw_no (by decide), zw_no (by decide), cY2 7 (by decide) (by decide), y7]) (by rw [zw_no (by decide), zw_at, n2]) (zw_at _ _ _ _)
    rw [p1]
    exact ⟨_, _, rfl, _, Y4, rfl, p2 _ (zg_at _ _ _) (by rw [zg_ne (by decide), m4]) (by rw [zg_ne (by decide), m5]), 0, rfl, p3⟩
end GR
