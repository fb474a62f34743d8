/-! lines of a text: a link, from its begin -/
section LK2
variable {tp : Nat → Int32} {e b a : Nat} {X Y : zX} {T : Nat × Nat} {μ : zM}
theorem lnR.via {μ : zM} {Y Y1 : zX} {X1 : zX} {c : Option (Int32 × zM)} {r : Option (Int32 × zX)} (h : lnR tp e T (zg μ 0 X1) Y1 c r) (fx : fXr (μ 0) X1) (fy : fY Y Y1) : lnR tp e T μ Y c r := by
  obtain ⟨f, X', W', g, Y', h1, h2, h3, h4, h5⟩ := h
  rw [zg_zg] at h1
  rw [zg_ne (show (6 : Nat) ≠ 0 by decide)] at h3
  rw [zg_at] at h4
  exact ⟨f, X', W', g, Y', h1, h2, h3, fx.trans h4, fy.trans h5⟩
theorem wP.s {s l : Nat} {W : zX} (h : wP s l T W Y) (b a : Nat) : wP s l T W (Ys Y b a) := h.row (Ys_row _ _ _ (by decide))
/-- behind the two numbers -/
theorem l_linkMid (F : Nat) (hF : 500 ≤ F) (hT : byT tp e) (hbe : b ≤ e) {s l : Nat} (hl : l < 10) (hw : wP s l T (μ 6) Y) (hX : tpX tp e b a (μ 0)) (hY : tpY tp e b a Y) {x y : Nat} (hx : x < s) (hy : y < s) : lnR tp e T μ Y (jX6_readLink_49 F (nI x) (nI y) μ) (jX12_readLink_44 F (nI l) (nI x) (nI y) Y) := by
  obtain ⟨m, Z, hw, hK⟩ := id hw
  have hs := hw.hs
  obtain ⟨gOK1, gX1⟩ := gOf_X hw.1.1 hw.1.2.2.2.2.2.2.2.2.2.1
  have bad : lnR tp e T μ Y (jX6_readLink_79 F μ) (some (nI 0, Y)) := by
    unfold jX6_readLink_79
    rw [x_failX hX, qbd]
    dsimp only
    rw [show zbl (nI 0) = true from rfl, qchk]
    exact lnR_no hbe rfl rfl (zw_at _ _ _ _) hY.2.2.2.1 (fXr.w _ _ _) (fY.rf _)
  unfold jX6_readLink_49 jX12_readLink_44
  rw [if_neg (nI_ne_m1 (show y < 2147483648 by omega)), if_neg (nI_pos (show y < 2 ^ 31 by omega))]
  by_cases c : x = y
  · subst c
    rw [if_pos rfl, if_pos rfl]
    exact bad
  · have c' : ¬ nI x = nI y := fun z => c ((nI_eq (by omega) (by omega)).mp z)
    rw [if_neg c', if_neg c', x_bw gOK1 gX1 F (by omega) (by omega) (by omega), y_bw gOK1 (r_gY hw) F (by omega) (by omega) (by omega), qbd, qbd, show gl (gOf l (μ 6)) = l from rfl, zg_id]
    by_cases c2 : bw (gOf l (μ 6)) x y = l
    · rw [if_pos c2, if_pos rfl, if_pos rfl]
      have hb := cW_b (tp := tp) hX.2.1
      have hX1 := hX.s (b' := cB tp e a) hb.2
      have hY1 := hY.s (b' := cB tp e a) hb.2
      obtain ⟨p1, p2⟩ := x_tw3 F hF hT hX
      obtain ⟨q1, q2⟩ := y_bh33 F hF hT hY (nI 1) (nI 9)
      cases cd : wd tp wDelay (cB tp e a) (cW tp e a) with
      | false =>
        unfold jX6_readLink_104 jX12_readLink_95
        rw [p2 cd, q2 cd, qbd, qbd]
        dsimp only
        rw [if_pos (show nI 0 = 0 from rfl), if_pos rfl, if_neg (show ¬ (0 : Int32) ≤ -1 by decide), if_neg (show ¬ (0 : Int32) ≤ -1 by decide)]
        exact lnR_no (cB_b hX.2.1) rfl rfl (zw_at _ _ _ _) hY1.2.2.2.1 ((fXr.s _ _ _).trans (fXr.w _ _ _)) (fY.s _ _ _)
      | true =>
        have hD := cD_b (tp := tp) hX1.2.1
        have hX2 := hX1.s (b' := cB tp e (cW tp e a)) hD
        have hY2 := hY.s (b' := cB tp e (cW tp e a)) hD
        obtain ⟨x1, x2⟩ := x_cn F hF hT hX1 (nI 1) (nI 9)
        rw [p1 cd, q1 cd, qbd, qbd]
        dsimp only
        rw [if_neg (show ¬ nI 1 = 0 by decide)]
        by_cases c3 : cN tp e (cW tp e a) (nI 1) (nI 9) = -1
        · unfold jX6_readLink_104 jX12_readLink_95
          rw [x1 c3, c3, qbd]
          dsimp only
          rw [if_pos rfl, if_neg (show ¬ (0 : Int32) ≤ -1 by decide), if_neg (show ¬ (0 : Int32) ≤ -1 by decide)]
          exact lnR_no (cB_b hX1.2.1) rfl rfl (zw_at _ _ _ _) hY2.2.2.2.1 (((fXr.s _ _ _).trans (fXr.s _ _ _)).trans (fXr.w _ _ _)) (fY.s _ _ _)
        · obtain ⟨v, v1, v2, v3, v4⟩ := cN_val hT hX1.2.1 c3
          have v5 : 1 ≤ v := Decidable.byContradiction fun z => v3 ((nI_ltI (by omega) (by omega)).mpr (by omega))
          have v6 : v ≤ 9 := (nI_leI (by omega) (by omega)).mp v4
          rw [x2 c3, v2, qbd]
          dsimp only
          rw [if_pos (nI_pos' (show v < 2 ^ 31 by omega))]
          have e6 : (zg μ 0 (Xs (Xs (μ 0) (cB tp e a) (cW tp e a)) (cB tp e (cW tp e a)) (cD tp e (cW tp e a)))) 6 = μ 6 := zg_ne (by decide)
          refine (l_lossEnd F hF hT hl (μ := zg μ 0 (Xs (Xs (μ 0) (cB tp e a) (cW tp e a)) (cB tp e (cW tp e a)) (cD tp e (cW tp e a)))) (Y := Ys Y (cB tp e (cW tp e a)) (cD tp e (cW tp e a))) ?_ ?_ hY2 hx hy c v5 v6 ?_).via ((fXr.s _ _ _).trans (fXr.s _ _ _)) (fY.s _ _ _)
          · rw [e6]; exact wP.s ⟨m, Z, hw, hK⟩ _ _
          · rw [zg_at]; exact hX2
          · rw [e6]; exact c2
    · have hle := bw_le (gOf l (μ 6)) x y
      have hlt : bw (gOf l (μ 6)) x y < 2147483648 := by
        have h2 : bw (gOf l (μ 6)) x y ≤ l := hle
        omega
      rw [if_neg c2, if_neg (nI_ne_m1 hlt), if_neg (nI_ne_m1 hlt)]
      exact bad
theorem l_link (F : Nat) (hF : 500 ≤ F) (hT : byT tp e) (hbe : b ≤ e) {s l : Nat} (hw : wP s l T (μ 6) Y) (hX : tpX tp e b a (μ 0)) (hY : tpY tp e b a Y) : lnR tp e T μ Y (eX6_readLink F μ) (eX12_readLink F Y) := by
  obtain ⟨m, Z, hw, hK⟩ := id hw
  have hs := hw.hs
  have hl := hw.hl
  unfold eX6_readLink eX12_readLink
  rw [hw.links, hw.ln, hw.links, zg_id]
  by_cases c : l = 10
  · rw [if_neg (show ¬ nI l < nI 10 from nI_nlt (by omega) (by omega)), if_pos (show nI l = nI 10 by rw [c]), x_failX hX, qbd]
    dsimp only
    rw [show zbl (nI 0) = true from rfl, qchk]
    exact lnR_no hbe rfl rfl (zw_at _ _ _ _) hY.2.2.2.1 (fXr.w _ _ _) (fY.rf _)
  · have hl10 : l < 10 := by omega
    rw [if_pos ((nI_ltI (by omega) (by omega)).mpr hl10), if_neg (fun z => c ((nI_eq (by omega) (by omega)).mp z)), hw.nodes, hw.nn, hw.nodes]
    obtain ⟨x1, x2⟩ := x_cn F hF hT hX (nI 0) (nI s - nI 1)
    have hD := cD_b (tp := tp) hX.2.1
    have hX1 := hX.s (b' := cB tp e a) hD
    have hY1 := hY.s (b' := cB tp e a) hD
    rw [y_cn F hF hT hY, qbd]
    dsimp only
    by_cases c1 : cN tp e a (nI 0) (nI s - nI 1) = -1
    · unfold jX6_readLink_49 jX12_readLink_44
      rw [x1 c1, c1, qbd]
      dsimp only
      rw [if_pos rfl, if_pos rfl, if_neg (show ¬ (0 : Int32) ≤ -1 by decide), if_pos (show (-1 : Int32) < 0 by decide)]
      exact lnR_no (cB_b hX.2.1) rfl rfl (zw_at _ _ _ _) hY1.2.2.2.1 ((fXr.s _ _ _).trans (fXr.w _ _ _)) (fY.s _ _ _)
    · obtain ⟨x, x3, x4, -, x5⟩ := cN_val hT hX.2.1 c1
      have hx := nI_s1 hs x3 x5
      obtain ⟨z1, z2⟩ := x_cn F hF hT hX1 (nI 0) (nI s - nI 1)
      have hD2 := cD_b (tp := tp) hX1.2.1
      have hX2 := hX1.s (b' := cB tp e (cD tp e a)) hD2
      have hY2 := hY1.s (b' := cB tp e (cD tp e a)) hD2
      rw [x2 c1, x4, qbd]
      dsimp only
      rw [if_neg (nI_ne_m1 (by omega)), if_pos (nI_pos' (show x < 2 ^ 31 by omega)), Ys_row _ _ _ (show (1 : Nat) ≠ 0 by decide), hw.nn, hw.nodes, y_cn F hF hT hY1, qbd]
      dsimp only
      by_cases c2 : cN tp e (cD tp e a) (nI 0) (nI s - nI 1) = -1
      · unfold jX6_readLink_49 jX12_readLink_44
        rw [z1 c2, c2, qbd]
        dsimp only
        rw [if_pos rfl, if_pos (show (-1 : Int32) < 0 by decide)]
        exact lnR_no (cB_b hX1.2.1) rfl rfl (zw_at _ _ _ _) hY2.2.2.2.1 (((fXr.s _ _ _).trans (fXr.s _ _ _)).trans (fXr.w _ _ _)) ((fY.s _ _ _).trans (fY.s _ _ _))
      · obtain ⟨y, y3, y4, -, y5⟩ := cN_val hT hX1.2.1 c2
        have hy := nI_s1 hs y3 y5
        rw [z2 c2, y4, qbd]
        dsimp only
        have e6 : (zg μ 0 (Xs (Xs (μ 0) (cB tp e a) (cD tp e a)) (cB tp e (cD tp e a)) (cD tp e (cD tp e a)))) 6 = μ 6 := zg_ne (by decide)
        refine (l_linkMid F hF hT (cB_b (tp := tp) hX1.2.1) hl10 (μ := zg μ 0 (Xs (Xs (μ 0) (cB tp e a) (cD tp e a)) (cB tp e (cD tp e a)) (cD tp e (cD tp e a)))) (s := s) (l := l) ?_ ?_ hY2 hx hy).via ((fXr.s _ _ _).trans (fXr.s _ _ _)) ((fY.s _ _ _).trans (fY.s _ _ _))
        · rw [e6]; exact (wP.s ⟨m, Z, hw, hK⟩ _ _).s _ _
        · rw [zg_at]; exact hX2
end LK2
