/-! lines of a text: a link -/
abbrev wDelay : List Nat := [100, 101, 108, 97, 121]
abbrev wLoss : List Nat := [108, 111, 115, 115]
abbrev wDown : List Nat := [100, 111, 119, 110]
section LK
variable {tp : Nat → Int32} {e b a : Nat} {X Y : zX} {T : Nat × Nat} {μ : zM}
/-- where the word that comes ends -/
def cW (tp : Nat → Int32) (e a : Nat) : Nat := lw tp e (bk tp e a)
theorem cW_b (ha : a ≤ e) : cB tp e a ≤ cW tp e a ∧ cW tp e a ≤ e := by
  have h1 := bk_b (tp := tp) ha
  have h2 := lw_b (tp := tp) h1.2
  unfold cB cW
  omega
theorem x_failX (h : tpX tp e b a X) : eX6_fail X = some (nI 0, zw X 3 3 (nI b)) := by
  unfold eX6_fail
  rw [h.2.2.2.1]
theorem x_tw3 (F : Nat) (hF : 500 ≤ F) (hT : byT tp e) (h : tpX tp e b a X) : (wd tp wDelay (cB tp e a) (cW tp e a) = true → eX6_takeThisWords3 F X = some (nI 1, Xs X (cB tp e a) (cW tp e a))) ∧ (wd tp wDelay (cB tp e a) (cW tp e a) = false → eX6_takeThisWords3 F X = some (nI 0, zw (Xs X (cB tp e a) (cW tp e a)) 3 3 (nI (cB tp e a)))) := by
  have hb := cW_b (tp := tp) h.2.1
  have h1 := h.s (b' := cB tp e a) hb.2
  unfold eX6_takeThisWords3
  rw [x_word F hF hT h, qbd, show bk tp e a = cB tp e a from rfl, show lw tp e (cB tp e a) = cW tp e a from rfl, x_w3 F hF hT h1 hb.1, qbd]
  constructor
  · intro z; rw [z, if_neg (show ¬ wB1 true = 0 by decide)]
  · intro z
    rw [z, if_pos (show wB1 false = 0 by decide), x_failX h1, qbd]
    dsimp only
    rw [if_pos (show nI 0 = 0 from rfl)]
theorem x_tw4 (F : Nat) (hF : 500 ≤ F) (hT : byT tp e) (h : tpX tp e b a X) : (wd tp wLoss (cB tp e a) (cW tp e a) = true → eX6_takeThisWords4 F X = some (nI 1, Xs X (cB tp e a) (cW tp e a))) ∧ (wd tp wLoss (cB tp e a) (cW tp e a) = false → eX6_takeThisWords4 F X = some (nI 0, zw (Xs X (cB tp e a) (cW tp e a)) 3 3 (nI (cB tp e a)))) := by
  have hb := cW_b (tp := tp) h.2.1
  have h1 := h.s (b' := cB tp e a) hb.2
  unfold eX6_takeThisWords4
  rw [x_word F hF hT h, qbd, show bk tp e a = cB tp e a from rfl, show lw tp e (cB tp e a) = cW tp e a from rfl, x_w4 F hF hT h1 hb.1, qbd]
  constructor
  · intro z; rw [z, if_neg (show ¬ wB1 true = 0 by decide)]
  · intro z
    rw [z, if_pos (show wB1 false = 0 by decide), x_failX h1, qbd]
    dsimp only
    rw [if_pos (show nI 0 = 0 from rfl)]
theorem x_tw1 (F : Nat) (hF : 500 ≤ F) (hT : byT tp e) (h : tpX tp e b a X) : (wd tp wDown (cB tp e a) (cW tp e a) = true → eX6_takeThisWords1 F X = some (nI 1, Xs X (cB tp e a) (cW tp e a))) ∧ (wd tp wDown (cB tp e a) (cW tp e a) = false → eX6_takeThisWords1 F X = some (nI 0, zw (Xs X (cB tp e a) (cW tp e a)) 3 3 (nI (cB tp e a)))) := by
  have hb := cW_b (tp := tp) h.2.1
  have h1 := h.s (b' := cB tp e a) hb.2
  unfold eX6_takeThisWords1
  rw [x_word F hF hT h, qbd, show bk tp e a = cB tp e a from rfl, show lw tp e (cB tp e a) = cW tp e a from rfl, x_w1 F hF hT h1 hb.1, qbd]
  constructor
  · intro z; rw [z, if_neg (show ¬ wB1 true = 0 by decide)]
  · intro z
    rw [z, if_pos (show wB1 false = 0 by decide), x_failX h1, qbd]
    dsimp only
    rw [if_pos (show nI 0 = 0 from rfl)]
theorem y_bh33 (F : Nat) (hF : 500 ≤ F) (hT : byT tp e) (h : tpY tp e b a Y) (lo hi : Int32) : (wd tp wDelay (cB tp e a) (cW tp e a) = true → eX12_behinds33 F lo hi Y = some (cN tp e (cW tp e a) lo hi, Ys Y (cB tp e (cW tp e a)) (cD tp e (cW tp e a)))) ∧ (wd tp wDelay (cB tp e a) (cW tp e a) = false → eX12_behinds33 F lo hi Y = some (-1, Ys Y (cB tp e a) (cW tp e a))) := by
  have hb := cW_b (tp := tp) h.2.1
  have h1 := h.s (b' := cB tp e a) hb.2
  unfold eX12_behinds33
  rw [y_letters F hF h, qbd, show bk tp e a = cB tp e a from rfl, show lw tp e (cB tp e a) = cW tp e a from rfl, y_w33 F hF h1 hb.1, qbd]
  constructor
  · intro z
    rw [z, if_neg (show ¬ wB1 true = 0 by decide), y_cn F hF hT h1, qbd, Ys_Ys]
  · intro z; rw [z, if_pos (show wB1 false = 0 by decide)]
theorem y_bh34 (F : Nat) (hF : 500 ≤ F) (hT : byT tp e) (h : tpY tp e b a Y) (lo hi : Int32) : (wd tp wLoss (cB tp e a) (cW tp e a) = true → eX12_behinds34 F lo hi Y = some (cN tp e (cW tp e a) lo hi, Ys Y (cB tp e (cW tp e a)) (cD tp e (cW tp e a)))) ∧ (wd tp wLoss (cB tp e a) (cW tp e a) = false → eX12_behinds34 F lo hi Y = some (-1, Ys Y (cB tp e a) (cW tp e a))) := by
  have hb := cW_b (tp := tp) h.2.1
  have h1 := h.s (b' := cB tp e a) hb.2
  unfold eX12_behinds34
  rw [y_letters F hF h, qbd, show bk tp e a = cB tp e a from rfl, show lw tp e (cB tp e a) = cW tp e a from rfl, y_w34 F hF h1 hb.1, qbd]
  constructor
  · intro z
    rw [z, if_neg (show ¬ wB1 true = 0 by decide), y_cn F hF hT h1, qbd, Ys_Ys]
  · intro z; rw [z, if_pos (show wB1 false = 0 by decide)]
/-- a failure -/
theorem lnR_no {c : Option (Int32 × zM)} {r : Option (Int32 × zX)} {X' Y' : zX} {b : Nat} (hb : b ≤ e) (ec : c = some (nI 0, zg μ 0 X')) (er : r = some (nI 0, Y')) (hx : X' 3 3 = nI b) (hy : Y' 0 10 = nI b) (fx : fXr (μ 0) X') (fy : fY Y Y') : lnR tp e T μ Y c r :=
  ⟨_, X', μ 6, _, Y', by rw [zg_6]; exact ec, er, Or.inr (Or.inl ⟨rfl, rfl, b, hb, hx, hy⟩), fx, fy⟩
theorem cN_val (hT : byT tp e) (ha : a ≤ e) {lo hi : Int32} (c : cN tp e a lo hi ≠ -1) : ∃ v, v < 1000 ∧ cN tp e a lo hi = nI v ∧ ¬ nI v < lo ∧ nI v ≤ hi := (cN_in hT ha lo hi).resolve_left c
theorem nI_s1 {s : Nat} (hs : s ≤ 6) {v : Nat} (hv : v < 1000) (h : nI v ≤ nI s - nI 1) : v < s := by
  rw [Int32.le_iff_toInt_le, nI_toInt (by omega)] at h
  have : (nI s - nI 1).toInt = (s : Int) - 1 := by
    rw [Int32.toInt_sub, nI_toInt (by omega), i_1, Int.bmod_def]
    split <;> omega
  omega
/-- a link is there, or not -/
theorem bw_none {G : gT} {x y : Nat} (h : bw G x y = gl G) : ∀ i, i < gl G → ¬ ((go G i = x ∧ gt G i = y) ∨ (go G i = y ∧ gt G i = x)) := fun i hi => by
  have := ff_no (lnk G x y) (gl G) 0 i (Nat.zero_le _) (by unfold bw at h; omega)
  exact of_decide_eq_false this
/-- the last of a link's line: the loss -/
theorem l_lossEnd (F : Nat) (hF : 500 ≤ F) (hT : byT tp e) {s l : Nat} (hl : l < 10) (hw : wP s l T (μ 6) Y) (hX : tpX tp e b a (μ 0)) (hY : tpY tp e b a Y) {x y d : Nat} (hx : x < s) (hy : y < s) (hxy : x ≠ y) (hd : 1 ≤ d) (hd2 : d ≤ 9) (hn : bw (gOf l (μ 6)) x y = l) : lnR tp e T μ Y (jX6_readLink_104 F (nI x) (nI y) (nI d) μ) (zbd (eX12_behinds34 F (nI 0) (nI 100) Y) fun y10 => jX12_readLink_95 F (nI l) (nI x) (nI y) (nI d) y10.1 y10.2) := by
  obtain ⟨m, Z, hw, hK⟩ := hw
  have hs := hw.hs
  have hb := cW_b (tp := tp) hX.2.1
  have hX1 := hX.s (b' := cB tp e a) hb.2
  have hY1 := hY.s (b' := cB tp e a) hb.2
  obtain ⟨p1, p2⟩ := x_tw4 F hF hT hX
  obtain ⟨q1, q2⟩ := y_bh34 F hF hT hY (nI 0) (nI 100)
  unfold jX6_readLink_104 jX6_readLink_134 jX12_readLink_95
  rw [if_neg (nI_ne_m1 (show d < 2147483648 by omega))]
  cases c : wd tp wLoss (cB tp e a) (cW tp e a) with
  | false =>
    rw [p2 c, q2 c, qbd, qbd]
    dsimp only
    rw [if_pos (show nI 0 = 0 from rfl), if_pos rfl, if_neg (show ¬ (0 : Int32) ≤ -1 by decide)]
    exact lnR_no (cB_b hX.2.1) rfl rfl (zw_at _ _ _ _) hY1.2.2.2.1 ((fXr.s _ _ _).trans (fXr.w _ _ _)) (fY.s _ _ _)
  | true =>
    have hD := cD_b (tp := tp) hX1.2.1
    have hX2 := hX1.s (b' := cB tp e (cW tp e a)) hD
    have hY2 := hY.s (b' := cB tp e (cW tp e a)) hD
    obtain ⟨x1, x2⟩ := x_cn F hF hT hX1 (nI 0) (nI 100)
    rw [p1 c, q1 c, qbd, qbd]
    dsimp only
    rw [if_neg (show ¬ nI 1 = 0 by decide)]
    by_cases c2 : cN tp e (cW tp e a) (nI 0) (nI 100) = -1
    · rw [x1 c2, c2, qbd]
      dsimp only
      rw [if_pos rfl, if_neg (show ¬ (0 : Int32) ≤ -1 by decide)]
      exact lnR_no (cB_b hX1.2.1) rfl rfl (zw_at _ _ _ _) hY2.2.2.2.1 (((fXr.s _ _ _).trans (fXr.s _ _ _)).trans (fXr.w _ _ _)) (fY.s _ _ _)
    · obtain ⟨v, v1, v2, v3, v4⟩ := cN_val hT hX1.2.1 c2
      rw [x2 c2, v2, qbd]
      dsimp only
      rw [if_neg (nI_ne_m1 (by omega)), if_pos (nI_pos' (by omega)), zg_ne (show (6 : Nat) ≠ 0 by decide)]
      have ea : eX2_add (nI x) (nI y) (nI d) (nI v) (μ 6) = some (zw (zw (zw (zw (zw (μ 6) 34 l (nI x)) 35 l (nI y)) 36 l (nI d)) 37 l (nI v)) 5 0 (nI (l + 1))) := by
        unfold eX2_add
        rw [hw.links, if_pos ((nI_ltI (by omega) (by omega)).mpr hl), qzin (show l < 10 by omega) (by omega), qchk, qchk, qchk, qlet, qchk, qlet, qzn (by omega), nI_add]
      have hw0 := hw.row (Y' := Ys Y (cB tp e (cW tp e a)) (cD tp e (cW tp e a))) (Ys_row _ _ _ (by decide))
      have e11 : (Ys Y (cB tp e (cW tp e a)) (cD tp e (cW tp e a))) 1 1 = nI l := by rw [hw0.ln, hw0.links]
      rw [ea, qbd]
      simp only [a_l]
      rw [y_in (show 1482 + 6 * l + 0 < 2422 by omega), qchk, qlet, y_in (show 1482 + 6 * l + 1 < 2422 by omega), qchk, qlet, y_in (show 1482 + 6 * l + 2 < 2422 by omega), qchk, qlet, y_in (show 1482 + 6 * l + 3 < 2422 by omega), qchk, qlet, y_in (show 1482 + 6 * l + 4 < 2422 by omega), qchk, qlet, y_in (show 1482 + 6 * l + 5 < 2422 by omega), qchk, qlet, qzn (show 1482 + 6 * l + 0 < 2147483648 by omega), qzn (show 1482 + 6 * l + 1 < 2147483648 by omega), qzn (show 1482 + 6 * l + 2 < 2147483648 by omega), qzn (show 1482 + 6 * l + 3 < 2147483648 by omega), qzn (show 1482 + 6 * l + 4 < 2147483648 by omega), qzn (show 1482 + 6 * l + 5 < 2147483648 by omega)]
      rw [zw_no (b := 1) (Or.inr (by omega)), zw_no (b := 1) (Or.inr (by omega)), zw_no (b := 1) (Or.inr (by omega)), zw_no (b := 1) (Or.inr (by omega)), zw_no (b := 1) (Or.inr (by omega)), zw_no (b := 1) (Or.inr (by omega)), e11, nI_add]
      have gn := bw_none (G := gOf l (μ 6)) (x := x) (y := y) hn
      have f9 : fr [5, 34, 35, 36, 37] (μ 6) (zw (zw (zw (zw (zw (μ 6) 34 l (nI x)) 35 l (nI y)) 36 l (nI d)) 37 l (nI v)) 5 0 (nI (l + 1))) := fr_w (fr_w (fr_w (fr_w (fr_w (fr.refl _ _) (by decide)) (by decide)) (by decide)) (by decide)) (by decide)
      have hw9 := hw0.w_link (X1 := zw (zw (zw (zw (zw (μ 6) 34 l (nI x)) 35 l (nI y)) 36 l (nI d)) 37 l (nI v)) 5 0 (nI (l + 1))) (Y1 := zw (zw (zw (zw (zw (zw (zw (Ys Y (cB tp e (cW tp e a)) (cD tp e (cW tp e a))) 1 (1482 + 6 * l + 0) (nI x)) 1 (1482 + 6 * l + 1) (nI y)) 1 (1482 + 6 * l + 2) (nI d)) 1 (1482 + 6 * l + 3) (nI v)) 1 (1482 + 6 * l + 4) (nI 0)) 1 (1482 + 6 * l + 5) (nI 0)) 1 1 (nI (l + 1))) hl hx hy hxy hd hd2 (nI v) (fun i hi z => by
          have g := gn i hi
          have q34 : zn ((μ 6) 34 i) = go (gOf l (μ 6)) i := rfl
          have q35 : zn ((μ 6) 35 i) = gt (gOf l (μ 6)) i := rfl
          rcases z with ⟨z1, z2⟩ | ⟨z1, z2⟩
          · rw [z1, qzn (by omega)] at q34; rw [z2, qzn (by omega)] at q35
            exact g (Or.inl ⟨q34.symm, q35.symm⟩)
          · rw [z1, qzn (by omega)] at q34; rw [z2, qzn (by omega)] at q35
            exact g (Or.inr ⟨q34.symm, q35.symm⟩)) f9 (zw_at _ _ _ _) (by rw [zw_no (Or.inr (by decide)), zw_no (Or.inl (by decide)), zw_no (Or.inl (by decide)), zw_no (Or.inl (by decide)), zw_no (Or.inl (by decide))]) (fun k k1 k2 i hi => by rw [zw_no (Or.inl (by omega)), zw_no (Or.inr hi), zw_no (Or.inr hi), zw_no (Or.inr hi), zw_no (Or.inr hi)]) (by rw [zw_no (Or.inl (by decide)), zw_no (Or.inl (by decide)), zw_no (Or.inl (by decide)), zw_no (Or.inl (by decide)), zw_at]) (by rw [zw_no (Or.inl (by decide)), zw_no (Or.inl (by decide)), zw_no (Or.inl (by decide)), zw_at]) (by rw [zw_no (Or.inl (by decide)), zw_no (Or.inl (by decide)), zw_at]) (by rw [zw_no (Or.inl (by decide)), zw_at])
          (zw_at _ _ _ _) (by rw [zw_no (Or.inr (by omega)), zw_no (Or.inr (by omega)), zw_no (Or.inr (by omega)), zw_no (Or.inr (by omega)), zw_no (Or.inr (by omega)), zw_no (Or.inr (by omega)), zw_at]) (by rw [zw_no (Or.inr (by omega)), zw_no (Or.inr (by omega)), zw_no (Or.inr (by omega)), zw_no (Or.inr (by omega)), zw_no (Or.inr (by omega)), zw_at]) (by rw [zw_no (Or.inr (by omega)), zw_no (Or.inr (by omega)), zw_no (Or.inr (by omega)), zw_no (Or.inr (by omega)), zw_at]) (by rw [zw_no (Or.inr (by omega)), zw_no (Or.inr (by omega)), zw_no (Or.inr (by omega)), zw_at]) (by rw [zw_no (Or.inr (by omega)), zw_no (Or.inr (by omega)), zw_at]) (by rw [zw_no (Or.inr (by omega)), zw_at])
          (fun a' g1 g2 => by rw [zw_no (Or.inr g1), zw_no (Or.inr (by omega)), zw_no (Or.inr (by omega)), zw_no (Or.inr (by omega)), zw_no (Or.inr (by omega)), zw_no (Or.inr (by omega)), zw_no (Or.inr (by omega))])
      have f1y : fr [1] (Ys Y (cB tp e (cW tp e a)) (cD tp e (cW tp e a))) (zw (zw (zw (zw (zw (zw (zw (Ys Y (cB tp e (cW tp e a)) (cD tp e (cW tp e a))) 1 (1482 + 6 * l + 0) (nI x)) 1 (1482 + 6 * l + 1) (nI y)) 1 (1482 + 6 * l + 2) (nI d)) 1 (1482 + 6 * l + 3) (nI v)) 1 (1482 + 6 * l + 4) (nI 0)) 1 (1482 + 6 * l + 5) (nI 0)) 1 1 (nI (l + 1))) := fr_w (fr_w (fr_w (fr_w (fr_w (fr_w (fr_w (fr.refl _ _) (by decide)) (by decide)) (by decide)) (by decide)) (by decide)) (by decide)) (by decide)
      exact ⟨_, _, _, _, _, rfl, rfl, Or.inl ⟨rfl, rfl, s, l + 1, _, _, _, ⟨m, Z, hw9, hK.fr f9 (by decide)⟩, f9.sub (by decide), hX2, hY2.w1 f1y⟩, (fXr.s _ _ _).trans (fXr.s _ _ _), (fY.s _ _ _).trans (fY.f1 f1y)⟩
end LK
