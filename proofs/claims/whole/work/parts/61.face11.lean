/-! the tape is fed -/
theorem q_byte {x y : Int32} (h : ∀ i, i < 8 → bt x i = bt y i) : x.toInt8 = y.toInt8 := by
  apply Int8.toBitVec_inj.1
  rw [Int32.toBitVec_toInt8, Int32.toBitVec_toInt8]
  apply BitVec.eq_of_getLsbD_eq
  intro i hi
  have := h i hi
  unfold bt at this
  rw [BitVec.getLsbD_signExtend, BitVec.getLsbD_signExtend, if_pos (by omega), if_pos (by omega), this]
/-- a byte of a word -/
def wB (w : Int32) (q : Nat) : Int32 := vp_nar .byte ((zush w (nI (24 - 8 * q))).toInt8.toInt32)
theorem wB_s (w : Int32) {q : Nat} (hq : q < 4) : vp_nar .byte ((w >>> (nI (24 - 8 * q) &&& 31)).toInt8.toInt32) = wB w q := by
  unfold wB
  rw [q_byte (x := w >>> (nI (24 - 8 * q) &&& 31)) (y := zush w (nI (24 - 8 * q))) (fun i hi => ?_)]
  rw [b_sshr (24 - 8 * q) (by omega) w (by omega), if_pos (by omega)]
  unfold zush
  exact (b_ushr (24 - 8 * q) (by omega) w i).symm
theorem m8 {k : Nat} : nI (k + 8) + -8 = nI k := by
  rw [← nI_add, Int32.add_assoc]
  have : nI 8 + -8 = (0 : Int32) := by decide
  rw [this, Int32.add_zero]
theorem put_1 (F fu : Nat) (w : Int32) {X : zX} {len k : Nat} (hk : k ≤ 24) (e : X 1 1 = nI len) (hl : len < 400) : hX7_put_3 F (fu + 1) w (nI k) X = hX7_put_3 F fu w (nI k + -8) (zw (zw X 2 len (vp_nar .byte ((zush w (nI k)).toInt8.toInt32))) 1 1 (nI (len + 1))) := by
  conv => lhs; unfold hX7_put_3
  rw [if_neg (nI_pos (by omega)), e, if_neg (nI_ge hl (by omega)), qzin hl (by omega), qchk, qlet, qzn (by omega), nI_add]
theorem put_5 (F fu : Nat) (w : Int32) (X : zX) : hX7_put_3 F (fu + 1) w (nI 0 + -8) X = some X := by
  unfold hX7_put_3
  rw [if_pos (by decide)]
theorem x_put (F : Nat) (hF : 300 ≤ F) (w : Int32) {X : zX} {len : Nat} (e : X 1 1 = nI len) (hl : len + 4 ≤ 400) : ∃ X', eX7_put F w X = some X' ∧ X' 1 1 = nI (len + 4) ∧ (∀ k, k ≠ 1 → k ≠ 2 → X' k = X k) ∧ (∀ i, i < len → X' 2 i = X 2 i) ∧ (∀ q, q < 4 → X' 2 (len + q) = wB w q) := by
  obtain ⟨f, rfl⟩ : ∃ f, F = f + 1 + 1 + 1 + 1 + 1 := ⟨F - 5, by omega⟩
  generalize hF' : f + 1 + 1 + 1 + 1 + 1 = G
  refine ⟨zw (zw (zw (zw (zw (zw (zw (zw X 2 len (wB w 0)) 1 1 (nI (len + 1))) 2 (len + 1) (wB w 1)) 1 1 (nI (len + 1 + 1))) 2 (len + 1 + 1) (wB w 2)) 1 1 (nI (len + 1 + 1 + 1))) 2 (len + 1 + 1 + 1) (wB w 3)) 1 1 (nI (len + 1 + 1 + 1 + 1)), ?_, ?_, fun k h1 h2 => ?_, fun i hi => ?_, fun q hq => ?_⟩
  · unfold eX7_put
    rw [show hX7_put_3 G G w (nI 24) X = hX7_put_3 G (f + 1 + 1 + 1 + 1 + 1) w (nI 24) X by rw [hF']]
    rw [put_1 G _ w (by omega) e (by omega), m8 (k := 16), put_1 G _ w (by omega) (zw_at _ _ _ _) (by omega), m8 (k := 8), put_1 G _ w (by omega) (zw_at _ _ _ _) (by omega), m8 (k := 0), put_1 G _ w (by omega) (zw_at _ _ _ _) (by omega), put_5] <;> rfl
  · rw [zw_at]
  · rw [zw_row_ne h1, zw_row_ne h2, zw_row_ne h1, zw_row_ne h2, zw_row_ne h1, zw_row_ne h2, zw_row_ne h1, zw_row_ne h2]
  · rw [zw_no (Or.inl (by decide)), zw_no (Or.inr (by omega)), zw_no (Or.inl (by decide)), zw_no (Or.inr (by omega)), zw_no (Or.inl (by decide)), zw_no (Or.inr (by omega)), zw_no (Or.inl (by decide)), zw_no (Or.inr (by omega))]
  · have : q = 0 ∨ q = 1 ∨ q = 2 ∨ q = 3 := by omega
    rcases this with rfl | rfl | rfl | rfl
    · rw [zw_no (Or.inl (by decide)), zw_no (Or.inr (by omega)), zw_no (Or.inl (by decide)), zw_no (Or.inr (by omega)), zw_no (Or.inl (by decide)), zw_no (Or.inr (by omega)), zw_no (Or.inl (by decide)), Nat.add_zero, zw_at]
    · rw [zw_no (Or.inl (by decide)), zw_no (Or.inr (by omega)), zw_no (Or.inl (by decide)), zw_no (Or.inr (by omega)), zw_no (Or.inl (by decide)), zw_at]
    · rw [zw_no (Or.inl (by decide)), zw_no (Or.inr (by omega)), zw_no (Or.inl (by decide)), zw_at]
    · rw [zw_no (Or.inl (by decide)), zw_at]
theorem y_feed (F : Nat) {len : Nat} (hl : len + 20 ≤ 400) : ∀ (d fu j : Nat) (Y : zX), 20 - j = d → j ≤ 20 → d < fu → Y 0 7 = nI len → ∃ Y', hX12_feed_60 F fu (nI j) Y = some (nI (len + 20), Y') ∧ (∀ k, k ≠ 0 → k ≠ 5 → Y' k = Y k) ∧ (∀ i, i ≠ 7 → Y' 0 i = Y 0 i) ∧ Y' 0 7 = nI (len + 20) ∧ (∀ i, i < len + j → Y' 5 i = Y 5 i) ∧ (∀ q, j ≤ q → q < 20 → Y' 5 (len + q) = wB (Y 6 (q / 4)) (q % 4)) := by
  intro d
  induction d with
  | zero =>
    intro fu j Y h1 h2 h3 h4
    obtain ⟨fu, rfl⟩ := Nat.exists_eq_succ_of_ne_zero (show fu ≠ 0 by omega)
    have : j = 20 := by omega
    subst this
    unfold hX12_feed_60
    rw [if_pos (by decide), zw_at, h4, nI_add]
    exact ⟨_, rfl, fun k h1 _ => zw_row_ne h1, fun i hi => zw_no (Or.inr hi), zw_at _ _ _ _, fun i _ => zw_no (Or.inl (by decide)), fun q h1 h2 => by omega⟩
  | succ d ih =>
    intro fu j Y h1 h2 h3 h4
    obtain ⟨fu, rfl⟩ := Nat.exists_eq_succ_of_ne_zero (show fu ≠ 0 by omega)
    have hj : j < 20 := by omega
    obtain ⟨Y', e, k1, k2, k3, k4, k5⟩ := ih fu (j + 1) (zw Y 5 (len + j) (wB (Y 6 (j / 4)) (j % 4))) (by omega) (by omega) (by omega) (by rw [zw_no (Or.inl (by decide))]; exact h4)
    refine ⟨Y', ?_, fun k g1 g2 => by rw [k1 k g1 g2, zw_row_ne g2], fun i hi => by rw [k2 i hi, zw_no (Or.inl (by decide))], k3, fun i hi => by rw [k4 i (by omega), zw_no (Or.inr (by omega))], fun q g1 g2 => ?_⟩
    · unfold hX12_feed_60
      have e8 : nI 24 - nI 8 * zrem (nI j) (nI 4) = nI (24 - 8 * (j % 4)) := by
        rw [nI_rem (by omega) (by omega), nI_mul, nI_sub (by omega)]
      rw [if_neg (nI_ge hj (by omega)), nI_div (by omega) (by omega), qzin (show j / 4 < 5 by omega) (by omega), qchk, h4, nI_add, qzin (show len + j < 400 by omega) (by omega), qchk, qlet, qzn (by omega), qzn (by omega), e8, wB_s _ (by omega), nI_add, e]
    · by_cases c : q = j
      · subst c
        rw [k4 (len + q) (by omega), zw_at]
      · rw [k5 q (by omega) g2, zw_no (Or.inl (by decide))]
section F14
variable {T : Nat} {μ : zM}
theorem f_feed (F : Nat) (hF : 300 ≤ F) (h : INV T μ) (x0 x1 x2 x3 x4 : Int32) : ∃ r μ', eX11_feed F x0 x1 x2 x3 x4 μ = some (r, μ') ∧ okR T μ' (.inl r) [] (eX12_feed F x0 x1 x2 x3 x4 (μ 1)) := by
  unfold eX11_feed eX12_feed
  obtain ⟨⟨len, a1, a2, a3, a4⟩, b, c, ⟨s, l, nx, d⟩, e⟩ := id h
  have e7 : (zw (μ 1) 0 0 (nI 0)) 0 7 = nI len := by rw [zw_no (by decide)]; exact a3
  rw [e7, a2, zg_id, nI_add]
  by_cases c0 : len + 20 ≤ 400
  · have c1 : ¬ nI 400 < nI (len + 20) := nI_nlt (by omega) (by omega)
    have c2 : nI (len + 20) ≤ nI 400 := (nI_leI (by omega) (by omega)).mpr c0
    rw [if_pos c1, if_pos c2]
    obtain ⟨X1, p1, p2, p3, p4, p5⟩ := x_put F hF x0 a2 (by omega)
    obtain ⟨X2, q1, q2, q3, q4, q5⟩ := x_put F hF x1 p2 (by omega)
    obtain ⟨X3, r1, r2, r3, r4, r5⟩ := x_put F hF x2 q2 (by omega)
    obtain ⟨X4, s1, s2, s3, s4, s5⟩ := x_put F hF x3 r2 (by omega)
    obtain ⟨X5, t1, t2, t3, t4, t5⟩ := x_put F hF x4 s2 (by omega)
    rw [p1, qbd, q1, qbd, r1, qbd, s1, qbd, t1, qbd, qlet]
    obtain ⟨Y', f0, f1, f2, f3, f4, f5⟩ := y_feed F c0 20 F 0 (zw (zw (zw (zw (zw (zw (μ 1) 0 0 (nI 0)) 6 0 x0) 6 1 x1) 6 2 x2) 6 3 x3) 6 4 x4) rfl (Nat.zero_le _) (by omega) (by rw [zw_no (Or.inl (by decide)), zw_no (Or.inl (by decide)), zw_no (Or.inl (by decide)), zw_no (Or.inl (by decide)), zw_no (Or.inl (by decide))]; exact e7)
    have f0' : hX12_feed_60 F F (nI 0) (zw (zw (zw (zw (zw (zw (μ 1) 0 0 (nI 0)) 6 0 x0) 6 1 x1) 6 2 x2) 6 3 x3) 6 4 x4) = _ := f0
    have g6 : ∀ k, k ≠ 0 → k ≠ 6 → (zw (zw (zw (zw (zw (zw (μ 1) 0 0 (nI 0)) 6 0 x0) 6 1 x1) 6 2 x2) 6 3 x3) 6 4 x4) k = (μ 1) k := fun k h1 h2 => by
      rw [zw_row_ne h2, zw_row_ne h2, zw_row_ne h2, zw_row_ne h2, zw_row_ne h2, zw_row_ne h1]
    have g0 : ∀ i, i ≠ 0 → (zw (zw (zw (zw (zw (zw (μ 1) 0 0 (nI 0)) 6 0 x0) 6 1 x1) 6 2 x2) 6 3 x3) 6 4 x4) 0 i = (μ 1) 0 i := fun i h1 => by
      rw [zw_no (Or.inl (by decide)), zw_no (Or.inl (by decide)), zw_no (Or.inl (by decide)), zw_no (Or.inl (by decide)), zw_no (Or.inl (by decide)), zw_no (Or.inr h1)]
    have X0 : X5 0 = (μ 0) 0 := by rw [t3 0 (by decide) (by decide), s3 0 (by decide) (by decide), r3 0 (by decide) (by decide), q3 0 (by decide) (by decide), p3 0 (by decide) (by decide)]
    rw [f0']
    refine ⟨_, _, rfl, _, _, rfl, ⟨⟨len + 20, c0, ?_, ?_, fun i hi => ?_⟩, ?_, ?_, ⟨s, l, nx, ?_⟩, ?_⟩, ?_, ?_⟩
    · rw [zg_ne (by decide), zg_at]; exact t2
    · rw [zg_at]; exact f3
    · rw [zg_ne (by decide), zg_at, zg_at]
      by_cases z : i < len
      · rw [t4 i (by omega), s4 i (by omega), r4 i (by omega), q4 i (by omega), p4 i z, f4 i (by omega), g6 5 (by decide) (by decide)]
        exact a4 i z
      · obtain ⟨q, rfl⟩ : ∃ q, i = len + q := ⟨i - len, by omega⟩
        refine ⟨?_, by rw [f5 q (Nat.zero_le _) (by omega)]; exact byR_of _⟩
        rw [f5 q (Nat.zero_le _) (by omega)]
        have : q / 4 = 0 ∨ q / 4 = 1 ∨ q / 4 = 2 ∨ q / 4 = 3 ∨ q / 4 = 4 := by omega
        rcases this with w | w | w | w | w
        · rw [w, t4 _ (by omega), s4 _ (by omega), r4 _ (by omega), q4 _ (by omega), show len + q = len + q % 4 by omega, p5 (q % 4) (by omega), zw_no (Or.inr (by decide)), zw_no (Or.inr (by decide)), zw_no (Or.inr (by decide)), zw_no (Or.inr (by decide)), zw_at]
        · rw [w, t4 _ (by omega), s4 _ (by omega), r4 _ (by omega), show len + q = len + 4 + q % 4 by omega, q5 (q % 4) (by omega), zw_no (Or.inr (by decide)), zw_no (Or.inr (by decide)), zw_no (Or.inr (by decide)), zw_at]
        · rw [w, t4 _ (by omega), s4 _ (by omega), show len + q = len + 4 + 4 + q % 4 by omega, r5 (q % 4) (by omega), zw_no (Or.inr (by decide)), zw_no (Or.inr (by decide)), zw_at]
        · rw [w, t4 _ (by omega), show len + q = len + 4 + 4 + 4 + q % 4 by omega, s5 (q % 4) (by omega), zw_no (Or.inr (by decide)), zw_at]
        · rw [w, show len + q = len + 4 + 4 + 4 + 4 + q % 4 by omega, t5 (q % 4) (by omega), zw_at]
    · rw [zg_ne (by decide), zg_at, zg_at, X0, f2 11 (by decide), g0 11 (by decide)]; exact b
    · rw [zg_ne (by decide), zg_ne (by decide)]; exact c
    · rw [zg_ne (show (4 : Nat) ≠ 1 by decide), zg_ne (show (4 : Nat) ≠ 0 by decide), zg_at]
      exact d.row (by rw [f1 1 (by decide) (by decide), g6 1 (by decide) (by decide)])
    · unfold keptR at e ⊢
      rw [zg_ne (show (0 : Nat) ≠ 1 by decide), zg_at, zg_at, X0, f2 5 (by decide), g0 5 (by decide), zg_ne (show (5 : Nat) ≠ 1 by decide), zg_ne (show (5 : Nat) ≠ 0 by decide)]
      rcases e with e | ⟨e1, e2, e3, s', l', nx', e4⟩
      · exact Or.inl e
      · exact Or.inr ⟨e1, e2, e3, s', l', nx', e4.row (by rw [zr_at, zr_at, f1 2 (by decide) (by decide), g6 2 (by decide) (by decide)])⟩
    · rw [f2 0 (by decide), zw_no (Or.inl (by decide)), zw_no (Or.inl (by decide)), zw_no (Or.inl (by decide)), zw_no (Or.inl (by decide)), zw_no (Or.inl (by decide)), zw_at]
    · exact t2.symm
  · have c1 : ¬ ¬ nI 400 < nI (len + 20) := fun z => z ((nI_ltI (by omega) (by omega)).mpr (by omega))
    have c2 : ¬ nI (len + 20) ≤ nI 400 := nI_ge (by omega) (by omega)
    rw [if_neg c1, if_neg c2]
    exact ⟨_, _, rfl, okR_val h (st_0 _) (r_0 _) (zw_at _ _ _ _) _ _⟩
end F14
