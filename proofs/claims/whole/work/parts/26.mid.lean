/-! methods of a node and a packet -/
theorem x_in {n p : Nat} (hn : n < 6) (hp : p < 12) : zin (nI (n * 12 + p)) 72 = true := qzin (by omega) (by omega)
theorem x_ix {n p : Nat} : nI n * nI 12 + nI p = nI (n * 12 + p) := by rw [nI_mul, nI_add]
theorem x_zn {n p : Nat} (hn : n < 6) (hp : p < 12) : zn (nI (n * 12 + p)) = n * 12 + p := qzn (by omega)
theorem x_6 {n o : Nat} : nI n * nI 6 + nI o = nI (n * 6 + o) := by rw [nI_mul, nI_add]
theorem x_in6 {n o : Nat} (hn : n < 6) (ho : o < 6) : zin (nI (n * 6 + o)) 36 = true := qzin (by omega) (by omega)
theorem x_zn6 {n o : Nat} (hn : n < 6) (ho : o < 6) : zn (nI (n * 6 + o)) = n * 6 + o := qzn (by omega)
theorem a_n {n w : Nat} : nI 18 + nI 244 * nI n + nI w = nI (18 + 244 * n + w) := by rw [nI_mul, nI_add, nI_add]
theorem a_o {n o w : Nat} : nI 18 + nI 244 * nI n + (nI 10 + nI 3 * nI o + nI w) = nI (18 + 244 * n + (10 + 3 * o + w)) := by rw [nI_mul, nI_mul, nI_add, nI_add, nI_add, nI_add]
theorem a_p {n p w : Nat} : nI 18 + nI 244 * nI n + (nI 28 + nI 18 * nI p + nI w) = nI (18 + 244 * n + (28 + 18 * p + w)) := by rw [nI_mul, nI_mul, nI_add, nI_add, nI_add, nI_add]
theorem a_l {n w : Nat} : nI 1482 + nI 6 * nI n + nI w = nI (1482 + 6 * n + w) := by rw [nI_mul, nI_add, nI_add]
theorem a_m {n w : Nat} : nI 1542 + nI 10 * nI n + nI w = nI (1542 + 10 * n + w) := by rw [nI_mul, nI_add, nI_add]
theorem a_6 {n o : Nat} : nI 6 * nI n + nI o = nI (6 * n + o) := by rw [nI_mul, nI_add]
theorem q_sh0 (x : Int32) : x <<< (nI 0 &&& 31) = x := by
  apply b_ext
  intro i hi
  rw [b_shl 0 (by omega) x hi]; simp
section MD
variable {lo : Nat × (Nat → Int32)} {s l m : Nat} {T : Nat × Nat} {X Y : zX}
theorem s_askLater (h : wS lo s l m T X Y) (hT : T.1 < 1000000) {n p : Nat} (hn : n < s) (hp : p < 12) (hh : (p : Int) ≤ (X 10 n).toInt) : ∃ X' Y', eX10_askLater (nI n) (nI (n * 12 + p)) X = some X' ∧ eX12_backsOff (nI n) (nI p) Y = some Y' ∧ wS lo s l m T X' Y' ∧ fr [2, 21, 22, 25] X X' ∧ fr [1] Y Y' := by
  have hs := h.1.hs
  have h1 : wS lo s l m T (zw X 22 (n * 12 + p) (zmn ((X 22 (n * 12 + p)) + (nI 1)) (nI 5))) (zw Y 1 (18 + 244 * n + (28 + 18 * p + 1)) (zmn ((X 22 (n * 12 + p)) + (nI 1)) (nI 5))) := h.w (h.1.w0 (rc_p (w := 1) hn hp (by decide)) (by decide)) (Or.inl (by decide))
  obtain ⟨X', Y', e1, e2, h2, f1, f2⟩ := s_setAsk h1 hT hn hp (by rw [zw_no (Or.inl (by decide))]; exact hh)
  have h3 : wS lo s l m T (zw X' 25 (n * 12 + p) ((X' 0 12) + (((X' 21 (n * 12 + p)) - (X' 0 12)) / (nI 2)))) (zw Y' 1 (18 + 244 * n + (28 + 18 * p + 4)) ((X' 0 12) + (((X' 21 (n * 12 + p)) - (X' 0 12)) / (nI 2)))) := h2.w (h2.1.w0 (rc_p (w := 4) hn hp (by decide)) (by decide)) (Or.inl (by decide))
  refine ⟨_, _, ?_, ?_, h3, fr_w ((fr_w (fr.refl [2, 21, 22, 25] X) (by decide)).trans (f1.sub (by decide))) (by decide), fr_w ((fr_w (fr.refl [1] Y) (by decide)).trans f2) (by decide)⟩
  · unfold eX10_askLater eX5_backOff
    rw [x_in (by omega) hp, qchk, qchk, qlet, x_zn (by omega) hp, qbd, e1, qbd, qchk, qchk, qlet]
  · unfold eX12_backsOff
    rw [y_pk Y (by omega) hp (by omega), qbd, h.1.backed hn hp]
    simp only [a_n, a_o, a_p, a_l, a_m]
    rw [y_in (by omega), qchk, qlet, qzn (by omega), zmn_com, e2, qbd, y_pk Y' (by omega) hp (by omega), qbd, y_in (by omega), qchk, qlet, qzn (by omega), h2.1.ask hn hp, h2.1.tick]
theorem s_setAnswer (h : wS lo s l m T X Y) (hT : T.1 < 1000000) {n p o : Nat} (hn : n < s) (hp : p < 12) (ho : o < s) (hne : n ≠ o) (hh : (p : Int) ≤ (X 10 n).toInt) (sc : Int32) : ∃ X' Y' Y1 v, eX10_setAnswer (nI n) (nI (n * 12 + p)) (nI o) sc X = some X' ∧ eX12_estOf (nI n) (nI o) Y = some v ∧ eX12_timeBy (Y 1 10) (Y 1 11) v (nI 0) Y = some Y1 ∧ Y' = zw (zw (zw Y1.2 1 (18 + 244 * n + (28 + 18 * p + 5)) Y1.1) 1 (18 + 244 * n + (28 + 18 * p + 6)) (nI o)) 1 (18 + 244 * n + (28 + 18 * p + 7)) sc ∧ wS lo s l m T X' Y' ∧ fr [2, 26, 27, 28] X X' ∧ fr [1] Y Y' := by
  have hs := h.1.hs
  obtain ⟨f, hf, e1, e2⟩ := s_est h hn ho hne
  obtain ⟨c1, hc1, d1⟩ := h.1.1.2.2.1.2 6 (by decide) (by decide)
  obtain ⟨c2, hc2, d2⟩ := h.1.1.2.2.1.2 7 (by decide) (by decide)
  obtain ⟨r, X', Y', g1, g2, g3, g4, g5, j, hj, ej⟩ := s_time h hT (a := c1) (b := c2) hc2 hf (nI 0)
  obtain ⟨t, ht, et⟩ := h.1.1.2.1.1
  have hb1 : c1 * f ≤ 32 * (T.1 + 4) := Nat.mul_le_mul hc1 hf
  have hb2 : c2 * f ≤ 32 * (T.1 + 4) := Nat.mul_le_mul hc2 hf
  have hv1 : (X 0 12) + (zmx (nI 1) ((((nI c1 * nI f) / nI 4) + r) <<< (nI 0 &&& 31))) ≠ -1 := by
    rw [et, ej, q_sh0, nI_mul, nI_div (by omega) (by omega), nI_add, zmx_nI (by omega) (by omega), nI_add]
    exact nI_ne_m1 (by omega)
  have hw := g3.1.w_ans (v := (X 0 12) + (zmx (nI 1) ((((nI c1 * nI f) / nI 4) + r) <<< (nI 0 &&& 31)))) hn hp ho (fun z => hne z.symm) (by rw [g4 10 (by decide)]; exact hh) hv1 sc
  refine ⟨_, _, (_, Y'), nI f, ?_, e2, ?_, rfl, ⟨hw, ?_⟩, fr_w (fr_w (fr_w (g4.sub (by decide)) (by decide)) (by decide)) (by decide), fr_w (fr_w (fr_w g5 (by decide)) (by decide)) (by decide)⟩
  rotate_left
  · rw [h.1.td1, h.1.td2, d1, d2]; exact g2
  · rw [zw_no (Or.inl (by decide)), zw_no (Or.inl (by decide)), zw_no (Or.inl (by decide)), zw_no (Or.inl (by decide)), zw_no (Or.inl (by decide)), zw_no (Or.inl (by decide))]; exact g3.2
  · unfold eX10_setAnswer
    rw [x_6, x_in6 (by omega) (by omega), qchk, x_zn6 (by omega) (by omega), e1, d2, g1, qbd]
    unfold eX10_timeOf eX5_beginAnswer
    dsimp only
    rw [qbd, x_in (by omega) hp, qchk, qchk, qchk, qlet, x_zn (by omega) hp, qbd, g4 0 (by decide), g4 1 (by decide), d1]
theorem s_rest (h : wS lo s l m T X Y) {n p o : Nat} (hn : n < s) (hp : p < 12) (ho : o < s) (hne : n ≠ o) : ∃ X' f, eX10_rest (nI n) (nI (n * 12 + p)) (nI o) X = some X' ∧ eX12_estOf (nI n) (nI o) Y = some f ∧ wS lo s l m T X' (zw Y 1 (18 + 244 * n + (28 + 18 * p + 8)) ((Y 1 14) + ((nI 3) * f))) ∧ fr [29] X X' := by
  have hs := h.1.hs
  obtain ⟨f, hf, e1, e2⟩ := s_est h hn ho hne
  refine ⟨_, _, ?_, e2, h.w (h.1.w0 (rc_p (w := 8) hn hp (by decide)) (by decide)) (Or.inl (by decide)), fr1⟩
  unfold eX10_rest
  rw [x_6, x_in6 (by omega) (by omega), qchk, x_zn6 (by omega) (by omega), x_in (by omega) hp, qchk, qlet, x_zn (by omega) hp, e1, h.1.tick]
theorem y_more (Y : zX) {n w : Nat} (hn : n < 6) (hw : w < 10) : eX12_more (nI n) (nI w) Y = some (zw Y 1 (18 + 244 * n + w) ((Y 1 (18 + 244 * n + w)) + nI 1)) := by
  unfold eX12_more
  simp only [a_n, a_o, a_p, a_l, a_m]
  rw [y_in (by omega), qchk, qchk, qlet, qzn (by omega)]
theorem q_fd {x y r : Int32} (h : eJ9_floorDiv_7cf53 x y = some r) : eX12_half x y = some r := by
  unfold eX12_half; rw [h]; rfl
theorem q_fd4 (x : Int32) : ∃ r, eJ9_floorDiv_7cf53 x (nI 4) = some r := by
  unfold eJ9_floorDiv_7cf53
  rw [show znz (nI 4) = true by decide, qchk]
  split
  · exact ⟨_, rfl⟩
  · split <;> exact ⟨_, rfl⟩
theorem i_1 : (nI 1).toInt = 1 := by decide
theorem i_2 : (nI 2).toInt = 2 := by decide
theorem i_32 : (nI 32).toInt = 32 := by decide
theorem leN_up {c : Int32} (h : leN c 32) {k : Nat} (hk : k < 100) : leN (zmn (c + nI k) (nI 32)) 32 := by
  obtain ⟨j, hj, rfl⟩ := h
  rw [nI_add, zmn_nI (by omega) (by omega)]
  exact leN_nI (Nat.min_le_right _ _)
theorem leN_dn {c : Int32} (h : leN c 32) {k : Nat} (hk : k ≤ 2) (hk1 : 1 ≤ k) : leN (zmx (c - nI 1) (nI k)) 32 := by
  obtain ⟨j, hj, rfl⟩ := h
  rw [leN_int (by omega), zmx_int, nI_toInt (by omega)]
  have : (nI j - nI 1).toInt = (j : Int) - 1 := by
    rw [Int32.toInt_sub, nI_toInt (by omega), i_1, Int.bmod_def]
    split <;> omega
  omega
theorem s_adapt (h : wS lo s l m T X Y) {n : Nat} (hn : n < s) (v : Int32) : ∃ X' Y', eX4_adapt (nI n) v X = some X' ∧ eX12_adapts (nI n) v Y = some Y' ∧ wS lo s l m T X' Y' ∧ fr [11, 12, 13] X X' ∧ fr [1] Y Y' := by
  have hs := h.1.hs
  obtain ⟨r, hr⟩ := q_fd4 (nI 16 * v - X 13 n)
  obtain ⟨c1, c2⟩ := h.1.1.2.2.2.2.1 n hn
  have h1 := h.w (h.1.w0 (v := X 13 n + r) (rc_n (w := 5) hn (by decide) (by decide)) (by decide)) (Or.inl (by decide))
  have i6 : zin (nI n) 6 = true := qzin (by omega) (by omega)
  have z6 : zn (nI n) = n := qzn (by omega)
  unfold eX4_adapt eX12_adapts
  rw [y_of Y (by omega) (by omega), qbd, qbd, h.1.ave hn, q_fd hr, qbd, i6, qchk, qchk, z6, hr, qbd, qchk, qchk, zw_at, qchk, qchk, qchk, qlet, qchk, qchk, qlet, qchk, qchk, qlet, qchk, qchk, qlet]
  simp only [a_n, a_o, a_p, a_l, a_m]
  rw [y_in (by omega), qchk, qlet, qzn (by omega)]
  simp only [y_in (show 18 + 244 * n + 3 < 2422 by omega), y_in (show 18 + 244 * n + 4 < 2422 by omega), qchk, qlet, qzn (show 18 + 244 * n + 3 < 2147483648 by omega), qzn (show 18 + 244 * n + 4 < 2147483648 by omega)]
  by_cases g : X 13 n + r ≤ nI 32
  · rw [if_pos g, if_pos g]
    by_cases g2 : nI 20 ≤ X 13 n + r
    · rw [if_pos g2, if_pos g2]
      exact ⟨_, _, rfl, rfl, h1, fr_w (fr.refl _ _) (by decide), fr_w (fr.refl _ _) (by decide)⟩
    · rw [if_neg g2, if_neg g2]
      have h2 := h1.w (h1.1.w_c1 (v := zmx (X 11 n - nI 1) (nI 1)) hn (leN_dn c1 (by decide) (by decide))) (Or.inl (by decide))
      have h3 := h2.w (h2.1.w_c2 (v := zmx (X 12 n - nI 1) (nI 2)) hn (leN_dn c2 (by decide) (by decide))) (Or.inl (by decide))
      refine ⟨_, _, rfl, ?_, h3, fr_w (fr_w (fr_w (fr.refl _ _) (by decide)) (by decide)) (by decide), fr_w (fr_w (fr_w (fr.refl _ _) (by decide)) (by decide)) (by decide)⟩
      rw [y_of _ (by omega) (by omega), qbd, h1.1.c1 hn, y_of _ (by omega) (by omega), qbd, zw_no (Or.inl (by decide)), zmx_com (nI 1), h2.1.c2 hn, zw_no (Or.inl (by decide)), zw_no (Or.inl (by decide)), zmx_com (nI 2)]
  · rw [if_neg g, if_neg g]
    have h2 := h1.w (h1.1.w_c1 (v := zmn (X 11 n + nI 1) (nI 32)) hn (leN_up c1 (by decide))) (Or.inl (by decide))
    have h3 := h2.w (h2.1.w_c2 (v := zmn (X 12 n + nI 2) (nI 32)) hn (leN_up c2 (by decide))) (Or.inl (by decide))
    refine ⟨_, _, rfl, ?_, h3, fr_w (fr_w (fr_w (fr.refl _ _) (by decide)) (by decide)) (by decide), fr_w (fr_w (fr_w (fr.refl _ _) (by decide)) (by decide)) (by decide)⟩
    rw [y_of _ (by omega) (by omega), qbd, h1.1.c1 hn, y_of _ (by omega) (by omega), qbd, zw_no (Or.inl (by decide)), zmn_com (nI 32), h2.1.c2 hn, zw_no (Or.inl (by decide)), zw_no (Or.inl (by decide)), zmn_com (nI 32)]
end MD
