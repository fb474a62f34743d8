/-! hearing -/
theorem q_pw : ∀ p, p < 12 → nI 1 <<< (nI p &&& 31) = nI (2 ^ p) := by decide +kernel
theorem leN_or {v : Int32} (h : leN v 4095) {p : Nat} (hp : p < 12) : leN (v ||| (nI 1 <<< (nI p &&& 31))) 4095 := by
  obtain ⟨j, hj, rfl⟩ := h
  rw [q_pw p hp]
  have e : nI j ||| nI (2 ^ p) = nI (j ||| 2 ^ p) := by
    apply Int32.toBitVec_inj.1
    show BitVec.ofNat 32 j ||| BitVec.ofNat 32 (2 ^ p) = BitVec.ofNat 32 (j ||| 2 ^ p)
    apply BitVec.eq_of_getLsbD_eq
    intro i hi
    simp [hi]
  rw [e]
  have h2 : 2 ^ p < 2 ^ 12 := Nat.pow_lt_pow_right (by decide) hp
  have : j ||| 2 ^ p < 2 ^ 12 := Nat.or_lt_two_pow (by omega) h2
  exact leN_nI (by omega)
theorem i_div2 (x : Int32) : (x / nI 2).toInt = if 0 ≤ x.toInt then x.toInt / 2 else -((-x.toInt) / 2) := by
  have l := Int32.le_toInt x
  have u := Int32.toInt_lt x
  have e : x.toInt.tdiv 2 = if 0 ≤ x.toInt then x.toInt / 2 else -((-x.toInt) / 2) := by
    split
    · next h => exact Int.tdiv_eq_ediv_of_nonneg h
    · next h =>
      have h1 := Int.neg_tdiv (-x.toInt) 2
      rw [Int.neg_neg] at h1
      rw [h1, Int.tdiv_eq_ediv_of_nonneg (by omega)]
  rw [Int32.toInt_div, i_2, e, Int.bmod_def]
  split <;> split <;> omega
theorem q_fd2 (x : Int32) : ∃ r, eJ9_floorDiv_7cf53 x (nI 2) = some r ∧ zmx (nI 1) r = zmx (nI 1) (x / nI 2) := by
  unfold eJ9_floorDiv_7cf53
  rw [show znz (nI 2) = true by decide, qchk]
  split
  · exact ⟨_, rfl, rfl⟩
  · next h =>
    split
    · exact ⟨_, rfl, rfl⟩
    · refine ⟨_, rfl, ?_⟩
      have hx : x.toInt < 0 := by
        have h1 : (x ^^^ nI 2).toInt < 0 := by
          rw [Int32.le_iff_toInt_le] at h
          have : (0 : Int32).toInt = 0 := by decide
          omega
        have b1 : bt (x ^^^ nI 2) 31 = true := by
          unfold bt; exact (BitVec.msb_eq_getLsbD_last _).symm.trans (BitVec.msb_eq_toInt.trans (decide_eq_true h1)) 
        rw [b_xor, show bt (nI 2) 31 = false by decide, Bool.xor_false] at b1
        have := (BitVec.msb_eq_getLsbD_last x.toBitVec).trans b1
        rw [BitVec.msb_eq_toInt] at this
        exact of_decide_eq_true this
      have hd := i_div2 x
      rw [if_neg (by omega)] at hd
      have l := Int32.le_toInt x
      apply Int32.toInt_inj.mp
      rw [zmx_int, zmx_int, i_1]
      have : (x / nI 2 - nI 1).toInt ≤ 0 := by
        rw [Int32.toInt_sub, hd, i_1, Int.bmod_def]
        split <;> omega
      omega
section HR
variable {lo : Nat × (Nat → Int32)} {s l m : Nat} {T : Nat × Nat} {X Y : zX}
theorem x_hasP (X : zX) {n : Nat} (hn : n < 6) (p : Int32) : eX4_hasPacket (nI n) p X = some (zB (((X 9 n >>> (p &&& 31)) &&& nI 1) = nI 1)) := by
  unfold eX4_hasPacket
  rw [qzin hn (by omega), qchk, qzn (by omega)]
theorem y_hasP (h : wS lo s l m T X Y) {n : Nat} (hn : n < s) (p : Int32) : eX12_hasIt (nI n) p Y = some (zB (((X 9 n >>> (p &&& 31)) &&& nI 1) = nI 1)) := by
  have hs := h.1.hs
  unfold eX12_hasIt
  rw [y_of Y (by omega) (by omega), qbd, h.1.has hn]
theorem wR.w_got (h : wR lo s l m T X Y) (v : Int32) : wR lo s l m T (zw X 0 13 v) Y := by
  have hs := h.hs
  obtain ⟨⟨j0, j1, j2, j3, j4, j5, j6, j7, j8, j10, j11⟩, d1, d2, d3, d4, d5, d6, d7, d8⟩ := h
  have f : fr [0] X (zw X 0 13 v) := fr1
  refine ⟨⟨j0.fr f (by decide), ⟨by rw [zw_no (by decide)]; exact j1.1, j1.2.1, by rw [zw_no (by decide)]; exact j1.2.2⟩, j2.fr f (by decide), j3.fr f (by decide), j4.fr f (by decide), j5.fr f (by decide), j6.fr f (by decide), j7.fr f (by decide), j8.fr f (by decide), j10.fr f (by decide), j11.w hs (Or.inl (by omega))⟩, d1.wX (by unfold cX; omega), ?_, ?_, ?_, ?_, ?_, ?_, d8⟩
  · intro n hn; rw [f 3 (by decide)]; exact d2 n hn
  · intro i hi; rw [f 5 (by decide)]; exact d3 i hi
  · intro n p hn hp; rw [f 26 (by decide), f 27 (by decide), f 28 (by decide)]; exact d4 n p hn hp
  · intro n p hn hp; rw [f 30 (by decide), f 31 (by decide)]; exact d5 n p hn hp
  · obtain ⟨q, t, g1, g2, g3, g4, g5⟩ := d6
    exact ⟨q, t, g1, g2, by rw [f 8 (by decide)]; exact g3, by rw [f 8 (by decide)]; exact g4, fun a w ha hw => by rw [f 55 (by decide)]; exact g5 a w ha hw⟩
  · intro i hi hli; rw [f 48 (by decide), f 53 (by decide), f 54 (by decide)]; exact d7 i hi hli
theorem wR.w_sc (h : wR lo s l m T X Y) {n o : Nat} (hn : n < s) (ho : o < s) (hne : n ≠ o) {v w : Int32} (hv : leN v T.1) (hw : leN w T.1) : wR lo s l m T (zw (zw X 19 (n * 6 + o) v) 20 (n * 6 + o) w) (zw (zw Y 1 (18 + 244 * n + (10 + 3 * o + 1)) v) 1 (18 + 244 * n + (10 + 3 * o + 2)) w) := by
  have hc1 : rc (X 2 1 = 0) s l m 19 (n * 6 + o) (18 + 244 * n + (10 + 3 * o + 1)) := rc_o (w := 1) hn ho hne (by decide)
  have hc2 : rc (X 2 1 = 0) s l m 20 (n * 6 + o) (18 + 244 * n + (10 + 3 * o + 2)) := rc_o (w := 2) hn ho hne (by decide)
  obtain ⟨⟨j0, j1, j2, j3, j4, j5, j6, j7, j8, j10, j11⟩, d⟩ := h
  have f : fr [19, 20] X (zw (zw X 19 (n * 6 + o) v) 20 (n * 6 + o) w) := fr_w (fr_w (fr.refl _ _) (by decide)) (by decide)
  have d' := d.w j0.1 j0.2.1 j8.1 hc1 (v := v) ⟨by decide, by decide, by decide, by decide, by decide, by decide, fun z => absurd z (by decide)⟩
  refine ⟨⟨j0.fr f (by decide), j1.fr f (by decide), j2.fr f (by decide), j3.fr f (by decide), j4.fr f (by decide), ?_, j6.fr f (by decide), j7.fr f (by decide), j8.fr f (by decide), j10.fr f (by decide), (j11.w j0.1 (rc_usd hc1)).w j0.1 (rc_usd hc2)⟩, d'.w j0.1 j0.2.1 j8.1 (by rw [zw_no (Or.inl (by decide))]; exact hc2) ⟨by decide, by decide, by decide, by decide, by decide, by decide, fun z => absurd z (by decide)⟩⟩
  intro n' o' hn' ho' hne'
  obtain ⟨g1, g2, g3⟩ := j5 n' o' hn' ho' hne'
  rw [f 18 (by decide)]
  refine ⟨g1, g2, ?_⟩
  by_cases q : n' * 6 + o' = n * 6 + o
  · rw [q, zw_no (Or.inl (by decide)), zw_at, zw_at]
    exact Or.inr ⟨hv, hw⟩
  · rw [zw_no (Or.inr q), zw_no (Or.inr q), zw_no (Or.inr q), zw_no (Or.inr q)]; exact g3
/-- a packet: the last two steps -/
theorem s_hp3 (F : Nat) (h : wS lo s l m T X Y) {n p o k : Nat} (hn : n < s) (hp : p < 12) (ho : o < s) (hne : n ≠ o) (hk : k < 64) (e47 : X 47 k = nI o) (b a5 : Int32) : ∃ X' Y', jX10_hearPacket_121 (nI n) (nI k) (nI (n * 12 + p)) b X = some X' ∧ jX12_hearsPacket_136 F (nI n) (nI p) b (nI o) a5 Y = jX12_hearsPacket_169 F a5 Y' ∧ wS lo s l m T X' Y' ∧ fr [29] X X' ∧ fr [1] Y Y' := by
  have hs := h.1.hs
  unfold jX10_hearPacket_121 jX12_hearsPacket_136
  by_cases hb : b = 0
  · rw [if_pos hb, if_pos hb]
    exact ⟨X, Y, rfl, rfl, h, fr.refl _ _, fr.refl _ _⟩
  · rw [if_neg hb, if_neg hb]
    obtain ⟨X', f, e1, e2, h1, f1⟩ := s_rest h hn hp ho hne
    refine ⟨X', _, ?_, ?_, h1, f1, fr1⟩
    · rw [qzin hk (by omega), qchk, qzn (by omega), e47, e1, qbd]
    · rw [e2, qbd]
      simp only [a_p]
      rw [y_in (by omega), qchk, qlet, qzn (by omega)]
theorem s_hp2 (F : Nat) (h : wS lo s l m T X Y) {n p o k : Nat} (hn : n < s) (hp : p < 12) (ho : o < s) (hne : n ≠ o) (hk : k < 64) (e47 : X 47 k = nI o) (b a5 : Int32) : ∃ X' Y', jX10_hearPacket_85 (nI n) (nI k) (nI (n * 12 + p)) b X = some X' ∧ jX12_hearsPacket_106 F (nI n) (nI p) b (nI o) a5 Y = jX12_hearsPacket_169 F a5 Y' ∧ wS lo s l m T X' Y' ∧ fr [17, 26, 27, 28, 29] X X' ∧ fr [1] Y Y' := by
  have hs := h.1.hs
  unfold jX10_hearPacket_85 jX12_hearsPacket_106
  rw [x_in (by omega) hp, qchk, x_zn (by omega) hp, y_pk Y (by omega) hp (by omega), qbd, h.1.answer hn hp]
  by_cases hb : X 26 (n * 12 + p) = -1
  · rw [if_pos hb, if_pos hb]
    obtain ⟨X', Y', e1, e2, h1, f1, f2⟩ := s_hp3 F h hn hp ho hne hk e47 b a5
    exact ⟨X', Y', e1, e2, h1, f1.sub (by decide), f2⟩
  · rw [if_neg hb, if_neg hb]
    have h1 : wS lo s l m T (zw (zw (zw X 26 (n * 12 + p) (-1)) 27 (n * 12 + p) (-1)) 28 (n * 12 + p) (-1)) (zw Y 1 (18 + 244 * n + (28 + 18 * p + 5)) (-1)) := h.mk' (h.1.w_noans hn hp (-1)) (by rw [zw_no (Or.inl (by decide)), zw_no (Or.inl (by decide)), zw_no (Or.inl (by decide))]) (by rw [zw_row_ne (by decide)])
    have h2 := h1.w (h1.1.w0 (v := (zw (zw (zw X 26 (n * 12 + p) (-1)) 27 (n * 12 + p) (-1)) 28 (n * 12 + p) (-1)) 17 n + nI 1) (rc_n (w := 9) hn (by decide) (by decide)) (by decide)) (Or.inl (by decide))
    obtain ⟨X', Y', e1, e2, h3, f1, f2⟩ := s_hp3 F h2 hn hp ho hne hk (by rw [zw_no (Or.inl (by decide)), zw_no (Or.inl (by decide)), zw_no (Or.inl (by decide)), zw_no (Or.inl (by decide))]; exact e47) b a5
    refine ⟨X', Y', ?_, ?_, h3, (fr_w (fr_w (fr_w (fr_w (fr.refl [17, 26, 27, 28, 29] X) (by decide)) (by decide)) (by decide)) (by decide)).trans (f1.sub (by decide)), (fr_w (fr_w (fr.refl [1] Y) (by decide)) (by decide)).trans f2⟩
    · unfold eX5_dropAnswer eX5_beginAnswer
      rw [x_in (by omega) hp, qchk, qchk, qchk, qlet, x_zn (by omega) hp, qbd, qbd, qzin (by omega) (by omega), qchk, qchk, qzn (by omega), e1]
    · simp only [a_p]
      rw [y_in (by omega), qchk, qlet, qzn (by omega), y_more _ (by omega) (by omega), qbd, h1.1.sup hn]
      exact e2
theorem zw_giver_gap (X : zX) (c : Nat) (a b g t : Int32) : zw (zw (zw (zw X 30 c a) 31 c b) 32 c g) 33 c t = zw (zw (zw (zw X 32 c g) 33 c t) 30 c a) 31 c b := by
  rw [zw_com (k := 31) (k' := 32) (Or.inl (by decide)), zw_com (k := 30) (k' := 32) (Or.inl (by decide)), zw_com (k := 31) (k' := 33) (Or.inl (by decide)), zw_com (k := 30) (k' := 33) (Or.inl (by decide))]
end HR
