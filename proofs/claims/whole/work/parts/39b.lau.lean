/-! a link is crossed, a message is sent -/
section LA
variable {lo : Nat × (Nat → Int32)} {s l m : Nat} {T : Nat × Nat} {X Y : zX}
theorem wR.w_loadF (h : wR lo s l m T X Y) (h0 : ¬ X 2 1 = 0) {i : Nat} (hil : i < l) (v : Int32) : wR lo s l m T (zw X 38 i v) Y := by
  have hs := h.hs
  obtain ⟨⟨j0, j1, j2, j3, j4, j5, j6, j7, j8, j10, j11⟩, d1, d2, d3, d4, d5, d6, d7, d8⟩ := h
  have f : fr [38] X (zw X 38 i v) := fr1
  refine ⟨⟨j0.fr f (by decide), j1.fr f (by decide), j2.fr f (by decide), j3.fr f (by decide), j4.fr f (by decide), j5.fr f (by decide), j6.fr f (by decide), j7.fr f (by decide), j8.fr f (by decide), j10.w (by decide) (fun _ => hil), j11.w hs (Or.inl (by omega))⟩, ?_, ?_, ?_, ?_, ?_, ?_, ?_, d8⟩
  · intro k' i' a' hc hq
    rw [f 2 (by decide)] at hc
    have hk : k' ≠ 38 := by
      intro z
      unfold rc at hc
      rcases hc with ⟨q0, q⟩ | ⟨q0, q⟩ | ⟨q0, q⟩ | ⟨q1, q2, hn, ha⟩ | ⟨q1, q2, n, o, hn, ho, hne, hi, ha⟩ | ⟨q1, n, o, hn, ho, hi, ha⟩ | ⟨q1, n, o, hn, ho, hi, ha⟩ | ⟨q1, hi, ha⟩ | ⟨q0, -⟩ | ⟨q1, hi, ha⟩
      any_goals omega
      exact h0 q0
    rw [zw_no (Or.inl hk)]
    exact d1 k' i' a' hc hq
  · intro n hn; rw [f 3 (by decide)]; exact d2 n hn
  · intro i hi; rw [f 5 (by decide)]; exact d3 i hi
  · intro n p hn hp; rw [f 26 (by decide), f 27 (by decide), f 28 (by decide)]; exact d4 n p hn hp
  · intro n p hn hp; rw [f 30 (by decide), f 31 (by decide)]; exact d5 n p hn hp
  · obtain ⟨q, t, g1, g2, g3, g4, g5⟩ := d6
    exact ⟨q, t, g1, g2, by rw [f 8 (by decide)]; exact g3, by rw [f 8 (by decide)]; exact g4, fun a w ha hw => by rw [f 55 (by decide)]; exact g5 a w ha hw⟩
  · intro i hi hli; rw [f 48 (by decide), f 53 (by decide), f 54 (by decide)]; exact d7 i hi hli
theorem s_cross (h : wS lo s l m T X Y) {i : Nat} (hi : i < l) : ∃ X' Y' r r', eX10_crosses (nI i) X = some (r, X') ∧ eX12_isLost (nI i) Y = some (r', Y') ∧ ((r = nI 0 ∧ r' = nI 1) ∨ (r = nI 1 ∧ r' = nI 0)) ∧ wS lo s l m T X' Y' ∧ fr [2, 38] X X' ∧ fr [1] Y Y' := by
  have hl := h.1.hl
  have ea : eX2_addLoad (nI i) X = some (zw X 38 i (zmn ((X 38 i) + (nI 1)) (nI 9999))) := by
    unfold eX2_addLoad
    rw [qzin (show i < 10 by omega) (by omega), qchk, qchk, qlet, qzn (by omega)]
  unfold eX10_crosses eX12_isLost
  rw [ea, qbd, h.mode, zw_no (Or.inl (by decide))]
  by_cases h0 : X 2 1 = 0
  · rw [if_pos h0, if_pos h0, y_lk Y (by omega) (by omega), qbd, h.1.lload h0 hi]
    have h1 := h.w (h.1.w0 (v := zmn ((X 38 i) + (nI 1)) (nI 9999)) (rc_ld h0 hi) (by decide)) (Or.inl (by decide))
    obtain ⟨r, X', Y', e1, e2, h2, f2, g2, -⟩ := s_draw h1 (by rw [zw_no (Or.inl (by decide))]; exact h0) (q := 99) (by omega)
    have hc : ∀ a b : Int32, a < b ↔ ¬ b ≤ a := fun a b => by rw [Int32.lt_iff_toInt_lt, Int32.le_iff_toInt_le]; omega
    rw [e1, qbd, qzin (show i < 10 by omega) (by omega), qchk, qzn (by omega)]
    simp only [a_l]
    rw [y_in (by omega), qchk, qlet, qzn (by omega), zmn_com, e2, qbd, y_lk Y' (by omega) (by omega), qbd, h2.1.lloss hi]
    by_cases c : X' 37 i ≤ r
    · rw [if_neg (fun z => (hc _ _).mp z c), if_pos c]
      exact ⟨X', Y', nI 1, nI 0, rfl, rfl, Or.inr ⟨rfl, rfl⟩, h2, (fr_w (fr.refl [2, 38] X) (by decide)).trans (f2.sub (by decide)), (fr_w (fr.refl [1] Y) (by decide)).trans g2⟩
    · rw [if_pos ((hc _ _).mpr c), if_neg c]
      exact ⟨X', Y', nI 0, nI 1, rfl, rfl, Or.inl ⟨rfl, rfl⟩, h2, (fr_w (fr.refl [2, 38] X) (by decide)).trans (f2.sub (by decide)), (fr_w (fr.refl [1] Y) (by decide)).trans g2⟩
  · rw [if_neg h0, if_neg h0]
    exact ⟨_, Y, nI 1, nI 0, rfl, rfl, Or.inr ⟨rfl, rfl⟩, h.mk' (h.1.w_loadF h0 hi _) (by rw [zw_no (Or.inl (by decide))]) rfl, fr_w (fr.refl _ _) (by decide), fr.refl _ _⟩
/-- a message is put behind the others -/
def echS (X : zX) (c n b : Nat) : Prop := c = 3 ∧ X 19 (n * 6 + b) ≠ -1
theorem x_launch {X : zX} {n b c m : Nat} (hn : n < 6) (hb : b < 6) (hc : c ≤ 3) (hm : m < 64) (h7 : X 7 0 = nI m) (pk sc : Int32) : ∃ X', eX10_launch (nI n) (nI b) (nI c) pk sc X = some X' ∧ fr arL X X' ∧ X' 7 0 = nI (m + 1) ∧ (∀ r i, r ≠ 7 → i ≠ m → X' r i = X r i) ∧ X' 45 m = X 0 12 + X 39 (n * 6 + b) ∧ X' 46 m = nI b ∧ X' 47 m = nI n ∧ X' 48 m = nI c ∧ X' 49 m = pk ∧ X' 50 m = X 10 n ∧ X' 51 m = sc ∧ X' 52 m = X 0 12 ∧ (echS X c n b → X' 53 m = X 19 (n * 6 + b) ∧ X' 54 m = X 0 12 - X 20 (n * 6 + b)) ∧ (¬ echS X c n b → X' 53 m = -1 ∧ X' 54 m = nI 0) := by
  have key : ∀ (b0 e g : Int32), ((b0 = nI 0 ∧ e = -1 ∧ g = nI 0) ∨ (b0 = nI 1 ∧ e = X 19 (n * 6 + b) ∧ g = X 0 12 - X 20 (n * 6 + b))) → ∃ X', jX10_launch_61 (nI n) (nI b) (nI c) pk sc (nI m) (nI (n * 6 + b)) b0 X = some X' ∧ fr arL X X' ∧ X' 7 0 = nI (m + 1) ∧ (∀ r i, r ≠ 7 → i ≠ m → X' r i = X r i) ∧ X' 45 m = X 0 12 + X 39 (n * 6 + b) ∧ X' 46 m = nI b ∧ X' 47 m = nI n ∧ X' 48 m = nI c ∧ X' 49 m = pk ∧ X' 50 m = X 10 n ∧ X' 51 m = sc ∧ X' 52 m = X 0 12 ∧ X' 53 m = e ∧ X' 54 m = g := by
    intro b0 e g hbe
    refine ⟨zw (zw (zw (zw (zw (zw (zw (zw (zw (zw (zw X 45 m (X 0 12 + X 39 (n * 6 + b))) 46 m (nI b)) 47 m (nI n)) 48 m (nI c)) 49 m pk) 50 m (X 10 n)) 51 m sc) 52 m (X 0 12)) 53 m e) 54 m g) 7 0 (nI (m + 1)), ?_, ?_, ?_, ?_, ?_, ?_, ?_, ?_, ?_, ?_, ?_, ?_, ?_, ?_⟩
    · unfold jX10_launch_61 jX10_launch_206 jX10_launch_240
      have i64 : zin (nI m) 64 = true := qzin hm (by omega)
      have z64 : zn (nI m) = m := qzn (by omega)
      have i6 : zin (nI n) 6 = true := qzin hn (by omega)
      have z6 : zn (nI n) = n := qzn (by omega)
      rcases hbe with ⟨rfl, rfl, rfl⟩ | ⟨rfl, rfl, rfl⟩
      · simp only [x_in6 hn hb, i64, i6, qchk, qlet, x_zn6 hn hb, z64, z6, if_pos (show nI 0 = 0 from rfl)]
        simp [zw_in, h7, nI_add]
      · simp only [x_in6 hn hb, i64, i6, qchk, qlet, x_zn6 hn hb, z64, z6, if_neg (show ¬ nI 1 = 0 by decide)]
        simp [zw_in, h7, nI_add]
    · exact fr_w (fr_w (fr_w (fr_w (fr_w (fr_w (fr_w (fr_w (fr_w (fr_w (fr_w (fr.refl _ _) (by decide)) (by decide)) (by decide)) (by decide)) (by decide)) (by decide)) (by decide)) (by decide)) (by decide)) (by decide)) (by decide)
    · exact zw_at _ _ _ _
    · intro r i h1 h2
      simp [zw_in, h1, h2]
    all_goals simp [zw_in]
  unfold eX10_launch
  rw [h7, if_neg (fun z => z ((nI_ltI (by omega) (by omega)).mpr hm)), x_6]
  by_cases c3 : c = 3
  · subst c3
    rw [if_pos rfl, x_in6 hn hb, qchk, x_zn6 hn hb]
    by_cases c19 : X 19 (n * 6 + b) = -1
    · rw [if_pos c19]
      obtain ⟨X', a1, a2, a3, a4, a5, a6, a7, a8, a9, a10, a11, a12, a13, a14⟩ := key (nI 0) (-1) (nI 0) (Or.inl ⟨rfl, rfl, rfl⟩)
      exact ⟨X', a1, a2, a3, a4, a5, a6, a7, a8, a9, a10, a11, a12, fun z => absurd c19 z.2, fun _ => ⟨a13, a14⟩⟩
    · rw [if_neg c19]
      obtain ⟨X', a1, a2, a3, a4, a5, a6, a7, a8, a9, a10, a11, a12, a13, a14⟩ := key (nI 1) _ _ (Or.inr ⟨rfl, rfl, rfl⟩)
      exact ⟨X', a1, a2, a3, a4, a5, a6, a7, a8, a9, a10, a11, a12, fun _ => ⟨a13, a14⟩, fun z => absurd ⟨rfl, c19⟩ z⟩
  · rw [if_neg (fun z => c3 ((nI_eq (by omega) (by omega)).mp z))]
    obtain ⟨X', a1, a2, a3, a4, a5, a6, a7, a8, a9, a10, a11, a12, a13, a14⟩ := key (nI 0) (-1) (nI 0) (Or.inl ⟨rfl, rfl, rfl⟩)
    exact ⟨X', a1, a2, a3, a4, a5, a6, a7, a8, a9, a10, a11, a12, fun z => absurd z.1 c3, fun _ => ⟨a13, a14⟩⟩
theorem y_onWay (h : wS lo s l m T X Y) {n b c : Nat} (hn : n < s) (hb : b < s) (hne : n ≠ b) (hm : m < 64) (pk sc : Int32) : ∃ Y', eX12_isOnWay (nI n) (nI b) (nI c) pk sc Y = some Y' ∧ fr [1] Y Y' ∧ Y' 1 12 = nI (m + 1) ∧ (∀ a, a ≠ 12 → (a < 1542 + 10 * m ∨ 1542 + 10 * m + 10 ≤ a) → Y' 1 a = Y 1 a) ∧ Y' 1 (1542 + 10 * m + 0) = X 0 12 + Y 7 (6 * n + b) ∧ Y' 1 (1542 + 10 * m + 1) = nI b ∧ Y' 1 (1542 + 10 * m + 2) = nI n ∧ Y' 1 (1542 + 10 * m + 3) = nI c ∧ Y' 1 (1542 + 10 * m + 4) = pk ∧ Y' 1 (1542 + 10 * m + 5) = X 10 n ∧ Y' 1 (1542 + 10 * m + 6) = sc ∧ Y' 1 (1542 + 10 * m + 7) = X 0 12 ∧ Y' 1 (1542 + 10 * m + 8) = (if X 20 (n * 6 + b) = -1 then -1 else X 19 (n * 6 + b)) ∧ Y' 1 (1542 + 10 * m + 9) = (if X 20 (n * 6 + b) = -1 then nI 0 else X 0 12 - X 20 (n * 6 + b)) := by
  have hs := h.1.hs
  have e12 : Y 1 12 = nI m := h.1.mn.trans h.1.airs
  have et := h.1.tick
  have e50 := h.1.heard hn
  have ec := h.1.came hn hb hne
  have es := h.1.sent hn hb hne
  refine ⟨zw (zw (zw (zw (zw (zw (zw (zw (zw (zw (zw Y 1 (1542 + 10 * m + 0) (X 0 12 + Y 7 (6 * n + b))) 1 (1542 + 10 * m + 1) (nI b)) 1 (1542 + 10 * m + 2) (nI n)) 1 (1542 + 10 * m + 3) (nI c)) 1 (1542 + 10 * m + 4) pk) 1 (1542 + 10 * m + 5) (X 10 n)) 1 (1542 + 10 * m + 6) sc) 1 (1542 + 10 * m + 7) (X 0 12)) 1 (1542 + 10 * m + 8) (if X 20 (n * 6 + b) = -1 then -1 else X 19 (n * 6 + b))) 1 (1542 + 10 * m + 9) (if X 20 (n * 6 + b) = -1 then nI 0 else X 0 12 - X 20 (n * 6 + b))) 1 12 (nI (m + 1)), ?_, ?_, ?_, ?_, ?_, ?_, ?_, ?_, ?_, ?_, ?_, ?_, ?_, ?_⟩
  · have ry : ∀ (Z : zX) (e : Nat) (v : Int32) (a : Nat), a < 1542 → zw Z 1 (1542 + 10 * m + e) v 1 a = Z 1 a := fun Z e v a ha => zw_no (Or.inr (by omega))
    have p : ∀ e, e < 10 → zin (nI (1542 + 10 * m + e)) 2422 = true := fun e he => y_in (by omega)
    have q : ∀ e, e < 10 → zn (nI (1542 + 10 * m + e)) = 1542 + 10 * m + e := fun e he => qzn (by omega)
    have a1 : 18 + 244 * n + (10 + 3 * b + 2) < 1542 := by omega
    have a2 : 18 + 244 * n + (10 + 3 * b + 1) < 1542 := by omega
    have a3 : 18 + 244 * n + 2 < 1542 := by omega
    unfold eX12_isOnWay jX12_isOnWay_182 jX12_isOnWay_214
    rw [e12, a_6, y6_in (by omega) (by omega), qchk, y6_zn (by omega) (by omega)]
    simp only [a_m, p 0 (by omega), p 1 (by omega), p 2 (by omega), p 3 (by omega), p 4 (by omega), p 5 (by omega), p 6 (by omega), p 7 (by omega), p 8 (by omega), p 9 (by omega), q 0 (by omega), q 1 (by omega), q 2 (by omega), q 3 (by omega), q 4 (by omega), q 5 (by omega), q 6 (by omega), q 7 (by omega), q 8 (by omega), q 9 (by omega), qchk, qlet, a_o, y_in (show 18 + 244 * n + (10 + 3 * b + 2) < 2422 by omega), y_in (show 18 + 244 * n + (10 + 3 * b + 1) < 2422 by omega), qzn (show 18 + 244 * n + (10 + 3 * b + 2) < 2147483648 by omega), qzn (show 18 + 244 * n + (10 + 3 * b + 1) < 2147483648 by omega), y_of _ (show n < 6 by omega) (show 2 < 244 by omega), qbd, ry _ _ _ _ a1, ry _ _ _ _ a2, ry _ _ _ _ a3, ry _ _ _ 14 (by omega), et, e50, ec, es, nI_add]
    by_cases c20 : X 20 (n * 6 + b) = -1
    · simp only [if_pos c20]
    · simp only [if_neg c20]
  · exact fr_w (fr_w (fr_w (fr_w (fr_w (fr_w (fr_w (fr_w (fr_w (fr_w (fr_w (fr.refl _ _) (by decide)) (by decide)) (by decide)) (by decide)) (by decide)) (by decide)) (by decide)) (by decide)) (by decide)) (by decide)) (by decide)
  · exact zw_at _ _ _ _
  · intro a h1 h2
    rw [zw_no (Or.inr h1), zw_no (Or.inr (by omega)), zw_no (Or.inr (by omega)), zw_no (Or.inr (by omega)), zw_no (Or.inr (by omega)), zw_no (Or.inr (by omega)), zw_no (Or.inr (by omega)), zw_no (Or.inr (by omega)), zw_no (Or.inr (by omega)), zw_no (Or.inr (by omega)), zw_no (Or.inr (by omega))]
  all_goals
    rw [zw_no (i := 12) (Or.inr (by omega))]
    simp [zw_in]
end LA
