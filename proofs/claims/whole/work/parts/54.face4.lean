/-! what changes a world between calls: a node wakes, a link is cut, a loss, a message, ticks -/
theorem zw_sf {Y : zX} {k i : Nat} {v : Int32} (h : v = Y k i) : zw Y k i v = Y := by
  funext a b
  by_cases c : a = k ∧ b = i
  · obtain ⟨rfl, rfl⟩ := c
    rw [zw_at, h]
  · rw [zw_no (by omega)]
theorem J11.cg {s : Nat} {X X' : zX} (h : J11 s X) (e : ∀ k, 9 ≤ k → k ≤ 33 → X' k = X k) : J11 s X' := by
  intro n h1 h2
  obtain ⟨⟨a1, a2, a3, a4⟩, a5, a6⟩ := h n h1 h2
  refine ⟨⟨by rw [e 9 (by decide) (by decide)]; exact a1, by rw [e 10 (by decide) (by decide)]; exact a2, by rw [e 13 (by decide) (by decide)]; exact a3, fun k k1 k2 => by rw [e k (by omega) (by omega)]; exact a4 k k1 k2⟩, fun o ho => ?_, fun p hp => ?_⟩
  · obtain ⟨b1, b2, b3⟩ := a5 o ho
    rw [e 18 (by decide) (by decide)]
    exact ⟨b1, b2, fun k k1 k2 => by rw [e k (by omega) (by omega)]; exact b3 k k1 k2⟩
  · obtain ⟨c1, c2, c3⟩ := a6 p hp
    rw [e 21 (by decide) (by decide), e 26 (by decide) (by decide), e 27 (by decide) (by decide), e 29 (by decide) (by decide), e 30 (by decide) (by decide), e 31 (by decide) (by decide), e 32 (by decide) (by decide), e 33 (by decide) (by decide)]
    exact ⟨c1, fun k k1 k2 => by rw [e k (by omega) (by omega)]; exact c2 k k1 k2, c3⟩
theorem rc_noway {d : Prop} {s l m k i a : Nat} (h : rc d s l m k i a) : k ≠ 6 ∧ ¬ (39 ≤ k ∧ k ≤ 44) := by
  unfold rc at h
  rcases h with ⟨h0, h⟩ | ⟨h0, h⟩ | ⟨h0, h⟩ | ⟨h1, h2, hn, ha⟩ | ⟨h1, h2, n, o, hn, ho, hne, hi, ha⟩ | ⟨h1, n, o, hn, ho, hi, ha⟩ | ⟨h1, n, o, hn, ho, hi, ha⟩ | ⟨h1, hi, ha⟩ | ⟨-, h1, hi, ha⟩ | ⟨h1, hi, ha⟩ <;> omega
section CH
variable {lo : Nat × (Nat → Int32)} {s l m : Nat} {T : Nat × Nat} {X Y : zX}
theorem wR.ways (h : wR lo s l m T X Y) {X' : zX} (f : fr [6, 39, 40, 41, 42, 43, 44] X X') : wR lo s l m T X' Y := by
  obtain ⟨⟨j0, j1, j2, j3, j4, j5, j6, j7, j8, j10, j11⟩, d1, d2, d3, d4, d5, d6, d7, d8⟩ := h
  have F : ∀ k, k ≠ 6 → ¬ (39 ≤ k ∧ k ≤ 44) → X' k = X k := fun k h1 h2 => f k (by simp; omega)
  refine ⟨⟨j0.fr f (by decide), j1.fr f (by decide), j2.fr f (by decide), j3.fr f (by decide), j4.fr f (by decide), j5.fr f (by decide), j6.fr f (by decide), j7.fr f (by decide), j8.fr f (by decide), j10.fr f (by decide), j11.cg (fun k h1 h2 => F k (by omega) (by omega))⟩, ?_, ?_, ?_, ?_, ?_, ?_, ?_, d8⟩
  · intro k i a hc hq
    rw [f 2 (by decide)] at hc
    rw [F k (rc_noway hc).1 (rc_noway hc).2]
    exact d1 k i a hc hq
  · intro n hn; rw [f 3 (by decide)]; exact d2 n hn
  · intro i hi; rw [f 5 (by decide)]; exact d3 i hi
  · intro n p hn hp; rw [f 26 (by decide), f 27 (by decide), f 28 (by decide)]; exact d4 n p hn hp
  · intro n p hn hp; rw [f 30 (by decide), f 31 (by decide)]; exact d5 n p hn hp
  · obtain ⟨q, t, g1, g2, g3, g4, g5⟩ := d6
    exact ⟨q, t, g1, g2, by rw [f 8 (by decide)]; exact g3, by rw [f 8 (by decide)]; exact g4, fun a w ha hw => by rw [f 55 (by decide)]; exact g5 a w ha hw⟩
  · intro i hi hli; rw [f 48 (by decide), f 53 (by decide), f 54 (by decide)]; exact d7 i hi hli
theorem wR.w_up (h : wR lo s l m T X Y) {n : Nat} (hn : n < s) {v w : Int32} (hv : ∀ q, q < 6 → q ≠ n → (hb v q ↔ hb (X 3 1) q)) (h1 : hb v n → w = nI 1) (h0 : ¬ hb v n → w = nI 0) : wR lo s l m T (zw X 3 1 v) (zw Y 1 (18 + 244 * n + 0) w) := by
  have hs := h.hs
  have hl := h.hl
  have hm := h.hm
  obtain ⟨⟨j0, j1, j2, j3, j4, j5, j6, j7, j8, j10, j11⟩, d1, d2, d3, d4, d5, d6, d7, d8⟩ := h
  have f : fr [3] X (zw X 3 1 v) := fr1
  have yn : ∀ a, a ≠ 18 + 244 * n + 0 → (zw Y 1 (18 + 244 * n + 0) w) 1 a = Y 1 a := fun a ha => zw_no (Or.inr ha)
  refine ⟨⟨⟨j0.1, j0.2.1, by rw [zw_no (by decide)]; exact j0.2.2.1, by rw [f 5 (by decide)]; exact j0.2.2.2⟩, j1.fr f (by decide), j2.fr f (by decide), j3.fr f (by decide), j4.fr f (by decide), j5.fr f (by decide), j6.fr f (by decide), j7.fr f (by decide), j8.fr f (by decide), ⟨by rw [f 34 (by decide), f 35 (by decide), f 36 (by decide)]; exact j10.1, by rw [f 38 (by decide), f 5 (by decide)]; exact j10.2.1, fun q g1 g2 => by rw [zw_at, hv q g2 (by omega)]; exact j10.2.2 q g1 g2⟩, j11.w hs (Or.inl (by omega))⟩, (d1.wX (by unfold cX; omega)).wY hs hl hm (Or.inl ⟨n, by omega, rfl⟩), ?_, ?_, ?_, ?_, ?_, ?_, ?_⟩
  · intro q hq
    rw [zw_at]
    by_cases c : q = n
    · subst c
      rw [zw_at]
      exact ⟨h1, h0⟩
    · rw [yn _ (by omega)]
      obtain ⟨u1, u2⟩ := d2 q hq
      exact ⟨fun z => u1 ((hv q (by omega) c).mp z), fun z => u2 (fun y => z ((hv q (by omega) c).mpr y))⟩
  · intro i hi; rw [f 5 (by decide), yn _ (by omega)]; exact d3 i hi
  · intro n' p hn' hp; rw [f 26 (by decide), f 27 (by decide), f 28 (by decide), yn _ (by omega), yn _ (by omega)]; exact d4 n' p hn' hp
  · intro n' p hn' hp; rw [f 30 (by decide), f 31 (by decide)]; exact (d5 n' p hn' hp).cong (fun w hw hw' => yn _ (pA_lo (w' := 0) hp hw' (by decide)).symm)
  · obtain ⟨q, t, g1, g2, g3, g4, g5⟩ := d6
    exact ⟨q, t, g1, g2, by rw [f 8 (by decide)]; exact g3, by rw [f 8 (by decide)]; exact g4, fun a w ha hw => by rw [f 55 (by decide), yn _ (by omega)]; exact g5 a w ha hw⟩
  · intro i hi hli; rw [f 48 (by decide), f 53 (by decide), f 54 (by decide), yn _ (by omega), yn _ (by omega)]; exact d7 i hi hli
  · intro a a1 a2 a3; rw [yn _ (by omega)]; exact d8 a a1 a2 a3
theorem wR.w_cut (h : wR lo s l m T X Y) {n : Nat} (hn : n < l) {v w : Int32} (hv : ∀ q, q < 10 → q ≠ n → (hb v q ↔ hb (X 5 1) q)) (h1 : hb v n → w = nI 1) (h0 : ¬ hb v n → w = nI 0) : wR lo s l m T (zw X 5 1 v) (zw Y 1 (1482 + 6 * n + 4) w) := by
  have hs := h.hs
  have hl := h.hl
  have hm := h.hm
  obtain ⟨⟨j0, j1, j2, j3, j4, j5, j6, j7, j8, j10, j11⟩, d1, d2, d3, d4, d5, d6, d7, d8⟩ := h
  have f : fr [5] X (zw X 5 1 v) := fr1
  have yn : ∀ a, a ≠ 1482 + 6 * n + 4 → (zw Y 1 (1482 + 6 * n + 4) w) 1 a = Y 1 a := fun a ha => zw_no (Or.inr ha)
  refine ⟨⟨⟨j0.1, j0.2.1, by rw [f 3 (by decide)]; exact j0.2.2.1, by rw [zw_no (by decide)]; exact j0.2.2.2⟩, j1.fr f (by decide), j2.fr f (by decide), j3.fr f (by decide), j4.fr f (by decide), j5.fr f (by decide), j6.fr f (by decide), j7.fr f (by decide), j8.fr f (by decide), ⟨by rw [f 34 (by decide), f 35 (by decide), f 36 (by decide)]; exact j10.1, fun i g1 g2 => ⟨by rw [f 38 (by decide)]; exact (j10.2.1 i g1 g2).1, by rw [zw_at, hv i g2 (by omega)]; exact (j10.2.1 i g1 g2).2⟩, by rw [f 3 (by decide)]; exact j10.2.2⟩, j11.w hs (Or.inl (by omega))⟩, (d1.wX (by unfold cX; omega)).wY hs hl hm (Or.inr (Or.inr (Or.inl ⟨n, by omega, rfl⟩))), ?_, ?_, ?_, ?_, ?_, ?_, ?_⟩
  · intro q hq; rw [f 3 (by decide), yn _ (by omega)]; exact d2 q hq
  · intro q hq
    rw [zw_at]
    by_cases c : q = n
    · subst c
      rw [zw_at]
      exact ⟨h1, h0⟩
    · rw [yn _ (by omega)]
      obtain ⟨u1, u2⟩ := d3 q hq
      exact ⟨fun z => u1 ((hv q (by omega) c).mp z), fun z => u2 (fun y => z ((hv q (by omega) c).mpr y))⟩
  · intro n' p hn' hp; rw [f 26 (by decide), f 27 (by decide), f 28 (by decide), yn _ (by omega), yn _ (by omega)]; exact d4 n' p hn' hp
  · intro n' p hn' hp; rw [f 30 (by decide), f 31 (by decide)]; exact (d5 n' p hn' hp).cong (fun w hw hw' => yn _ (by omega))
  · obtain ⟨q, t, g1, g2, g3, g4, g5⟩ := d6
    exact ⟨q, t, g1, g2, by rw [f 8 (by decide)]; exact g3, by rw [f 8 (by decide)]; exact g4, fun a w ha hw => by rw [f 55 (by decide), yn _ (by omega)]; exact g5 a w ha hw⟩
  · intro i hi hli; rw [f 48 (by decide), f 53 (by decide), f 54 (by decide), yn _ (by omega), yn _ (by omega)]; exact d7 i hi hli
  · intro a a1 a2 a3; rw [yn _ (by omega)]; exact d8 a a1 a2 a3
/-- the ways are found anew -/
theorem s_ways (F : Nat) (hF : 300 ≤ F) (h : wR lo s l m T X Y) : ∃ X', eX10_findWays F X = some X' ∧ fr [6, 39, 40, 41, 42, 43, 44] X X' ∧ wC (gOf l X') s X' ∧ wR lo s l m T X' Y := by
  obtain ⟨g1, g2⟩ := gOf_X h.1.1 h.1.2.2.2.2.2.2.2.2.2.1
  obtain ⟨X', e, f, w⟩ := x_find g1 F (by omega) g2
  refine ⟨X', ?_, f, ?_, h.ways f⟩
  · unfold eX10_findWays
    rw [h.nodes, e, qbd]
  · have : gOf l X' = gOf l X := by unfold gOf; rw [f 34 (by decide), f 35 (by decide), f 36 (by decide), f 5 (by decide)]
    rw [this]; exact w
theorem hb_flip {v : Int32} {n : Nat} (hn : n < 32) : (∀ q, q < 32 → q ≠ n → (hb (v ^^^ (nI 1 <<< (nI n &&& 31))) q ↔ hb v q)) ∧ (hb (v ^^^ (nI 1 <<< (nI n &&& 31))) n ↔ ¬ hb v n) := by
  refine ⟨fun q hq hne => ?_, ?_⟩
  · rw [hb_xor hn hq, if_neg hne]
  · rw [hb_xor hn hn, if_pos rfl]
theorem r_canSend (h : wR lo s l m T X Y) : ∃ r, eX10_canSend X = some r ∧ eX12_canSend Y = some r ∧ (r = nI 0 ∨ (r = nI 1 ∧ ∃ q, q < s ∧ X 1 0 = nI q ∧ T.2 < 12)) := by
  have := s_canSend h.toS
  unfold eX12_canSend eX12_isUp eX12_of at this ⊢
  rw [zw_row_ne (by decide)] at this
  exact this
end CH
section F6
variable {T : Nat} {μ : zM}
theorem f_loss (h : INV T μ) (x0 x1 : Int32) : ∃ res μ', eX11_loss x0 x1 μ = some (res, μ') ∧ okR T μ' res [eIO, eIA] (eX12_loss x0 x1 (μ 1)) := by
  obtain ⟨s, l, nx, m, Z, hw, hW, hK⟩ := h.2.2.2.1
  have hs := hw.hs
  have hl := hw.hl
  have hm := hw.hm
  have hw0 := hw.row (Y' := zw (μ 1) 0 0 (nI 0)) (r_0 _)
  unfold eX11_loss eX12_loss
  rw [hw.links]
  rcases rg_cases x0 (N := l) (by omega) with ⟨n, hn, rfl⟩ | hx
  · have n6 : n < 10 := by omega
    rw [if_neg (rg_in hn (by omega)), y_noLink1 hw0 hn, qbd, y_thr0, qbd, if_pos q00]
    dsimp only
    rcases rg_sw x1 (N := 100) (by decide) with ⟨k, hk, rfl⟩ | ⟨hx1, hx2⟩
    · rw [if_neg (nI_pos (by omega)), if_pos (show nI k ≤ nI 100 from (nI_leI (by omega) (by omega)).mpr hk), if_pos (show (¬ (nI k < nI 0)) ∧ (¬ (nI 100 < nI k)) from ⟨nI_pos (by omega), nI_nlt (by omega) (by omega)⟩), qzin n6 (by omega), qchk, qchk, qzn (by omega)]
      unfold jX12_loss_34
      rw [y_thr0, qbd, if_pos q00]
      dsimp only
      rw [y_lk _ n6 (by decide), qbd, a_l, y_in (by omega), qchk, qlet, qzn (by omega), hw0.lloss hn]
      have h2 : wR (0, Z) s l m (T, nx) (zw (μ 4) 37 n (nI k)) (zw (zw (μ 1) 0 0 (nI 0)) 1 (1482 + 6 * n + 3) (nI k)) := hw0.w0 (rc_l (w := 3) hn (by decide)) (by decide)
      refine ⟨_, _, rfl, _, _, rfl, ?_, ?_, rfl⟩
      · refine h.now (Nat.le_refl _) ((st_0 _).w1 (by decide)) ?_ ⟨m, Z, h2, wC_fr hW fr1 (by decide), hK.fr fr1 (by decide)⟩
        exact h.2.2.1.fr fr1 (by decide)
      · rw [zw_no (Or.inl (by decide)), zw_at]
    · have e : ∀ {α : Type} {a b : α}, (if x1 < 0 then b else if x1 ≤ nI 100 then a else b) = b := by
        intro α a b
        by_cases z : x1 < 0
        · rw [if_pos z]
        · rw [if_neg z]
          refine if_neg (fun y => hx1 ⟨z, fun w => ?_⟩)
          rw [Int32.lt_iff_toInt_lt] at w
          rw [Int32.le_iff_toInt_le] at y
          omega
      rw [e, if_neg hx1]
      unfold jX12_loss_34
      rw [y_thr1, qbd, if_neg q11]
      exact ⟨_, _, rfl, okR_thr h (st_00 _ _) (r_00 _ _) 1 rfl (zw_at _ _ _ _) _⟩
  · rw [if_pos hx, y_noLink2 hw0 hx, qbd, y_thr1, qbd, if_neg q11]
    exact ⟨_, _, rfl, okR_thr h (st_00 _ _) (r_00 _ _) 0 rfl (zw_at _ _ _ _) _⟩
theorem f_wake (h : INV T μ) (x0 : Int32) {x1 : Int32} (hx1 : x1 = nI 0 ∨ x1 = nI 1) : ∃ res μ', eX11_wake x0 x1 μ = some (res, μ') ∧ okR T μ' res [eIO] (eX12_wake x0 x1 (μ 1)) := by
  obtain ⟨s, l, nx, m, Z, hw, hW, hK⟩ := h.2.2.2.1
  have hs := hw.hs
  have hl := hw.hl
  have hm := hw.hm
  have hw0 := hw.row (Y' := zw (μ 1) 0 0 (nI 0)) (r_0 _)
  unfold eX11_wake eX12_wake
  rw [hw.nodes, zg_id]
  rcases rg_cases x0 (N := s) (by omega) with ⟨n, hn, rfl⟩ | hx
  · have n6 : n < 6 := by omega
    rw [if_neg (rg_in hn (by omega)), y_noNode1 hw0 hn, qbd, y_thr0, qbd, if_pos q00]
    dsimp only
    rw [r_isUp hw0 hn, qbd, a_n]
    unfold jX12_wake_44
    rw [y_in (by omega), qchk, qzn (by omega)]
    have st : ∀ v, stY (μ 1) (zw (zw (μ 1) 0 0 (nI 0)) 1 (18 + 244 * n + 0) v) := fun v => (st_0 _).w1 (by decide)
    have h0 : ∀ v, (zw (zw (μ 1) 0 0 (nI 0)) 1 (18 + 244 * n + 0) v) 0 0 = nI 0 := fun v => by rw [zw_no (Or.inl (by decide)), zw_at]
    obtain ⟨u1, u2⟩ := hw0.2.2.1 n hn
    obtain ⟨k1, k2⟩ := hb_flip (v := (μ 4) 3 1) (n := n) (by omega)
    have same : ∀ v, v = (zw (μ 1) 0 0 (nI 0)) 1 (18 + 244 * n + 0) → INV T (zg μ 1 (zw (zw (μ 1) 0 0 (nI 0)) 1 (18 + 244 * n + 0) v)) := fun v hv => h.ref (st v) (by rw [zw_sf hv, zw_row_ne (by decide)])
    have other : ∀ w, (hb ((μ 4) 3 1 ^^^ (nI 1 <<< (nI n &&& 31))) n → w = nI 1) → (¬ hb ((μ 4) 3 1 ^^^ (nI 1 <<< (nI n &&& 31))) n → w = nI 0) → INV T (zg (zg μ 4 (zw (μ 4) 3 1 ((μ 4) 3 1 ^^^ (nI 1 <<< (nI n &&& 31))))) 1 (zw (zw (μ 1) 0 0 (nI 0)) 1 (18 + 244 * n + 0) w)) := fun w h1 h2 => by
      refine h.now (Nat.le_refl _) (st w) ?_ ⟨m, Z, hw0.w_up hn (fun q hq hne => k1 q (by omega) hne) h1 h2, wC_fr hW fr1 (by decide), hK.fr fr1 (by decide)⟩
      exact ⟨by rw [zw_no (by decide)]; exact h.2.2.1.1, by rw [zw_no (by decide)]; exact h.2.2.1.2⟩
    by_cases c : hb ((μ 4) 3 1) n
    · rw [show zB ((((μ 4) 3 1 >>> (nI n &&& 31)) &&& nI 1) = nI 1) = nI 1 from zB_t c]
      rcases hx1 with rfl | rfl
      · rw [if_neg (show ¬ nI 1 = nI 0 by decide), if_pos (show nI 0 = 0 from rfl), if_neg (show ¬ nI 1 = nI 0 by decide)]
        exact ⟨_, _, rfl, _, _, rfl, other _ (fun z => absurd c (k2.mp z)) (fun _ => rfl), h0 _, rfl⟩
      · rw [if_pos rfl, if_neg (show ¬ nI 1 = 0 by decide), if_pos rfl]
        exact ⟨_, _, rfl, _, _, rfl, same _ (u1 c).symm, h0 _, rfl⟩
    · rw [show zB ((((μ 4) 3 1 >>> (nI n &&& 31)) &&& nI 1) = nI 1) = nI 0 from zB_f c]
      rcases hx1 with rfl | rfl
      · rw [if_pos rfl, if_pos (show nI 0 = 0 from rfl), if_pos rfl]
        exact ⟨_, _, rfl, _, _, rfl, same _ (u2 c).symm, h0 _, rfl⟩
      · rw [if_neg (show ¬ nI 0 = nI 1 by decide), if_neg (show ¬ nI 1 = 0 by decide), if_neg (show ¬ nI 0 = nI 1 by decide)]
        exact ⟨_, _, rfl, _, _, rfl, other _ (fun _ => rfl) (fun z => absurd (k2.mpr c) z), h0 _, rfl⟩
  · rw [if_pos hx, y_noNode2 hw0 hx, qbd, y_thr1, qbd, if_neg q11]
    exact ⟨_, _, rfl, okR_thr h (st_00 _ _) (r_00 _ _) 0 rfl (zw_at _ _ _ _) _⟩
theorem f_cut (F : Nat) (hF : 300 ≤ F) (h : INV T μ) (x0 : Int32) {x1 : Int32} (hx1 : x1 = nI 0 ∨ x1 = nI 1) : ∃ res μ', eX11_cut F x0 x1 μ = some (res, μ') ∧ okR T μ' res [eIO] (eX12_cut x0 x1 (μ 1)) := by
  obtain ⟨s, l, nx, m, Z, hw, hW, hK⟩ := h.2.2.2.1
  have hs := hw.hs
  have hl := hw.hl
  have hm := hw.hm
  have hw0 := hw.row (Y' := zw (μ 1) 0 0 (nI 0)) (r_0 _)
  unfold eX11_cut eX12_cut
  rw [hw.links, zg_id]
  rcases rg_cases x0 (N := l) (by omega) with ⟨n, hn, rfl⟩ | hx
  · have n6 : n < 10 := by omega
    rw [if_neg (rg_in hn (by omega)), y_noLink1 hw0 hn, qbd, y_thr0, qbd, if_pos q00]
    dsimp only
    rw [y_lk _ n6 (by decide), qbd]
    unfold jX12_cut_35
    rw [a_l]
    unfold jX12_cut_54
    rw [y_in (by omega), qchk, qchk, qzn (by omega)]
    have st : ∀ v, stY (μ 1) (zw (zw (μ 1) 0 0 (nI 0)) 1 (1482 + 6 * n + 4) v) := fun v => (st_0 _).w1 (by decide)
    have h0 : ∀ v, (zw (zw (μ 1) 0 0 (nI 0)) 1 (1482 + 6 * n + 4) v) 0 0 = nI 0 := fun v => by rw [zw_no (Or.inl (by decide)), zw_at]
    obtain ⟨u1, u2⟩ := hw0.2.2.2.1 n hn
    obtain ⟨k1, k2⟩ := hb_flip (v := (μ 4) 5 1) (n := n) (by omega)
    have same : ∀ v, v = (zw (μ 1) 0 0 (nI 0)) 1 (1482 + 6 * n + 4) → INV T (zg μ 1 (zw (zw (μ 1) 0 0 (nI 0)) 1 (1482 + 6 * n + 4) v)) := fun v hv => h.ref (st v) (by rw [zw_sf hv, zw_row_ne (by decide)])
    have other : ∀ w, (hb ((μ 4) 5 1 ^^^ (nI 1 <<< (nI n &&& 31))) n → w = nI 1) → (¬ hb ((μ 4) 5 1 ^^^ (nI 1 <<< (nI n &&& 31))) n → w = nI 0) → ∃ X', eX10_findWays F (zw (μ 4) 5 1 ((μ 4) 5 1 ^^^ (nI 1 <<< (nI n &&& 31)))) = some X' ∧ INV T (zg (zg μ 4 X') 1 (zw (zw (μ 1) 0 0 (nI 0)) 1 (1482 + 6 * n + 4) w)) := fun w h1 h2 => by
      obtain ⟨X', e, f, w1, w2⟩ := s_ways F hF (hw0.w_cut hn (fun q hq hne => k1 q (by omega) hne) h1 h2)
      have f2 : fr [5, 6, 39, 40, 41, 42, 43, 44] (μ 4) X' := (fr1.sub (by decide)).trans (f.sub (by decide))
      refine ⟨X', e, h.now (Nat.le_refl _) (st w) ?_ ⟨m, Z, w2, w1, hK.fr f2 (by decide)⟩⟩
      exact h.2.2.1.fr f2 (by decide)
    by_cases c : hb ((μ 4) 5 1) n
    · rw [show zB ((((μ 4) 5 1 >>> (nI n &&& 31)) &&& nI 1) = nI 1) = nI 1 from zB_t c, u1 c, if_pos (show nI 1 = nI 1 from rfl)]
      rcases hx1 with rfl | rfl
      · obtain ⟨X', e, w⟩ := other (nI 0) (fun z => absurd c (k2.mp z)) (fun _ => rfl)
        rw [if_neg (show ¬ nI 1 = nI 0 by decide), if_pos (show nI 0 = 0 from rfl), if_neg (show ¬ nI 1 = nI 0 by decide), qlet, zg_at, e, qbd, zg_zg]
        exact ⟨_, _, rfl, _, _, rfl, w, h0 _, rfl⟩
      · rw [if_pos rfl, if_neg (show ¬ nI 1 = 0 by decide), if_pos rfl]
        exact ⟨_, _, rfl, _, _, rfl, same _ (u1 c).symm, h0 _, rfl⟩
    · rw [show zB ((((μ 4) 5 1 >>> (nI n &&& 31)) &&& nI 1) = nI 1) = nI 0 from zB_f c, u2 c, if_neg (show ¬ nI 0 = nI 1 by decide)]
      rcases hx1 with rfl | rfl
      · rw [if_pos rfl, if_pos (show nI 0 = 0 from rfl), if_pos rfl]
        exact ⟨_, _, rfl, _, _, rfl, same _ (u2 c).symm, h0 _, rfl⟩
      · obtain ⟨X', e, w⟩ := other (nI 1) (fun _ => rfl) (fun z => absurd (k2.mpr c) z)
        rw [if_neg (show ¬ nI 0 = nI 1 by decide), if_neg (show ¬ nI 1 = 0 by decide), if_neg (show ¬ nI 0 = nI 1 by decide), qlet, zg_at, e, qbd, zg_zg]
        exact ⟨_, _, rfl, _, _, rfl, w, h0 _, rfl⟩
  · rw [if_pos hx, y_noLink2 hw0 hx, qbd, y_thr1, qbd, if_neg q11]
    exact ⟨_, _, rfl, okR_thr h (st_00 _ _) (r_00 _ _) 0 rfl (zw_at _ _ _ _) _⟩
theorem f_send (F : Nat) (hF : 300 ≤ F) (hT : T + 60 < 1000000) (h : INV T μ) : ∃ res μ', eX11_send F μ = some (res, μ') ∧ okR T μ' res [eIS] (eX12_send F (μ 1)) := by
  obtain ⟨s, l, nx, m, Z, hw, hW, hK⟩ := h.2.2.2.1
  have hs := hw.hs
  have hl := hw.hl
  have hm := hw.hm
  have hw0 := hw.row (Y' := zw (μ 1) 0 0 (nI 0)) (r_0 _)
  unfold eX11_send eX12_send
  obtain ⟨r, e1, e2, k⟩ := r_canSend hw0
  rw [e1, e2, qbd, qbd, zg_id]
  unfold jX12_send_18
  rcases k with rfl | ⟨rfl, q, hq, eq, hn12⟩
  · rw [if_pos (show nI 0 = 0 from rfl), if_pos (show nI 0 = 0 from rfl), y_thr1, qbd, if_neg q11]
    exact ⟨_, _, rfl, okR_thr h (st_00 _ _) (r_00 _ _) 0 rfl (zw_at _ _ _ _) _⟩
  · rw [if_neg (show ¬ nI 1 = 0 by decide), if_neg (show ¬ nI 1 = 0 by decide), y_thr0, qbd, if_pos q00]
    dsimp only
    have h2 : sS s l (T, nx) (μ 4) (zw (zw (μ 1) 0 0 (nI 0)) 0 16 (nI 0)) := ⟨m, Z, ⟨hw0.row (zw_row_ne (by decide)), by rw [zw_at, h.2.2.1.1]; rfl⟩, hW, hK⟩
    obtain ⟨X', Y', a1, a2, a3, a4, a5, a6, a9⟩ := s_sendNextG F hF (by dsimp only; omega) h2 hq eq hn12
    rw [a1, a2, qbd, qbd, a5, nI_sub (by omega), show nx + 1 - 1 = nx by omega]
    obtain ⟨m', Z', b1, b2, b3⟩ := a3
    refine ⟨_, _, rfl, _, _, rfl, ?_, ?_, rfl⟩
    · refine h.now (Nat.le_refl _) (((st_0 _).w0 (by decide)).trans (stY.fr a6 (by decide))) ?_ ⟨m', Z', b1.1, b2, b3⟩
      exact ⟨by rw [b1.2, a6 0 (by decide), zw_at]; rfl, by rw [a9.1]; exact h.2.2.1.2⟩
    · dsimp only
      rw [a6 0 (by decide), zw_no (by decide), zw_at]
theorem f_ticks (F : Nat) (hF : 300 ≤ F) (hT : T + 60 < 1000000) (h : INV T μ) (x0 : Int32) : ∃ res μ', eX11_ticks F x0 μ = some (res, μ') ∧ okR (T + 60) μ' res [eIA] (eX12_ticks F x0 (μ 1)) := by
  obtain ⟨s, l, nx, m, Z, hw, hW, hK⟩ := h.2.2.2.1
  have hs := hw.hs
  have hl := hw.hl
  have hm := hw.hm
  have hw0 := hw.row (Y' := zw (μ 1) 0 0 (nI 0)) (r_0 _)
  have h60 : INV (T + 60) μ := h.mono (by omega)
  unfold eX11_ticks eX12_ticks
  rw [zg_id]
  by_cases c : (¬ (x0 < nI 1)) ∧ ¬ (nI 60 < x0)
  · rw [if_pos c, if_neg c.1]
    have c0 : ¬ x0 < 0 := fun z => c.1 (by rw [Int32.lt_iff_toInt_lt] at z ⊢; rw [i_1]; have : (0 : Int32).toInt = 0 := rfl; omega)
    obtain ⟨N, hN, rfl⟩ := nI_of c0
    have hN60 : N ≤ 60 := by
      have := mt (nI_ltI (a := 60) (by omega) hN).mpr c.2
      omega
    rw [if_pos ((nI_leI hN (by omega)).mpr hN60)]
    unfold jX12_ticks_21
    rw [y_thr0, qbd, if_pos q00]
    dsimp only
    have h2 : sS s l (T, nx) (μ 4) (zw (zw (μ 1) 0 0 (nI 0)) 0 16 (nI 0)) := ⟨m, Z, ⟨hw0.row (zw_row_ne (by decide)), by rw [zw_at, h.2.2.1.1]; rfl⟩, hW, hK⟩
    obtain ⟨X', Y', r, nx', a1, a2, a3, a4, a5, a9⟩ := s_goesG F hF (N := N) (by omega) N 0 F (T, nx) _ _ (nI 0) rfl (Nat.zero_le _) (by omega) (by dsimp only; omega) h2
    have e1 := a1 F (by omega) (fun fu k X => hX11_ticks_31 F fu (nI N) ((μ 4) 0 13) k (zg μ 4 X)) (fun X => some (.inl (X 0 13 - (μ 4) 0 13), zg μ 4 X)) (fun n k X hk => by
      show hX11_ticks_31 F (n + 1) (nI N) ((μ 4) 0 13) (nI k) (zg μ 4 X) = _
      conv => lhs; unfold hX11_ticks_31
      rw [if_neg (nI_ge hk hN), zg_at, nI_add]
      simp only [zg_zg]) (fun n X => by
      show hX11_ticks_31 F (n + 1) (nI N) ((μ 4) 0 13) (nI N) (zg μ 4 X) = _
      conv => lhs; unfold hX11_ticks_31
      rw [if_pos ((nI_leI hN hN).mpr (Nat.le_refl _)), zg_at, zg_zg])
    rw [zg_id] at e1
    unfold eX12_goesOn
    have e1' : hX11_ticks_31 F F (nI N) ((μ 4) 0 13) (nI 0) μ = _ := e1
    have a2' : hX12_goesOn_4 F F (nI N) (nI 0) (nI 0) (zw (zw (μ 1) 0 0 (nI 0)) 0 16 (nI 0)) = _ := a2
    rw [e1', a2', qbd]
    obtain ⟨m', Z', b1, b2, b3⟩ := a3
    refine ⟨_, _, rfl, _, _, rfl, ?_, ?_, ?_⟩
    · refine h.now (T' := T + 60) (by omega) (((st_0 _).w0 (by decide)).trans (stY.fr a5 (by decide))) ?_ ⟨m', Z', b1.1.mono (T' := (T + 60, nx')) (by dsimp only; omega) rfl, b2, b3⟩
      exact ⟨by rw [b1.2, a5 0 (by decide), zw_at]; rfl, by rw [a9.1]; exact h.2.2.1.2⟩
    · dsimp only
      rw [a5 0 (by decide), zw_no (by decide), zw_at]
    · dsimp only
      rw [a4, Int32.add_comm ((μ 4) 0 13) r, Int32.add_sub_cancel]
      exact Int32.zero_add r
  · have e : ∀ {α : Type} {a b : α}, (if x0 < nI 1 then b else if x0 ≤ nI 60 then a else b) = b := by
      intro α a b
      by_cases z : x0 < nI 1
      · rw [if_pos z]
      · rw [if_neg z]
        refine if_neg (fun y => c ⟨z, fun w => ?_⟩)
        rw [Int32.lt_iff_toInt_lt] at w
        rw [Int32.le_iff_toInt_le] at y
        omega
    rw [e, if_neg c]
    unfold jX12_ticks_21
    rw [y_thr1, qbd, if_neg q11]
    exact ⟨_, _, rfl, okR_thr h60 (st_00 _ _) (r_00 _ _) 0 rfl (zw_at _ _ _ _) _⟩
end F6
