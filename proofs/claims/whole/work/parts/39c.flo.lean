/-! floods -/
theorem J11.air {s : Nat} {X X' : zX} (h : J11 s X) {L : List Nat} (f : fr L X X') (hL : ∀ k, 9 ≤ k → k ≤ 33 → L.contains k = false) : J11 s X' := by
  intro n h1 h2
  obtain ⟨a1, a2, a3⟩ := h n h1 h2
  have e : ∀ k, 9 ≤ k → k ≤ 33 → X' k = X k := fun k g1 g2 => f k (hL k g1 g2)
  refine ⟨?_, ?_, ?_⟩
  · rw [e 9 (by decide) (by decide), e 10 (by decide) (by decide), e 13 (by decide) (by decide)]
    exact ⟨a1.1, a1.2.1, a1.2.2.1, fun k g1 g2 => by rw [e k (by omega) (by omega)]; exact a1.2.2.2 k g1 g2⟩
  · rw [e 18 (by decide) (by decide)]
    exact fun o ho => ⟨(a2 o ho).1, (a2 o ho).2.1, fun k g1 g2 => by rw [e k (by omega) (by omega)]; exact (a2 o ho).2.2 k g1 g2⟩
  · rw [e 21 (by decide) (by decide), e 26 (by decide) (by decide), e 27 (by decide) (by decide), e 29 (by decide) (by decide), e 30 (by decide) (by decide), e 31 (by decide) (by decide), e 32 (by decide) (by decide), e 33 (by decide) (by decide)]
    exact fun p hp => ⟨(a3 p hp).1, fun k g1 g2 => by rw [e k (by omega) (by omega)]; exact (a3 p hp).2.1 k g1 g2, (a3 p hp).2.2⟩
section FL
variable {s l m : Nat} {T : Nat × Nat} {X Y : zX} {Z : Nat → Int32}
theorem s_launch (h : wS (0, Z) s l m T X Y) (hT : T.1 < 1000000) {n b c w : Nat} (hn : n < s) (hbs : b < s) (hne : n ≠ b) (hc : c ≤ 3) (hm : m < 64) (h39 : X 39 (n * 6 + b) = nI w) (h7 : Y 7 (6 * n + b) = nI w) (pk sc : Int32) (hpk : c ≠ 3 → ∃ p : Nat, p < 12 ∧ pk = nI p ∧ (p : Int) ≤ (X 10 n).toInt) : ∃ X' Y', eX10_launch (nI n) (nI b) (nI c) pk sc X = some X' ∧ eX12_isOnWay (nI n) (nI b) (nI c) pk sc Y = some Y' ∧ wS (0, Z) s l (m + 1) T X' Y' ∧ fr arL X X' ∧ fr [1] Y Y' := by
  have hs := h.1.hs
  obtain ⟨X', a1, a2, a3, a4, a5, a6, a7, a8, a9, a10, a11, a12, a13, a14⟩ := x_launch (X := X) (n := n) (b := b) (c := c) (m := m) (by omega) (by omega) hc hm h.1.airs pk sc
  obtain ⟨Y', b1, b2, b3, b4, b5, b6, b7, b8, b9, b10, b11, b12, b13, b14⟩ := y_onWay h (c := c) hn hbs hne hm pk sc
  obtain ⟨q1, q2, q3⟩ := h.1.1.2.2.2.2.2.1 n b hn hbs hne
  obtain ⟨t, ht, et⟩ := h.1.1.2.1.1
  have j8 := h.1.1.2.2.2.2.2.2.2.2.1.2.2
  refine ⟨X', Y', a1, b1, ?_, a2, b2⟩
  refine h.newair Z a2 b2 (by omega) a3 b3 (fun a h1 h2 => b4 a h1 (by omega)) (h.1.1.2.2.2.2.2.2.2.2.2.2.air a2 (fun k g1 g2 => by simp; omega)) (fun i hi => ?_) (fun i hi => ?_)
  · by_cases q : i = m
    · subst q
      refine ⟨⟨b, n, hbs, hn, fun z => hne z.symm, a6, a7⟩, by rw [a8]; exact leN_nI hc, by rw [a10]; exact (h.1.1.2.2.2.1 n hn).2, by rw [a12]; exact ⟨t, ht, et⟩, fun hk => ?_, fun hk h53 => ?_⟩
      · obtain ⟨p, p1, p2, p3⟩ := hpk (fun z => hk (by rw [a8, z]))
        exact ⟨p, p1, by rw [a9]; exact p2, by rw [a10]; exact p3⟩
      · have c3 : c = 3 := by rw [a8] at hk; exact (nI_eq (by omega) (by omega)).mp hk
        by_cases ce : echS X c n b
        · obtain ⟨e1, e2⟩ := a13 ce
          rcases q3 with ⟨z, -⟩ | ⟨z1, ⟨u, hu, eu⟩⟩
          · exact absurd z ce.2
          · rw [e1, e2]
            refine ⟨z1, ?_⟩
            have : (X 0 12 - X 20 (n * 6 + b)).toInt = (t : Int) - u := by
              rw [et, eu, Int32.toInt_sub, nI_toInt (by omega), nI_toInt (by omega), Int.bmod_def]
              split <;> omega
            rw [this]; omega
        · exact absurd (a14 ce).1 h53
    · have hJ := j8 i (by omega)
      unfold J8k at hJ ⊢
      rw [a4 46 i (by decide) q, a4 47 i (by decide) q, a4 48 i (by decide) q, a4 49 i (by decide) q, a4 50 i (by decide) q, a4 52 i (by decide) q, a4 53 i (by decide) q, a4 54 i (by decide) q]
      exact hJ
  · by_cases q : i = m
    · subst q
      refine ⟨fun e he => ?_, fun h3 => ?_⟩
      · have : e = 0 ∨ e = 1 ∨ e = 2 ∨ e = 3 ∨ e = 4 ∨ e = 5 ∨ e = 6 ∨ e = 7 := by omega
        rcases this with rfl | rfl | rfl | rfl | rfl | rfl | rfl | rfl
        · rw [b5, h7]; exact (a5.trans (by rw [h39])).symm
        · exact b6.trans a6.symm
        · exact b7.trans a7.symm
        · exact b8.trans a8.symm
        · exact b9.trans a9.symm
        · exact b10.trans a10.symm
        · exact b11.trans a11.symm
        · exact b12.trans a12.symm
      · have c3 : c = 3 := by rw [a8] at h3; exact (nI_eq (by omega) (by omega)).mp h3
        rw [b13, b14]
        rcases q3 with ⟨z1, z2⟩ | ⟨⟨v, hv, ev⟩, ⟨u, hu, eu⟩⟩
        · have ce : ¬ echS X c n b := fun z => z.2 z1
          obtain ⟨e1, e2⟩ := a14 ce
          rw [if_pos z2, if_pos z2, e1, e2]
          exact ⟨rfl, rfl⟩
        · have ce : echS X c n b := ⟨c3, by rw [ev]; exact nI_ne_m1 (by omega)⟩
          have z2 : ¬ X 20 (n * 6 + b) = -1 := by rw [eu]; exact nI_ne_m1 (by omega)
          obtain ⟨e1, e2⟩ := a13 ce
          rw [if_neg z2, if_neg z2, e1, e2]
          exact ⟨rfl, rfl⟩
    · rw [a4 48 i (by decide) q, a4 53 i (by decide) q, a4 54 i (by decide) q]
      refine ⟨fun e he => ?_, fun h3 => ?_⟩
      · rw [b4 _ (by omega) (by omega), a4 (45 + e) i (by omega) q]
        exact h.1.rd (rc_m (w := e) (show i < m by omega) (by omega)) (fun _ => Nat.zero_le _)
      · rw [b4 _ (by omega) (by omega), b4 _ (by omega) (by omega)]
        exact h.1.echo (show i < m by omega) (Nat.zero_le _) h3
end FL
/-- the world in which they that have no way are told -/
def nwO (P : Nat → Bool) (p : Nat) (X : zX) : zX := fun a b => if (a = 30 ∨ a = 31) ∧ b % 12 = p ∧ b / 12 < 6 ∧ P (b / 12) = true then (if a = 30 then nI 2 else nI 0) else X a b
theorem nw_fr (P : Nat → Bool) (p : Nat) (X : zX) : fr [30, 31] X (nwO P p X) := by
  intro k hk
  funext b
  unfold nwO
  rw [if_neg (fun z => by simp at hk; omega)]
theorem nw_row {P : Nat → Bool} {p : Nat} {X : zX} {r : Nat} (h : r ≠ 30 ∧ r ≠ 31) : nwO P p X r = X r := nw_fr P p X r (by simp; omega)
theorem nw_w {P : Nat → Bool} {p : Nat} {X : zX} {k i : Nat} {v : Int32} (h : (k ≠ 30 ∧ k ≠ 31) ∨ ¬ (i % 12 = p ∧ P (i / 12) = true)) : nwO P p (zw X k i v) = zw (nwO P p X) k i v := by
  funext a b
  unfold nwO
  rw [zw_in, zw_in]
  by_cases q : a = k ∧ b = i
  · obtain ⟨rfl, rfl⟩ := q
    rw [if_neg (fun z => by
      rcases h with h | h
      · omega
      · exact h ⟨z.2.1, z.2.2.2⟩), if_pos ⟨rfl, rfl⟩, if_pos ⟨rfl, rfl⟩]
  · rw [if_neg q, if_neg q]
theorem nw_cell {P : Nat → Bool} {p : Nat} {X : zX} {r n q : Nat} (h : P n = false) (hq : q < 12) : nwO P p X r (n * 12 + q) = X r (n * 12 + q) := by
  unfold nwO
  rw [if_neg (fun z => by
    have := z.2.2.2
    rw [show (n * 12 + q) / 12 = n by omega, h] at this
    cases this)]
theorem nw_no (p : Nat) (X : zX) {P : Nat → Bool} (h : ∀ n, P n = false) : nwO P p X = X := by
  funext a b
  unfold nwO
  rw [if_neg (fun z => by rw [h] at z; cases z.2.2.2)]
theorem nw_gap {P : Nat → Bool} {p : Nat} {X : zX} {n : Nat} {g b : Int32} (h : P n = false) (hp : p < 12) : nwO P p (zw (zw X 30 (n * 12 + p) g) 31 (n * 12 + p) b) = zw (zw (nwO P p X) 30 (n * 12 + p) g) 31 (n * 12 + p) b := by
  have hh : ¬ ((n * 12 + p) % 12 = p ∧ P ((n * 12 + p) / 12) = true) := fun z => by
    have := z.2
    rw [show (n * 12 + p) / 12 = n by omega, h] at this
    cases this
  rw [nw_w (Or.inr hh), nw_w (Or.inr hh)]
theorem nw_cross {P : Nat → Bool} {p : Nat} {X : zX} {i : Nat} {r : Int32} {Xh : zX} (hi : i < 10) (e : eX10_crosses (nI i) (nwO P p X) = some (r, Xh)) : ∃ X', eX10_crosses (nI i) X = some (r, X') ∧ Xh = nwO P p X' ∧ fr [2, 38] X X' := by
  unfold eX10_crosses eX2_addLoad eX1_upTo at e ⊢
  rw [qzin hi (by omega), qchk, qchk, qlet, qzn (by omega), qbd] at e ⊢
  rw [zw_no (Or.inl (by decide)), nw_row (by decide), nw_row (by decide)] at e
  rw [zw_no (Or.inl (by decide))]
  by_cases c : X 2 1 = 0
  · rw [if_pos c, if_pos c, qlet, if_neg (nI_nle (by decide) (by decide)), show znz (nI 99 + nI 1) = true by decide, qchk, qbd, qchk] at e
    rw [if_pos c, if_pos c, qlet, if_neg (nI_nle (by decide) (by decide)), show znz (nI 99 + nI 1) = true by decide, qchk, qbd, qchk]
    have r20 : ∀ (Z : zX) (v : Int32), zw Z 38 i v 2 0 = Z 2 0 := fun Z v => zw_no (Or.inl (by decide))
    have r37 : ∀ (Z : zX) (v : Int32) (j : Nat), zw Z 38 i v 37 j = Z 37 j := fun Z v j => zw_no (Or.inl (by decide))
    have r37' : ∀ (Z : zX) (v : Int32) (j : Nat), zw Z 2 0 v 37 j = Z 37 j := fun Z v j => zw_no (Or.inl (by decide))
    simp only [zw_at, r20, r37, r37'] at e ⊢
    rw [nw_row (r := 2) (by decide), nw_row (r := 37) (by decide)] at e
    have cm : zw (zw (nwO P p X) 38 i (zmn (X 38 i + nI 1) (nI 9999))) 2 0 (1103515245 * X 2 0 + nI 12345) = nwO P p (zw (zw X 38 i (zmn (X 38 i + nI 1) (nI 9999))) 2 0 (1103515245 * X 2 0 + nI 12345)) := by
      rw [nw_w (Or.inl (by decide)), nw_w (Or.inl (by decide))]
    split at e
    · next hc =>
      rw [if_pos hc]
      cases e
      exact ⟨_, rfl, cm, fr_w (fr_w (fr.refl _ _) (by decide)) (by decide)⟩
    · next hc =>
      rw [if_neg hc]
      cases e
      exact ⟨_, rfl, cm, fr_w (fr_w (fr.refl _ _) (by decide)) (by decide)⟩
  · rw [if_neg c] at e ⊢
    cases e
    exact ⟨_, rfl, (nw_w (Or.inl (by decide))).symm, fr_w (fr.refl _ _) (by decide)⟩
/-- sending, in full -/
def lauF (X : zX) (n b c m : Nat) (pk sc e g : Int32) : zX := zw (zw (zw (zw (zw (zw (zw (zw (zw (zw (zw X 45 m (X 0 12 + X 39 (n * 6 + b))) 46 m (nI b)) 47 m (nI n)) 48 m (nI c)) 49 m pk) 50 m (X 10 n)) 51 m sc) 52 m (X 0 12)) 53 m e) 54 m g) 7 0 (nI (m + 1))
theorem x_launchE {X : zX} {n b c m : Nat} (hn : n < 6) (hbs : b < 6) (hc : c ≤ 3) (hm : m < 64) (h7 : X 7 0 = nI m) (pk sc : Int32) : eX10_launch (nI n) (nI b) (nI c) pk sc X = some (lauF X n b c m pk sc (if c = 3 then X 19 (n * 6 + b) else -1) (if c = 3 ∧ X 19 (n * 6 + b) ≠ -1 then X 0 12 - X 20 (n * 6 + b) else nI 0)) := by
  have i64 : zin (nI m) 64 = true := qzin hm (by omega)
  have z64 : zn (nI m) = m := qzn (by omega)
  have i6 : zin (nI n) 6 = true := qzin hn (by omega)
  have z6 : zn (nI n) = n := qzn (by omega)
  unfold eX10_launch jX10_launch_60 jX10_launch_61 jX10_launch_206 jX10_launch_240 lauF
  rw [h7, if_neg (fun z => z ((nI_ltI (by omega) (by omega)).mpr hm)), x_6]
  by_cases c3 : c = 3
  · subst c3
    rw [if_pos rfl, x_in6 hn hbs, qchk, x_zn6 hn hbs]
    by_cases c19 : X 19 (n * 6 + b) = -1
    · rw [if_pos c19]
      simp only [x_in6 hn hbs, i64, i6, qchk, qlet, x_zn6 hn hbs, z64, z6, if_pos (show nI 0 = 0 from rfl)]
      simp [zw_in, h7, nI_add, c19]
    · rw [if_neg c19]
      simp only [x_in6 hn hbs, i64, i6, qchk, qlet, x_zn6 hn hbs, z64, z6, if_neg (show ¬ nI 1 = 0 by decide)]
      simp [zw_in, h7, nI_add, c19]
  · rw [if_neg (fun z => c3 ((nI_eq (by omega) (by omega)).mp z))]
    simp only [x_in6 hn hbs, i64, i6, qchk, qlet, x_zn6 hn hbs, z64, z6, if_pos (show nI 0 = 0 from rfl)]
    simp [zw_in, h7, nI_add, c3]
theorem nw_launch {P : Nat → Bool} {p : Nat} {X Xh : zX} {n b c m : Nat} (hn : n < 6) (hbs : b < 6) (hc : c ≤ 3) (hm : m < 64) (h7 : X 7 0 = nI m) {pk sc : Int32} (e : eX10_launch (nI n) (nI b) (nI c) pk sc (nwO P p X) = some Xh) : ∃ X', eX10_launch (nI n) (nI b) (nI c) pk sc X = some X' ∧ Xh = nwO P p X' ∧ fr arL X X' := by
  rw [x_launchE hn hbs hc hm (by rw [nw_row (by decide)]; exact h7)] at e
  refine ⟨_, x_launchE hn hbs hc hm h7 pk sc, ?_, ?_⟩
  · rw [← Option.some.inj e]
    unfold lauF
    rw [nw_row (r := 19) (by decide), nw_row (r := 20) (by decide), nw_row (r := 0) (by decide), nw_row (r := 39) (by decide), nw_row (r := 10) (by decide)]
    simp only [nw_w (P := P) (p := p) (k := 7) (Or.inl (by decide)), nw_w (P := P) (p := p) (k := 54) (Or.inl (by decide)), nw_w (P := P) (p := p) (k := 53) (Or.inl (by decide)), nw_w (P := P) (p := p) (k := 52) (Or.inl (by decide)), nw_w (P := P) (p := p) (k := 51) (Or.inl (by decide)), nw_w (P := P) (p := p) (k := 50) (Or.inl (by decide)), nw_w (P := P) (p := p) (k := 49) (Or.inl (by decide)), nw_w (P := P) (p := p) (k := 48) (Or.inl (by decide)), nw_w (P := P) (p := p) (k := 47) (Or.inl (by decide)), nw_w (P := P) (p := p) (k := 46) (Or.inl (by decide)), nw_w (P := P) (p := p) (k := 45) (Or.inl (by decide))]
  · unfold lauF
    exact fr_w (fr_w (fr_w (fr_w (fr_w (fr_w (fr_w (fr_w (fr_w (fr_w (fr_w (fr.refl _ _) (by decide)) (by decide)) (by decide)) (by decide)) (by decide)) (by decide)) (by decide)) (by decide)) (by decide)) (by decide)) (by decide)
