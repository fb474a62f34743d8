/-! asking, answering, sending: a tick -/
section TK
variable {lo : Nat × (Nat → Int32)} {s l m : Nat} {T : Nat × Nat} {X Y : zX}
theorem wR.w_next (h : wR lo s l m T X Y) (hv : T.2 < 12) : wR lo s l m (T.1, T.2 + 1) (zw X 0 9 (nI (T.2 + 1))) (zw Y 1 4 (nI (T.2 + 1))) := by
  have hc : rc (X 2 1 = 0) s l m 0 9 4 := Or.inl ⟨rfl, by decide⟩
  obtain ⟨⟨j0, j1, j2, j3, j4, j5, j6, j7, j8, j10, j11⟩, d⟩ := h
  have f : fr [0] X (zw X 0 9 (nI (T.2 + 1))) := fr1
  have j3' : J3 s (T.2 + 1) X := fun n hn => ⟨(j3 n hn).1, by have := (j3 n hn).2; unfold hdO at *; omega⟩
  have j8' : J8 s (T.1, T.2 + 1) m X := ⟨j8.1, j8.2.1, fun k hk => by
    obtain ⟨a1, a2, a3, a4, a5, a6⟩ := j8.2.2 k hk
    exact ⟨a1, a2, by unfold hdO at *; dsimp only; omega, a4, a5, a6⟩⟩
  refine ⟨⟨j0.fr f (by decide), ⟨by rw [zw_no (by decide)]; exact j1.1, by dsimp only; omega, zw_at _ _ _ _⟩, j2.fr f (by decide), j3'.fr f (by decide), j4.fr f (by decide), j5.fr f (by decide), j6.fr f (by decide), j7.fr f (by decide), j8'.fr f (by decide), j10.fr f (by decide), j11.w j0.1 (rc_usd hc)⟩, d.w j0.1 j0.2.1 j8.1 hc ⟨by decide, by decide, by decide, by decide, by decide, by decide, fun z => absurd z (by decide)⟩⟩
theorem wR.w_tick (h : wR lo s l m T X Y) {v : Int32} (hv : leN v (T.1 + 1)) : wR lo s l m (T.1 + 1, T.2) (zw X 0 12 v) (zw Y 1 14 v) := by
  have hc : rc (X 2 1 = 0) s l m 0 12 14 := Or.inl ⟨rfl, by decide⟩
  obtain ⟨⟨j0, j1, j2, j3, j4, j5, j6, j7, j8, j10, j11⟩, d⟩ := h
  have f : fr [0] X (zw X 0 12 v) := fr1
  have j5' : J5 s (T.1 + 1, T.2) X := fun n o hn ho hne => by
    obtain ⟨g1, g2, g3⟩ := j5 n o hn ho hne
    refine ⟨g1.mono (by dsimp only; omega), g2, ?_⟩
    rcases g3 with g | ⟨ga, gb⟩
    · exact Or.inl g
    · exact Or.inr ⟨ga.mono (by dsimp only; omega), gb.mono (by dsimp only; omega)⟩
  have j8' : J8 s (T.1 + 1, T.2) m X := ⟨j8.1, j8.2.1, fun k hk => by
    obtain ⟨a1, a2, a3, a4, a5, a6⟩ := j8.2.2 k hk
    refine ⟨a1, a2, a3, a4.mono (by dsimp only; omega), a5, fun z1 z2 => ?_⟩
    obtain ⟨b1, b2, b3⟩ := a6 z1 z2
    exact ⟨b1.mono (by dsimp only; omega), by dsimp only; omega, by dsimp only; omega⟩⟩
  refine ⟨⟨j0.fr f (by decide), ⟨by rw [zw_at]; exact hv, j1.2.1, by rw [zw_no (by decide)]; exact j1.2.2⟩, j2.fr f (by decide), j3.fr f (by decide), j4.fr f (by decide), j5'.fr f (by decide), j6.fr f (by decide), j7.fr f (by decide), j8'.fr f (by decide), j10.fr f (by decide), j11.w j0.1 (rc_usd hc)⟩, d.w j0.1 j0.2.1 j8.1 hc ⟨by decide, by decide, by decide, by decide, by decide, by decide, fun z => absurd z (by decide)⟩⟩
end TK
/-- a world and its ways -/
def sS (s l : Nat) (T : Nat × Nat) (X Y : zX) : Prop := ∃ m Z, wS (0, Z) s l m T X Y ∧ wC (gOf l X) s X ∧ K3 s X
abbrev yL : List Nat := [1, 7, 8, 9, 10]
abbrev wyL : List Nat := [5, 6, 34, 35, 36, 39, 40, 41, 42, 43, 44]
theorem wC_fr {s l : Nat} {X X' : zX} {L : List Nat} (h : wC (gOf l X) s X) (f : fr L X X') (hL : wyL.all (fun k => !L.contains k) = true) : wC (gOf l X') s X' := by
  have e : ∀ k, k ∈ wyL → L.contains k = false := fun k hk => by
    have := List.all_eq_true.mp hL k hk
    simpa using this
  have e5 := e 5 (by decide); have e6 := e 6 (by decide); have e34 := e 34 (by decide); have e35 := e 35 (by decide); have e36 := e 36 (by decide)
  have e39 := e 39 (by decide); have e40 := e 40 (by decide); have e41 := e 41 (by decide); have e42 := e 42 (by decide); have e43 := e 43 (by decide); have e44 := e 44 (by decide)
  rw [gOf_fr f (by rw [e5, e34, e35, e36]; rfl)]
  exact h.fr f (by rw [e6, e39, e40, e41, e42, e43, e44]; rfl)
/-- how much more is asked (and no text is told) -/
def gro (k : Nat) (X X' : zX) : Prop := X' 0 8 = X 0 8 ∧ ∀ q, q < 6 → ∃ j, j ≤ k ∧ X' 14 q = X 14 q + nI j
theorem gro_0 {k : Nat} {X X' : zX} (h8 : X' 0 8 = X 0 8) (h : X' 14 = X 14) : gro k X X' := ⟨h8, fun q _ => ⟨0, Nat.zero_le _, by rw [h]; exact (Int32.add_zero _).symm⟩⟩
theorem gro.mono {a b : Nat} {X X' : zX} (h : gro a X X') (hab : a ≤ b) : gro b X X' := ⟨h.1, fun q hq => by
  obtain ⟨j, h1, h2⟩ := h.2 q hq
  exact ⟨j, by omega, h2⟩⟩
theorem gro.trans {a b c : Nat} {X X' X'' : zX} (h : gro a X X') (h' : gro b X' X'') (hc : a + b ≤ c) : gro c X X'' := ⟨h'.1.trans h.1, fun q hq => by
  obtain ⟨j, h1, h2⟩ := h.2 q hq
  obtain ⟨i, h3, h4⟩ := h'.2 q hq
  exact ⟨j + i, by omega, by rw [h4, h2, Int32.add_assoc, nI_add]⟩⟩
theorem gro_1 {X X3 : zX} (h8 : X3 0 8 = X 0 8) (h : X3 14 = X 14) (a b n : Nat) (u v : Int32) : gro 1 X (zw (zw (zw X3 23 a u) 24 b v) 14 n (X3 14 n + nI 1)) := ⟨by rw [zw_no (Or.inl (by decide)), zw_no (Or.inl (by decide)), zw_no (Or.inl (by decide)), h8], fun q _ => by
  by_cases c : q = n
  · subst c
    exact ⟨1, Nat.le_refl _, by rw [zw_at, h]⟩
  · exact ⟨0, Nat.zero_le _, by rw [zw_no (Or.inr c), zw_no (Or.inl (by decide)), zw_no (Or.inl (by decide)), h]; exact (Int32.add_zero _).symm⟩⟩
section TL
variable {s l : Nat} {T : Nat × Nat} {X Y : zX}
/-- asking -/
theorem s_request (F : Nat) (hF : 300 ≤ F) (hT : T.1 < 1000000) (h : sS s l T X Y) {n p : Nat} (hn : n < s) (hp : p < 12) (hask : X 21 (n * 12 + p) ≠ -1) : ∃ X' Y', eX10_request F (nI n) (nI p) X = some X' ∧ (∃ Y1 Y2 r Y3, eX12_backsOff (nI n) (nI p) Y = some Y1 ∧ eX12_isTold F (nI n) (nI 1) (nI p) Y1 = some Y2 ∧ r = Y2 1 (18 + 244 * n + (28 + 18 * p + 2)) ∧ eX12_flood F (nI n) (nI 1) (nI p) (zmn (nI 5) ((Y2 1 5) + r)) Y2 = some Y3 ∧ Y' = zw (zw (zw Y3 1 (18 + 244 * n + (28 + 18 * p + 2)) ((Y3 1 (18 + 244 * n + (28 + 18 * p + 2))) + nI 1)) 1 (18 + 244 * n + (28 + 18 * p + 3)) ((Y3 1 (18 + 244 * n + (28 + 18 * p + 3))) + nI 1)) 1 (18 + 244 * n + 6) ((Y3 1 (18 + 244 * n + 6)) + nI 1)) ∧ sS s l T X' Y' ∧ X' 0 13 = X 0 13 ∧ X' 10 = X 10 ∧ fr yL Y Y' ∧ gro 1 X X' := by
  obtain ⟨m, Z, h, hW, hK⟩ := h
  have hs := h.1.hs
  have hh := (h.1.1.2.2.2.2.2.2.1 n p hn hp).1 hask
  obtain ⟨X1, Y1, e1, e1', h1, f1, g1⟩ := s_askLater h hT hn hp hh
  obtain ⟨X2, Y2, e2, e2', h2, f2, g2, -⟩ := s_log F hF h1 (n := n) (p := p) (q := 1)
  have F2 : fr [2, 8, 21, 22, 25, 55] X X2 := (f1.sub (by decide)).trans (f2.sub (by decide))
  obtain ⟨X3, Y3, m3, e3, e3', h3, f3, g3, z3⟩ := s_flood F hF hT h2 (wC_fr hW F2 (by decide)) (a := n) (c := 1) (p := p) (pk := nI p) (sc := zmn ((X2 1 1) + (X2 23 (n * 12 + p))) (nI 5)) hn hp (by decide) (fun z => absurd z (by decide)) (fun z => absurd z (by decide)) (fun _ => ⟨p, hp, rfl, by rw [F2 10 (by decide)]; exact hh⟩)
  have h4 := h3.w (h3.1.w0 (v := X3 23 (n * 12 + p) + nI 1) (rc_p (w := 2) hn hp (by decide)) (by decide)) (Or.inl (by decide))
  have h5 := h4.w (h4.1.w0 (v := X3 24 (n * 12 + p) + nI 1) (rc_p (w := 3) hn hp (by decide)) (by decide)) (Or.inl (by decide))
  have h6 := h5.w (h5.1.w0 (v := X3 14 n + nI 1) (rc_n (w := 6) hn (by decide) (by decide)) (by decide)) (Or.inl (by decide))
  have F3 : fr ([2, 8, 21, 22, 25, 55] ++ flL) X X3 := (F2.sub (by decide)).trans (f3.sub (by decide))
  have f6 : fr [14, 23, 24] X3 (zw (zw (zw X3 (21 + 2) (n * 12 + p) (X3 23 (n * 12 + p) + nI 1)) (21 + 3) (n * 12 + p) (X3 24 (n * 12 + p) + nI 1)) (6 + 8) n (X3 14 n + nI 1)) := fr_w (fr_w (fr_w (fr.refl _ _) (by decide)) (by decide)) (by decide)
  refine ⟨_, _, ?_, ⟨Y1, Y2, _, Y3, e1', e2', rfl, ?_, ?_⟩, ⟨m3, Z, h6, ?_, ?_⟩, ?_, ?_, ?_, gro_1 (by rw [z3 8 (by decide) (by decide), F2 0 (by decide)]) (F3 14 (by decide)) _ _ _ _ _⟩
  · unfold eX10_request
    rw [x_ix, e1, qbd, e2, qbd, x_in (by omega) hp, qchk, x_zn (by omega) hp, e3, qbd, qchk, qchk, qlet, qchk, qchk, qlet, qzin (show n < 6 by omega) (by omega), qchk, qchk, qzn (show n < 2147483648 by omega)]
  · rw [h2.1.asked hn hp, h2.1.scope, zmn_com]; exact e3'
  · rw [h3.1.asked hn hp, h3.1.reqs hn hp, h3.1.nreq hn]
  · exact wC_fr (wC_fr hW F3 (by decide)) f6 (by decide)
  · exact (hK.fr F3 (by decide)).fr f6 (by decide)
  · rw [f6 0 (by decide), z3 13 (by decide) (by decide), F2 0 (by decide)]
  · rw [f6 10 (by decide), F3 10 (by decide)]
  · exact ((((g1.sub (by decide)).trans (g2.sub (by decide))).trans g3).trans (fr_w (fr_w (fr_w (fr.refl yL Y3) (by decide)) (by decide)) (by decide)))
/-- answering -/
theorem s_repair (F : Nat) (hF : 300 ≤ F) (hT : T.1 < 1000000) (h : sS s l T X Y) {n p : Nat} (hn : n < s) (hp : p < 12) (hans : X 26 (n * 12 + p) ≠ -1) : ∃ X' Y', eX10_repair F (nI n) (nI p) X = some X' ∧ (∃ est Y2 Y3, eX12_estOf (nI n) (Y 1 (18 + 244 * n + (28 + 18 * p + 6))) (zw Y 1 (18 + 244 * n + (28 + 18 * p + 5)) (-1)) = some est ∧ Y2 = zw (zw (zw Y 1 (18 + 244 * n + (28 + 18 * p + 5)) (-1)) 1 (18 + 244 * n + (28 + 18 * p + 8)) ((Y 1 14) + nI 3 * est)) 1 (18 + 244 * n + 7) ((Y 1 (18 + 244 * n + 7)) + nI 1) ∧ eX12_isTold F (nI n) (nI 2) (nI p) Y2 = some Y3 ∧ eX12_flood F (nI n) (nI 2) (nI p) (Y3 1 (18 + 244 * n + (28 + 18 * p + 7))) Y3 = some Y') ∧ sS s l T X' Y' ∧ X' 0 13 = X 0 13 ∧ X' 10 = X 10 ∧ fr yL Y Y' ∧ gro 1 X X' := by
  obtain ⟨m, Z, h, hW, hK⟩ := h
  have hs := h.1.hs
  obtain ⟨hh, o, ho, hne, e27⟩ := (h.1.1.2.2.2.2.2.2.1 n p hn hp).2 hans
  obtain ⟨a6, a7⟩ := (h.1.2.2.2.2.1 n p hn hp).1 hans
  have h1 : wS (0, Z) s l m T (zw (zw (zw X 26 (n * 12 + p) (-1)) 27 (n * 12 + p) (-1)) 28 (n * 12 + p) (-1)) (zw Y 1 (18 + 244 * n + (28 + 18 * p + 5)) (-1)) := h.mk' (h.1.w_noans hn hp (-1)) (by rw [zw_no (Or.inl (by decide)), zw_no (Or.inl (by decide)), zw_no (Or.inl (by decide))]) (by rw [zw_row_ne (by decide)])
  obtain ⟨X2, est, e2, e2', h2, f2⟩ := s_rest h1 hn hp ho (fun z => hne z.symm)
  obtain ⟨X2', est', e2x, e2x', -, -⟩ := s_rest h hn hp ho (fun z => hne z.symm)
  have hX2 : X2 = zw (zw (zw X2' 26 (n * 12 + p) (-1)) 27 (n * 12 + p) (-1)) 28 (n * 12 + p) (-1) := by
    unfold eX10_rest at e2 e2x
    rw [x_6, x_in6 (by omega) (by omega), qchk, x_zn6 (by omega) (by omega), x_in (by omega) hp, qchk, qlet, x_zn (by omega) hp] at e2 e2x
    have i1 := Option.some.inj e2
    have i2 := Option.some.inj e2x
    rw [← i1, ← i2]
    rw [zw_no (a := 0) (Or.inl (by decide)), zw_no (a := 0) (Or.inl (by decide)), zw_no (a := 0) (Or.inl (by decide)), zw_no (a := 18) (Or.inl (by decide)), zw_no (a := 18) (Or.inl (by decide)), zw_no (a := 18) (Or.inl (by decide))]
    rw [zw_com (k := 28) (k' := 29) (Or.inl (by decide)), zw_com (k := 27) (k' := 29) (Or.inl (by decide)), zw_com (k := 26) (k' := 29) (Or.inl (by decide))]
  have F2 : fr [26, 27, 28, 29] X X2 := (fr_w (fr_w (fr_w (fr.refl _ X) (by decide)) (by decide)) (by decide)).trans (f2.sub (by decide))
  have h3 := h2.w (h2.1.w0 (v := X2 15 n + nI 1) (rc_n (w := 7) hn (by decide) (by decide)) (by decide)) (Or.inl (by decide))
  obtain ⟨X4, Y4, e4, e4', h4, f4, g4, k4⟩ := s_log F hF h3 (n := n) (p := p) (q := 2)
  have e4b : eX3_put (X2 0 12) (nI n) (nI 2) (nI p) (zw X2 15 n (X2 15 n + nI 1)) = some X4 := by
    have := e4
    rw [zw_no (a := 0) (Or.inl (by decide))] at this
    exact this
  have F4 : fr [8, 15, 26, 27, 28, 29, 55] X X4 := ((F2.sub (by decide)).trans (fr_w (fr.refl _ X2) (by decide))).trans (f4.sub (by decide))
  have e7 : Y4 1 (18 + 244 * n + (28 + 18 * p + 7)) = X 28 (n * 12 + p) := by
    rw [k4 _ (by omega) (by omega), zw_no (Or.inr (fun z => pA_lo hp (by omega) (by omega) z.symm)), zw_no (Or.inr (pA_ne hp (by omega) hp (by omega) (by omega))), zw_no (Or.inr (pA_ne hp (by omega) hp (by omega) (by omega)))]
    exact a7
  obtain ⟨X5, Y5, m5, e5, e5', h5, f5, g5, z5⟩ := s_flood F hF hT h4 (wC_fr hW F4 (by decide)) (a := n) (c := 2) (p := p) (pk := nI p) (sc := X 28 (n * 12 + p)) hn hp (by decide) (fun z => absurd z (by decide)) (fun z => absurd z (by decide)) (fun _ => ⟨p, hp, rfl, by rw [F4 10 (by decide)]; exact hh⟩)
  have F5 : fr ([8, 15, 26, 27, 28, 29, 55] ++ flL) X X5 := (F4.sub (by decide)).trans (f5.sub (by decide))
  refine ⟨X5, Y5, ?_, ⟨est, _, Y4, ?_, rfl, ?_, ?_⟩, ⟨m5, Z, h5, wC_fr hW F5 (by decide), hK.fr F5 (by decide)⟩, ?_, F5 10 (by decide), ?_, gro_0 (by rw [z5 8 (by decide) (by decide), F4 0 (by decide)]) (F5 14 (by decide))⟩
  · unfold eX10_repair eX5_dropAnswer eX5_beginAnswer
    rw [x_ix, x_in (by omega) hp, qchk, qchk, x_zn (by omega) hp, e27, e2x, qbd, qchk, qchk, qchk, qlet, qbd, qbd, ← hX2, qzin (show n < 6 by omega) (by omega), qchk, qchk, qzn (show n < 2147483648 by omega), e4b, qbd, e5, qbd]
  · rw [a6, e27]; exact e2'
  · have q1 : zw Y 1 (18 + 244 * n + (28 + 18 * p + 5)) (-1) 1 14 = Y 1 14 := zw_no (Or.inr (by omega))
    have q2 : zw (zw Y 1 (18 + 244 * n + (28 + 18 * p + 5)) (-1)) 1 (18 + 244 * n + (28 + 18 * p + 8)) ((zw Y 1 (18 + 244 * n + (28 + 18 * p + 5)) (-1) 1 14) + ((nI 3) * est)) 1 (18 + 244 * n + 7) = Y 1 (18 + 244 * n + 7) := by
      rw [zw_no (Or.inr (pA_lo hp (by omega) (by omega))), zw_no (Or.inr (pA_lo hp (by omega) (by omega)))]
    have q3 := h2.1.nrep hn
    rw [q2] at q3
    rw [q1] at e4'
    rw [q3]
    exact e4'
  · rw [e7]; exact e5'
  · rw [z5 13 (by decide) (by decide), F4 0 (by decide)]
  · exact (((((fr_w (fr.refl yL Y) (by decide)).trans (fr_w (fr.refl yL _) (by decide))).trans (fr_w (fr.refl yL _) (by decide))).trans (g4.sub (by decide))).trans g5)
/-- one packet of one node -/
theorem s_talks (F : Nat) (hF : 300 ≤ F) (hT : T.1 < 1000000) (h : sS s l T X Y) {n p : Nat} (hn : n < s) (hp : p < 12) : ∃ X' Y', (∀ (K : Int32 → Int32 → Int32 → zX → Option zX), (if X 21 (n * 12 + p) = -1 then jX10_act_69 F K (nI n) (nI (n * 12 + p)) (nI p) X else if X 0 12 < X 21 (n * 12 + p) then jX10_act_69 F K (nI n) (nI (n * 12 + p)) (nI p) X else zbd (eX10_request F (nI n) (nI p) X) fun y13 => K (nI n) (nI (n * 12 + p) + nI 1) (nI p + nI 1) y13) = K (nI n) (nI (n * 12 + p) + nI 1) (nI p + nI 1) X') ∧ eX12_talks F (nI n) (nI p) Y = some Y' ∧ sS s l T X' Y' ∧ X' 0 13 = X 0 13 ∧ X' 10 = X 10 ∧ fr yL Y Y' ∧ gro 1 X X' := by
  obtain ⟨m, Z, hw, hW, hK⟩ := id h
  have hs := hw.1.hs
  have second : ¬ (X 21 (n * 12 + p) ≠ -1 ∧ ¬ X 0 12 < X 21 (n * 12 + p)) → ∃ X' Y', (∀ (K : Int32 → Int32 → Int32 → zX → Option zX), jX10_act_69 F K (nI n) (nI (n * 12 + p)) (nI p) X = K (nI n) (nI (n * 12 + p) + nI 1) (nI p + nI 1) X') ∧ eX12_talks F (nI n) (nI p) Y = some Y' ∧ sS s l T X' Y' ∧ X' 0 13 = X 0 13 ∧ X' 10 = X 10 ∧ fr yL Y Y' ∧ gro 1 X X' := by
    intro hno
    unfold eX12_talks
    rw [y_pk Y (by omega) hp (by omega), qbd, hw.1.ask hn hp, hw.1.tick, if_neg hno, y_pk Y (by omega) hp (by omega), qbd, hw.1.answer hn hp]
    by_cases c1 : X 26 (n * 12 + p) = -1
    · refine ⟨X, Y, fun K => ?_, ?_, h, rfl, rfl, fr.refl _ _, gro_0 rfl rfl⟩
      · unfold jX10_act_69
        rw [x_in (by omega) hp, qchk, x_zn (by omega) hp, if_pos c1]
      · rw [if_neg (fun z => z.1 c1)]
    · by_cases c2 : X 0 12 < X 26 (n * 12 + p)
      · refine ⟨X, Y, fun K => ?_, ?_, h, rfl, rfl, fr.refl _ _, gro_0 rfl rfl⟩
        · unfold jX10_act_69
          rw [x_in (by omega) hp, qchk, x_zn (by omega) hp, if_neg c1, qchk, if_pos c2]
        · rw [if_neg (fun z => z.2 c2)]
      · obtain ⟨X', Y', e1, ⟨est, Y2, Y3, e2, e3, e4, e5⟩, h1, k1, k2, k3⟩ := s_repair F hF hT h hn hp c1
        refine ⟨X', Y', fun K => ?_, ?_, h1, k1, k2, k3⟩
        · unfold jX10_act_69
          rw [x_in (by omega) hp, qchk, x_zn (by omega) hp, if_neg c1, qchk, if_neg c2, e1, qbd]
        · rw [if_pos ⟨c1, c2⟩]
          simp only [a_p]
          rw [y_in (a := 18 + 244 * n + (28 + 18 * p + 5)) (by omega), qchk, qlet, qzn (k := 18 + 244 * n + (28 + 18 * p + 5)) (by omega), y_pk _ (by omega) hp (by omega), qbd, zw_no (Or.inr (pA_ne hp (by omega) hp (by omega) (by omega))), e2, qbd, y_in (a := 18 + 244 * n + (28 + 18 * p + 8)) (by omega), qchk, qlet, qzn (k := 18 + 244 * n + (28 + 18 * p + 8)) (by omega), y_more _ (by omega) (by omega), qbd, zw_no (a := 1) (b := 14) (Or.inr (by omega)), zw_no (b := 18 + 244 * n + 7) (Or.inr (pA_lo hp (by omega) (by omega))), zw_no (b := 18 + 244 * n + 7) (Or.inr (pA_lo hp (by omega) (by omega))), ← e3, e4, qbd, y_pk _ (by omega) hp (by omega), qbd, e5, qbd]
  by_cases c1 : X 21 (n * 12 + p) = -1
  · obtain ⟨X', Y', e1, e2, e3⟩ := second (fun z => z.1 c1)
    exact ⟨X', Y', fun K => by rw [if_pos c1]; exact e1 K, e2, e3⟩
  · by_cases c2 : X 0 12 < X 21 (n * 12 + p)
    · obtain ⟨X', Y', e1, e2, e3⟩ := second (fun z => z.2 c2)
      exact ⟨X', Y', fun K => by rw [if_neg c1, if_pos c2]; exact e1 K, e2, e3⟩
    · obtain ⟨X', Y', e1, ⟨Y1, Y2, r, Y3, e2, e3, er, e4, e5⟩, h1, k1, k2, k3⟩ := s_request F hF hT h hn hp c1
      refine ⟨X', Y', fun K => by rw [if_neg c1, if_neg c2, e1, qbd], ?_, h1, k1, k2, k3⟩
      unfold eX12_talks
      rw [y_pk Y (by omega) hp (by omega), qbd, hw.1.ask hn hp, hw.1.tick, if_pos ⟨c1, c2⟩, e2, qbd, e3, qbd, y_pk _ (by omega) hp (by omega), qbd, ← er, e4, qbd]
      simp only [a_p]
      rw [y_in (a := 18 + 244 * n + (28 + 18 * p + 2)) (by omega), qchk, qchk, qlet, qzn (k := 18 + 244 * n + (28 + 18 * p + 2)) (by omega), y_in (a := 18 + 244 * n + (28 + 18 * p + 3)) (by omega), qchk, qchk, qlet, qzn (k := 18 + 244 * n + (28 + 18 * p + 3)) (by omega), y_more _ (by omega) (by omega), qbd, zw_no (b := 18 + 244 * n + (28 + 18 * p + 3)) (Or.inr (by omega)), zw_no (b := 18 + 244 * n + 6) (Or.inr (pA_lo hp (by omega) (by omega))), zw_no (b := 18 + 244 * n + 6) (Or.inr (pA_lo hp (by omega) (by omega))), e5]
end TL
