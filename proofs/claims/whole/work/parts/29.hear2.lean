/-! hearing, on -/
section H2
variable {lo : Nat × (Nat → Int32)} {s l m : Nat} {T : Nat × Nat} {X Y : zX}
/-- getting a packet: the class's method, the reference's first steps -/
theorem s_get (F : Nat) (hF : 300 ≤ F) (h : wS lo s l m T X Y) {n p o : Nat} (hn : n < s) (hp : p < 12) (ho : o < s) : ∃ X' Y', eX10_getPacket (nI n) (nI p) (nI o) X = some X' ∧
    (∀ {α : Type} (K : zX → Option α), zbd (eX12_hasItFrom (nI n) (nI p) (nI o) ((zw Y 1 (18 + 244 * n + 1) (X 9 n ||| (nI 1 <<< (nI p &&& 31)))) 1 14) (zw Y 1 (18 + 244 * n + 1) (X 9 n ||| (nI 1 <<< (nI p &&& 31))))) (fun y8 => zbd (eX12_noGap (nI n) (nI p) y8) fun y10 => zbd (eX12_isTold F (nI n) (nI 3) (nI p) y10) fun y12 => zbd (eX12_ofPacket (nI n) (nI p) (nI 0) y12) fun r14 => if r14 = (-1) then K y12 else zchk (zin (((nI 18) + ((nI 244) * (nI n))) + (((nI 28) + ((nI 18) * (nI p))) + (nI 0))) 2422) (zlet (zw y12 1 (zn (((nI 18) + ((nI 244) * (nI n))) + (((nI 28) + ((nI 18) * (nI p))) + (nI 0)))) (-1)) fun X17 => zbd (eX12_ofPacket (nI n) (nI p) (nI 3) X17) fun r19 => zbd (eX12_adapts (nI n) r19 X17) fun y21 => K y21)) = K Y') ∧
    wS lo s l m T X' Y' ∧ fr [0, 8, 9, 11, 12, 13, 21, 30, 31, 32, 33, 55] X X' ∧ fr [1] Y Y' ∧ X' 0 13 = X 0 13 + nI 1 ∧ (∀ i, i ≠ 13 → X' 0 i = X 0 i) ∧ X' 9 = upd (X 9) n (X 9 n ||| (nI 1 <<< (nI p &&& 31))) := by
  have hs := h.1.hs
  obtain ⟨b9, -⟩ := h.1.1.2.2.2.1 n hn
  have i6 : zin (nI n) 6 = true := qzin (by omega) (by omega)
  have z6 : zn (nI n) = n := qzn (by omega)
  -- has
  have h1 := h.w (h.1.w_has (v := X 9 n ||| (nI 1 <<< (nI p &&& 31))) hn (leN_or b9 hp)) (Or.inl (by decide))
  generalize hX1 : zw X 9 n (X 9 n ||| (nI 1 <<< (nI p &&& 31))) = X1 at h1
  generalize hY1 : zw Y 1 (18 + 244 * n + 1) (X 9 n ||| (nI 1 <<< (nI p &&& 31))) = Y1 at h1
  have f1 : fr [9] X X1 := hX1 ▸ fr1
  have g1 : fr [1] Y Y1 := hY1 ▸ fr1
  have r9 : X1 9 = upd (X 9) n (X 9 n ||| (nI 1 <<< (nI p &&& 31))) := by rw [← hX1]; exact zw_row _ _ _ _
  -- giver
  obtain ⟨X2, Y2, e2, e2', h2, f2, g2⟩ := s_giver h1 hn hp (g := nI o) (t := X1 0 12) (Or.inr ⟨o, ho, rfl⟩)
  have e2x : X2 = zw (zw X1 32 (n * 12 + p) (nI o)) 33 (n * 12 + p) (X1 0 12) := by
    unfold eX5_setGiver at e2
    rw [x_in (by omega) hp, qchk, qchk, x_zn (by omega) hp] at e2
    exact (Option.some.inj e2).symm
  -- gap
  have h3 := s_noGap h2 hn hp
  have ec : zw (zw X2 30 (n * 12 + p) (-1)) 31 (n * 12 + p) (nI 0) = zw (zw (zw (zw X1 30 (n * 12 + p) (-1)) 31 (n * 12 + p) (nI 0)) 32 (n * 12 + p) (nI o)) 33 (n * 12 + p) (X1 0 12) := by
    rw [e2x, zw_giver_gap]
  have f3 : fr [30, 31] X2 (zw (zw X2 30 (n * 12 + p) (-1)) 31 (n * 12 + p) (nI 0)) := fr_w (fr_w (fr.refl _ _) (by decide)) (by decide)
  have g3 : fr [1] Y2 (zw Y2 1 (18 + 244 * n + (28 + 18 * p + 11)) (nI 0)) := fr1
  generalize hX3 : zw (zw X2 30 (n * 12 + p) (-1)) 31 (n * 12 + p) (nI 0) = X3 at h3 ec f3
  generalize hY3 : zw Y2 1 (18 + 244 * n + (28 + 18 * p + 11)) (nI 0) = Y3 at h3 g3
  -- log
  obtain ⟨X4, Y4, e4, e4', h4, f4, g4, -⟩ := s_log F hF h3 (n := n) (p := p) (q := 3)
  have F4 : fr [8, 9, 30, 31, 32, 33, 55] X X4 := (((f1.sub (by decide)).trans (f2.sub (by decide))).trans (f3.sub (by decide))).trans (f4.sub (by decide))
  have G4 : fr [1] Y Y4 := ((g1.trans g2).trans g3).trans g4
  have R9 : X4 9 = upd (X 9) n (X 9 n ||| (nI 1 <<< (nI p &&& 31))) := by rw [f4 9 (by decide), f3 9 (by decide), f2 9 (by decide), r9]
  -- got
  have h5 : wS lo s l m T (zw X4 0 13 (X4 0 13 + nI 1)) Y4 := h4.mk' (h4.1.w_got _) (by rw [zw_no (Or.inl (by decide))]) rfl
  have hx : ∀ {β : Type} (K : zX → Option β), zbd (eX5_setGap (nI n * nI 12 + nI p) (-1) X1) (fun y5 => zbd (eX5_setGiver (nI n * nI 12 + nI p) (nI o) (y5 0 12) y5) fun y7 => zbd (eX3_put (y7 0 12) (nI n) (nI 3) (nI p) y7) K) = K X4 := fun K => by
    rw [x_ix, x_setGap _ (by omega) hp, qbd]
    have : eX5_setGiver (nI (n * 12 + p)) (nI o) ((zw (zw X1 30 (n * 12 + p) (-1)) 31 (n * 12 + p) (nI 0)) 0 12) (zw (zw X1 30 (n * 12 + p) (-1)) 31 (n * 12 + p) (nI 0)) = some X3 := by
      unfold eX5_setGiver
      rw [x_in (by omega) hp, qchk, qchk, x_zn (by omega) hp, ec, zw_no (Or.inl (by decide)), zw_no (Or.inl (by decide))]
    rw [this, qbd, e4, qbd]
  have hy : ∀ {β : Type} (K : zX → Option β), zbd (eX12_hasItFrom (nI n) (nI p) (nI o) (Y1 1 14) Y1) (fun y8 => zbd (eX12_noGap (nI n) (nI p) y8) fun y10 => zbd (eX12_isTold F (nI n) (nI 3) (nI p) y10) K) = K Y4 := fun K => by
    rw [h1.1.tick, e2', qbd, y_noGap _ (by omega) hp, qbd, hY3, e4', qbd]
  by_cases ha : X4 21 (n * 12 + p) = -1
  · refine ⟨_, Y4, ?_, fun K => ?_, h5, fr_w (F4.sub (by decide)) (by decide), G4, ?_, fun i hi => ?_, ?_⟩
    · unfold eX10_getPacket
      rw [i6, qchk, qchk, qlet, z6, hX1, hx, x_ix, x_in (by omega) hp, qchk, x_zn (by omega) hp, if_pos ha]
    · rw [hy, y_pk _ (by omega) hp (by omega), qbd, h4.1.ask hn hp, if_pos ha]
    · rw [zw_at, F4 0 (by decide)]
    · rw [zw_no (Or.inr hi), F4 0 (by decide)]
    · rw [zw_row_ne (by decide), R9]
  · have h6 := h5.w (h5.1.w_ask (v := -1) hn hp (fun z => absurd rfl z)) (Or.inl (by decide))
    obtain ⟨X7, Y7, e7, e7', h7, f7, g7⟩ := s_adapt h6 hn (X4 24 (n * 12 + p))
    refine ⟨X7, Y7, ?_, fun K => ?_, h7, (fr_w (fr_w (F4.sub (by decide)) (by decide)) (by decide)).trans (f7.sub (by decide)), (fr_w G4 (by decide)).trans g7, ?_, fun i hi => ?_, ?_⟩
    · unfold eX10_getPacket
      rw [i6, qchk, qchk, qlet, z6, hX1, hx, x_ix, x_in (by omega) hp, qchk, x_zn (by omega) hp, if_neg ha, qchk, qlet, qchk, e7, qbd]
    · rw [hy, y_pk _ (by omega) hp (by omega), qbd, h4.1.ask hn hp, if_neg ha]
      simp only [a_p]
      rw [y_in (by omega), qchk, qlet, qzn (by omega), y_pk _ (by omega) hp (by omega), qbd, zw_no (Or.inr (by omega)), h4.1.reqs hn hp, e7', qbd]
    · rw [f7 0 (by decide), zw_no (Or.inl (by decide)), zw_at, F4 0 (by decide)]
    · rw [f7 0 (by decide), zw_no (Or.inl (by decide)), zw_no (Or.inr hi), F4 0 (by decide)]
    · rw [f7 9 (by decide), zw_row_ne (by decide), zw_row_ne (by decide), R9]
theorem s_hearPacket (F : Nat) (hF : 300 ≤ F) (h : wS lo s l m T X Y) {n p o k : Nat} (hn : n < s) (hp : p < 12) (ho : o < s) (hne : n ≠ o) (hk : k < 64) (e47 : X 47 k = nI o) (b : Int32) : ∃ X' Y' r, jX10_hearPacket_35 (nI n) (nI k) (nI p) (nI (n * 12 + p)) b X = some X' ∧ eX12_hearsPacket F (nI n) (nI p) b (nI o) Y = some (r, Y') ∧ wS lo s l m T X' Y' ∧ (r = nI 0 ∨ r = nI 1) ∧ X' 0 13 = X 0 13 + r ∧ (∀ i, i ≠ 13 → X' 0 i = X 0 i) ∧ fr [0, 8, 9, 11, 12, 13, 16, 17, 21, 26, 27, 28, 29, 30, 31, 32, 33, 55] X X' ∧ fr [1] Y Y' ∧ (∀ n' q, q < 12 → hb (X' 9 n') q → hb (X 9 n') q ∨ (n' = n ∧ q = p)) := by
  have hs := h.1.hs
  unfold jX10_hearPacket_35 eX12_hearsPacket
  rw [x_hasP X (by omega), qbd, y_hasP h hn, qbd]
  by_cases c : hb (X 9 n) p
  · have c1 : zB (((X 9 n >>> (nI p &&& 31)) &&& nI 1) = nI 1) = 1 := zB_t c
    have q1 : ¬ ((1 : Int32) = 0) := by decide
    simp only [c1, if_neg q1]
    by_cases hb0 : b = 0
    · rw [if_pos hb0, if_pos hb0]
      obtain ⟨X', Y', e1, e2, h1, f1, g1⟩ := s_hp2 F h hn hp ho hne hk e47 b 1
      refine ⟨X', Y', nI 0, e1, ?_, h1, Or.inl rfl, ?_, fun i hi => by rw [f1 0 (by decide)], f1.sub (by decide), g1, fun n' q hq z => Or.inl (by rw [f1 9 (by decide)] at z; exact z)⟩
      · rw [e2]; unfold jX12_hearsPacket_169; rw [if_neg (by decide)]
      · rw [f1 0 (by decide)]; exact (Int32.add_zero _).symm
    · rw [if_neg hb0, if_neg hb0]
      have h0 := h.w (h.1.w0 (v := X 16 n + nI 1) (rc_n (w := 8) hn (by decide) (by decide)) (by decide)) (Or.inl (by decide))
      obtain ⟨X', Y', e1, e2, h1, f1, g1⟩ := s_hp2 F h0 hn hp ho hne hk (by rw [zw_no (Or.inl (by decide))]; exact e47) b 1
      refine ⟨X', Y', nI 0, ?_, ?_, h1, Or.inl rfl, ?_, fun i hi => by rw [f1 0 (by decide), zw_row_ne (by decide)], (fr_w (fr.refl _ X) (by decide)).trans (f1.sub (by decide)), (fr_w (fr.refl [1] Y) (by decide)).trans g1, fun n' q hq z => Or.inl (by rw [f1 9 (by decide), zw_row_ne (by decide)] at z; exact z)⟩
      · rw [qzin (show n < 6 by omega) (by omega), qchk, qchk, qzn (by omega), e1]
      · rw [y_more Y (by omega) (by omega), qbd, h.1.dup hn, e2]; unfold jX12_hearsPacket_169; rw [if_neg (by decide)]
      · rw [f1 0 (by decide), zw_row_ne (by decide)]; exact (Int32.add_zero _).symm
  · have c1 : zB (((X 9 n >>> (nI p &&& 31)) &&& nI 1) = nI 1) = 0 := zB_f c
    rw [c1, if_pos rfl, if_pos rfl]
    obtain ⟨X1, Y1, e1, e1', h1, f1, g1, k1, k2, k3⟩ := s_get F hF h hn hp ho
    obtain ⟨X', Y', e2, e2', h2, f2, g2⟩ := s_hp2 F h1 hn hp ho hne hk (by rw [f1 47 (by decide)]; exact e47) b 0
    refine ⟨X', Y', nI 1, ?_, ?_, h2, Or.inr rfl, ?_, fun i hi => by rw [f2 0 (by decide), k2 i hi], (f1.sub (by decide)).trans (f2.sub (by decide)), g1.trans g2, fun n' q hq z => ?_⟩
    · rw [qzin hk (by omega), qchk, qzn (by omega), e47, e1, qbd, e2]
    · simp only [a_n]
      rw [y_in (by omega), qchk, qchk, qlet, qzn (by omega), h.1.has hn]
      rw [e1', e2']; unfold jX12_hearsPacket_169; rw [if_pos rfl]
    · rw [f2 0 (by decide), k1]
    · rw [f2 9 (by decide), k3] at z
      by_cases q2 : n' = n
      · subst q2
        unfold upd at z
        rw [if_pos rfl, hb_or (by omega) (by omega)] at z
        rcases z with z | z
        · exact Or.inl z
        · exact Or.inr ⟨rfl, z⟩
      · unfold upd at z
        rw [if_neg q2] at z
        exact Or.inl z
end H2
