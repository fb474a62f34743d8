/-! a report, a message -/
theorem i_3 : (nI 3).toInt = 3 := by decide
section H4
variable {lo : Nat × (Nat → Int32)} {s l m : Nat} {T : Nat × Nat} {X Y : zX}
theorem wR.echo (h : wR lo s l m T X Y) {k : Nat} (hk : k < m) (hlo : lo.1 ≤ k) (h3 : X 48 k = nI 3) : Y 1 (1542 + 10 * k + 8) = X 53 k ∧ Y 1 (1542 + 10 * k + 9) = X 54 k := h.2.2.2.2.2.2.2.1 k hk hlo h3
theorem s_hearReport (h : wS lo s l m T X Y) (hT : T.1 < 1000000) {n o k : Nat} (hn : n < s) (ho : o < s) (hne : n ≠ o) (hk : k < m) (hlo : lo.1 ≤ k) (e47 : X 47 k = nI o) (e48 : X 48 k = nI 3) : ∃ X' Y', eX10_hearReport (nI n) (nI k) X = some X' ∧ eX12_hearsReport (nI n) (nI k) Y = some Y' ∧ wS lo s l m T X' Y' ∧ fr [18, 19, 20] X X' ∧ fr [1] Y Y' := by
  have hs := h.1.hs
  have hm := h.1.hm
  obtain ⟨-, -, -, jt, -, je⟩ := h.1.1.2.2.2.2.2.2.2.2.1.2.2 k hk
  obtain ⟨t, ht, et⟩ := h.1.1.2.1.1
  obtain ⟨q8, q9⟩ := h.1.echo hk hlo e48
  have h1 : wS lo s l m T _ _ := h.mk' (h.1.w_sc (v := X 52 k) (w := X 0 12) hn ho hne jt ⟨t, ht, et⟩) (by rw [zw_no (Or.inl (by decide)), zw_no (Or.inl (by decide))]) (by rw [zw_row_ne (by decide), zw_row_ne (by decide)])
  have f1 : fr [19, 20] X (zw (zw X 19 (n * 6 + o) (X 52 k)) 20 (n * 6 + o) (X 0 12)) := fr_w (fr_w (fr.refl _ _) (by decide)) (by decide)
  have i64 : zin (nI k) 64 = true := qzin (by omega) (by omega)
  have z64 : zn (nI k) = k := qzn (by omega)
  have o18 : 18 + 244 * n + (10 + 3 * o + 2) < 1482 := by omega
  unfold eX10_hearReport eX12_hearsReport
  simp only [i64, qchk, z64, e47, x_6, qlet, a_m]
  rw [x_in6 (by omega) (by omega), qchk, qchk, y_in (a := 1542 + 10 * k + 2) (by omega), qchk, qzn (k := 1542 + 10 * k + 2) (by omega), h.1.afrom hk hlo, e47]
  simp only [a_o]
  rw [y_in (a := 1542 + 10 * k + 7) (by omega), qchk, qzn (k := 1542 + 10 * k + 7) (by omega), h.1.atm hk hlo, y_in (a := 18 + 244 * n + (10 + 3 * o + 1)) (by omega), qchk, y_in (a := 18 + 244 * n + (10 + 3 * o + 2)) (by omega), qchk, y_in (a := 1542 + 10 * k + 8) (by omega), qchk, y_in (a := 1542 + 10 * k + 9) (by omega), qzn (k := 18 + 244 * n + (10 + 3 * o + 1)) (by omega), qzn (k := 18 + 244 * n + (10 + 3 * o + 2)) (by omega), qzn (k := 1542 + 10 * k + 8) (by omega), qzn (k := 1542 + 10 * k + 9) (by omega), qchk, x_zn6 (by omega) (by omega)]
  have et1 : zw Y 1 (18 + 244 * n + (10 + 3 * o + 1)) (X 52 k) 1 14 = X 0 12 := by rw [zw_no (Or.inr (by omega)), h.1.tick]
  have ev : ∀ a, 1482 ≤ a → zw (zw Y 1 (18 + 244 * n + (10 + 3 * o + 1)) (X 52 k)) 1 (18 + 244 * n + (10 + 3 * o + 2)) (X 0 12) 1 a = Y 1 a := fun a ha => by rw [zw_no (Or.inr (by omega)), zw_no (Or.inr (by omega))]
  rw [et1, ev (1542 + 10 * k + 8) (by omega), ev (1542 + 10 * k + 9) (by omega), q8, q9]
  by_cases c : X 53 k = -1
  · rw [if_pos c, if_pos c]
    exact ⟨_, _, rfl, rfl, h1, f1.sub (by decide), fr_w (fr_w (fr.refl _ _) (by decide)) (by decide)⟩
  · rw [if_neg c, if_neg c]
    obtain ⟨⟨e, he, ee⟩, g1, g2⟩ := je e48 c
    obtain ⟨r, hr1, hr2⟩ := q_fd2 (X 0 12 - X 53 k - X 54 k)
    have hd : (X 0 12 - X 53 k - X 54 k).toInt = (t : Int) - e - (X 54 k).toInt := by
      rw [et, ee, Int32.toInt_sub, Int32.toInt_sub, nI_toInt (by omega), nI_toInt (by omega), Int.bmod_def, Int.bmod_def]
      split <;> split <;> omega
    have hv : (zmx (nI 1) ((X 0 12 - X 53 k - X 54 k) / nI 2)).toInt = max 1 (if 0 ≤ (t : Int) - e - (X 54 k).toInt then ((t : Int) - e - (X 54 k).toInt) / 2 else -((-((t : Int) - e - (X 54 k).toInt)) / 2)) := by
      rw [zmx_int, i_1, i_div2, hd]
    have hb1 : 1 ≤ (zmx (nI 1) ((X 0 12 - X 53 k - X 54 k) / nI 2)).toInt ∧ (zmx (nI 1) ((X 0 12 - X 53 k - X 54 k) / nI 2)).toInt ≤ ((T.1 + 4 : Nat) : Int) := by
      rw [hv]; split <;> omega
    have h2 := h1.w (h1.1.w_est (v := zmx (nI 1) ((X 0 12 - X 53 k - X 54 k) / nI 2)) hn ho hne ((leN_int (by omega)).mpr ⟨by omega, hb1.2⟩) hb1.1) (Or.inl (by decide))
    refine ⟨_, _, rfl, ?_, h2, fr_w (f1.sub (by decide)) (by decide), fr_w (fr_w (fr_w (fr.refl _ _) (by decide)) (by decide)) (by decide)⟩
    have et2 : zw (zw Y 1 (18 + 244 * n + (10 + 3 * o + 1)) (X 52 k)) 1 (18 + 244 * n + (10 + 3 * o + 2)) (X 0 12) 1 14 = X 0 12 := by rw [zw_no (Or.inr (by omega)), zw_no (Or.inr (by omega)), h.1.tick]
    rw [et2, q_fd hr1, qbd, y_in (by omega), qchk, hr2, qzn (by omega), qchk]
/-- what hearing one message may write -/
abbrev hrL : List Nat := [0, 2, 8, 9, 10, 11, 12, 13, 16, 17, 18, 19, 20, 21, 22, 23, 24, 25, 26, 27, 28, 29, 30, 31, 32, 33, 55]
theorem s_hear103 (F : Nat) (hF : 300 ≤ F) (h : wS lo s l m T X Y) (hT : T.1 < 1000000) {n o k : Nat} (hn : n < s) (ho : o < s) (hne : n ≠ o) (hk : k < m) (hlo : lo.1 ≤ k) (e47 : X 47 k = nI o) (hK : ∀ n' q, n' < s → q < 12 → hb (X 9 n') q → (q : Int) ≤ (X 10 n').toInt ∨ (n' = n ∧ (q : Int) ≤ (X 50 k).toInt)) {c : Int32} (ec : X 48 k = c) (r : Int32) (hr : r = nI 0 ∨ r = nI 1) (a5 : Int32) (h5 : c = nI 1 → X 49 k = a5) : ∃ X' Y', jX10_hear_103 F (nI k) (nI n) c X = some X' ∧ jX12_isHeard_125 F (nI k) (nI n) c a5 (nI o) r Y = some (r, Y') ∧ wS lo s l m T X' Y' ∧ K3 s X' ∧ fr [2, 10, 17, 21, 22, 23, 24, 25, 26, 27, 28] X X' ∧ fr [1] Y Y' := by
  have hs := h.1.hs
  have hm := h.1.hm
  obtain ⟨-, -, jh, -, jp, -⟩ := h.1.1.2.2.2.2.2.2.2.2.1.2.2 k hk
  obtain ⟨X1, Y1, e1, e1', h1, f1, g1, k1⟩ := s_hearOf F hF h hT hn jh
  have i64 : zin (nI k) 64 = true := qzin (by omega) (by omega)
  have z64 : zn (nI k) = k := qzn (by omega)
  have hK1 : K3 s X1 := by
    intro n' hn' q hq hb'
    rw [f1 9 (by decide)] at hb'
    rw [k1]
    unfold upd
    have hz := zmx_int (X 10 n) (X 50 k)
    by_cases e : n' = n
    · subst e
      rw [if_pos rfl]
      rcases hK n' q hn' hq hb' with z | ⟨-, z⟩ <;> omega
    · rw [if_neg e]
      rcases hK n' q hn' hq hb' with z | ⟨z, -⟩
      · exact z
      · exact absurd z e
  have zr : zbl r = true := by rcases hr with rfl | rfl <;> decide
  unfold jX10_hear_103 jX12_isHeard_125
  simp only [i64, qchk, z64, a_m]
  rw [e1, qbd, y_in (a := 1542 + 10 * k + 5) (by omega), qchk, qzn (k := 1542 + 10 * k + 5) (by omega), h.1.ahd hk hlo, e1', qbd, zr]
  by_cases c1 : c = nI 1
  · rw [if_pos c1, if_pos c1]
    obtain ⟨p, hp, ep, hph⟩ := jp (by rw [ec, c1]; decide)
    have e5 : a5 = nI p := by rw [← h5 c1, ep]
    obtain ⟨X2, Y2, e2, e2', h2, f2, g2⟩ := s_hearRequest h1 hT (k := k) hn hp ho hne (by omega) (by rw [f1 49 (by decide)]; exact ep) (by rw [f1 47 (by decide)]; exact e47) (by
      rw [k1]; unfold upd; rw [if_pos rfl, zmx_int]; omega)
    refine ⟨X2, Y2, ?_, ?_, h2, hK1.fr f2 (by decide), (f1.sub (by decide)).trans (f2.sub (by decide)), g1.trans g2⟩
    · rw [e2, qbd]
    · rw [y_in (a := 1542 + 10 * k + 6) (by omega), qchk, qzn (k := 1542 + 10 * k + 6) (by omega), h1.1.asc hk hlo, e5, e2', qbd, qchk]
  · rw [if_neg c1, if_neg c1]
    exact ⟨X1, Y1, rfl, qchk _, h1, hK1, f1.sub (by decide), g1⟩
theorem s_isUp (h : wS lo s l m T X Y) {n : Nat} (hn : n < s) : eX12_isUp (nI n) Y = some (zB (((X 3 1 >>> (nI n &&& 31)) &&& nI 1) = nI 1)) := by
  have hs := h.1.hs
  unfold eX12_isUp
  rw [y_of Y (by omega) (by omega), qbd]
  obtain ⟨u1, u2⟩ := h.1.2.2.1 n hn
  by_cases c : hb (X 3 1) n
  · rw [u1 c, if_pos rfl, show zB (((X 3 1 >>> (nI n &&& 31)) &&& nI 1) = nI 1) = 1 from zB_t c]; rfl
  · rw [u2 c, if_neg (by decide), show zB (((X 3 1 >>> (nI n &&& 31)) &&& nI 1) = nI 1) = 0 from zB_f c]; rfl
theorem s_hear (F : Nat) (hF : 300 ≤ F) (h : wS lo s l m T X Y) (hT : T.1 < 1000000) (hK : K3 s X) {k : Nat} (hk : k < m) (hlo : lo.1 ≤ k) : ∃ X' Y' r, eX10_hear F (nI k) X = some X' ∧ eX12_isHeard F (nI k) Y = some (r, Y') ∧ wS lo s l m T X' Y' ∧ K3 s X' ∧ (r = nI 0 ∨ r = nI 1) ∧ X' 0 13 = X 0 13 + r ∧ (∀ i, i ≠ 13 → X' 0 i = X 0 i) ∧ fr hrL X X' ∧ fr [1] Y Y' := by
  have hs := h.1.hs
  have hm := h.1.hm
  obtain ⟨⟨n, o, hn, ho, hne, e46, e47⟩, ⟨c, hc, e48⟩, jh, jt, jp, je⟩ := h.1.1.2.2.2.2.2.2.2.2.1.2.2 k hk
  have i64 : zin (nI k) 64 = true := qzin (by omega) (by omega)
  have z64 : zn (nI k) = k := qzn (by omega)
  have z0 : nI 0 = (0 : Int32) := rfl
  unfold eX10_hear eX12_isHeard
  simp only [i64, qchk, z64, a_m, qlet, e46, e48]
  rw [y_in (a := 1542 + 10 * k + 1) (by omega), qchk, y_in (a := 1542 + 10 * k + 3) (by omega), qchk, y_in (a := 1542 + 10 * k + 4) (by omega), qchk, y_in (a := 1542 + 10 * k + 2) (by omega), qchk, qzn (k := 1542 + 10 * k + 1) (by omega), qzn (k := 1542 + 10 * k + 2) (by omega), qzn (k := 1542 + 10 * k + 3) (by omega), qzn (k := 1542 + 10 * k + 4) (by omega), h.1.to hk hlo, h.1.afrom hk hlo, h.1.kind hk hlo, h.1.apk hk hlo, e46, e47, e48, s_isUp h hn, qbd]
  by_cases u : hb (X 3 1) n
  · have u1 : ((X 3 1 >>> (nI n &&& 31)) &&& nI 1) = nI 1 := u
    have u2 : zB (((X 3 1 >>> (nI n &&& 31)) &&& nI 1) = nI 1) = 1 := zB_t u
    have q1 : ¬ ((1 : Int32) = 0) := by decide
    rw [if_pos u1, u2, if_neg q1]
    -- reports first
    have step2 : ∀ (X1 Y1 : zX), wS lo s l m T X1 Y1 → fr [18, 19, 20] X X1 → fr [1] Y Y1 → ∃ X' Y' r, jX10_hear_88 F (nI k) (nI n) (nI c) X1 = some X' ∧ jX12_isHeard_89 F (nI k) (nI n) (nI c) (X 49 k) (nI o) Y1 = some (r, Y') ∧ wS lo s l m T X' Y' ∧ K3 s X' ∧ (r = nI 0 ∨ r = nI 1) ∧ X' 0 13 = X 0 13 + r ∧ (∀ i, i ≠ 13 → X' 0 i = X 0 i) ∧ fr hrL X X' ∧ fr [1] Y Y' := by
      intro X1 Y1 h1 f1 g1
      have hK1 : K3 s X1 := hK.fr f1 (by decide)
      -- hearing of it, and requests
      have step3 : ∀ (X2 Y2 : zX) (r : Int32), wS lo s l m T X2 Y2 → fr [0, 8, 9, 11, 12, 13, 16, 17, 21, 26, 27, 28, 29, 30, 31, 32, 33, 55] X1 X2 → fr [1] Y1 Y2 → (r = nI 0 ∨ r = nI 1) → X2 0 13 = X1 0 13 + r → (∀ i, i ≠ 13 → X2 0 i = X1 0 i) → (∀ n' q, n' < s → q < 12 → hb (X2 9 n') q → (q : Int) ≤ (X2 10 n').toInt ∨ (n' = n ∧ (q : Int) ≤ (X2 50 k).toInt)) → ∃ X' Y', jX10_hear_103 F (nI k) (nI n) (nI c) X2 = some X' ∧ jX12_isHeard_125 F (nI k) (nI n) (nI c) (X 49 k) (nI o) r Y2 = some (r, Y') ∧ wS lo s l m T X' Y' ∧ K3 s X' ∧ X' 0 13 = X 0 13 + r ∧ (∀ i, i ≠ 13 → X' 0 i = X 0 i) ∧ fr hrL X X' ∧ fr [1] Y Y' := by
        intro X2 Y2 r h2 f2 g2 hr k13 ko hK2
        have f12 : fr [0, 8, 9, 11, 12, 13, 16, 17, 18, 19, 20, 21, 26, 27, 28, 29, 30, 31, 32, 33, 55] X X2 := (f1.sub (by decide)).trans (f2.sub (by decide))
        obtain ⟨X3, Y3, e3, e3', h3, hK3, f3, g3⟩ := s_hear103 F hF (c := nI c) h2 hT hn ho hne hk hlo (by rw [f12 47 (by decide)]; exact e47) hK2 (by rw [f12 48 (by decide)]; exact e48) r hr (X 49 k) (fun _ => by rw [f12 49 (by decide)])
        refine ⟨X3, Y3, e3, e3', h3, hK3, by rw [f3 0 (by decide), k13, f1 0 (by decide)], fun i hi => by rw [f3 0 (by decide), ko i hi, f1 0 (by decide)], (f12.sub (by decide)).trans (f3.sub (by decide)), (g1.trans g2).trans g3⟩
      have noPk : ∃ X' Y' r, jX10_hear_103 F (nI k) (nI n) (nI c) X1 = some X' ∧ jX12_isHeard_124 F (nI k) (nI n) (nI c) (X 49 k) (nI o) Y1 = some (r, Y') ∧ wS lo s l m T X' Y' ∧ K3 s X' ∧ (r = nI 0 ∨ r = nI 1) ∧ X' 0 13 = X 0 13 + r ∧ (∀ i, i ≠ 13 → X' 0 i = X 0 i) ∧ fr hrL X X' ∧ fr [1] Y Y' := by
        obtain ⟨X', Y', e1, e2, e3, e4, e5, e6, e7, e8⟩ := step3 X1 Y1 (nI 0) h1 (fr.refl _ _) (fr.refl _ _) (Or.inl rfl) (Int32.add_zero _).symm (fun _ _ => rfl) (fun n' q hn' hq hb' => Or.inl (hK1 n' hn' q hq hb'))
        exact ⟨X', Y', nI 0, e1, e2, e3, e4, Or.inl rfl, e5, e6, e7, e8⟩
      -- a packet
      have pk : c = 0 ∨ c = 2 → ∀ b, ∃ X' Y' r, zbd (jX10_hearPacket_35 (nI n) (nI k) (X1 49 k) (nI n * nI 12 + X1 49 k) b X1) (fun y2 => jX10_hear_103 F (nI k) (nI n) (nI c) y2) = some X' ∧ jX12_isHeard_112 F (nI k) (nI n) (nI c) (X 49 k) (nI o) b (X 49 k) (nI n) Y1 = some (r, Y') ∧ wS lo s l m T X' Y' ∧ K3 s X' ∧ (r = nI 0 ∨ r = nI 1) ∧ X' 0 13 = X 0 13 + r ∧ (∀ i, i ≠ 13 → X' 0 i = X 0 i) ∧ fr hrL X X' ∧ fr [1] Y Y' := by
        intro hc02 b
        obtain ⟨p, hp, ep, hph⟩ := jp (by rw [e48]; exact fun z => by have := (nI_eq (by omega) (by decide)).mp z; omega)
        obtain ⟨X2, Y2, r, e2, e2', h2, hr, k13, ko, f2, g2, hbs⟩ := s_hearPacket F hF h1 (k := k) hn hp ho hne (by omega) (by rw [f1 47 (by decide)]; exact e47) b
        obtain ⟨X', Y', e3, e3', a3, a4, a5, a6, a7, a8⟩ := step3 X2 Y2 r h2 f2 g2 hr k13 ko (fun n' q hn' hq hb' => by
          rw [f2 10 (by decide), f2 50 (by decide), f1 50 (by decide)]
          rcases hbs n' q hq hb' with z | ⟨z1, z2⟩
          · exact Or.inl (hK1 n' hn' q hq z)
          · exact Or.inr ⟨z1, by rw [z2]; exact hph⟩)
        refine ⟨X', Y', r, ?_, ?_, a3, a4, hr, a5, a6, a7, a8⟩
        · rw [f1 49 (by decide), ep, x_ix, e2, qbd, e3]
        · unfold jX12_isHeard_112
          rw [ep, e2', qbd]
          rcases hr with rfl | rfl
          · rw [if_pos (show (nI 0, Y2).fst = 0 from rfl), ← ep]; unfold jX12_isHeard_124; exact e3'
          · rw [if_neg (show ¬ (nI 1, Y2).fst = 0 from (by decide : ¬ (nI 1 = 0))), ← ep]; exact e3'
      unfold jX10_hear_88 jX12_isHeard_89 jX10_hear_97 jX12_isHeard_98
      by_cases c0 : c = 0
      · subst c0
        rw [if_pos (show nI 0 = 0 from rfl), if_pos (show nI 0 = 0 from rfl), if_neg (by decide : ¬ nI 0 = nI 2)]
        unfold eX10_hearPacket
        rw [i64, qchk, qchk, z64, f1 48 (by decide), e48, if_neg (by decide : ¬ nI 0 = nI 2)]
        exact pk (Or.inl rfl) (nI 0)
      · have c0' : ¬ nI c = 0 := nI_ne0 (by omega) (by omega)
        rw [if_neg c0', if_neg c0']
        by_cases c2 : c = 2
        · subst c2
          rw [if_pos rfl, if_pos rfl]
          unfold eX10_hearPacket
          rw [i64, qchk, qchk, z64, f1 48 (by decide), e48, if_pos rfl]
          exact pk (Or.inr rfl) (nI 1)
        · have c2' : ¬ nI c = nI 2 := fun z => c2 ((nI_eq (by omega) (by decide)).mp z)
          rw [if_neg c2', if_neg c2']
          exact noPk
    by_cases c3 : nI c = nI 3
    · rw [if_pos c3, if_pos c3]
      obtain ⟨X1, Y1, e1, e1', h1, f1, g1⟩ := s_hearReport h hT hn ho hne hk hlo e47 (e48.trans c3)
      rw [e1, qbd, e1', qbd]
      exact step2 X1 Y1 h1 f1 g1
    · rw [if_neg c3, if_neg c3]
      exact step2 X Y h (fr.refl _ _) (fr.refl _ _)
  · have u1 : ¬ ((X 3 1 >>> (nI n &&& 31)) &&& nI 1) = nI 1 := u
    have u2 : zB (((X 3 1 >>> (nI n &&& 31)) &&& nI 1) = nI 1) = 0 := zB_f u
    rw [if_neg u1, u2, if_pos rfl]
    have same : ∃ X' Y' r, some X = some X' ∧ some (nI 0, Y) = some (r, Y') ∧ wS lo s l m T X' Y' ∧ K3 s X' ∧ (r = nI 0 ∨ r = nI 1) ∧ X' 0 13 = X 0 13 + r ∧ (∀ i, i ≠ 13 → X' 0 i = X 0 i) ∧ fr hrL X X' ∧ fr [1] Y Y' := ⟨X, Y, nI 0, rfl, rfl, h, hK, Or.inl rfl, (Int32.add_zero _).symm, fun _ _ => rfl, fr.refl _ _, fr.refl _ _⟩
    by_cases c0 : nI c = 0
    · rw [if_pos c0, if_pos c0]
      obtain ⟨p, hp, ep, hph⟩ := jp (by rw [e48, c0]; decide)
      rw [ep, x_hasP X (by omega), qbd, y_hasP h hn, qbd]
      by_cases cb : hb (X 9 n) p
      · have c1 : zB (((X 9 n >>> (nI p &&& 31)) &&& nI 1) = nI 1) = 1 := zB_t cb
        have q1 : ¬ ((1 : Int32) = 0) := by decide
        rw [c1, if_neg q1, if_neg q1]
        exact same
      · have c1 : zB (((X 9 n >>> (nI p &&& 31)) &&& nI 1) = nI 1) = 0 := zB_f cb
        rw [c1, if_pos rfl, if_pos rfl, x_ix, x_setGap X (by omega) hp, qbd, y_hasGap Y (by omega) hp, qbd]
        have h1 := s_hasGap h hn hp (g := nI 4) (by decide)
        have f1 : fr [30, 31] X (zw (zw X 30 (n * 12 + p) (nI 4)) 31 (n * 12 + p) (nI 0)) := fr_w (fr_w (fr.refl _ _) (by decide)) (by decide)
        exact ⟨_, _, nI 0, rfl, rfl, h1, hK.fr f1 (by decide), Or.inl rfl, by rw [f1 0 (by decide)]; exact (Int32.add_zero _).symm, fun i _ => by rw [f1 0 (by decide)], f1.sub (by decide), fr_w (fr_w (fr.refl _ _) (by decide)) (by decide)⟩
    · rw [if_neg c0, if_neg c0]
      exact same
end H4
