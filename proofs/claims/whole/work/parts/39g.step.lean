/-! a node acts, the source sends, a tick goes by -/
section SG
variable {s l : Nat} {T : Nat × Nat} {X Y : zX}
/-- reports -/
theorem s_actEnd (F : Nat) (hF : 300 ≤ F) (hT : T.1 < 1000000) (h : sS s l T X Y) {n : Nat} (hn : n < s) : ∃ X' Y', (if (X 1 2) ≤ 0 then some X else zchk (znz (X 1 2)) (if (zrem ((X 0 12) + nI n) (X 1 2)) = 0 then zbd (eX10_flood F (nI n) (nI 3) (-1) (nI 5) X) fun y7 => some y7 else some X)) = some X' ∧ (∀ {α : Type} (K : zX → Option α), (if (Y 1 6) ≤ 0 then K Y else zchk (znz (Y 1 6)) (if (zrem ((Y 1 14) + nI n) (Y 1 6)) = 0 then zbd (eX12_flood F (nI n) (nI 3) (-1) (nI 5) Y) fun y6 => K y6 else K Y)) = K Y') ∧ sS s l T X' Y' ∧ X' 0 13 = X 0 13 ∧ fr yL Y Y' ∧ gro 0 X X' := by
  obtain ⟨m, Z, hw, hW, hK⟩ := id h
  rw [hw.1.period, hw.1.tick]
  by_cases c1 : (X 1 2) ≤ 0
  · refine ⟨X, Y, by rw [if_pos c1], fun K => by rw [if_pos c1], h, rfl, fr.refl _ _, gro_0 rfl rfl⟩
  · have hz : znz (X 1 2) = true := decide_eq_true (fun z => c1 (by rw [z]; decide))
    by_cases c2 : (zrem ((X 0 12) + nI n) (X 1 2)) = 0
    · obtain ⟨X', Y', m', e1, e2, h1, f1, g1, z1⟩ := s_flood F hF hT hw hW (a := n) (c := 3) (p := 0) (pk := -1) (sc := nI 5) hn (by decide) (by decide) (fun z => absurd z (by decide)) (fun z => absurd z (by decide)) (fun z => absurd rfl z)
      refine ⟨X', Y', by rw [if_neg c1, hz, qchk, if_pos c2, e1, qbd], fun K => by rw [if_neg c1, hz, qchk, if_pos c2, e2, qbd], ⟨m', Z, h1, wC_fr hW f1 (by decide), hK.fr f1 (by decide)⟩, z1 13 (by decide) (by decide), g1, gro_0 (z1 8 (by decide) (by decide)) (f1 14 (by decide))⟩
    · refine ⟨X, Y, by rw [if_neg c1, hz, qchk, if_neg c2], fun K => by rw [if_neg c1, hz, qchk, if_neg c2], h, rfl, fr.refl _ _, gro_0 rfl rfl⟩
theorem y_quiet (F : Nat) (h : sS s l T X Y) {n : Nat} (hn : n < s) (K7 : Int32 → Int32 → zX → Option (Int32 × zX)) (a1 : Int32) : ∀ (d p gu : Nat), 12 - p = d → p ≤ 12 → d < gu → (X 10 n).toInt < (p : Int) → hX12_oneTick_28 F K7 gu a1 (nI n) (nI p) Y = (if (Y 1 6) ≤ 0 then K7 a1 (nI (n + 1)) Y else zchk (znz (Y 1 6)) (if (zrem ((Y 1 14) + nI n) (Y 1 6)) = 0 then zbd (eX12_flood F (nI n) (nI 3) (-1) (nI 5) Y) fun y6 => K7 a1 (nI (n + 1)) y6 else K7 a1 (nI (n + 1)) Y)) := by
  obtain ⟨m, Z, hw, hW, hK⟩ := id h
  have hs := hw.1.hs
  intro d
  induction d with
  | zero =>
    intro p gu hd hp hg hh
    obtain ⟨gu, rfl⟩ : ∃ g, gu = g + 1 := ⟨gu - 1, by omega⟩
    have : p = 12 := by omega
    subst this
    unfold hX12_oneTick_28
    rw [if_pos (by decide), nI_add]
  | succ d ih =>
    intro p gu hd hp hg hh
    obtain ⟨gu, rfl⟩ : ∃ g, gu = g + 1 := ⟨gu - 1, by omega⟩
    have p12 : p < 12 := by omega
    obtain ⟨j1, j2⟩ := hw.1.1.2.2.2.2.2.2.1 n p hn p12
    have e1 : X 21 (n * 12 + p) = -1 := Decidable.byContradiction fun z => by have := j1 z; omega
    have e2 : X 26 (n * 12 + p) = -1 := Decidable.byContradiction fun z => by have := (j2 z).1; omega
    have et : eX12_talks F (nI n) (nI p) Y = some Y := by
      unfold eX12_talks
      rw [y_pk Y (by omega) p12 (by omega), qbd, hw.1.ask hn p12, if_neg (fun z => z.1 e1), y_pk Y (by omega) p12 (by omega), qbd, hw.1.answer hn p12, if_neg (fun z => z.1 e2)]
    have e := ih (p + 1) gu (by omega) (by omega) (by omega) (by omega)
    unfold hX12_oneTick_28
    rw [if_neg (nI_ge p12 (by decide)), et, qbd, nI_add]
    exact e
theorem s_act_loop (F : Nat) (hF : 300 ≤ F) (hT : T.1 < 1000000) {n : Nat} (hn : n < s) (K7 : Int32 → Int32 → zX → Option (Int32 × zX)) (a1 : Int32) : ∀ (d p fu gu : Nat) (X Y : zX), 12 - p = d → p ≤ 12 → d < fu → d < gu → sS s l T X Y → ∃ X' Y', hX10_act_26 F fu (nI n) (nI (n * 12 + p)) (nI p) X = some X' ∧ hX12_oneTick_28 F K7 gu a1 (nI n) (nI p) Y = K7 a1 (nI (n + 1)) Y' ∧ sS s l T X' Y' ∧ X' 0 13 = X 0 13 ∧ fr yL Y Y' ∧ gro (12 - p) X X' := by
  have fin : ∀ (p fu gu : Nat) (X Y : zX), p ≤ 12 → 0 < fu → 12 - p < gu → sS s l T X Y → (X 10 n).toInt < (p : Int) → ∃ X' Y', hX10_act_26 F fu (nI n) (nI (n * 12 + p)) (nI p) X = some X' ∧ hX12_oneTick_28 F K7 gu a1 (nI n) (nI p) Y = K7 a1 (nI (n + 1)) Y' ∧ sS s l T X' Y' ∧ X' 0 13 = X 0 13 ∧ fr yL Y Y' ∧ gro (12 - p) X X' := by
    intro p fu gu X Y hp hf hg h hh
    obtain ⟨fu, rfl⟩ : ∃ g, fu = g + 1 := ⟨fu - 1, by omega⟩
    have hs : s ≤ 6 := by obtain ⟨m, Z, hw, -⟩ := id h; exact hw.1.hs
    obtain ⟨X', Y', e1, e2, h1, k1, k2, k9⟩ := s_actEnd F hF hT h hn
    refine ⟨X', Y', ?_, ?_, h1, k1, k2, k9.mono (Nat.zero_le _)⟩
    · unfold hX10_act_26
      rw [qzin (show n < 6 by omega) (by omega), qchk, qzn (by omega), if_pos (by rw [Int32.lt_iff_toInt_lt, nI_toInt (by omega)]; exact hh)]
      exact e1
    · rw [y_quiet F h hn K7 a1 (12 - p) p gu rfl hp hg hh]
      exact e2 (fun y => K7 a1 (nI (n + 1)) y)
  intro d
  induction d with
  | zero =>
    intro p fu gu X Y hd hp hf hg h
    obtain ⟨m, Z, hw, hW, hK⟩ := id h
    have := (hw.1.1.2.2.2.1 n hn).2
    exact fin p fu gu X Y hp (by omega) (by omega) h (by unfold hdO at this; omega)
  | succ d ih =>
    intro p fu gu X Y hd hp hf hg h
    obtain ⟨m, Z, hw, hW, hK⟩ := id h
    have hs := hw.1.hs
    by_cases c : (X 10 n).toInt < (p : Int)
    · exact fin p fu gu X Y hp (by omega) (by omega) h c
    · obtain ⟨fu, rfl⟩ : ∃ g, fu = g + 1 := ⟨fu - 1, by omega⟩
      obtain ⟨gu, rfl⟩ : ∃ g, gu = g + 1 := ⟨gu - 1, by omega⟩
      have p12 : p < 12 := by omega
      obtain ⟨X1, Y1, e1, e2, h1, k1, k2, k3, k8⟩ := s_talks F hF hT h hn p12
      obtain ⟨X', Y', g1, g2, g3, g4, g5, g9⟩ := ih (p + 1) fu gu X1 Y1 (by omega) (by omega) (by omega) (by omega) h1
      refine ⟨X', Y', ?_, ?_, g3, by rw [g4, k1], k3.trans g5, k8.trans g9 (by omega)⟩
      · unfold hX10_act_26
        rw [qzin (show n < 6 by omega) (by omega), qchk, qzn (show n < 2147483648 by omega), if_neg (by rw [Int32.lt_iff_toInt_lt, nI_toInt (by omega)]; exact c), x_in (by omega) p12, qchk, qchk, x_zn (by omega) p12, e1, nI_add, nI_add]
        exact g1
      · unfold hX12_oneTick_28
        rw [if_neg (nI_ge p12 (by decide)), e2, qbd, nI_add]
        exact g2
theorem s_canSend {lo : Nat × (Nat → Int32)} {m : Nat} (h : wS lo s l m T X Y) : ∃ r, eX10_canSend X = some r ∧ eX12_canSend Y = some r ∧ (r = nI 0 ∨ (r = nI 1 ∧ ∃ q, q < s ∧ X 1 0 = nI q ∧ T.2 < 12)) := by
  have hs := h.1.hs
  obtain ⟨q, hq6, hq, e⟩ := h.1.1.2.2.1.1
  obtain ⟨-, hn12, en⟩ := h.1.1.2.1
  unfold eX10_canSend eX12_canSend
  rw [h.1.nn, h.1.nodes, h.1.source, h.1.next, e, en]
  by_cases c1 : s ≤ q
  · rw [if_pos ((nI_leI (by omega) (by omega)).mpr c1), if_pos ((nI_leI (by omega) (by omega)).mpr c1)]
    exact ⟨_, rfl, rfl, Or.inl rfl⟩
  · have hqs : q < s := by omega
    rw [if_neg (fun z => c1 ((nI_leI (by omega) (by omega)).mp z)), if_neg (fun z => c1 ((nI_leI (by omega) (by omega)).mp z)), s_isUp h hqs, qbd]
    by_cases c2 : hb (X 3 1) q
    · rw [if_pos (show ((X 3 1 >>> (nI q &&& 31)) &&& nI 1) = nI 1 from c2), show zB (((X 3 1 >>> (nI q &&& 31)) &&& nI 1) = nI 1) = 1 from zB_t c2, if_neg (show ¬ (1 : Int32) = 0 by decide)]
      by_cases c3 : 12 ≤ T.2
      · rw [if_pos ((nI_leI (by omega) (by omega)).mpr c3)]
        exact ⟨_, rfl, rfl, Or.inl rfl⟩
      · rw [if_neg (fun z => c3 ((nI_leI (by omega) (by omega)).mp z))]
        exact ⟨_, rfl, rfl, Or.inr ⟨rfl, q, hqs, rfl, by omega⟩⟩
    · rw [if_neg (show ¬ ((X 3 1 >>> (nI q &&& 31)) &&& nI 1) = nI 1 from c2), show zB (((X 3 1 >>> (nI q &&& 31)) &&& nI 1) = nI 1) = 0 from zB_f c2, if_pos rfl]
      exact ⟨_, rfl, rfl, Or.inl rfl⟩
theorem s_sendNextG (F : Nat) (hF : 300 ≤ F) (hT : T.1 < 1000000) (h : sS s l T X Y) {q : Nat} (hq : q < s) (eq : X 1 0 = nI q) (hn12 : T.2 < 12) : ∃ X' Y', eX10_sendNext F X = some X' ∧ eX12_isSent F Y = some (nI T.2, Y') ∧ sS s l (T.1, T.2 + 1) X' Y' ∧ X' 0 13 = X 0 13 ∧ X' 0 9 = nI (T.2 + 1) ∧ fr yL Y Y' ∧ gro 0 X X' := by
  obtain ⟨m, Z, hw, hW, hK⟩ := h
  have hs := hw.1.hs
  obtain ⟨-, -, en⟩ := hw.1.1.2.1
  obtain ⟨b9, b10⟩ := hw.1.1.2.2.2.1 q hq
  have h1 : wS (0, Z) s l m (T.1, T.2 + 1) (zw X 0 9 (nI (T.2 + 1))) (zw Y 1 4 (nI (T.2 + 1))) := ⟨hw.1.w_next hn12, by rw [zw_no (Or.inl (by decide)), zw_no (Or.inl (by decide))]; exact hw.2⟩
  have h2 := h1.w (h1.1.w_has (v := X 9 q ||| (nI 1 <<< (nI T.2 &&& 31))) hq (leN_or b9 hn12)) (Or.inl (by decide))
  have f2 : fr [0, 9] X (zw (zw X 0 9 (nI (T.2 + 1))) 9 q (X 9 q ||| (nI 1 <<< (nI T.2 &&& 31)))) := fr_w (fr_w (fr.refl _ _) (by decide)) (by decide)
  obtain ⟨X3, Y3, e3, e3', h3, f3, g3⟩ := s_giver h2 hq hn12 (g := nI q) (t := X 0 12) (Or.inr ⟨q, hq, rfl⟩)
  have F3 : fr [0, 9, 32, 33] X X3 := (f2.sub (by decide)).trans (f3.sub (by decide))
  have h4 := h3.w (h3.1.w_heard (v := nI T.2) hq (by unfold hdO; rw [nI_toInt (by omega)]; dsimp only; omega) (by rw [F3 10 (by decide), nI_toInt (by omega)]; unfold hdO at b10; omega)) (Or.inl (by decide))
  have ec : zw X3 10 q (nI T.2) = zw (zw (zw (zw (zw X 0 9 (nI (T.2 + 1))) 9 q (X 9 q ||| (nI 1 <<< (nI T.2 &&& 31)))) 10 q (nI T.2)) 32 (q * 12 + T.2) (nI q)) 33 (q * 12 + T.2) (X 0 12) := by
    unfold eX5_setGiver at e3
    rw [x_in (by omega) hn12, qchk, qchk, x_zn (by omega) hn12] at e3
    rw [← Option.some.inj e3, zw_com (k := 33) (k' := 10) (Or.inl (by decide)), zw_com (k := 32) (k' := 10) (Or.inl (by decide))]
  have F4 : fr [0, 9, 10, 32, 33] X (zw X3 10 q (nI T.2)) := fr_w (F3.sub (by decide)) (by decide)
  have z012 : (zw X3 10 q (nI T.2)) 0 12 = X 0 12 := by
    rw [ec, zw_no (Or.inl (by decide)), zw_no (Or.inl (by decide)), zw_no (Or.inl (by decide)), zw_no (Or.inl (by decide)), zw_no (Or.inr (by decide))]
  have z0 : ∀ i, i ≠ 9 → (zw X3 10 q (nI T.2)) 0 i = X 0 i := fun i hi => by
    rw [ec, zw_no (Or.inl (by decide)), zw_no (Or.inl (by decide)), zw_no (Or.inl (by decide)), zw_no (Or.inl (by decide)), zw_no (Or.inr hi)]
  have z09 : (zw X3 10 q (nI T.2)) 0 9 = nI (T.2 + 1) := by
    rw [ec, zw_no (Or.inl (by decide)), zw_no (Or.inl (by decide)), zw_no (Or.inl (by decide)), zw_no (Or.inl (by decide)), zw_at]
  have hK4 : K3 s (zw X3 10 q (nI T.2)) := by
    intro n hn p hp hbp
    have r9 : (zw X3 10 q (nI T.2)) 9 n = if n = q then X 9 q ||| (nI 1 <<< (nI T.2 &&& 31)) else X 9 n := by
      rw [ec, zw_no (Or.inl (by decide)), zw_no (Or.inl (by decide)), zw_no (Or.inl (by decide)), zw_in]
      by_cases z : n = q
      · rw [if_pos ⟨rfl, z⟩, if_pos z]
      · rw [if_neg (fun w => z w.2), if_neg z, zw_no (Or.inl (by decide))]
    rw [r9] at hbp
    by_cases z : n = q
    · subst z
      rw [if_pos rfl, hb_or (by omega) (by omega)] at hbp
      rw [zw_at, nI_toInt (by omega)]
      rcases hbp with w | w
      · have := hK n hn p hp w
        unfold hdO at b10; omega
      · omega
    · rw [if_neg z] at hbp
      rw [zw_no (Or.inr z), F3 10 (by decide)]
      exact hK n hn p hp hbp
  generalize hX4 : zw X3 10 q (nI T.2) = X4 at *
  have e10 : X4 10 q = nI T.2 := by rw [← hX4, zw_at]
  obtain ⟨X5, Y5, e5, e5', h5, f5, g5, -⟩ := s_log F hF h4 (n := q) (p := T.2) (q := 0)
  have F5 : fr [0, 8, 9, 10, 32, 33, 55] X X5 := (F4.sub (by decide)).trans (f5.sub (by decide))
  obtain ⟨X6, Y6, m6, e6, e6', h6, f6, g6, z6⟩ := s_flood F hF (T := (T.1, T.2 + 1)) hT h5 (wC_fr hW F5 (by decide)) (a := q) (c := 0) (p := T.2) (pk := nI T.2) (sc := nI 5) hq hn12 (by decide) (fun _ => rfl) (fun _ => rfl) (fun _ => ⟨T.2, hn12, rfl, by rw [f5 10 (by decide), e10, nI_toInt (by omega)]; omega⟩)
  have i6 : zin (nI q) 6 = true := qzin (by omega) (by omega)
  have q6 : zn (nI q) = q := qzn (by omega)
  refine ⟨X6, Y6, ?_, ?_, ⟨m6, Z, h6, wC_fr (wC_fr hW F5 (by decide)) f6 (by decide), (hK4.fr f5 (by decide)).fr f6 (by decide)⟩, ?_, ?_, ?_, gro_0 (by rw [z6 8 (by decide) (by decide), f5 0 (by decide), z0 8 (by decide)]) ((f6 14 (by decide)).trans (F5 14 (by decide)))⟩
  · unfold eX10_sendNext eX5_setGiver
    rw [eq, en, i6, qchk, qchk, qlet, qchk, q6, x_ix, x_in (by omega) hn12, qchk, qchk, x_zn (by omega) hn12, nI_add, zw_no (b := 12) (Or.inr (by decide)), qbd, ← ec, z012]
    rw [z012] at e5
    rw [e5, qbd, e6, qbd]
  · unfold eX12_isSent
    have s1 : (zw Y 1 4 (nI (T.2 + 1))) 1 (18 + 244 * q + 1) = X 9 q := by rw [zw_no (Or.inr (by omega)), hw.1.has hq]
    rw [hw.1.source, eq, hw.1.next, en]
    simp only [a_n]
    rw [y_in (a := 18 + 244 * q + 1) (by omega), qchk, qchk, qlet, qzn (k := 18 + 244 * q + 1) (by omega), nI_add, s1, zw_no (a := 1) (b := 14) (Or.inr (by omega)), zw_no (a := 1) (b := 14) (Or.inr (by omega)), hw.1.tick, e3', qbd, y_in (a := 18 + 244 * q + 2) (by omega), qchk, qlet, qzn (k := 18 + 244 * q + 2) (by omega), e5', qbd, e6', qbd]
  · rw [z6 13 (by decide) (by decide), f5 0 (by decide), z0 13 (by decide)]
  · rw [z6 9 (by decide) (by decide), f5 0 (by decide), z09]
  · exact ((((fr_w (fr_w (fr.refl yL Y) (by decide)) (by decide)).trans (g3.sub (by decide))).trans (fr_w (fr.refl yL Y3) (by decide))).trans (g5.sub (by decide))).trans g6
theorem s_sendNext (F : Nat) (hF : 300 ≤ F) (hT : T.1 < 1000000) (h : sS s l T X Y) {q : Nat} (hq : q < s) (eq : X 1 0 = nI q) (hn12 : T.2 < 12) : ∃ X' Y', eX10_sendNext F X = some X' ∧ eX12_isSent F Y = some (nI T.2, Y') ∧ sS s l (T.1, T.2 + 1) X' Y' ∧ X' 0 13 = X 0 13 ∧ X' 0 9 = nI (T.2 + 1) ∧ fr yL Y Y' := by
  obtain ⟨X', Y', a1, a2, a3, a4, a5, a6, -⟩ := s_sendNextG F hF hT h hq eq hn12
  exact ⟨X', Y', a1, a2, a3, a4, a5, a6⟩
/-- the nodes, then the source -/
theorem s_nodes (F : Nat) (hF : 300 ≤ F) (hT : T.1 < 1000000) (got : Int32) : ∀ (d x fu gu : Nat) (X Y : zX), s - x = d → x ≤ s → d < fu → d < gu → sS s l T X Y → ∃ X' Y' nx, hX10_step_53 F fu (nI x) X = some X' ∧ hX12_oneTick_7 F gu got (nI x) Y = some (got, Y') ∧ sS s l (T.1 + 1, nx) X' Y' ∧ X' 0 13 = X 0 13 ∧ fr yL Y Y' ∧ gro (12 * d) X X' := by
  intro d
  induction d with
  | zero =>
    intro x fu gu X Y hd hx hf hg h
    obtain ⟨m, Z, hw, hW, hK⟩ := id h
    have hs := hw.1.hs
    obtain ⟨fu, rfl⟩ : ∃ g, fu = g + 1 := ⟨fu - 1, by omega⟩
    obtain ⟨gu, rfl⟩ : ∃ g, gu = g + 1 := ⟨gu - 1, by omega⟩
    have : x = s := by omega
    subst this
    -- the clock
    have clock : ∀ (T' : Nat × Nat) (X1 Y1 : zX), T'.1 = T.1 → sS x l T' X1 Y1 → ∃ X', jX10_step_122 F X1 = some X' ∧ ∃ Y', jX12_oneTick_130 F got Y1 = some (got, Y') ∧ sS x l (T.1 + 1, T'.2) X' Y' ∧ X' 0 13 = X1 0 13 ∧ fr yL Y1 Y' ∧ gro 0 X1 X' := by
      intro T' X1 Y1 eT h1
      obtain ⟨m1, Z1, hw1, hW1, hK1⟩ := h1
      obtain ⟨⟨t, ht, et⟩, -⟩ := hw1.1.1.2.1
      have fz : fr [0] X1 (zw X1 0 12 (X1 0 12 + nI 1)) := fr1
      have h2 : wS (0, Z1) x l m1 (T'.1 + 1, T'.2) (zw X1 0 12 (X1 0 12 + nI 1)) (zw Y1 1 14 (X1 0 12 + nI 1)) := ⟨hw1.1.w_tick (by rw [et, nI_add]; exact leN_nI (by omega)), by rw [zw_no (Or.inl (by decide)), zw_no (Or.inl (by decide))]; exact hw1.2⟩
      rw [eT] at h2
      refine ⟨_, rfl, zw Y1 1 14 (X1 0 12 + nI 1), ?_, ⟨m1, Z1, h2, wC_fr hW1 fz (by decide), hK1.fr fz (by decide)⟩, by rw [zw_no (Or.inr (by decide))], fr_w (fr.refl _ _) (by decide), gro_0 (zw_no (Or.inr (by decide))) (zw_row_ne (by decide))⟩
      unfold jX12_oneTick_130
      rw [hw1.1.tick]
    unfold hX10_step_53 hX12_oneTick_7
    rw [hw.1.nn, hw.1.nodes, if_pos ((nI_leI (by omega) (by omega)).mpr (Nat.le_refl _)), if_pos ((nI_leI (by omega) (by omega)).mpr (Nat.le_refl _)), hw.1.rate, hw.1.tick]
    have plain : ∃ X' Y' nx, jX10_step_122 F X = some X' ∧ jX12_oneTick_130 F got Y = some (got, Y') ∧ sS x l (T.1 + 1, nx) X' Y' ∧ X' 0 13 = X 0 13 ∧ fr yL Y Y' ∧ gro (12 * 0) X X' := by
      obtain ⟨X', e1, Y', e2, h2, k2, k3, k9⟩ := clock T X Y rfl h
      exact ⟨X', Y', T.2, e1, e2, h2, k2, k3, k9⟩
    by_cases c1 : X 1 3 ≤ 0
    · rw [if_pos c1, if_pos c1]; exact plain
    · have hz : znz (X 1 3) = true := decide_eq_true (fun z => c1 (by rw [z]; decide))
      rw [if_neg c1, if_neg c1, hz, qchk, qchk]
      by_cases c2 : zrem (X 0 12) (X 1 3) = 0
      · rw [if_pos c2, if_pos c2]
        obtain ⟨r, e1, e2, e3⟩ := s_canSend hw
        rw [e1, qbd, e2, qbd]
        rcases e3 with rfl | ⟨rfl, q, hq, eq, hn⟩
        · rw [if_pos (show nI 0 = 0 from rfl), if_pos (show nI 0 = 0 from rfl)]; exact plain
        · rw [if_neg (show ¬ nI 1 = 0 by decide), if_neg (show ¬ nI 1 = 0 by decide)]
          obtain ⟨X1, Y1, g1, g2, h1, k1, -, k2, k8⟩ := s_sendNextG F hF hT h hq eq hn
          obtain ⟨X', e4, Y', e5, h2, k3, k4, k9⟩ := clock (T.1, T.2 + 1) X1 Y1 rfl h1
          refine ⟨X', Y', T.2 + 1, by rw [g1, qbd, e4], by rw [g2, qbd]; exact e5, h2, by rw [k3, k1], k2.trans k4, k8.trans k9 (Nat.zero_le _)⟩
      · rw [if_neg c2, if_neg c2]; exact plain
  | succ d ih =>
    intro x fu gu X Y hd hx hf hg h
    obtain ⟨m, Z, hw, hW, hK⟩ := id h
    have hs := hw.1.hs
    obtain ⟨fu, rfl⟩ : ∃ g, fu = g + 1 := ⟨fu - 1, by omega⟩
    obtain ⟨gu, rfl⟩ : ∃ g, gu = g + 1 := ⟨gu - 1, by omega⟩
    unfold hX10_step_53 hX12_oneTick_7
    rw [hw.1.nn, hw.1.nodes, if_neg (nI_ge (by omega) (by omega)), if_neg (nI_ge (by omega) (by omega)), s_isUp hw (by omega), qbd]
    by_cases c : hb (X 3 1) x
    · rw [if_pos (show ((X 3 1 >>> (nI x &&& 31)) &&& nI 1) = nI 1 from c), show zB (((X 3 1 >>> (nI x &&& 31)) &&& nI 1) = nI 1) = 1 from zB_t c, if_neg (show ¬ (1 : Int32) = 0 by decide)]
      obtain ⟨X1, Y1, e1, e2, h1, k1, k2, k8⟩ := s_act_loop F hF hT (show x < s by omega) (hX12_oneTick_7 F gu) got 12 0 F F X Y (by omega) (by omega) (by omega) (by omega) h
      obtain ⟨X', Y', nx, g1, g2, h2, k3, k4, k9⟩ := ih (x + 1) fu gu X1 Y1 (by omega) (by omega) (by omega) (by omega) h1
      refine ⟨X', Y', nx, ?_, ?_, h2, by rw [k3, k1], k2.trans k4, k8.trans k9 (by omega)⟩
      · unfold eX10_act
        rw [x_ix, e1, qbd, nI_add, g1]
      · rw [e2, g2]
    · rw [if_neg (show ¬ ((X 3 1 >>> (nI x &&& 31)) &&& nI 1) = nI 1 from c), show zB (((X 3 1 >>> (nI x &&& 31)) &&& nI 1) = nI 1) = 0 from zB_f c, if_pos rfl, nI_add]
      obtain ⟨X', Y', nx, g1, g2, h2, k3, k4, k9⟩ := ih (x + 1) fu gu X Y (by omega) (by omega) (by omega) (by omega) h
      exact ⟨X', Y', nx, g1, g2, h2, k3, k4, k9.mono (by omega)⟩
/-- a tick -/
theorem s_stepG (F : Nat) (hF : 300 ≤ F) (hT : T.1 < 1000000) (h : sS s l T X Y) : ∃ X' Y' r nx, eX10_step F X = some X' ∧ eX12_oneTick F Y = some (r, Y') ∧ sS s l (T.1 + 1, nx) X' Y' ∧ X' 0 13 = X 0 13 + r ∧ fr yL Y Y' ∧ gro 72 X X' := by
  obtain ⟨m, Z, hw, hW, hK⟩ := id h
  have hs := hw.1.hs
  obtain ⟨X1, Y1, r, m1, e1, e2, h1, hK1, k13, ko, f1, g1⟩ := s_come F hF hT hw hK
  obtain ⟨X', Y', nx, a1, a2, a3, a4, a5, a6⟩ := s_nodes F hF hT r s 0 F F X1 Y1 (by omega) (by omega) (by omega) (by omega) ⟨m1, Z, h1 Z, wC_fr hW f1 (by decide), hK1⟩
  refine ⟨X', Y', r, nx, ?_, ?_, a3, by rw [a4, k13], (g1.sub (by decide)).trans a5, (gro_0 (k := 0) (ko 8 (by decide)) (f1 14 (by decide))).trans a6 (by omega)⟩
  · unfold eX10_step
    rw [e1, a1]
  · unfold eX12_oneTick
    rw [e2, qbd]; exact a2
theorem s_step (F : Nat) (hF : 300 ≤ F) (hT : T.1 < 1000000) (h : sS s l T X Y) : ∃ X' Y' r nx, eX10_step F X = some X' ∧ eX12_oneTick F Y = some (r, Y') ∧ sS s l (T.1 + 1, nx) X' Y' ∧ X' 0 13 = X 0 13 + r ∧ fr yL Y Y' := by
  obtain ⟨X', Y', r, nx, a1, a2, a3, a4, a5, -⟩ := s_stepG F hF hT h
  exact ⟨X', Y', r, nx, a1, a2, a3, a4, a5⟩
/-- ticks -/
theorem s_goesG (F : Nat) (hF : 300 ≤ F) {N : Nat} (hN : N ≤ 120) : ∀ (d k gu : Nat) (T : Nat × Nat) (X Y : zX) (got : Int32), N - k = d → k ≤ N → d < gu → T.1 + d < 1000000 → sS s l T X Y → ∃ X' Y' r nx, (∀ (fu : Nat), d < fu → ∀ {β : Type} (g : Nat → Int32 → zX → Option β) (fin : zX → Option β), (∀ n k X, k < N → g (n + 1) (nI k) X = zbd (eX10_step F X) (fun y => g n (nI (k + 1)) y)) → (∀ n X, g (n + 1) (nI N) X = fin X) → g fu (nI k) X = fin X') ∧ hX12_goesOn_4 F gu (nI N) got (nI k) Y = some (got + r, Y') ∧ sS s l (T.1 + d, nx) X' Y' ∧ X' 0 13 = X 0 13 + r ∧ fr yL Y Y' ∧ gro (72 * d) X X' := by
  intro d
  induction d with
  | zero =>
    intro k gu T X Y got hd hk hg hT h
    obtain ⟨gu, rfl⟩ : ∃ g, gu = g + 1 := ⟨gu - 1, by omega⟩
    have : k = N := by omega
    subst this
    refine ⟨X, Y, 0, T.2, ?_, ?_, h, (Int32.add_zero _).symm, fr.refl _ _, gro_0 rfl rfl⟩
    · intro fu hfu β g fin h1 h2
      obtain ⟨fu, rfl⟩ : ∃ g, fu = g + 1 := ⟨fu - 1, by omega⟩
      exact h2 fu X
    · unfold hX12_goesOn_4
      rw [if_pos ((nI_leI (by omega) (by omega)).mpr (Nat.le_refl _)), Int32.add_zero]
  | succ d ih =>
    intro k gu T X Y got hd hk hg hT h
    obtain ⟨gu, rfl⟩ : ∃ g, gu = g + 1 := ⟨gu - 1, by omega⟩
    obtain ⟨X1, Y1, r1, nx1, e1, e2, h1, k1, k2, k8⟩ := s_stepG F hF (by omega) h
    obtain ⟨X', Y', r, nx, a1, a2, a3, a4, a5, a9⟩ := ih (k + 1) gu (T.1 + 1, nx1) X1 Y1 (got + r1) (by omega) (by omega) (by omega) (by dsimp only; omega) h1
    refine ⟨X', Y', r1 + r, nx, ?_, ?_, ?_, by rw [a4, k1, Int32.add_assoc], k2.trans a5, k8.trans a9 (by omega)⟩
    · intro fu hfu β g fin h1 h2
      obtain ⟨fu, rfl⟩ : ∃ g, fu = g + 1 := ⟨fu - 1, by omega⟩
      rw [h1 fu k X (by omega), e1, qbd]
      exact a1 fu (by omega) g fin h1 h2
    · unfold hX12_goesOn_4
      rw [if_neg (nI_ge (by omega) (by omega)), e2, qbd, nI_add, ← Int32.add_assoc]
      exact a2
    · rw [show T.1 + (d + 1) = T.1 + 1 + d by omega]; exact a3
theorem s_goes (F : Nat) (hF : 300 ≤ F) {N : Nat} (hN : N ≤ 120) : ∀ (d k gu : Nat) (T : Nat × Nat) (X Y : zX) (got : Int32), N - k = d → k ≤ N → d < gu → T.1 + d < 1000000 → sS s l T X Y → ∃ X' Y' r nx, (∀ (fu : Nat), d < fu → ∀ {β : Type} (g : Nat → Int32 → zX → Option β) (fin : zX → Option β), (∀ n k X, k < N → g (n + 1) (nI k) X = zbd (eX10_step F X) (fun y => g n (nI (k + 1)) y)) → (∀ n X, g (n + 1) (nI N) X = fin X) → g fu (nI k) X = fin X') ∧ hX12_goesOn_4 F gu (nI N) got (nI k) Y = some (got + r, Y') ∧ sS s l (T.1 + d, nx) X' Y' ∧ X' 0 13 = X 0 13 + r ∧ fr yL Y Y' := by
  intro d k gu T X Y got h1 h2 h3 h4 h5
  obtain ⟨X', Y', r, nx, a1, a2, a3, a4, a5, -⟩ := s_goesG F hF hN d k gu T X Y got h1 h2 h3 h4 h5
  exact ⟨X', Y', r, nx, a1, a2, a3, a4, a5⟩
end SG
