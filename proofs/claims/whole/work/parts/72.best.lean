/-! the best of the first numbers -/
theorem J11.cg' {s : Nat} {X X' : zX} (h : J11 s X) (e : ∀ k, 9 ≤ k → k ≤ 33 → k ≠ 11 → X' k = X k) : J11 s X' := by
  intro n h1 h2
  obtain ⟨⟨a1, a2, a3, a4⟩, a5, a6⟩ := h n h1 h2
  refine ⟨⟨by rw [e 9 (by decide) (by decide) (by decide)]; exact a1, by rw [e 10 (by decide) (by decide) (by decide)]; exact a2, by rw [e 13 (by decide) (by decide) (by decide)]; exact a3, fun k k1 k2 => by rw [e k (by omega) (by omega) (by omega)]; exact a4 k k1 k2⟩, fun o ho => ?_, fun p hp => ?_⟩
  · obtain ⟨b1, b2, b3⟩ := a5 o ho
    rw [e 18 (by decide) (by decide) (by decide)]
    exact ⟨b1, b2, fun k k1 k2 => by rw [e k (by omega) (by omega) (by omega)]; exact b3 k k1 k2⟩
  · obtain ⟨c1, c2, c3⟩ := a6 p hp
    rw [e 21 (by decide) (by decide) (by decide), e 26 (by decide) (by decide) (by decide), e 27 (by decide) (by decide) (by decide), e 29 (by decide) (by decide) (by decide), e 30 (by decide) (by decide) (by decide), e 31 (by decide) (by decide) (by decide), e 32 (by decide) (by decide) (by decide), e 33 (by decide) (by decide) (by decide)]
    exact ⟨c1, fun k k1 k2 => by rw [e k (by omega) (by omega) (by omega)]; exact c2 k k1 k2, c3⟩
theorem rc_11 {d : Prop} {s l m i a : Nat} (h : rc d s l m 11 i a) : i < s := by
  unfold rc at h
  rcases h with ⟨h0, h⟩ | ⟨h0, h⟩ | ⟨h0, h⟩ | ⟨h1, h2, hn, ha⟩ | ⟨h1, h2, n, o, hn, ho, hne, hi, ha⟩ | ⟨h1, n, o, hn, ho, hi, ha⟩ | ⟨h1, n, o, hn, ho, hi, ha⟩ | ⟨h1, hi, ha⟩ | ⟨-, h1, hi, ha⟩ | ⟨h1, hi, ha⟩ <;> omega
section BS
variable {lo : Nat × (Nat → Int32)} {s l m : Nat} {T : Nat × Nat} {X Y : zX}
theorem wR.r11 (h : wR lo s l m T X Y) {X' : zX} (f : fr [11] X X') (e : ∀ n, n < s → X' 11 n = X 11 n) : wR lo s l m T X' Y := by
  obtain ⟨⟨j0, j1, j2, j3, j4, j5, j6, j7, j8, j10, j11⟩, d1, d2, d3, d4, d5, d6, d7, d8⟩ := h
  refine ⟨⟨j0.fr f (by decide), j1.fr f (by decide), j2.fr f (by decide), j3.fr f (by decide), ?_, j5.fr f (by decide), j6.fr f (by decide), j7.fr f (by decide), j8.fr f (by decide), j10.fr f (by decide), j11.cg' (fun k h1 h2 h3 => f k (by simp [h3]))⟩, ?_, ?_, ?_, ?_, ?_, ?_, ?_, d8⟩
  · intro n hn
    rw [e n hn, f 12 (by decide)]
    exact j4 n hn
  · intro k i a hc hq
    rw [f 2 (by decide)] at hc
    by_cases z : k = 11
    · subst z
      rw [e i (rc_11 hc)]
      exact d1 11 i a hc hq
    · rw [f k (by simp [z])]
      exact d1 k i a hc hq
  · intro n hn; rw [f 3 (by decide)]; exact d2 n hn
  · intro i hi; rw [f 5 (by decide)]; exact d3 i hi
  · intro n p hn hp; rw [f 26 (by decide), f 27 (by decide), f 28 (by decide)]; exact d4 n p hn hp
  · intro n p hn hp; rw [f 30 (by decide), f 31 (by decide)]; exact d5 n p hn hp
  · obtain ⟨q, t, g1, g2, g3, g4, g5⟩ := d6
    exact ⟨q, t, g1, g2, by rw [f 8 (by decide)]; exact g3, by rw [f 8 (by decide)]; exact g4, fun a w ha hw => by rw [f 55 (by decide)]; exact g5 a w ha hw⟩
  · intro i hi hli; rw [f 48 (by decide), f 53 (by decide), f 54 (by decide)]; exact d7 i hi hli
theorem b_fl11 (F : Nat) (v : Int32) : ∀ (d i fu : Nat) (X : zX), 6 - i = d → i ≤ 6 → d < fu → ∃ X', hJ7_fill_53178q11_5 F fu v (nI i) (nI 6) X = some X' ∧ fr [11] X X' ∧ (∀ j, j < i → X' 11 j = X 11 j) ∧ (∀ j, i ≤ j → j < 6 → X' 11 j = v) := by
  intro d
  induction d with
  | zero =>
    intro i fu X hd hi hf
    obtain ⟨fu, rfl⟩ : ∃ g, fu = g + 1 := ⟨fu - 1, by omega⟩
    refine ⟨X, ?_, fr.refl _ _, fun _ _ => rfl, fun j h1 h2 => by omega⟩
    unfold hJ7_fill_53178q11_5
    rw [if_pos ((nI_leI (by omega) (by omega)).mpr (by omega))]
  | succ d ih =>
    intro i fu X hd hi hf
    obtain ⟨fu, rfl⟩ : ∃ g, fu = g + 1 := ⟨fu - 1, by omega⟩
    obtain ⟨X', e, f, g1, g2⟩ := ih (i + 1) fu (zw X 11 i v) (by omega) (by omega) (by omega)
    refine ⟨X', ?_, (fr_w (fr.refl [11] X) (by decide)).trans f, fun j hj => by rw [g1 j (by omega), zw_no (Or.inr (by omega))], fun j h1 h2 => ?_⟩
    · unfold hJ7_fill_53178q11_5
      rw [if_neg (nI_ge (by omega) (by omega)), qzin (by omega) (by omega), qchk, qzn (by omega), nI_add, e]
    · by_cases q : j = i
      · subst q; rw [g1 _ (by omega), zw_at]
      · exact g2 j (by omega) h2
theorem b_fill11 (F : Nat) (hF : 100 ≤ F) (v : Int32) (X : zX) : ∃ X', eJ7_fill_53178q11 F v X = some X' ∧ fr [11] X X' ∧ (∀ j, j < 6 → X' 11 j = v) := by
  obtain ⟨X', e, f, -, g⟩ := b_fl11 F v 6 0 F X (by omega) (by omega) (by omega)
  exact ⟨X', e, f, fun j hj => g j (Nat.zero_le _) hj⟩
theorem y_reqBy (F : Nat) {v a2 a3 : Int32} (hv : leN v 32) : ∀ (d fu i : Nat) (X Y : zX), wR lo s l m T X Y → s - i = d → i ≤ s → d < fu → ∃ X1 Y1, hX12_requestsBy_14 F fu v a2 a3 (nI i) Y = (zbd (eX12_goesOn F a2 Y1) fun y3 => zbd (eX12_sentByAll F (nI 6) y3.2) fun r5 => zbd (eX12_bringsBack F y3.2) fun y7 => some ((r5 - a3), y7)) ∧ wR lo s l m T X1 Y1 ∧ fr [11] X X1 ∧ fr [1] Y Y1 ∧ (∀ n, n < i → X1 11 n = X 11 n) ∧ (∀ n, i ≤ n → n < s → X1 11 n = v) := by
  intro d
  induction d with
  | zero =>
    intro fu i X Y h h1 h2 h3
    have hs := h.hs
    obtain ⟨fu, rfl⟩ := Nat.exists_eq_succ_of_ne_zero (show fu ≠ 0 by omega)
    refine ⟨X, Y, ?_, h, fr.refl _ _, fr.refl _ _, fun _ _ => rfl, fun n h1 h2 => by omega⟩
    conv => lhs; unfold hX12_requestsBy_14
    rw [h.nn, h.nodes, if_pos ((nI_leI (by omega) (by omega)).mpr (by omega))]
  | succ d ih =>
    intro fu i X Y h h1 h2 h3
    have hs := h.hs
    obtain ⟨fu, rfl⟩ := Nat.exists_eq_succ_of_ne_zero (show fu ≠ 0 by omega)
    have hi : i < s := by omega
    obtain ⟨X1, Y1, k1, k2, k3, k4, k5, k6⟩ := ih fu (i + 1) _ _ (h.w_c1 hi hv) (by omega) (by omega) (by omega)
    refine ⟨X1, Y1, ?_, k2, (fr1 (k := 11)).trans k3, (fr1 (k := 1)).trans k4, fun n hn => by rw [k5 n (by omega), zw_no (Or.inr (by omega))], fun n g1 g2 => ?_⟩
    · conv => lhs; unfold hX12_requestsBy_14
      rw [h.nn, h.nodes, if_neg (nI_ge hi (by omega)), a_n, y_in (by omega), qchk, qlet, qzn (by omega), nI_add]
      exact k1
    · by_cases z : n = i
      · subst z; rw [k5 n (by omega), zw_at]
      · exact k6 n (by omega) g2
theorem r_grow (F : Nat) {X X' : zX} {k : Nat} (hs : s ≤ 6) (e : X 3 0 = nI s) (e' : X' 3 0 = nI s) (g : gro k X X') : ∀ (d fu j J0 : Nat) (acc : Int32), s - j = d → j ≤ s → d < fu → ∃ r J, hX4_sumq14_4 F fu acc (nI j) X = some r ∧ hX4_sumq14_4 F fu (acc + nI J0) (nI j) X' = some (r + nI (J0 + J)) ∧ J ≤ k * d := by
  intro d
  induction d with
  | zero =>
    intro fu j J0 acc h1 h2 h3
    obtain ⟨fu, rfl⟩ := Nat.exists_eq_succ_of_ne_zero (show fu ≠ 0 by omega)
    unfold hX4_sumq14_4
    rw [e, e', if_pos ((nI_leI (by omega) (by omega)).mpr (by omega)), if_pos ((nI_leI (by omega) (by omega)).mpr (by omega))]
    exact ⟨_, 0, rfl, rfl, Nat.zero_le _⟩
  | succ d ih =>
    intro fu j J0 acc h1 h2 h3
    obtain ⟨fu, rfl⟩ := Nat.exists_eq_succ_of_ne_zero (show fu ≠ 0 by omega)
    have hj : j < s := by omega
    obtain ⟨i, hi, ei⟩ := g.2 j (by omega)
    obtain ⟨r, J, k1, k2, k3⟩ := ih fu (j + 1) (J0 + i) (acc + X 14 j) (by omega) (by omega) (by omega)
    refine ⟨r, i + J, ?_, ?_, by rw [Nat.mul_succ]; omega⟩
    · unfold hX4_sumq14_4
      rw [e, if_neg (nI_ge hj (by omega)), if_neg (nI_ge (show j < 6 by omega) (by omega)), qzin (show j < 6 by omega) (by omega), qchk, qzn (by omega), nI_add]
      exact k1
    · unfold hX4_sumq14_4
      rw [e', if_neg (nI_ge hj (by omega)), if_neg (nI_ge (show j < 6 by omega) (by omega)), qzin (show j < 6 by omega) (by omega), qchk, qzn (by omega), nI_add, ei, ← Nat.add_assoc, ← k2]
      congr 1
      rw [← nI_add]
      ac_rfl
theorem r_grow2 (F : Nat) (hF : 300 ≤ F) {X X' : zX} {k : Nat} (hs : s ≤ 6) (e : X 3 0 = nI s) (e' : X' 3 0 = nI s) (g : gro k X X') {r r' : Int32} (h1 : eX4_allRequests F X = some r) (h2 : eX4_allRequests F X' = some r') : ∃ J, J ≤ k * 6 ∧ r' - r = nI J := by
  obtain ⟨q, J, k1, k2, k3⟩ := r_grow F hs e e' g s F 0 0 (nI 0) rfl (Nat.zero_le _) (by omega)
  unfold eX4_allRequests eX4_sumq14 at h1 h2
  have k1' : hX4_sumq14_4 F F (nI 0) (nI 0) X = some q := k1
  have k2' : hX4_sumq14_4 F F (nI 0) (nI 0) X' = some (q + nI (0 + J)) := k2
  rw [k1', qbd] at h1
  rw [k2', qbd] at h2
  have i1 := Option.some.inj h1
  have i2 := Option.some.inj h2
  refine ⟨J, Nat.le_trans k3 (Nat.mul_le_mul_left _ hs), ?_⟩
  rw [← i1, ← i2, Nat.zero_add, Int32.add_comm q, Int32.add_sub_cancel]
end BS
section F20
variable {T : Nat} {μ : zM} {Y : zX}
theorem r_try (F : Nat) (hF : 3000 ≤ F) (hT : T + 200 < 1000000) (h : INV T (zg μ 1 Y)) {b : Int32} (hY : Y 0 16 = b) (hb0 : ¬ b = 0) {N c : Nat} (hN : N ≤ 20) (hc : c ≤ 32) (x1 : Int32) : ∃ X1 bf X2 J Y', eJ7_fill_53178q11 F (nI c) (zw (μ 4) 2 1 b) = some X1 ∧ eX4_allRequests F X1 = some bf ∧ J ≤ 10000 ∧ (∀ (ν : zM) (K29 : Int32 → Int32 → Int32 → Int32 → Int32 → zM → Option ((Int32 ⊕ String) × zM)) (a3 a4 a5 : Int32), hX11_best_76 F K29 F (nI N) x1 a3 a4 a5 bf (nI 0) (zg ν 6 X1) = (if a4 = (-1) then K29 (nI N) x1 a5 (nI J) (a5 + (nI 1)) (zg ν 6 X2) else if a4 ≤ nI J then K29 (nI N) x1 a3 a4 (a5 + (nI 1)) (zg ν 6 X2) else K29 (nI N) x1 a5 (nI J) (a5 + (nI 1)) (zg ν 6 X2))) ∧ eX12_requestsBy F (nI c) (nI N) Y = some (nI J, Y') ∧ (∀ X', INV T (zg (zg μ 6 X') 1 Y')) ∧ Y' 0 16 = b ∧ Y' 0 0 = Y 0 0 := by
  obtain ⟨s, l, nx, m, Z, hw, hW, hK⟩ := h.2.2.2.1
  rw [zg_ne (show (4 : Nat) ≠ 1 by decide), zg_at] at hw
  rw [zg_ne (show (4 : Nat) ≠ 1 by decide)] at hW hK
  have hs := hw.hs
  have hl := hw.hl
  obtain ⟨Y1, k1, k2, k3, -⟩ := y_keeps F 2422 F 0 Y rfl (Nat.zero_le _) (by omega)
  have hw1 := (hw.mode hb0).row (Y' := Y1) (k2 1 (by decide))
  obtain ⟨X1, f1, f2, f3⟩ := b_fill11 F (by omega) (nI c) (zw (μ 4) 2 1 b)
  obtain ⟨was, s1, s2⟩ := r_req F (by omega) hw1
  obtain ⟨Xr, Y2, q1, q2, q3, q4, -, q6⟩ := y_reqBy F (v := nI c) (a2 := nI N) (a3 := was) (leN_nI hc) s F 0 _ _ hw1 rfl (Nat.zero_le _) (by omega)
  have fX : fr [11] Xr X1 := fun k hk => (f2 k hk).trans (q3 k hk).symm
  have hw2 := q2.r11 fX (fun n hn => by rw [f3 n (by omega), q6 n (Nat.zero_le _) hn])
  obtain ⟨bf, t1, t2⟩ := r_req F (by omega) hw2
  have ewas : bf = was := by
    have gs : eX4_allRequests F X1 = eX4_allRequests F (zw (μ 4) 2 1 b) := by
      obtain ⟨r, e1, e2⟩ := r_req F (by omega) hw1
      obtain ⟨J, j1, j2⟩ := r_grow2 F (by omega) (k := 0) hs hw1.nodes hw2.nodes (gro_0 (by rw [f2 0 (by decide)]) (f2 14 (by decide))) e1 t1
      have : J = 0 := by omega
      subst this
      rw [t1, e1]
      congr 1
      have e0 : bf - r + r = bf := Int32.sub_add_cancel _ _
      rw [j2] at e0
      rw [← e0]
      exact Int32.zero_add _
    rw [t1, s1] at gs
    exact Option.some.inj gs
  have hm2 : X1 2 1 = b := by rw [f2 2 (by decide), zw_at]
  have hY2 : Y2 0 16 = b := by rw [q4 0 (by decide), k2 0 (by decide)]; exact hY
  have h2 : sS s l (T, nx) X1 Y2 := ⟨m, Z, ⟨hw2, by rw [hY2, hm2]⟩, wC_fr (wC_fr hW fr1 (by decide)) f2 (by decide), (hK.fr fr1 (by decide)).fr f2 (by decide)⟩
  obtain ⟨X2, Y3, r, nx', a1, a2, a3, a4, a5, a6⟩ := s_goesG F (by omega) (N := N) (by omega) N 0 F (T, nx) _ _ (nI 0) rfl (Nat.zero_le _) (by omega) (by dsimp only; omega) h2
  obtain ⟨m', Z', b1, b2, b3⟩ := a3
  obtain ⟨rf, u1, u2⟩ := r_req F (by omega) b1.1
  obtain ⟨J, j1, j2⟩ := r_grow2 F (by omega) hs hw2.nodes b1.1.nodes a6 t1 u1
  obtain ⟨Y4, d1, d2, d3, -⟩ := y_brings F 2422 F 0 Y3 rfl (Nat.zero_le _) (by omega)
  have st : stY Y Y4 := ((((stY.fr k2 (by decide))).trans (stY.fr q4 (by decide))).trans (stY.fr a5 (by decide))).trans (stY.fr d2 (by decide))
  have zz : ∀ i, Y4 0 i = Y 0 i := fun i => by rw [d2 0 (by decide), a5 0 (by decide), q4 0 (by decide), k2 0 (by decide)]
  refine ⟨X1, bf, X2, J, Y4, f1, t1, ?_, fun ν K29 c3 c4 c5 => ?_, ?_, fun X' => ?_, by rw [zz]; exact hY, zz 0⟩
  · have : 72 * N * 6 ≤ 72 * 20 * 6 := Nat.mul_le_mul_right 6 (Nat.mul_le_mul_left 72 hN)
    omega
  · have e1 := a1 F (by omega) (fun fu k X => hX11_best_76 F K29 fu (nI N) x1 c3 c4 c5 bf k (zg ν 6 X)) (fun X => zbd (eX4_allRequests F X) fun r3 => if c4 = (-1) then K29 (nI N) x1 c5 (r3 - bf) (c5 + (nI 1)) (zg ν 6 X) else if c4 ≤ (r3 - bf) then K29 (nI N) x1 c3 c4 (c5 + (nI 1)) (zg ν 6 X) else K29 (nI N) x1 c5 (r3 - bf) (c5 + (nI 1)) (zg ν 6 X)) (fun n k X hk => by
      show hX11_best_76 F K29 (n + 1) (nI N) x1 c3 c4 c5 bf (nI k) (zg ν 6 X) = _
      conv => lhs; unfold hX11_best_76
      rw [if_neg (nI_ge hk (by omega)), zg_at, nI_add]
      simp only [zg_zg]) (fun n X => by
      show hX11_best_76 F K29 (n + 1) (nI N) x1 c3 c4 c5 bf (nI N) (zg ν 6 X) = _
      conv => lhs; unfold hX11_best_76
      unfold jX11_best_123
      rw [if_pos ((nI_leI (by omega) (by omega)).mpr (Nat.le_refl _)), zg_at, zg_zg])
    have e1' : hX11_best_76 F K29 F (nI N) x1 c3 c4 c5 bf (nI 0) (zg ν 6 X1) = _ := e1
    rw [e1', u1, qbd, j2]
  · unfold eX12_requestsBy eX12_keepsAll
    have k1' : hX12_keepsAll_2 F F (nI 0) Y = some Y1 := k1
    have q1' : hX12_requestsBy_14 F F (nI c) (nI N) was (nI 0) Y1 = _ := q1
    unfold eX12_goesOn eX12_bringsBack at q1'
    have a2' : hX12_goesOn_4 F F (nI N) (nI 0) (nI 0) Y2 = some (nI 0 + r, Y3) := a2
    have d1' : hX12_bringsBack_2 F F (nI 0) Y3 = some Y4 := d1
    rw [k1', qbd, s2, qbd, q1', a2', qbd]
    dsimp only
    rw [u2, qbd, d1', qbd, ← ewas, j2]
  · have ht := h.trial (X' := X') (Y' := Y4) (by rw [zg_at]; exact st) (fun a ha => by
      rw [zg_at, d3 a (Nat.zero_le _) ha, a5 4 (by decide), q4 4 (by decide), k3 a (Nat.zero_le _) ha])
    have ez : zg (zg (zg μ 1 Y) 6 X') 1 Y4 = zg (zg μ 6 X') 1 Y4 := by
      rw [zg_com μ (show (1 : Nat) ≠ 6 by decide), zg_zg]
    rw [ez] at ht
    exact ht
/-- the reference goes on where the class has found none -/
theorem y_idle (F : Nat) (hF : 3000 ≤ F) (hT : T + 200 < 1000000) {b : Int32} (hb0 : ¬ b = 0) {N : Nat} (hN : N ≤ 20) (a3 : Int32) : ∀ (d fu c : Nat) (Y : zX), 33 - c = d → c ≤ 33 → d < fu → INV T (zg μ 1 Y) → Y 0 16 = b → ∃ Y', hX12_best_52 F fu (nI N) a3 (nI 0) (nI c) Y = some (a3, Y') ∧ INV T (zg μ 1 Y') ∧ Y' 0 0 = Y 0 0 := by
  intro d
  induction d with
  | zero =>
    intro fu c Y h1 h2 h3 h4 h5
    obtain ⟨fu, rfl⟩ := Nat.exists_eq_succ_of_ne_zero (show fu ≠ 0 by omega)
    unfold hX12_best_52
    rw [if_pos ((nI_ltI (by omega) (by omega)).mpr (by omega))]
    exact ⟨_, rfl, h4, rfl⟩
  | succ d ih =>
    intro fu c Y h1 h2 h3 h4 h5
    obtain ⟨fu, rfl⟩ := Nat.exists_eq_succ_of_ne_zero (show fu ≠ 0 by omega)
    obtain ⟨X1, bf, X2, J, Y1, k1, k2, k3, k4, k5, k6, k7, k8⟩ := r_try F hF hT h4 h5 hb0 hN (c := c) (by omega) 0
    have h6 := k6 (μ 6)
    rw [zg_id] at h6
    obtain ⟨Y', e1, e2, e3⟩ := ih fu (c + 1) Y1 (by omega) (by omega) (by omega) h6 k7
    refine ⟨Y', ?_, e2, e3.trans k8⟩
    unfold hX12_best_52
    rw [if_neg (nI_nlt (by omega) (by omega)), k5, qbd]
    dsimp only
    rw [if_neg (nI_nlt (Nat.zero_le _) (by omega)), nI_add]
    exact e1
theorem r_best (F : Nat) (hF : 3000 ≤ F) (hT : T + 200 < 1000000) {x1 b : Int32} (eb : b = if x1 = 0 then nI 1 else nI 2) {N : Nat} (hN : N ≤ 20) : ∀ (d fu fu' c : Nat) (a3 a4 b4 : Int32) (μ : zM) (Y : zX), 33 - c = d → c ≤ 33 → d < fu → d < fu' → INV T (zg μ 1 Y) → Y 0 16 = b → ((a4 = -1 ∧ b4 = nI 1000000) ∨ ∃ J, J ≤ 10000 ∧ a4 = nI J ∧ b4 = nI J) → ∃ r μ' Y', hX11_best_29 F fu (nI N) x1 a3 a4 (nI c) μ = some (.inl r, μ') ∧ hX12_best_52 F fu' (nI N) a3 b4 (nI c) Y = some (r, Y') ∧ INV T (zg μ' 1 Y') ∧ Y' 0 0 = Y 0 0 := by
  have hb0 : ¬ b = 0 := by
    rw [eb]; split <;> decide
  intro d
  induction d with
  | zero =>
    intro fu fu' c a3 a4 b4 μ Y h1 h2 h3 h3' h4 h5 h6
    obtain ⟨fu, rfl⟩ := Nat.exists_eq_succ_of_ne_zero (show fu ≠ 0 by omega)
    obtain ⟨fu', rfl⟩ := Nat.exists_eq_succ_of_ne_zero (show fu' ≠ 0 by omega)
    unfold hX11_best_29 hX12_best_52
    rw [if_pos ((nI_ltI (by omega) (by omega)).mpr (by omega)), if_pos ((nI_ltI (by omega) (by omega)).mpr (by omega))]
    exact ⟨_, _, _, rfl, rfl, h4, rfl⟩
  | succ d ih =>
    intro fu fu' c a3 a4 b4 μ Y h1 h2 h3 h3' h4 h5 h6
    obtain ⟨fu, rfl⟩ := Nat.exists_eq_succ_of_ne_zero (show fu ≠ 0 by omega)
    have idle : a4 = 0 → ∃ r μ' Y', hX11_best_29 F (fu + 1) (nI N) x1 a3 a4 (nI c) μ = some (.inl r, μ') ∧ hX12_best_52 F fu' (nI N) a3 b4 (nI c) Y = some (r, Y') ∧ INV T (zg μ' 1 Y') ∧ Y' 0 0 = Y 0 0 := fun z => by
      have e4 : b4 = nI 0 := by
        rcases h6 with ⟨z1, -⟩ | ⟨J, hJ, z1, z2⟩
        · rw [z1] at z; exact absurd z (by decide)
        · rw [z1] at z
          have : J = 0 := (nI_eq (by omega) (by omega)).mp z
          rw [z2, this]
      obtain ⟨Y', e1, e2, e3⟩ := y_idle (μ := μ) F hF hT hb0 hN a3 (d + 1) fu' c Y h1 h2 h3' h4 h5
      refine ⟨a3, μ, Y', ?_, by rw [e4]; exact e1, e2, e3⟩
      unfold hX11_best_29
      rw [if_neg (nI_nlt (by omega) (by omega)), if_pos z]
    by_cases c0 : a4 = 0
    · exact idle c0
    · obtain ⟨fu', rfl⟩ := Nat.exists_eq_succ_of_ne_zero (show fu' ≠ 0 by omega)
      obtain ⟨X1, bf, X2, J, Y1, k1, k2, k3, k4, k5, k6, k7, k8⟩ := r_try F hF hT h4 h5 hb0 hN (c := c) (by omega) x1
      have inv : INV T (zg (zg (zg μ 6 (zw (μ 4) 2 1 b)) 6 X2) 1 Y1) := by rw [zg_zg]; exact k6 X2
      have la : eX11_lookAhead x1 μ = some (zg μ 6 (zw (μ 4) 2 1 b)) := by
        unfold eX11_lookAhead jX11_lookAhead_27
        rw [zg_at, zg_zg, zg_zg, eb]
        by_cases z : x1 = 0
        · rw [if_pos z, if_pos z]
        · rw [if_neg z, if_neg z]
      unfold hX11_best_29 hX12_best_52
      rw [if_neg (nI_nlt (by omega) (by omega)), if_neg c0, la, qbd, zg_at, k1, qbd, k2, qbd, k4, if_neg (nI_nlt (by omega) (by omega)), k5, qbd, nI_add]
      dsimp only
      rcases h6 with ⟨z1, z2⟩ | ⟨J2, hJ, z1, z2⟩
      · rw [if_pos z1, z2, if_pos ((nI_ltI (by omega) (by omega)).mpr (by omega))]
        obtain ⟨r, μ', Y', g1, g2, g3, g4⟩ := ih fu fu' (c + 1) (nI c) (nI J) (nI J) _ Y1 (by omega) (by omega) (by omega) (by omega) inv k7 (Or.inr ⟨J, k3, rfl, rfl⟩)
        exact ⟨r, μ', Y', g1, g2, g3, g4.trans k8⟩
      · rw [if_neg (show ¬ a4 = -1 by rw [z1]; exact nI_ne_m1 (by omega)), z1, z2]
        by_cases cj : J2 ≤ J
        · rw [if_pos ((nI_leI (by omega) (by omega)).mpr cj), if_neg (nI_nlt cj (by omega))]
          obtain ⟨r, μ', Y', g1, g2, g3, g4⟩ := ih fu fu' (c + 1) a3 (nI J2) (nI J2) _ Y1 (by omega) (by omega) (by omega) (by omega) inv k7 (Or.inr ⟨J2, hJ, rfl, rfl⟩)
          exact ⟨r, μ', Y', g1, g2, g3, g4.trans k8⟩
        · rw [if_neg (nI_ge (by omega) (by omega)), if_pos ((nI_ltI (by omega) (by omega)).mpr (by omega))]
          obtain ⟨r, μ', Y', g1, g2, g3, g4⟩ := ih fu fu' (c + 1) (nI c) (nI J) (nI J) _ Y1 (by omega) (by omega) (by omega) (by omega) inv k7 (Or.inr ⟨J, k3, rfl, rfl⟩)
          exact ⟨r, μ', Y', g1, g2, g3, g4.trans k8⟩
theorem f_best (F : Nat) (hF : 3000 ≤ F) (hT : T + 200 < 1000000) (h : INV T μ) (x0 x1 : Int32) : ∃ res μ', eX11_best F x0 x1 μ = some (res, μ') ∧ okR T μ' res [eIA] (eX12_best F x0 x1 (μ 1)) := by
  unfold eX11_best eX12_best jX12_best_21
  rcases rg_sw x0 (N := 20) (by decide) with ⟨N, hN, rfl⟩ | ⟨hx1, -⟩
  · have c1 : (¬ (nI N < nI 0)) ∧ ¬ (nI 20 < nI N) := ⟨nI_pos (by omega), nI_nlt (by omega) (by omega)⟩
    rw [if_neg (show ¬ nI N < 0 from c1.1), if_pos ((nI_leI (by omega) (by omega)).mpr hN), if_pos c1, y_thr0, qbd, if_pos q00]
    dsimp only
    unfold jX12_best_40
    have key : ∀ b, b = (if x1 = 0 then nI 1 else nI 2) → ∃ r μ', hX11_best_29 F F (nI N) x1 (nI 0) (-1) (nI 0) μ = some (.inl r, μ') ∧ okR T μ' (.inl r) [eIA] (hX12_best_52 F F (nI N) (nI 0) 1000000 (nI 0) (zw (zw (μ 1) 0 0 (nI 0)) 0 16 b)) := fun b eb => by
      have hi : INV T (zg μ 1 (zw (zw (μ 1) 0 0 (nI 0)) 0 16 b)) := h.ref ((st_0 _).w0 (by decide)) (by rw [zw_row_ne (by decide)]; exact r_0 _)
      obtain ⟨r, μ', Y', g1, g2, g3, g4⟩ := r_best F hF hT eb hN 33 F F 0 (nI 0) (-1) (nI 1000000) μ _ rfl (Nat.zero_le _) (by omega) (by omega) hi (zw_at _ _ _ _) (Or.inl ⟨rfl, rfl⟩)
      exact ⟨r, μ', g1, r, Y', g2, g3, by rw [g4, zw_no (by decide), zw_at], rfl⟩
    by_cases c : x1 = 0
    · rw [if_pos c]
      obtain ⟨r, μ', p1, p2⟩ := key (nI 1) (if_pos c).symm
      exact ⟨_, _, p1, p2⟩
    · rw [if_neg c]
      obtain ⟨r, μ', p1, p2⟩ := key (nI 2) (if_neg c).symm
      exact ⟨_, _, p1, p2⟩
  · have e : ∀ {α : Type} {a b : α}, (if x0 < 0 then b else if x0 ≤ nI 20 then a else b) = b := by
      intro α a b
      by_cases z : x0 < 0
      · rw [if_pos z]
      · rw [if_neg z]
        refine if_neg (fun y => hx1 ⟨z, fun w => ?_⟩)
        rw [Int32.lt_iff_toInt_lt] at w
        rw [Int32.le_iff_toInt_le] at y
        omega
    rw [e, if_neg hx1, y_thr1, qbd, if_neg q11]
    exact ⟨_, _, rfl, okR_thr h (st_00 _ _) (r_00 _ _) 0 rfl (zw_at _ _ _ _) _⟩
end F20
