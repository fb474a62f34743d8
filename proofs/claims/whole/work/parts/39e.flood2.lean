/-! floods, whole -/
def pX (P : Nat → Bool) (x : Nat) : Nat → Bool := fun n => P n && decide (n < x)
theorem nw_step {P : Nat → Bool} {p x : Nat} {X : zX} (hx : x < 6) (hp : p < 12) : nwO (pX P (x + 1)) p X = if P x then zw (zw (nwO (pX P x) p X) 30 (x * 12 + p) (nI 2)) 31 (x * 12 + p) (nI 0) else nwO (pX P x) p X := by
  funext a b
  by_cases hP : P x = true
  · rw [if_pos hP, zw_in, zw_in]
    by_cases q : b = x * 12 + p
    · subst q
      have e1 : (x * 12 + p) % 12 = p := by omega
      have e2 : (x * 12 + p) / 12 = x := by omega
      unfold nwO pX
      rw [e1, e2]
      by_cases a1 : a = 31
      · subst a1
        rw [if_pos ⟨Or.inr rfl, rfl, hx, by simp [hP]⟩, if_neg (by decide), if_pos ⟨rfl, rfl⟩]
      · by_cases a0 : a = 30
        · subst a0
          rw [if_pos ⟨Or.inl rfl, rfl, hx, by simp [hP]⟩, if_pos rfl, if_neg (by omega), if_pos ⟨rfl, rfl⟩]
        · rw [if_neg (by omega), if_neg (by omega), if_neg (by omega), if_neg (by omega)]
    · rw [if_neg (by omega), if_neg (by omega)]
      unfold nwO pX
      by_cases c : (a = 30 ∨ a = 31) ∧ b % 12 = p ∧ b / 12 < 6
      · have hne : b / 12 ≠ x := by omega
        by_cases c2 : b / 12 < x
        · have e : (P (b / 12) && decide (b / 12 < x + 1)) = (P (b / 12) && decide (b / 12 < x)) := by
            rw [decide_eq_true c2, decide_eq_true (show b / 12 < x + 1 by omega)]
          rw [e]
        · have e1 : (P (b / 12) && decide (b / 12 < x + 1)) = false := by rw [decide_eq_false (show ¬ b / 12 < x + 1 by omega), Bool.and_false]
          have e2 : (P (b / 12) && decide (b / 12 < x)) = false := by rw [decide_eq_false c2, Bool.and_false]
          rw [e1, e2]
      · rw [if_neg (fun z => c ⟨z.1, z.2.1, z.2.2.1⟩), if_neg (fun z => c ⟨z.1, z.2.1, z.2.2.1⟩)]
  · rw [if_neg hP]
    unfold nwO pX
    by_cases c : b / 12 = x
    · have hf : P x = false := by simpa using hP
      have e1 : (P (b / 12) && decide (b / 12 < x + 1)) = false := by rw [c, hf]; rfl
      have e2 : (P (b / 12) && decide (b / 12 < x)) = false := by rw [c, hf]; rfl
      rw [e1, e2]
    · have e : (P (b / 12) && decide (b / 12 < x + 1)) = (P (b / 12) && decide (b / 12 < x)) := by
        by_cases c2 : b / 12 < x
        · rw [decide_eq_true c2, decide_eq_true (show b / 12 < x + 1 by omega)]
        · rw [decide_eq_false c2, decide_eq_false (show ¬ b / 12 < x + 1 by omega)]
      rw [e]
/-- who has no way -/
def pNW (G : gT) (s a c : Nat) : Nat → Bool := fun n => decide (c = 0 ∧ n < s ∧ n ≠ a) && !iw G s a n
theorem pNW_iw {G : gT} {s a c x : Nat} (h : iw G s a x = true) : pNW G s a c x = false := by unfold pNW; rw [h]; simp
theorem pNW_a {G : gT} {s a c : Nat} : pNW G s a c a = false := by unfold pNW; simp
theorem pNW_all {G : gT} {s a c : Nat} : pX (pNW G s a c) s = pNW G s a c := by
  funext n
  unfold pX
  cases h : pNW G s a c n with
  | false => rfl
  | true =>
    unfold pNW at h
    simp at h
    simp [h.1.2.1]
theorem pNW_0 {P : Nat → Bool} (p : Nat) (X : zX) : nwO (pX P 0) p X = X := nw_no p X (fun n => by unfold pX; simp)
section FT
variable {s l m : Nat} {T : Nat × Nat} {Z : Nat → Int32} {G : gT}
theorem x_noWay (hG : gOK G s) {a p : Nat} (ha : a < s) (hp : p < 12) (F : Nat) {X : zX} (h3 : X 3 0 = nI s) (h39 : ∀ b, b < s → X 39 (a * 6 + b) = lenE (gW G s a b)) : ∀ (d x fu : Nat), s - x = d → x ≤ s → d < fu → hX10_tellNoWay_2 F fu (nI a) (nI p) (nI x) (nwO (pX (pNW G s a 0) x) p X) = some (nwO (pNW G s a 0) p X) := by
  have hs := hG.1
  intro d
  induction d with
  | zero =>
    intro x fu hd hx hf
    obtain ⟨fu, rfl⟩ : ∃ g, fu = g + 1 := ⟨fu - 1, by omega⟩
    have : x = s := by omega
    subst this
    unfold hX10_tellNoWay_2
    rw [nw_row (by decide), h3, if_pos ((nI_leI (by omega) (by omega)).mpr (by omega)), pNW_all]
  | succ d ih =>
    intro x fu hd hx hf
    obtain ⟨fu, rfl⟩ : ∃ g, fu = g + 1 := ⟨fu - 1, by omega⟩
    have e := ih (x + 1) fu (by omega) (by omega) (by omega)
    have hw := gW_far hG a x
    rw [nw_step (by omega) hp] at e
    unfold hX10_tellNoWay_2
    rw [nw_row (r := 3) (by decide), h3, if_neg (nI_ge (by omega) (by omega)), x_6, x_in6 (by omega) (by omega), qchk, x_zn6 (by omega) (by omega), nw_row (r := 39) (by decide), h39 x (by omega), nI_add]
    by_cases c : gW G s a x = 1000000
    · have hxa : x ≠ a := by
        rintro rfl
        rw [gW_0] at c; omega
      have hP : pNW G s a 0 x = true := by
        unfold pNW iw
        simp [hxa, c]; omega
      rw [if_pos hP] at e
      rw [if_pos ((lenE_m1 hw).mpr c), x_ix, x_setGap _ (by omega) hp, qbd, e]
    · have hP : ¬ pNW G s a 0 x = true := by
        unfold pNW iw
        simp
        omega
      rw [if_neg hP] at e
      rw [if_neg (fun z => c ((lenE_m1 hw).mp z)), e]
theorem y_rch (hG : gOK G s) (F : Nat) {a c p : Nat} {pk sc a5 : Int32} (ha : a < s) (hp : p < 12) (hc : c ≤ 3) (hpk : c = 0 → pk = nI p) {X : zX} : ∀ (d x fu : Nat) (Y : zX), s - x = d → x ≤ s → d < fu → wS (0, Z) s l m T (nwO (pX (pNW G s a c) x) p X) Y → wY G s Y → (∀ n, n < x → Y 10 n = if n = a then nI 1 else nI 0) → ∃ Y', hX12_flood_36 F fu (nI a) (nI c) pk sc a5 (nI x) Y = hX12_flood_101 F F (nI a) (nI c) pk sc a5 Y' ∧ wS (0, Z) s l m T (nwO (pNW G s a c) p X) Y' ∧ fr [1, 10] Y Y' ∧ (∀ n, n < s → Y' 10 n = if n = a then nI 1 else nI 0) := by
  have hs := hG.1
  intro d
  induction d with
  | zero =>
    intro x fu Y hd hx hf h hw hr
    obtain ⟨fu, rfl⟩ : ∃ g, fu = g + 1 := ⟨fu - 1, by omega⟩
    have : x = s := by omega
    subst this
    refine ⟨Y, ?_, by rw [pNW_all] at h; exact h, fr.refl _ _, hr⟩
    unfold hX12_flood_36
    rw [h.1.nn, h.1.nodes, if_pos ((nI_leI (by omega) (by omega)).mpr (by omega))]
  | succ d ih =>
    intro x fu Y hd hx hf h hw hr
    obtain ⟨fu, rfl⟩ : ∃ g, fu = g + 1 := ⟨fu - 1, by omega⟩
    have next : ∀ (Y1 : zX), wS (0, Z) s l m T (nwO (pX (pNW G s a c) (x + 1)) p X) Y1 → fr [1] (zw Y 10 x (if x = a then nI 1 else nI 0)) Y1 → ∃ Y', hX12_flood_36 F fu (nI a) (nI c) pk sc a5 (nI (x + 1)) Y1 = hX12_flood_101 F F (nI a) (nI c) pk sc a5 Y' ∧ wS (0, Z) s l m T (nwO (pNW G s a c) p X) Y' ∧ fr [1, 10] Y Y' ∧ (∀ n, n < s → Y' 10 n = if n = a then nI 1 else nI 0) := by
      intro Y1 h1 g1
      have g0 : fr [1, 10] Y Y1 := (fr_w (fr.refl [1, 10] Y) (by decide)).trans (g1.sub (by decide))
      obtain ⟨Y', e1, e2, e3, e4⟩ := ih (x + 1) fu Y1 (by omega) (by omega) (by omega) h1 (by unfold wY at *; rw [g0 7 (by decide), g0 8 (by decide), g0 9 (by decide)]; exact hw) (fun n hn => by
        rw [g1 10 (by decide)]
        by_cases q : n = x
        · subst q; rw [zw_at]
        · rw [zw_no (Or.inr q)]; exact hr n (by omega))
      exact ⟨Y', e1, e2, g0.trans e3, e4⟩
    have hz : ∀ v, wS (0, Z) s l m T (nwO (pX (pNW G s a c) x) p X) (zw Y 10 x v) := fun v => h.frY (fr1 : fr [10] Y (zw Y 10 x v)) (by decide) (by decide)
    have hsame : pNW G s a c x = false → nwO (pX (pNW G s a c) (x + 1)) p X = nwO (pX (pNW G s a c) x) p X := fun q => by rw [nw_step (by omega) hp, if_neg (by rw [q]; decide)]
    have hyw : (zw Y 10 x (nI 0)) 7 (6 * a + x) = nI (gW G s a x) := by rw [zw_no (Or.inl (by decide))]; exact (hw a x ha (by omega)).1
    unfold hX12_flood_36 jX12_flood_62
    rw [h.1.nn, h.1.nodes, if_neg (nI_ge (by omega) (by omega)), qzin (show x < 6 by omega) (by omega), qchk, qchk, qzn (show x < 2147483648 by omega), vn_0, vn_1, nI_add]
    by_cases q : x = a
    · subst q
      rw [if_pos rfl, if_pos rfl, ite_self]
      refine next _ ?_ (by rw [if_pos rfl]; exact fr.refl _ _)
      rw [hsame pNW_a]
      exact hz _
    · have q' : ¬ nI x = nI a := fun z => q ((nI_eq (by omega) (by omega)).mp z)
      rw [if_neg q', if_neg q']
      by_cases c0 : c = 0
      · subst c0
        have hpk := hpk rfl
        subst hpk
        rw [if_pos (show nI 0 = 0 from rfl), y_isWay hG (by omega) (by omega) hyw, qbd]
        by_cases ci : iw G s a x = true
        · rw [if_pos ci, if_neg (show ¬ nI 1 = 0 by decide)]
          refine next _ ?_ (by rw [if_neg q]; exact fr.refl _ _)
          rw [hsame (pNW_iw ci)]
          exact hz _
        · rw [if_neg ci, if_pos (show nI 0 = 0 from rfl), y_hasGap _ (by omega) hp, qbd]
          have hP : pNW G s a 0 x = true := by
            unfold pNW
            simp [q, ci]; omega
          refine next _ ?_ (by rw [if_neg q]; exact fr_w (fr_w (fr.refl _ _) (by decide)) (by decide))
          rw [nw_step (by omega) hp, if_pos hP]
          exact s_hasGap (hz (nI 0)) (by omega) hp (by decide)
      · rw [if_neg (nI_ne0 (by omega) (by omega))]
        refine next _ ?_ (by rw [if_neg q]; exact fr.refl _ _)
        rw [hsame (by unfold pNW; simp [c0])]
        exact hz _
theorem s_flood (F : Nat) (hF : 300 ≤ F) (hT : T.1 < 1000000) {X Y : zX} (h : wS (0, Z) s l m T X Y) (hW : wC (gOf l X) s X) {a c p : Nat} {pk sc : Int32} (ha : a < s) (hp : p < 12) (hc : c ≤ 3) (hpk : c = 0 → pk = nI p) (hsc : c = 0 → sc = nI 5) (hpo : pkO X a c pk) : ∃ X' Y' m', eX10_flood F (nI a) (nI c) pk sc X = some X' ∧ eX12_flood F (nI a) (nI c) pk sc Y = some Y' ∧ wS (0, Z) s l m' T X' Y' ∧ fr flL X X' ∧ fr [1, 7, 8, 9, 10] Y Y' ∧ (∀ i, i ≠ 10 → i ≠ 11 → X' 0 i = X 0 i) := by
  obtain ⟨hG, hX⟩ := gOf_X h.1.1.1 h.1.1.2.2.2.2.2.2.2.2.2.1
  have hs := hG.1
  have hGl : gl (gOf l X) = l := rfl
  generalize gOf l X = G at *
  obtain ⟨Y1, e1, g1, w1⟩ := y_lays hG F (by omega) (h.1.gY hX hGl)
  have h1 := h.frY g1 (by decide) (by decide)
  obtain ⟨-, -, -, -, N, f, ho, w44, -⟩ := hW.2 a ha
  have hNs := ho.1
  -- alone
  have h2 := h1.w (h1.1.w_row0 (v := X 0 11 + (if N = 0 then nI 1 else nI 0)) (i := 11) (a := 16) (Or.inr (Or.inr ⟨rfl, rfl⟩))) (Or.inl (by decide))
  have fz : fr [0] X (zw X 0 11 (X 0 11 + (if N = 0 then nI 1 else nI 0))) := fr1
  have gz : fr [1] Y1 (zw Y1 1 16 (X 0 11 + (if N = 0 then nI 1 else nI 0))) := fr1
  have w2 : wY G s (zw Y1 1 16 (X 0 11 + (if N = 0 then nI 1 else nI 0))) := by unfold wY at *; rw [gz 7 (by decide), gz 8 (by decide), gz 9 (by decide)]; exact w1
  have first := y_beh0 hG (h1.1.gY hX hGl) w1 F (by omega) ha ho
  obtain ⟨Y3, e3, h3, g3, r3⟩ := y_rch (l := l) (m := m) (T := T) (Z := Z) hG F (a := a) (c := c) (p := p) (pk := pk) (sc := sc) (a5 := if 0 < N then nI (f 0) else -1) ha hp hc hpk (X := zw X 0 11 (X 0 11 + (if N = 0 then nI 1 else nI 0))) s 0 F _ (by omega) (by omega) (by omega) (by rw [pNW_0]; exact h2) w2 (fun n hn => absurd hn (Nat.not_lt_zero _))
  have w3 : wY G s Y3 := by unfold wY at *; rw [g3 7 (by decide), g3 8 (by decide), g3 9 (by decide)]; exact w2
  have hb1 : ∀ x, x < s → (hb (nI 1 <<< (nI a &&& 31)) x ↔ x = a) := fun x hx => by
    rw [hb_bt (by omega), hb_1shl (by omega) (by omega)]; simp
  obtain ⟨X4, Y4, m4, e4, e4', h4, f4, g4, z4⟩ := fl_loop (l := l) F hF hT hG hGl (P := pNW G s a c) (sc := sc) (pk := pk) ha hp hc ho hpk hsc (fun x hx => pNW_iw hx) pNW_a N 0 F F m (nI 1 <<< (nI a &&& 31)) _ Y3 (by omega) (by omega) (by omega) (by omega) h3 (hW.fr fz (by decide)) (hX.fr fz (by decide)) w3 (fun x hx => ⟨fun z => by rw [r3 x hx, if_pos ((hb1 x hx).mp z)], fun z => by rw [r3 x hx, if_neg (fun w => z ((hb1 x hx).mpr w))]⟩) ((hb1 a ha).mpr rfl) (fun x hx1 hx2 => Or.inl ((hb1 x hx2).mp hx1)) (fun _ j hj => absurd hj (Nat.not_lt_zero _)) (fun z => by rw [fz 10 (by decide)]; exact hpo z)
  have F4 : fr flL X X4 := (fz.sub (by decide)).trans f4
  have G4 : fr [1, 7, 8, 9, 10] Y Y4 := (((g1.sub (by decide)).trans (gz.sub (by decide))).trans (g3.sub (by decide))).trans (g4.sub (by decide))
  have zz : ∀ i, i ≠ 10 → i ≠ 11 → X4 0 i = X 0 i := fun i h1 h2 => by rw [z4 i h1, zw_no (Or.inr h2)]
  refine ⟨nwO (pNW G s a c) p X4, Y4, m4, ?_, ?_, h4, F4.trans ((nw_fr _ _ _).sub (by decide)), G4, fun i h1 h2 => by rw [nw_row (by decide)]; exact zz i h1 h2⟩
  · have eB : hX10_flood_38 F F (nI a) (nI c) pk sc (nI 1 <<< (nI a &&& 31)) (nI N) (nI 0) (zw X 0 11 (X 0 11 + (if N = 0 then nI 1 else nI 0))) = some (nwO (pNW G s a c) p X4) := by
      rw [e4]
      by_cases c0 : c = 0
      · subst c0
        rw [if_pos (show nI 0 = 0 from rfl), hpk rfl]
        unfold eX10_tellNoWay
        have h39 : ∀ b, b < s → X4 39 (a * 6 + b) = lenE (gW G s a b) := fun b hb => by rw [F4 39 (by decide)]; exact (hW.2 a ha).1 b hb
        have := x_noWay hG ha hp F (X := X4) (by rw [F4 3 (by decide)]; exact h.1.nodes) h39 s 0 F (by omega) (by omega) (by omega)
        rw [pNW_0] at this
        rw [this, qbd]
      · rw [if_neg (nI_ne0 (by omega) (by omega)), nw_no p X4 (fun n => by unfold pNW; simp [c0])]
    unfold eX10_flood jX10_flood_31
    rw [qzin (show a < 6 by omega) (by omega), qchk, qzn (by omega), w44]
    by_cases hN0 : N = 0
    · rw [if_pos (by rw [hN0]; rfl)]
      rw [if_pos hN0] at eB
      exact eB
    · rw [if_neg (nI_ne0 (by omega) (by omega))]
      rw [if_neg hN0] at eB
      exact eB
  · have eB : hX12_flood_36 F F (nI a) (nI c) pk sc (if 0 < N then nI (f 0) else -1) (nI 0) (zw Y1 1 16 (X 0 11 + (if N = 0 then nI 1 else nI 0))) = some Y4 := by rw [e3]; exact e4'
    unfold eX12_flood jX12_flood_31
    rw [e1, qbd, first, qbd, y_in (by decide), qchk, qchk, qzn (by decide), h1.1.alone]
    by_cases hN0 : N = 0
    · have q : ¬ 0 < N := by omega
      simp only [if_neg q, if_pos hN0] at eB ⊢
      first | exact eB | (rw [if_pos rfl]; exact eB)
    · have h0 := (ho.2.1 0 (by omega)).1
      have q : 0 < N := by omega
      simp only [if_pos q, if_neg hN0] at eB ⊢
      rw [if_neg (nI_ne_m1 (by omega))]
      exact eB
end FT
