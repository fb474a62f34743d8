/-! the class sorts and hangs its ways -/
def lx (G : gT) (s a x y : Nat) : Prop := gW G s a x < gW G s a y ∨ (gW G s a x = gW G s a y ∧ x < y)
def ordX (G : gT) (s a x N : Nat) (f : Nat → Nat) : Prop := N ≤ x ∧ (∀ k, k < N → f k < x ∧ iw G s a (f k) = true) ∧ (∀ k, k + 1 < N → lx G s a (f k) (f (k + 1))) ∧ (∀ b, b < x → iw G s a b = true → ∃ k, k < N ∧ f k = b)
section SO
variable {G : gT} {s : Nat}
theorem so_in (h : gOK G s) {a N x : Nat} (ha : a < s) (hx : x < s) (hN : N ≤ x) (F : Nat) (K : Int32 → Int32 → Int32 → zX → Option zX) (f : Nat → Nat) (hf : ∀ k, k < N → f k < s ∧ gW G s a (f k) < 1000000) (hwx : gW G s a x < 1000000) : ∀ (p fu : Nat) (X : zX), p < fu → p ≤ N → (∀ b, b < s → X 39 (a * 6 + b) = lenE (gW G s a b)) → (∀ k, k < p → X 43 (a * 6 + k) = nI (f k)) → (∀ k, p < k → k ≤ N → X 43 (a * 6 + k) = nI (f (k - 1))) → (∀ k, p ≤ k → k < N → gW G s a x < gW G s a (f k)) → ∃ X' p', hX9_sort_38 F K fu (nI a) (nI N) (nI x) (nI (gW G s a x)) (nI p) X = K (nI a) (nI (N + 1)) (nI (x + 1)) X' ∧ fr [43] X X' ∧ (∀ i, (i < a * 6 ∨ a * 6 + N < i) → X' 43 i = X 43 i) ∧ p' ≤ N ∧ (p' = 0 ∨ gW G s a (f (p' - 1)) ≤ gW G s a x) ∧ (∀ k, p' ≤ k → k < N → gW G s a x < gW G s a (f k)) ∧ (∀ k, k ≤ N → X' 43 (a * 6 + k) = nI (if k < p' then f k else if k = p' then x else f (k - 1))) := by
  have hs := h.1
  intro p
  have fin : ∀ (p : Nat) (X : zX), p ≤ N → (p = 0 ∨ gW G s a (f (p - 1)) ≤ gW G s a x) → (∀ k, k < p → X 43 (a * 6 + k) = nI (f k)) → (∀ k, p < k → k ≤ N → X 43 (a * 6 + k) = nI (f (k - 1))) → (∀ k, p ≤ k → k < N → gW G s a x < gW G s a (f k)) → ∃ X' p', jX9_sort_100 F K (nI a) (nI N) (nI x) (nI p) X = K (nI a) (nI (N + 1)) (nI (x + 1)) X' ∧ fr [43] X X' ∧ (∀ i, (i < a * 6 ∨ a * 6 + N < i) → X' 43 i = X 43 i) ∧ p' ≤ N ∧ (p' = 0 ∨ gW G s a (f (p' - 1)) ≤ gW G s a x) ∧ (∀ k, p' ≤ k → k < N → gW G s a x < gW G s a (f k)) ∧ (∀ k, k ≤ N → X' 43 (a * 6 + k) = nI (if k < p' then f k else if k = p' then x else f (k - 1))) := by
    intro p X hp h0 h1 h2 h3
    refine ⟨zw X 43 (a * 6 + p) (nI x), p, ?_, fr1, fun i hi => zw_no (Or.inr (by omega)), hp, h0, h3, fun k hk => ?_⟩
    · unfold jX9_sort_100
      rw [x_6, x_in6 (by omega) (by omega), qchk, x_zn6 (by omega) (by omega), nI_add, nI_add]
    · by_cases q : k = p
      · subst q; rw [zw_at, if_neg (by omega), if_pos rfl]
      · rw [zw_no (Or.inr (by omega))]
        by_cases q2 : k < p
        · rw [if_pos q2]; exact h1 k q2
        · rw [if_neg q2, if_neg q]; exact h2 k (by omega) hk
  induction p with
  | zero =>
    intro fu X hfu hp h39 h1 h2 h3
    obtain ⟨fu, rfl⟩ : ∃ g, fu = g + 1 := ⟨fu - 1, by omega⟩
    unfold hX9_sort_38
    rw [if_pos (by decide)]
    exact fin 0 X hp (Or.inl rfl) h1 h2 h3
  | succ p ih =>
    intro fu X hfu hp h39 h1 h2 h3
    obtain ⟨fu, rfl⟩ : ∃ g, fu = g + 1 := ⟨fu - 1, by omega⟩
    obtain ⟨hf1, hf2⟩ := hf p (by omega)
    have e43 := h1 p (by omega)
    have hw := gW_far h a (f p)
    unfold hX9_sort_38
    rw [if_neg (nI_nle (by omega) (by omega)), nI_sub (by omega), show p + 1 - 1 = p by omega, x_6, x_in6 (by omega) (by omega), qchk, x_zn6 (by omega) (by omega), e43, x_6, x_in6 (by omega) (by omega), qchk, x_zn6 (by omega) (by omega), h39 _ hf1, lenE_lt hf2]
    by_cases c : gW G s a (f p) ≤ gW G s a x
    · rw [if_pos ((nI_leI (by omega) (by omega)).mpr c)]
      exact fin (p + 1) X hp (Or.inr (by rw [show p + 1 - 1 = p by omega]; exact c)) h1 h2 h3
    · rw [if_neg (fun z => c ((nI_leI (by omega) (by omega)).mp z)), qchk, x_6, x_in6 (by omega) (by omega), qchk, qlet, x_zn6 (by omega) (by omega), nI_m1]
      obtain ⟨X', p', g1, g2, g3, g4⟩ := ih fu (zw X 43 (a * 6 + (p + 1)) (nI (f p))) (by omega) (by omega) (fun b hb => by rw [zw_no (Or.inl (by decide))]; exact h39 b hb) (fun k hk => by rw [zw_no (Or.inr (by omega))]; exact h1 k (by omega)) (fun k hk1 hk2 => by
        by_cases q : k = p + 1
        · subst q; rw [zw_at, show p + 1 - 1 = p by omega]
        · rw [zw_no (Or.inr (by omega))]; exact h2 k (by omega) hk2) (fun k hk1 hk2 => by
        by_cases q : k = p
        · subst q; omega
        · exact h3 k (by omega) hk2)
      exact ⟨X', p', g1, (fr_w (fr.refl [43] X) (by decide)).trans g2, fun i hi => by rw [g3 i hi, zw_no (Or.inr (by omega))], g4⟩
theorem so_out (h : gOK G s) {a : Nat} (ha : a < s) (F : Nat) (hF : 100 ≤ F) : ∀ (d x fu N : Nat) (X : zX) (f : Nat → Nat), s - x = d → x ≤ s → d < fu → X 6 0 = nI s → (∀ b, b < s → X 39 (a * 6 + b) = lenE (gW G s a b)) → ordX G s a x N f → (∀ k, k < N → X 43 (a * 6 + k) = nI (f k)) → ∃ X' N' f', hX9_sort_4 F fu (nI a) (nI N) (nI x) X = some X' ∧ fr [43, 44] X X' ∧ (∀ i, (i < a * 6 ∨ a * 6 + 6 ≤ i) → X' 43 i = X 43 i) ∧ (∀ i, i ≠ a → X' 44 i = X 44 i) ∧ ordX G s a s N' f' ∧ X' 44 a = nI N' ∧ (∀ k, k < N' → X' 43 (a * 6 + k) = nI (f' k)) := by
  have hs := h.1
  intro d
  induction d with
  | zero =>
    intro x fu N X f hd hx hf h6 h39 ho h43
    obtain ⟨fu, rfl⟩ : ∃ g, fu = g + 1 := ⟨fu - 1, by omega⟩
    have : x = s := by omega
    subst this
    refine ⟨zw X 44 a (nI N), N, f, ?_, fr_w (fr.refl _ _) (by decide), fun i hi => zw_no (Or.inl (by decide)), fun i hi => zw_no (Or.inr hi), ho, zw_at _ _ _ _, fun k hk => by rw [zw_no (Or.inl (by decide))]; exact h43 k hk⟩
    unfold hX9_sort_4
    rw [h6, if_pos ((nI_leI (by omega) (by omega)).mpr (by omega)), qzin (show a < 6 by omega) (by omega), qchk, qzn (by omega)]
  | succ d ih =>
    intro x fu N X f hd hx hf h6 h39 ho h43
    obtain ⟨fu, rfl⟩ : ∃ g, fu = g + 1 := ⟨fu - 1, by omega⟩
    obtain ⟨o1, o2, o3, o4⟩ := ho
    have skip : iw G s a x = false → ordX G s a (x + 1) N f := fun hi => ⟨by omega, fun k hk => ⟨by have := (o2 k hk).1; omega, (o2 k hk).2⟩, o3, fun b hb hib => by
      by_cases q : b = x
      · subst q; rw [hi] at hib; cases hib
      · exact o4 b (by omega) hib⟩
    have hw := gW_far h a x
    unfold hX9_sort_4
    rw [h6, if_neg (nI_ge (by omega) (by omega)), x_6, x_in6 (by omega) (by omega), qchk, x_zn6 (by omega) (by omega), h39 x (by omega), nI_add]
    by_cases c1 : x = a
    · rw [if_pos (by rw [c1])]
      exact ih (x + 1) fu N X f (by omega) (by omega) (by omega) h6 h39 (skip (by unfold iw; simp [c1])) h43
    · rw [if_neg (fun z => c1 ((nI_eq (by omega) (by omega)).mp z))]
      by_cases c2 : gW G s a x = 1000000
      · rw [if_pos ((lenE_m1 hw).mpr c2)]
        exact ih (x + 1) fu N X f (by omega) (by omega) (by omega) h6 h39 (skip (by unfold iw; simp [c2])) h43
      · have hwx : gW G s a x < 1000000 := by omega
        rw [if_neg (fun z => c2 ((lenE_m1 hw).mp z)), lenE_lt hwx]
        have hix : iw G s a x = true := decide_eq_true ⟨fun z => c1 z.symm, hwx⟩
        obtain ⟨X1, p, e1, f1, u1, hp, z1, z2, z3⟩ := so_in h ha (show x < s by omega) o1 F (hX9_sort_4 F fu) f (fun k hk => ⟨by have := (o2 k hk).1; omega, (of_decide_eq_true (o2 k hk).2).2⟩) hwx N F X (by omega) (Nat.le_refl _) h39 h43 (fun k h1 h2 => by omega) (fun k h1 h2 => by omega)
        rw [e1]
        have ho' : ordX G s a (x + 1) (N + 1) (fun k => if k < p then f k else if k = p then x else f (k - 1)) := by
          refine ⟨by omega, fun k hk => ?_, fun k hk => ?_, fun b hb hib => ?_⟩
          · dsimp only
            by_cases q : k < p
            · rw [if_pos q]; exact ⟨by have := (o2 k (by omega)).1; omega, (o2 k (by omega)).2⟩
            · rw [if_neg q]
              by_cases q2 : k = p
              · rw [if_pos q2]; exact ⟨by omega, hix⟩
              · rw [if_neg q2]; exact ⟨by have := (o2 (k - 1) (by omega)).1; omega, (o2 (k - 1) (by omega)).2⟩
          · dsimp only
            by_cases q : k + 1 < p
            · rw [if_pos (by omega), if_pos q]; exact o3 k (by omega)
            · by_cases q2 : k + 1 = p
              · rw [if_pos (by omega), if_neg (by omega), if_pos q2]
                have := (o2 k (by omega)).1
                rcases z1 with z | z
                · omega
                · rw [show p - 1 = k by omega] at z
                  unfold lx; omega
              · by_cases q3 : k = p
                · rw [if_neg (by omega), if_pos q3, if_neg (by omega), if_neg (by omega), show k + 1 - 1 = k by omega]
                  exact Or.inl (z2 k (by omega) (by omega))
                · rw [if_neg (by omega), if_neg q3, if_neg (by omega), if_neg (by omega), show k + 1 - 1 = k by omega]
                  have := o3 (k - 1) (by omega)
                  rw [show k - 1 + 1 = k by omega] at this
                  exact this
          · by_cases q : b = x
            · exact ⟨p, by omega, by dsimp only; rw [if_neg (by omega), if_pos rfl, q]⟩
            · obtain ⟨k, hk, ek⟩ := o4 b (by omega) hib
              by_cases q2 : k < p
              · exact ⟨k, by omega, by dsimp only; rw [if_pos q2, ek]⟩
              · exact ⟨k + 1, by omega, by dsimp only; rw [if_neg (by omega), if_neg (by omega), show k + 1 - 1 = k by omega, ek]⟩
        obtain ⟨X', N', f', g1, g2, g3, g4, g5, g6, g7⟩ := ih (x + 1) fu (N + 1) X1 _ (by omega) (by omega) (by omega) (by rw [f1 6 (by decide)]; exact h6) (fun b hb => by rw [f1 39 (by decide)]; exact h39 b hb) ho' (fun k hk => z3 k (by omega))
        exact ⟨X', N', f', g1, (f1.sub (by decide)).trans g2, fun i hi => by rw [g3 i hi, u1 i (by omega)], fun i hi => by rw [g4 i hi, f1 44 (by decide)], g5, g6, g7⟩
/-- class's between -/
theorem x_bw (h : gOK G s) {X : zX} (hX : gX G X) (F : Nat) (hF : 100 ≤ F) {a b : Nat} (ha : a < 6) (hb : b < 6) : eX2_between F (nI a) (nI b) X = some (if bw G a b = gl G then -1 else nI (bw G a b)) := by
  have hl := h.2.1
  have hs := h.1
  have key : ∀ (d k fu : Nat), gl G - k = d → k ≤ gl G → d < fu → hX2_between_2 F fu (nI a) (nI b) (nI k) X = some (if ff (lnk G a b) d k = gl G then -1 else nI (ff (lnk G a b) d k)) := by
    intro d
    induction d with
    | zero =>
      intro k fu hd hk hf
      obtain ⟨fu, rfl⟩ : ∃ g, fu = g + 1 := ⟨fu - 1, by omega⟩
      have : k = gl G := by omega
      unfold hX2_between_2
      rw [hX.1, if_pos ((nI_leI (by omega) (by omega)).mpr (by omega))]
      unfold ff
      rw [if_pos this]
    | succ d ih =>
      intro k fu hd hk hf
      obtain ⟨fu, rfl⟩ : ∃ g, fu = g + 1 := ⟨fu - 1, by omega⟩
      obtain ⟨e0, e1, -, -⟩ := hX.2 k (by omega)
      obtain ⟨g1, g2, -⟩ := h.2.2.1 k (by omega)
      have e := ih (k + 1) fu (by omega) (by omega) (by omega)
      unfold hX2_between_2 jX2_between_34 jX2_between_35 jX2_between_61 jX2_between_62
      rw [hX.1, if_neg (nI_ge (by omega) (by omega)), qzin (show k < 10 by omega) (by omega), qzn (by omega), e0, e1, nI_add, e]
      simp only [qchk, nI_eq (show go G k < 2 ^ 31 by omega) (show a < 2 ^ 31 by omega), nI_eq (show go G k < 2 ^ 31 by omega) (show b < 2 ^ 31 by omega), nI_eq (show gt G k < 2 ^ 31 by omega) (show a < 2 ^ 31 by omega), nI_eq (show gt G k < 2 ^ 31 by omega) (show b < 2 ^ 31 by omega), if_pos (show nI 0 = 0 from rfl), if_neg (show ¬ nI 1 = 0 by decide)]
      rw [show ff (lnk G a b) (d + 1) k = if lnk G a b k then k else ff (lnk G a b) d (k + 1) from rfl]
      by_cases c : lnk G a b k = true
      · have hk' : ¬ k = gl G := by omega
        rw [if_pos c, if_neg hk']
        rcases of_decide_eq_true c with ⟨c1, c2⟩ | ⟨c1, c2⟩
        · rw [if_pos c1, if_pos c2]
          split <;> (try split) <;> rfl
        · rw [if_pos c1, if_pos c2]
          split <;> (try split) <;> rfl
      · rw [if_neg c]
        have c' := of_decide_eq_false (by simpa using c : lnk G a b k = false)
        by_cases c1 : go G k = a
        · have c2 : ¬ gt G k = b := fun z => c' (Or.inl ⟨c1, z⟩)
          rw [if_pos c1, if_neg c2]
          by_cases c3 : go G k = b
          · have c4 : ¬ gt G k = a := fun z => c' (Or.inr ⟨c3, z⟩)
            rw [if_pos c3, if_neg c4]
          · rw [if_neg c3]
        · rw [if_neg c1]
          by_cases c3 : go G k = b
          · have c4 : ¬ gt G k = a := fun z => c' (Or.inr ⟨c3, z⟩)
            rw [if_pos c3, if_neg c4]
          · rw [if_neg c3]
  unfold eX2_between
  exact key (gl G) 0 F (by omega) (by omega) (by omega)
/-- the loop over the upper ones: it finds the one above -/
theorem ha_up (h : gOK G s) {a b k : Nat} (ha : a < s) (hbs : b < s) (hib : iw G s a b = true) (F : Nat) (hF : 100 ≤ F) (K : Int32 → Int32 → zX → Option zX) : ∀ (d p fu : Nat) (X : zX), gP G s a b - p = d → p ≤ gP G s a b → d + 1 < fu → X 6 0 = nI s → gX G X → (∀ x, x < s → X 39 (a * 6 + x) = lenE (gW G s a x)) → X 40 (a * 6 + b) = -1 → X 42 (a * 6 + gP G s a b) = nI (gH G s a (gP G s a b)) → hX9_hang_46 F K fu (nI a) (nI k) (nI b) (nI (a * 6 + b)) (nI p) X = K (nI a) (nI (k + 1)) (zw (zw (zw X 40 (a * 6 + b) (nI (gP G s a b))) 41 (a * 6 + b) (nI (bw G (gP G s a b) b))) 42 (a * 6 + b) (nI (gH G s a b))) := by
  have hs := h.1
  have hl := h.2.1
  obtain ⟨hab, hw⟩ := of_decide_eq_true hib
  obtain ⟨p1, p2, p3, p4, p5⟩ := gP_ok h ha hab hw
  obtain ⟨b1, b2, b3, -⟩ := dl_lt h p4
  have hH := gH_s h ha hbs hab hw
  have hH5 := (gH_le h ha hbs hw).2
  intro d
  induction d with
  | zero =>
    intro p fu X hd hp hf h6 hX h39 h40 h42
    obtain ⟨fu, rfl⟩ : ∃ g, fu = g + 2 := ⟨fu - 2, by omega⟩
    have : p = gP G s a b := by omega
    subst this
    have hnc : ¬ ((X 5 1 >>> (nI (bw G (gP G s a b) b) &&& 31)) &&& nI 1) = nI 1 := fun z => by
      have := ((hX.2 _ b1).2.2.2).mp z
      rw [b2] at this; cases this
    obtain ⟨-, -, e36, -⟩ := hX.2 _ b1
    unfold hX9_hang_46
    rw [h6, if_neg (nI_ge (by omega) (by omega)), x_in6 (by omega) (by omega), qchk, x_zn6 (by omega) (by omega), if_pos h40, x_bw h hX F hF (by omega) (by omega), qbd, if_neg (show ¬ bw G (gP G s a b) b = gl G by omega), x_6, x_in6 (by omega) (by omega), qchk, if_neg (nI_ne_m1 (by omega)), if_neg hnc, x_zn6 (by omega) (by omega), h39 _ p1, lenE_lt (by omega), if_neg (nI_ne_m1 (by omega))]
    unfold jX9_hang_115
    rw [if_neg (by decide), qzin (show bw G (gP G s a b) b < 10 by omega) (by omega), qchk, x_in6 (by omega) (by omega), qchk, qzn (by omega), x_zn6 (by omega) (by omega), e36, h39 b hbs, lenE_lt hw, nI_add, ← b3, p3, if_pos rfl, qchk, qchk, x_6, x_in6 (by omega) (by omega), qchk, qchk, qlet, x_zn6 (by omega) (by omega), h42, nI_add, nI_add, ← hH]
    unfold hX9_hang_46
    rw [zw_no (Or.inl (by decide)), zw_no (Or.inl (by decide)), zw_no (Or.inl (by decide)), h6]
    by_cases q : s ≤ gP G s a b + 1
    · rw [if_pos ((nI_leI (by omega) (by omega)).mpr q), nI_add]
    · rw [if_neg (fun z => q ((nI_leI (by omega) (by omega)).mp z)), x_in6 (by omega) (by omega), qchk, x_zn6 (by omega) (by omega), zw_no (a := 40) (Or.inl (by decide)), zw_no (a := 40) (Or.inl (by decide)), zw_at, if_neg (nI_ne_m1 (by omega)), nI_add]
  | succ d ih =>
    intro p fu X hd hp hf h6 hX h39 h40 h42
    obtain ⟨fu, rfl⟩ : ∃ g, fu = g + 1 := ⟨fu - 1, by omega⟩
    have hn := gP_no (G := G) (s := s) (a := a) (b := b) (p := p) (by omega)
    have e := ih (p + 1) fu X (by omega) (by omega) (by omega) h6 hX h39 h40 h42
    have hwp := gW_far h a p
    unfold hX9_hang_46
    rw [h6, if_neg (nI_ge (by omega) (by omega)), x_in6 (by omega) (by omega), qchk, x_zn6 (by omega) (by omega), if_pos h40, x_bw h hX F hF (by omega) (by omega), qbd, x_6, x_in6 (by omega) (by omega), qchk, x_zn6 (by omega) (by omega)]
    unfold jX9_hang_114 jX9_hang_115
    rw [if_pos (show nI 0 = 0 from rfl), if_neg (show ¬ nI 1 = 0 by decide), nI_add, e]
    by_cases c1 : bw G p b = gl G
    · rw [if_pos c1, if_pos rfl]
    · have hbl := bw_le G p b
      obtain ⟨-, -, e36, ec⟩ := hX.2 (bw G p b) (by omega)
      rw [if_neg c1, if_neg (nI_ne_m1 (by omega))]
      by_cases c2 : hb (X 5 1) (bw G p b)
      · rw [if_pos (show ((X 5 1 >>> (nI (bw G p b) &&& 31)) &&& nI 1) = nI 1 from c2)]
      · rw [if_neg (show ¬ ((X 5 1 >>> (nI (bw G p b) &&& 31)) &&& nI 1) = nI 1 from c2)]
        have hdl : dl G p b = gd G (bw G p b) := by
          unfold dl
          rw [if_neg c1, if_neg (fun z => c2 (ec.mpr z))]
        obtain ⟨-, -, -, d4, d5⟩ := h.2.2.1 (bw G p b) (by omega)
        rw [h39 p (by omega)]
        by_cases c3 : gW G s a p = 1000000
        · rw [if_pos ((lenE_m1 hwp).mpr c3)]
        · have hpb : p ≠ b := by
            rintro rfl
            have := (dl_lt h (show dl G p p < 1000000 by rw [hdl]; omega)).2.2.2.2.2.1
            exact this rfl
          rw [if_neg (fun z => c3 ((lenE_m1 hwp).mp z)), lenE_lt (show gW G s a p < 1000000 by omega), qzin (show bw G p b < 10 by omega) (by omega), qchk, qzn (by omega), x_in6 (show a < 6 by omega) (show b < 6 by omega), qchk, x_zn6 (show a < 6 by omega) (show b < 6 by omega), e36, h39 b hbs, lenE_lt hw, nI_add, if_neg (fun z => hn ⟨hpb, by rw [hdl]; exact (nI_eq (by omega) (by omega)).mp z⟩)]
end SO
