/-! the class finds its ways -/
def wSet (G : gT) (s a b : Nat) (X : zX) : Prop := X 40 (a * 6 + b) = nI (gP G s a b) ∧ X 41 (a * 6 + b) = nI (bw G (gP G s a b) b) ∧ X 42 (a * 6 + b) = nI (gH G s a b)
def wayR (G : gT) (s : Nat) (X : zX) (a : Nat) : Prop := (∀ b, b < s → X 39 (a * 6 + b) = lenE (gW G s a b)) ∧ (X 40 (a * 6 + a) = -1 ∧ X 42 (a * 6 + a) = nI 0) ∧ (∀ b, b < s → iw G s a b = true → wSet G s a b X) ∧ (∀ b, b < s → b ≠ a → iw G s a b = false → X 40 (a * 6 + b) = -1 ∧ X 42 (a * 6 + b) = -1) ∧ ∃ N f, ordX G s a s N f ∧ X 44 a = nI N ∧ ∀ k, k < N → X 43 (a * 6 + k) = nI (f k)
def wC (G : gT) (s : Nat) (X : zX) : Prop := X 6 0 = nI s ∧ ∀ a, a < s → wayR G s X a
theorem wC.fr {G : gT} {s : Nat} {X X' : zX} {L : List Nat} (h : wC G s X) (f : fr L X X') (hL : (!L.contains 6 && !L.contains 39 && !L.contains 40 && !L.contains 41 && !L.contains 42 && !L.contains 43 && !L.contains 44) = true) : wC G s X' := by
  simp only [Bool.and_eq_true, Bool.not_eq_true'] at hL
  unfold wC wayR wSet at *
  rw [f 6 hL.1.1.1.1.1.1, f 39 hL.1.1.1.1.1.2, f 40 hL.1.1.1.1.2, f 41 hL.1.1.1.2, f 42 hL.1.1.2, f 43 hL.1.2, f 44 hL.2]; exact h
section FD
variable {G : gT} {s : Nat}
theorem ord_mono {a x N : Nat} {f : Nat → Nat} (ho : ordX G s a x N f) : ∀ (d j : Nat), j + d < N → gW G s a (f j) ≤ gW G s a (f (j + d))
  | 0, j, _ => Nat.le_refl _
  | d + 1, j, h => by
    have h1 := ord_mono ho d j (by omega)
    have h2 := ho.2.2.1 (j + d) (by omega)
    unfold lx at h2
    rw [show j + (d + 1) = j + d + 1 by omega]; omega
theorem ord_lx {a x N : Nat} {f : Nat → Nat} (ho : ordX G s a x N f) : ∀ (d j : Nat), j + (d + 1) < N → lx G s a (f j) (f (j + (d + 1)))
  | 0, j, h => ho.2.2.1 j h
  | d + 1, j, h => by
    have h1 := ord_lx ho d j (by omega)
    have h2 := ho.2.2.1 (j + (d + 1)) (by omega)
    unfold lx at *
    rw [show j + (d + 1 + 1) = j + (d + 1) + 1 by omega]; omega
theorem ord_inj {a x N i j : Nat} {f : Nat → Nat} (ho : ordX G s a x N f) (hij : i < j) (hj : j < N) : f i ≠ f j := by
  have h := ord_lx ho (j - i - 1) i (by omega)
  rw [show i + (j - i - 1 + 1) = j by omega] at h
  intro e
  rw [e] at h
  unfold lx at h; omega
theorem ha_loop (h : gOK G s) {a : Nat} (ha : a < s) (F : Nat) (hF : 100 ≤ F) {N : Nat} {f : Nat → Nat} (ho : ordX G s a s N f) : ∀ (d k fu : Nat) (X : zX), N - k = d → k ≤ N → d < fu → X 6 0 = nI s → gX G X → (∀ x, x < s → X 39 (a * 6 + x) = lenE (gW G s a x)) → X 44 a = nI N → (∀ j, j < N → X 43 (a * 6 + j) = nI (f j)) → (X 40 (a * 6 + a) = -1 ∧ X 42 (a * 6 + a) = nI 0) → (∀ j, j < k → wSet G s a (f j) X) → (∀ b, b < s → b ≠ a → (∀ j, j < k → f j ≠ b) → X 40 (a * 6 + b) = -1 ∧ X 42 (a * 6 + b) = -1) → ∃ X', hX9_hang_13 F fu (nI a) (nI k) X = some X' ∧ fr [40, 41, 42] X X' ∧ (∀ r i, (i < a * 6 ∨ a * 6 + 6 ≤ i) → X' r i = X r i) ∧ (X' 40 (a * 6 + a) = -1 ∧ X' 42 (a * 6 + a) = nI 0) ∧ (∀ j, j < N → wSet G s a (f j) X') ∧ (∀ b, b < s → b ≠ a → (∀ j, j < N → f j ≠ b) → X' 40 (a * 6 + b) = -1 ∧ X' 42 (a * 6 + b) = -1) := by
  have hs := h.1
  intro d
  induction d with
  | zero =>
    intro k fu X hd hk hf h6 hX h39 h44 h43 hr hS hN
    obtain ⟨fu, rfl⟩ : ∃ g, fu = g + 1 := ⟨fu - 1, by omega⟩
    have : k = N := by omega
    subst this
    refine ⟨X, ?_, fr.refl _ _, fun _ _ _ => rfl, hr, hS, hN⟩
    unfold hX9_hang_13
    rw [qzin (show a < 6 by omega) (by omega), qchk, qzn (by omega), h44, if_pos ((nI_leI (by have := ho.1; omega) (by have := ho.1; omega)).mpr (Nat.le_refl _))]
  | succ d ih =>
    intro k fu X hd hk hf h6 hX h39 h44 h43 hr hS hN
    obtain ⟨fu, rfl⟩ : ∃ g, fu = g + 1 := ⟨fu - 1, by omega⟩
    have hNs := ho.1
    obtain ⟨o2a, o2b⟩ := ho.2.1 k (by omega)
    obtain ⟨hab, hw⟩ := of_decide_eq_true o2b
    obtain ⟨p1, p2, p3, p4, p5⟩ := gP_ok h ha hab hw
    have hnd : ∀ j, j < k → f j ≠ f k := fun j hj => ord_inj ho hj (by omega)
    obtain ⟨n40, n42⟩ := hN (f k) o2a (fun z => hab z.symm) hnd
    have h42 : X 42 (a * 6 + gP G s a (f k)) = nI (gH G s a (gP G s a (f k))) := by
      by_cases q : gP G s a (f k) = a
      · rw [q, gH_0 ha]; exact hr.2
      · obtain ⟨j, hj, ej⟩ := ho.2.2.2 _ p1 (decide_eq_true ⟨fun z => q z.symm, by omega⟩)
        have hjk : j < k := by
          refine Decidable.byContradiction fun z => ?_
          have := ord_mono ho (j - k) k (by omega)
          rw [show k + (j - k) = j by omega, ej] at this
          omega
        have := (hS j hjk).2.2
        rw [ej] at this
        exact this
    have e := ha_up h ha o2a o2b F hF (hX9_hang_13 F fu) (k := k) (gP G s a (f k)) 0 F X rfl (Nat.zero_le _) (by omega) h6 hX h39 n40 h42
    have fX : fr [40, 41, 42] X (zw (zw (zw X 40 (a * 6 + f k) (nI (gP G s a (f k)))) 41 (a * 6 + f k) (nI (bw G (gP G s a (f k)) (f k)))) 42 (a * 6 + f k) (nI (gH G s a (f k)))) := fr_w (fr_w (fr_w (fr.refl _ _) (by decide)) (by decide)) (by decide)
    have no : ∀ r i, i ≠ a * 6 + f k → zw (zw (zw X 40 (a * 6 + f k) (nI (gP G s a (f k)))) 41 (a * 6 + f k) (nI (bw G (gP G s a (f k)) (f k)))) 42 (a * 6 + f k) (nI (gH G s a (f k))) r i = X r i := fun r i hi => by rw [zw_no (Or.inr hi), zw_no (Or.inr hi), zw_no (Or.inr hi)]
    have hS' : ∀ j, j < k + 1 → wSet G s a (f j) (zw (zw (zw X 40 (a * 6 + f k) (nI (gP G s a (f k)))) 41 (a * 6 + f k) (nI (bw G (gP G s a (f k)) (f k)))) 42 (a * 6 + f k) (nI (gH G s a (f k)))) := by
      intro j hj
      by_cases q : j = k
      · subst q
        refine ⟨?_, ?_, zw_at _ _ _ _⟩
        · rw [zw_no (Or.inl (by decide)), zw_no (Or.inl (by decide)), zw_at]
        · rw [zw_no (Or.inl (by decide)), zw_at]
      · have hne := hnd j (by omega)
        obtain ⟨w1, w2, w3⟩ := hS j (by omega)
        exact ⟨by rw [no _ _ (by omega)]; exact w1, by rw [no _ _ (by omega)]; exact w2, by rw [no _ _ (by omega)]; exact w3⟩
    have hN' : ∀ b, b < s → b ≠ a → (∀ j, j < k + 1 → f j ≠ b) → zw (zw (zw X 40 (a * 6 + f k) (nI (gP G s a (f k)))) 41 (a * 6 + f k) (nI (bw G (gP G s a (f k)) (f k)))) 42 (a * 6 + f k) (nI (gH G s a (f k))) 40 (a * 6 + b) = -1 ∧ zw (zw (zw X 40 (a * 6 + f k) (nI (gP G s a (f k)))) 41 (a * 6 + f k) (nI (bw G (gP G s a (f k)) (f k)))) 42 (a * 6 + f k) (nI (gH G s a (f k))) 42 (a * 6 + b) = -1 := by
      intro b hb hba hj
      have := hj k (by omega)
      rw [no _ _ (by omega), no _ _ (by omega)]
      exact hN b hb hba (fun j hj' => hj j (by omega))
    obtain ⟨X', g1, g2, g3, g4, g5, g6⟩ := ih (k + 1) fu _ (by omega) (by omega) (by omega) (by rw [fX 6 (by decide)]; exact h6) (hX.fr fX (by decide)) (fun x hx => by rw [fX 39 (by decide)]; exact h39 x hx) (by rw [fX 44 (by decide)]; exact h44) (fun j hj => by rw [fX 43 (by decide)]; exact h43 j hj) ⟨by rw [no _ _ (by omega)]; exact hr.1, by rw [no _ _ (by omega)]; exact hr.2⟩ hS' hN'
    refine ⟨X', ?_, fX.trans g2, fun r i hi => by rw [g3 r i hi, no r i (by omega)], g4, g5, g6⟩
    unfold hX9_hang_13
    rw [qzin (show a < 6 by omega) (by omega), qchk, qzn (by omega), h44, if_neg (nI_ge (by omega) (by omega)), x_6, x_in6 (by omega) (by omega), qchk, qlet, x_zn6 (by omega) (by omega), h43 k (by omega), x_6, e, g1]
theorem x_root (h : gOK G s) {a : Nat} (ha : a < s) (F : Nat) (hF : 100 ≤ F) {X : zX} (h6 : X 6 0 = nI s) (hX : gX G X) (hr : ∀ b, b < s → X 39 (a * 6 + b) = -1 ∧ X 40 (a * 6 + b) = -1 ∧ X 42 (a * 6 + b) = -1) : ∃ X1 X2 X3, eX9_measure F (nI a) X = some X1 ∧ eX9_sort F (nI a) X1 = some X2 ∧ eX9_hang F (nI a) X2 = some X3 ∧ fr [39, 40, 41, 42, 43, 44] X X3 ∧ wayR G s X3 a ∧ (∀ r i, r ≠ 44 → (i < a * 6 ∨ a * 6 + 6 ≤ i) → X3 r i = X r i) ∧ (∀ i, i ≠ a → X3 44 i = X 44 i) := by
  have hs := h.1
  obtain ⟨X1, e1, f1, u1, w1⟩ := x_measure h ha F hF h6 hX (fun b hb => (hr b hb).1)
  obtain ⟨X2, N, f, e2, f2, u2, u2', ho, h44, h43⟩ := so_out h ha F hF s 0 F 0 X1 (fun _ => 0) (by omega) (by omega) (by omega) (by rw [f1 6 (by decide)]; exact h6) w1 ⟨Nat.le_refl _, fun k hk => absurd hk (Nat.not_lt_zero _), fun k hk => absurd hk (Nat.not_lt_zero _), fun b hb => absurd hb (Nat.not_lt_zero _)⟩ (fun k hk => absurd hk (Nat.not_lt_zero _))
  have f12 : fr [39, 43, 44] X X2 := (f1.sub (by decide)).trans (f2.sub (by decide))
  have fz : fr [42] X2 (zw X2 42 (a * 6 + a) (nI 0)) := fr1
  obtain ⟨X3, e3, f3, u3, g1, g2, g3⟩ := ha_loop h ha F hF ho N 0 F (zw X2 42 (a * 6 + a) (nI 0)) (by omega) (by omega) (by have := ho.1; omega) (by rw [fz 6 (by decide), f12 6 (by decide)]; exact h6) ((hX.fr f12 (by decide)).fr fz (by decide)) (fun x hx => by rw [fz 39 (by decide), f2 39 (by decide)]; exact w1 x hx) (by rw [fz 44 (by decide)]; exact h44) (fun j hj => by rw [fz 43 (by decide)]; exact h43 j hj) ⟨by rw [fz 40 (by decide), f12 40 (by decide)]; exact (hr a ha).2.1, zw_at _ _ _ _⟩ (fun j hj => absurd hj (Nat.not_lt_zero _)) (fun b hb hba _ => ⟨by rw [fz 40 (by decide), f12 40 (by decide)]; exact (hr b hb).2.1, by rw [zw_no (Or.inr (by omega)), f12 42 (by decide)]; exact (hr b hb).2.2⟩)
  refine ⟨X1, X2, X3, e1, e2, ?_, ((f12.sub (by decide)).trans (fz.sub (by decide))).trans (f3.sub (by decide)), ⟨fun b hb => ?_, g1, fun b hb hi => ?_, fun b hb hba hi => ?_, N, f, ho, ?_, fun k hk => ?_⟩, fun r i hr2 hi => ?_, fun i hi => ?_⟩
  · unfold eX9_hang
    rw [x_6, x_in6 (by omega) (by omega), qchk, x_zn6 (by omega) (by omega), e3]
  · rw [f3 39 (by decide), fz 39 (by decide), f2 39 (by decide)]; exact w1 b hb
  · obtain ⟨k, hk, ek⟩ := ho.2.2.2 b hb hi
    have := g2 k hk
    rw [ek] at this; exact this
  · refine g3 b hb hba (fun j hj z => ?_)
    have := (ho.2.1 j hj).2
    rw [z, hi] at this; cases this
  · rw [f3 44 (by decide), fz 44 (by decide)]; exact h44
  · rw [f3 43 (by decide), fz 43 (by decide)]; exact h43 k hk
  · rw [u3 r i hi, zw_no (Or.inr (by omega))]
    by_cases q : r = 43
    · subst q; rw [u2 i hi, f1 43 (by decide)]
    · rw [f2 r (by simp; omega)]
      by_cases q2 : r = 39
      · subst q2; exact u1 i (by omega)
      · rw [f1 r (by simp; omega)]
  · rw [f3 44 (by decide), fz 44 (by decide), u2' i hi, f1 44 (by decide)]
theorem fi_loop (h : gOK G s) (F : Nat) (hF : 100 ≤ F) : ∀ (d a fu : Nat) (X : zX), s - a = d → a ≤ s → d < fu → X 6 0 = nI s → gX G X → (∀ x, x < a → wayR G s X x) → (∀ x b, a ≤ x → x < s → b < s → X 39 (x * 6 + b) = -1 ∧ X 40 (x * 6 + b) = -1 ∧ X 42 (x * 6 + b) = -1) → ∃ X', hX9_find_39 F fu (nI a) X = some X' ∧ fr [39, 40, 41, 42, 43, 44] X X' ∧ (∀ x, x < s → wayR G s X' x) := by
  have hs := h.1
  intro d
  induction d with
  | zero =>
    intro a fu X hd ha hf h6 hX hW hN
    obtain ⟨fu, rfl⟩ : ∃ g, fu = g + 1 := ⟨fu - 1, by omega⟩
    refine ⟨X, ?_, fr.refl _ _, fun x hx => hW x (by omega)⟩
    unfold hX9_find_39
    rw [h6, if_pos ((nI_leI (by omega) (by omega)).mpr (by omega))]
  | succ d ih =>
    intro a fu X hd ha hf h6 hX hW hN
    obtain ⟨fu, rfl⟩ : ∃ g, fu = g + 1 := ⟨fu - 1, by omega⟩
    obtain ⟨X1, X2, X3, e1, e2, e3, f3, w3, u3, u4⟩ := x_root h (show a < s by omega) F hF h6 hX (fun b hb => hN a b (Nat.le_refl _) (by omega) hb)
    have hW' : ∀ x, x < a + 1 → wayR G s X3 x := by
      intro x hx
      by_cases q : x = a
      · subst q; exact w3
      · obtain ⟨k1, k2, k3, k4, N, f, k5, k6, k7⟩ := hW x (by omega)
        have hNs := k5.1
        refine ⟨fun b hb => ?_, ⟨?_, ?_⟩, fun b hb hi => ⟨?_, ?_, ?_⟩, fun b hb hba hi => ⟨?_, ?_⟩, N, f, k5, ?_, fun k hk => ?_⟩
        · rw [u3 39 _ (by decide) (by omega)]; exact k1 b hb
        · rw [u3 40 _ (by decide) (by omega)]; exact k2.1
        · rw [u3 42 _ (by decide) (by omega)]; exact k2.2
        · rw [u3 40 _ (by decide) (by omega)]; exact (k3 b hb hi).1
        · rw [u3 41 _ (by decide) (by omega)]; exact (k3 b hb hi).2.1
        · rw [u3 42 _ (by decide) (by omega)]; exact (k3 b hb hi).2.2
        · rw [u3 40 _ (by decide) (by omega)]; exact (k4 b hb hba hi).1
        · rw [u3 42 _ (by decide) (by omega)]; exact (k4 b hb hba hi).2
        · rw [u4 x q]; exact k6
        · rw [u3 43 _ (by decide) (by omega)]; exact k7 k hk
    obtain ⟨X', g1, g2, g3⟩ := ih (a + 1) fu X3 (by omega) (by omega) (by omega) (by rw [f3 6 (by decide)]; exact h6) (hX.fr f3 (by decide)) hW' (fun x b h1 h2 h3 => by
      rw [u3 39 _ (by decide) (by omega), u3 40 _ (by decide) (by omega), u3 42 _ (by decide) (by omega)]; exact hN x b (by omega) h2 h3)
    refine ⟨X', ?_, f3.trans g2, g3⟩
    unfold hX9_find_39
    rw [h6, if_neg (nI_ge (by omega) (by omega)), e1, qbd, e2, qbd, e3, qbd, nI_add, g1]
theorem x_find (h : gOK G s) (F : Nat) (hF : 100 ≤ F) {X : zX} (hX : gX G X) : ∃ X', eX9_find F (nI s) X = some X' ∧ fr [6, 39, 40, 41, 42, 43, 44] X X' ∧ wC G s X' := by
  have hs := h.1
  have f0 : fr [6] X (zw X 6 0 (nI s)) := fr1
  obtain ⟨X1, e1, f1, v1⟩ := x_fill39 F hF (-1) (zw X 6 0 (nI s))
  obtain ⟨X2, e2, f2, v2⟩ := x_fill40 F hF (-1) X1
  obtain ⟨X3, e3, f3, v3⟩ := x_fill41 F hF (-1) X2
  obtain ⟨X4, e4, f4, v4⟩ := x_fill42 F hF (-1) X3
  have F4 : fr [6, 39, 40, 41, 42] X X4 := ((((f0.sub (by decide)).trans (f1.sub (by decide))).trans (f2.sub (by decide))).trans (f3.sub (by decide))).trans (f4.sub (by decide))
  have h6 : X4 6 0 = nI s := by rw [f4 6 (by decide), f3 6 (by decide), f2 6 (by decide), f1 6 (by decide), zw_at]
  obtain ⟨X', e, f, w⟩ := fi_loop h F hF s 0 F X4 (by omega) (by omega) (by omega) h6 (hX.fr F4 (by decide)) (fun x hx => absurd hx (Nat.not_lt_zero _)) (fun x b _ h2 h3 => ⟨by rw [f4 39 (by decide), f3 39 (by decide), f2 39 (by decide)]; exact v1 _ (by omega), by rw [f4 40 (by decide), f3 40 (by decide)]; exact v2 _ (by omega), v4 _ (by omega)⟩)
  refine ⟨X', ?_, (F4.sub (by decide)).trans (f.sub (by decide)), by rw [f 6 (by decide)]; exact h6, w⟩
  unfold eX9_find
  rw [e1, qbd, e2, qbd, e3, qbd, e4, qbd, e]
end FD
