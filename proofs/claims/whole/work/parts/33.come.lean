/-! all that comes in a tick -/
theorem a_mv {n : Nat} {v : Nat} : nI 1542 + nI 10 * nI n + nI v = nI (1542 + 10 * n + v) := a_m
theorem y_mv (F : Nat) (K : Int32 → Int32 → Int32 → Int32 → zX → Option (Int32 × zX)) (a1 a3 : Int32) {c k : Nat} (hk : k < 64) (hc : c ≤ k) : ∀ (d e fu : Nat) (Y : zX), 10 - e = d → e ≤ 10 → d < fu → ∃ Y', hX12_allCome_65 F K fu a1 (nI c) a3 (nI k) (nI e) Y = K a1 (nI (c + 1)) a3 (nI (k + 1)) Y' ∧ fr [1] Y Y' ∧ (∀ a, (a < 1542 + 10 * c + e ∨ 1542 + 10 * c + 10 ≤ a) → Y' 1 a = Y 1 a) ∧ (∀ x, e ≤ x → x < 10 → Y' 1 (1542 + 10 * c + x) = Y 1 (1542 + 10 * k + x)) := by
  intro d
  induction d with
  | zero =>
    intro e fu Y hd he hf
    obtain ⟨fu, rfl⟩ : ∃ g, fu = g + 1 := ⟨fu - 1, by omega⟩
    have : e = 10 := by omega
    subst this
    refine ⟨Y, ?_, fr.refl _ _, fun _ _ => rfl, fun x h1 h2 => by omega⟩
    unfold hX12_allCome_65
    rw [if_pos (by decide), nI_add, nI_add]
  | succ d ih =>
    intro e fu Y hd he hf
    obtain ⟨fu, rfl⟩ : ∃ g, fu = g + 1 := ⟨fu - 1, by omega⟩
    obtain ⟨Y', e1, g, h1, h2⟩ := ih (e + 1) fu (zw Y 1 (1542 + 10 * c + e) (Y 1 (1542 + 10 * k + e))) (by omega) (by omega) (by omega)
    refine ⟨Y', ?_, (fr_w (fr.refl [1] Y) (by decide)).trans g, fun a ha => ?_, fun x hx hx2 => ?_⟩
    · unfold hX12_allCome_65
      rw [if_neg (nI_ge (by omega) (by omega))]
      simp only [a_m]
      rw [y_in (a := 1542 + 10 * k + e) (by omega), qchk, y_in (a := 1542 + 10 * c + e) (by omega), qchk, qlet, qzn (k := 1542 + 10 * c + e) (by omega), qzn (k := 1542 + 10 * k + e) (by omega), nI_add, e1]
    · rw [h1 a (by omega), zw_no (Or.inr (by omega))]
    · by_cases q : x = e
      · subst q; rw [h1 _ (by omega), zw_at]
      · rw [h2 x (by omega) hx2]
        by_cases q2 : c = k
        · subst q2; rw [zw_no (Or.inr (by omega))]
        · rw [zw_no (Or.inr (by omega))]
section CM
variable {s l m : Nat} {T : Nat × Nat}
def dnA (t : Int32) (A Y : zX) (k : Nat) : Prop := ∀ j, j < k → kp t A j = true → (∀ e, e < 8 → Y 1 (1542 + 10 * cn t A j + e) = A (45 + e) j) ∧ (A 48 j = nI 3 → Y 1 (1542 + 10 * cn t A j + 8) = A 53 j ∧ Y 1 (1542 + 10 * cn t A j + 9) = A 54 j)
theorem s_come_loop (F : Nat) (hF : 300 ≤ F) (hT : T.1 < 1000000) (t : Int32) (A : zX) : ∀ (d k fu gu : Nat) (X Y : zX) (Z : Nat → Int32) (got : Int32), m - k = d → k ≤ m → d < fu → d < gu → wS (k, Z) s l m T X Y → K3 s X → X 0 12 = t → (∀ r, 45 ≤ r → r ≤ 54 → X r = A r) → dnA t A Y k →
    ∃ X' Y' r Z', hX10_step_2 F fu (nI k) X = zbd (eX0_dropDue F t X') (fun y3 => hX10_step_53 F F (nI 0) y3) ∧ hX12_allCome_15 F gu (nI m) (nI (cn t A k)) got (nI k) Y = some (got + r, zw Y' 1 12 (nI (cn t A m))) ∧ wS (m, Z') s l m T X' Y' ∧ K3 s X' ∧ X' 0 13 = X 0 13 + r ∧ (∀ i, i ≠ 13 → X' 0 i = X 0 i) ∧ fr hrL X X' ∧ fr [1] Y Y' ∧ dnA t A Y' m := by
  intro d
  induction d with
  | zero =>
    intro k fu gu X Y Z got hd hk hf hg h hK ht hA hdn
    obtain ⟨fu, rfl⟩ : ∃ g, fu = g + 1 := ⟨fu - 1, by omega⟩
    obtain ⟨gu, rfl⟩ : ∃ g, gu = g + 1 := ⟨gu - 1, by omega⟩
    have : k = m := by omega
    subst this
    have hm := h.1.hm
    refine ⟨X, Y, 0, Z, ?_, ?_, h, hK, (Int32.add_zero _).symm, fun _ _ => rfl, fr.refl _ _, fr.refl _ _, hdn⟩
    · unfold hX10_step_2
      rw [h.1.airs, if_pos ((nI_leI (by omega) (by omega)).mpr (Nat.le_refl _)), ht]
    · unfold hX12_allCome_15
      rw [if_pos ((nI_leI (by omega) (by omega)).mpr (Nat.le_refl _)), Int32.add_zero]
  | succ d ih =>
    intro k fu gu X Y Z got hd hk hf hg h hK ht hA hdn
    obtain ⟨fu, rfl⟩ : ∃ g, fu = g + 1 := ⟨fu - 1, by omega⟩
    obtain ⟨gu, rfl⟩ : ∃ g, gu = g + 1 := ⟨gu - 1, by omega⟩
    have hm := h.1.hm
    have hkm : k < m := by omega
    have hck := cn_le t A k
    unfold hX10_step_2 hX12_allCome_15
    rw [h.1.airs, if_neg (nI_ge hkm (by omega)), if_neg (nI_ge hkm (by omega)), qzin (show k < 64 by omega) (by omega), qchk, qzn (by omega)]
    simp only [a_m]
    rw [y_in (a := 1542 + 10 * k + 0) (by omega), qchk, qzn (by omega), h.1.due hkm (Nat.le_refl _), h.1.tick, ht, hA 45 (by omega) (by omega), nI_add]
    by_cases hkp : kp t A k = true
    · have hlt : t < A 45 k := of_decide_eq_true hkp
      rw [if_pos hlt, if_pos hlt]
      obtain ⟨Y1, e1, g1, u1, u2⟩ := y_mv F (hX12_allCome_15 F gu) (nI m) got (c := cn t A k) (k := k) (by omega) hck 10 0 F Y (by omega) (by omega) (by omega)
      have h1 : wS (k + 1, Y 1) s l m T X Y := h.relo (k := k + 1) (Nat.le_succ k)
      have h2 := h1.yair g1 (by omega) (fun a ha => u1 a (by omega))
      have hdn1 : dnA t A Y1 (k + 1) := by
        intro j hj hkj
        by_cases q : j = k
        · subst q
          refine ⟨fun e he => ?_, fun h3 => ?_⟩
          · rw [u2 e (by omega) (by omega), ← hA (45 + e) (by omega) (by omega)]
            exact h.1.rd (rc_m (w := e) hkm (by omega)) (fun _ => Nat.le_refl _)
          · have q3 := h.1.echo hkm (Nat.le_refl _) (by rw [hA 48 (by omega) (by omega)]; exact h3)
            rw [u2 8 (by omega) (by omega), u2 9 (by omega) (by omega), ← hA 53 (by omega) (by omega), ← hA 54 (by omega) (by omega)]
            exact q3
        · obtain ⟨b1, b2⟩ := hdn j (by omega) hkj
          have hl := cn_lt hkj (show j < k by omega)
          exact ⟨fun e he => by rw [u1 _ (by omega)]; exact b1 e he, fun h3 => by rw [u1 _ (by omega), u1 _ (by omega)]; exact b2 h3⟩
      obtain ⟨X', Y', r, Z', c1, c2, c3, c4, c5, c6, c7, c8, c9⟩ := ih (k + 1) fu gu X Y1 _ got (by omega) (by omega) (by omega) (by omega) h2 hK ht hA hdn1
      refine ⟨X', Y', r, Z', c1, ?_, c3, c4, c5, c6, c7, g1.trans c8, c9⟩
      rw [e1, ← cn_t hkp]; exact c2
    · have hge : ¬ t < A 45 k := fun z => hkp (decide_eq_true z)
      rw [if_neg hge, if_neg hge]
      have h0 : wS (k, Y 1) s l m T X Y := h.relo (k := k) (Nat.le_refl k)
      obtain ⟨X1, Y1, r1, e1, e1', h1, hK1, hr1, k13, ko, f1, g1⟩ := s_hear F hF h0 hT hK hkm (Nat.le_refl _)
      have hdn1 : dnA t A Y1 (k + 1) := by
        intro j hj hkj
        have hjk : j ≠ k := fun z => by subst z; exact hkp hkj
        obtain ⟨b1, b2⟩ := hdn j (by omega) hkj
        have hl := cn_lt hkj (show j < k by omega)
        refine ⟨fun e he => ?_, fun h3 => ?_⟩
        · rw [h1.old (by omega) (by omega) (by omega)]; exact b1 e he
        · rw [h1.old (by omega) (by omega) (by omega), h1.old (by omega) (by omega) (by omega)]; exact b2 h3
      obtain ⟨X', Y', r, Z', c1, c2, c3, c4, c5, c6, c7, c8, c9⟩ := ih (k + 1) fu gu X1 Y1 _ (got + r1) (by omega) (by omega) (by omega) (by omega) (h1.relo (k := k + 1) (Nat.le_succ k)) hK1 (by rw [ko 12 (by decide)]; exact ht) (fun r h1 h2 => by rw [f1 r (by simp; omega)]; exact hA r h1 h2) hdn1
      refine ⟨X', Y', r1 + r, Z', ?_, ?_, c3, c4, by rw [c5, k13, Int32.add_assoc], fun i hi => by rw [c6 i hi, ko i hi], f1.trans c7, g1.trans c8, c9⟩
      · rw [e1, qbd]; exact c1
      · rw [e1', qbd]
        unfold jX12_allCome_57
        rw [nI_add, ← cn_f hkp]
        rcases hr1 with rfl | rfl
        · rw [if_pos (show (nI 0, Y1).fst = 0 from rfl), ← Int32.add_assoc]; exact c2
        · rw [if_neg (show ¬ (nI 1, Y1).fst = 0 from (by decide : ¬ nI 1 = 0)), ← Int32.add_assoc]; exact c2
theorem s_come (F : Nat) (hF : 300 ≤ F) (hT : T.1 < 1000000) {X Y : zX} {Z : Nat → Int32} (h : wS (0, Z) s l m T X Y) (hK : K3 s X) : ∃ X' Y' r m', hX10_step_2 F F (nI 0) X = hX10_step_53 F F (nI 0) X' ∧ eX12_allCome F Y = some (r, Y') ∧ (∀ Z', wS (0, Z') s l m' T X' Y') ∧ K3 s X' ∧ X' 0 13 = X 0 13 + r ∧ (∀ i, i ≠ 13 → X' 0 i = X 0 i) ∧ fr (hrL ++ arL) X X' ∧ fr [1] Y Y' := by
  have hm := h.1.hm
  have hs := h.1.hs
  obtain ⟨X1, Y1, r, Z1, e1, e1', h1, hK1, k13, ko, f1, g1, hdn⟩ := s_come_loop F hF hT (X 0 12) X m 0 F F X Y Z 0 (by omega) (by omega) (by omega) (by omega) h hK rfl (fun _ _ _ => rfl) (fun j hj => absurd hj (Nat.not_lt_zero _))
  obtain ⟨X2, e2, f2, q7, q⟩ := x_drop F (X 0 12) X hm m 0 F X1 (by omega) (by omega) (by omega) h1.1.airs (fun r h1 h2 => ⟨fun j _ => by rw [f1 r (by simp; omega)], fun j hj => absurd hj (Nat.not_lt_zero _)⟩)
  have hc := cn_le (X 0 12) X m
  refine ⟨X2, zw Y1 1 12 (nI (cn (X 0 12) X m)), r, cn (X 0 12) X m, ?_, ?_, fun Z' => ?_, hK1.fr f2 (by decide), by rw [f2 0 (by decide), k13], fun i hi => by rw [f2 0 (by decide), ko i hi], (f1.sub (by decide)).trans (f2.sub (by decide)), fr_w g1 (by decide)⟩
  · rw [e1]
    unfold eX0_dropDue
    rw [show nI 0 = nI (cn (X 0 12) X 0) from rfl, show hX0_dropDue_4 F F (X 0 12) (nI (cn (X 0 12) X 0)) (nI (cn (X 0 12) X 0)) X1 = some X2 from e2, qbd]
  · unfold eX12_allCome
    rw [h.1.mn, h.1.airs]
    have := e1'
    rw [show (0 : Int32) + r = r from Int32.zero_add r] at this
    exact this
  · refine h1.newair Z' f2 (fr_w (fr.refl _ _) (by decide)) (by omega) q7 (zw_at _ _ _ _) (fun a h1 _ => zw_no (Or.inr h1)) ?_ (fun i hi => ?_) (fun i hi => ?_)
    · have j11 := h1.1.1.2.2.2.2.2.2.2.2.2.2
      intro n h1 h2
      obtain ⟨a1, a2, a3⟩ := j11 n h1 h2
      refine ⟨?_, ?_, ?_⟩
      · rw [f2 9 (by decide), f2 10 (by decide), f2 13 (by decide)]
        exact ⟨a1.1, a1.2.1, a1.2.2.1, fun k g1 g2 => by rw [f2 k (by simp; omega)]; exact a1.2.2.2 k g1 g2⟩
      · rw [f2 18 (by decide)]
        exact fun o ho => ⟨(a2 o ho).1, (a2 o ho).2.1, fun k g1 g2 => by rw [f2 k (by simp; omega)]; exact (a2 o ho).2.2 k g1 g2⟩
      · rw [f2 21 (by decide), f2 26 (by decide), f2 27 (by decide), f2 29 (by decide), f2 30 (by decide), f2 31 (by decide), f2 32 (by decide), f2 33 (by decide)]
        exact fun p hp => ⟨(a3 p hp).1, fun k g1 g2 => by rw [f2 k (by simp; omega)]; exact (a3 p hp).2.1 k g1 g2, (a3 p hp).2.2⟩
    · obtain ⟨j, hj, hkj, ej⟩ := cn_on _ _ _ _ hi
      have hJ := h1.1.1.2.2.2.2.2.2.2.2.1.2.2 j hj
      have eq : ∀ r, 45 ≤ r → r ≤ 54 → X2 r i = X1 r j := fun r g1 g2 => by rw [← ej, q r g1 g2 j hj hkj, f1 r (by simp; omega)]
      unfold J8k at hJ ⊢
      rw [eq 46 (by omega) (by omega), eq 47 (by omega) (by omega), eq 48 (by omega) (by omega), eq 49 (by omega) (by omega), eq 50 (by omega) (by omega), eq 52 (by omega) (by omega), eq 53 (by omega) (by omega), eq 54 (by omega) (by omega)]
      exact hJ
    · obtain ⟨j, hj, hkj, ej⟩ := cn_on _ _ _ _ hi
      obtain ⟨b1, b2⟩ := hdn j hj hkj
      have eq : ∀ r, 45 ≤ r → r ≤ 54 → X2 r i = X r j := fun r g1 g2 => by rw [← ej, q r g1 g2 j hj hkj]
      refine ⟨fun e he => ?_, fun h3 => ?_⟩
      · rw [eq (45 + e) (by omega) (by omega), zw_no (Or.inr (by omega)), ← ej]; exact b1 e he
      · rw [eq 48 (by omega) (by omega)] at h3
        rw [eq 53 (by omega) (by omega), eq 54 (by omega) (by omega), zw_no (Or.inr (by omega)), zw_no (Or.inr (by omega)), ← ej]; exact b2 h3
end CM
