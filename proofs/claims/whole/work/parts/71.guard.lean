/-! the fewest links around a node -/
theorem pow_l : ∀ l, l < 11 → nI 1 <<< (nI l &&& 31) = nI (2 ^ l) := by decide +kernel
theorem bc_ten : ∀ v, v < 1024 → ¬ nI 11 ≤ bcv (nI v) := by decide +kernel
theorem hb_lt {v l q : Nat} (hv : v < 2 ^ l) (hl : l ≤ 10) (hq : q < 32) (h : hb (nI v) q) : q < l := by
  have h10 : 2 ^ l ≤ 2 ^ 10 := Nat.pow_le_pow_right (by decide) hl
  rw [hb_nI (by omega) hq] at h
  refine Decidable.byContradiction fun z => ?_
  have : v < 2 ^ q := Nat.lt_of_lt_of_le hv (Nat.pow_le_pow_right (by decide) (by omega))
  rw [Nat.testBit_lt_two_pow this] at h
  cases h
theorem and_0 {x y : Int32} : x &&& y = 0 ↔ ∀ q, q < 32 → ¬ (hb x q ∧ hb y q) := by
  constructor
  · intro e q hq z
    have := (hb_andw (v := x) (w := y) hq).mpr z
    rw [e] at this
    exact hb_0 hq this
  · intro e
    refine hb_ext fun q hq => ?_
    rw [hb_andw hq]
    exact ⟨fun z => absurd z (e q hq), fun z => absurd z (hb_0 hq)⟩
theorem y_holder (Y : zX) {n : Nat} (hn : n < 6) (p : Int32) : eX12_isHolder (nI n) p Y = some (if Y 1 (18 + 244 * n + 0) = nI 1 ∧ ((Y 1 (18 + 244 * n + 1) >>> (p &&& 31)) &&& nI 1) = nI 1 then nI 1 else nI 0) := by
  unfold eX12_isHolder eX12_isUp eX12_hasIt
  rw [y_of Y hn (by decide), qbd, y_of Y hn (by decide), qbd]
  by_cases c : Y 1 (18 + 244 * n + 0) = nI 1
  · rw [if_pos c, qbd, if_neg (by decide), qbd]
    by_cases c2 : ((Y 1 (18 + 244 * n + 1) >>> (p &&& 31)) &&& nI 1) = nI 1
    · rw [if_neg (zB_n0.mpr c2), if_pos ⟨c, c2⟩]
    · rw [if_pos (zB_0.mpr c2), if_neg (fun z => c2 z.2)]
  · rw [if_neg c, qbd, if_pos (by decide), if_neg (fun z => c z.1)]
/-- v: who has it -/
def holdY (s : Nat) (p v : Int32) (Y : zX) : Prop := ∀ n, n < s → (hb v n ↔ (Y 1 (18 + 244 * n + 0) = nI 1 ∧ ((Y 1 (18 + 244 * n + 1) >>> (p &&& 31)) &&& nI 1) = nI 1))
theorem holdY.is {s : Nat} {p v : Int32} {Y : zX} (h : holdY s p v Y) {n : Nat} (hn : n < s) (hs : s ≤ 6) : (hb v n → eX12_isHolder (nI n) p Y = some (nI 1)) ∧ (¬ hb v n → eX12_isHolder (nI n) p Y = some (nI 0)) := by
  rw [y_holder Y (by omega) p]
  exact ⟨fun z => by rw [if_pos ((h n hn).mp z)], fun z => by rw [if_neg (fun w => z ((h n hn).mpr w))]⟩
/-- the same, but for what is cut -/
def cutY (l : Nat) (Y Y' : zX) : Prop := fr [1, 7, 8, 9] Y Y' ∧ ∀ a, (∀ i, i < l → a ≠ 1482 + 6 * i + 4) → Y' 1 a = Y 1 a
def cutC (l : Nat) (c : Int32) (Y : zX) : Prop := ∀ i, i < l → (hb c i → Y 1 (1482 + 6 * i + 4) = nI 1) ∧ (¬ hb c i → Y 1 (1482 + 6 * i + 4) = nI 0)
theorem cutY.rf (l : Nat) (Y : zX) : cutY l Y Y := ⟨fr.refl _ _, fun _ _ => rfl⟩
theorem cutY.trans {l : Nat} {Y Y' Y'' : zX} (h : cutY l Y Y') (h' : cutY l Y' Y'') : cutY l Y Y'' := ⟨h.1.trans h'.1, fun a ha => (h'.2 a ha).trans (h.2 a ha)⟩
theorem cutY.hold {l s : Nat} {p v : Int32} {Y Y' : zX} (h : cutY l Y Y') (hs : s ≤ 6) (hh : holdY s p v Y) : holdY s p v Y' := fun n hn => by
  rw [h.2 _ (fun i hi => by omega), h.2 _ (fun i hi => by omega)]
  exact hh n hn
theorem cutY.gY {s : Nat} {G : gT} {c : Int32} {Y Y' : zX} (h : cutY (gl G) Y Y') (hG : gOK G s) (hY : gY G s Y) (hc : cutC (gl G) c Y') : gY (cutG G c) s Y' := by
  have hgl := hG.2.1
  refine ⟨by rw [h.2 0 (fun i hi => by omega)]; exact hY.1, by rw [h.2 1 (fun i hi => by omega)]; exact hY.2.1, fun i hi => ?_⟩
  have hi' : i < gl G := hi
  obtain ⟨a1, a2, a3, -⟩ := hY.2.2 i hi'
  refine ⟨by rw [h.2 _ (fun j hj => by omega)]; exact a1, by rw [h.2 _ (fun j hj => by omega)]; exact a2, by rw [h.2 _ (fun j hj => by omega)]; exact a3, ?_⟩
  obtain ⟨b1, b2⟩ := hc i hi'
  by_cases z : hb c i
  · rw [b1 z, if_pos (cutG_c.mpr z)]
  · rw [b2 z, if_neg (fun w => z (cutG_c.mp w))]
theorem cutY.back {l : Nat} {c : Int32} {Y Y' : zX} (h : cutY l Y Y') (h1 : cutC l c Y) (h2 : cutC l c Y') : Y' 1 = Y 1 := by
  funext a
  by_cases z : ∀ i, i < l → a ≠ 1482 + 6 * i + 4
  · exact h.2 a z
  · have : ∃ i, i < l ∧ a = 1482 + 6 * i + 4 := Classical.byContradiction fun w => z fun i hi e => w ⟨i, hi, e⟩
    obtain ⟨i, hi, rfl⟩ := this
    by_cases y : hb c i
    · rw [(h1 i hi).1 y, (h2 i hi).1 y]
    · rw [(h1 i hi).2 y, (h2 i hi).2 y]
theorem y_isCut (F : Nat) {l : Nat} (hl : l ≤ 10) (c : Int32) : ∀ (d fu i : Nat) (Y : zX), l - i = d → i ≤ l → d < fu → Y 1 1 = nI l → ∃ Y', hX12_isCut_2 F fu c (nI i) Y = some Y' ∧ cutY l Y Y' ∧ (∀ j, j < i → Y' 1 (1482 + 6 * j + 4) = Y 1 (1482 + 6 * j + 4)) ∧ ∀ j, i ≤ j → j < l → (hb c j → Y' 1 (1482 + 6 * j + 4) = nI 1) ∧ (¬ hb c j → Y' 1 (1482 + 6 * j + 4) = nI 0) := by
  intro d
  induction d with
  | zero =>
    intro fu i Y h1 h2 h3 h4
    obtain ⟨fu, rfl⟩ := Nat.exists_eq_succ_of_ne_zero (show fu ≠ 0 by omega)
    unfold hX12_isCut_2
    rw [h4, if_pos ((nI_leI (by omega) (by omega)).mpr (by omega))]
    exact ⟨_, rfl, cutY.rf _ _, fun _ _ => rfl, fun j h1 h2 => by omega⟩
  | succ d ih =>
    intro fu i Y h1 h2 h3 h4
    obtain ⟨fu, rfl⟩ := Nat.exists_eq_succ_of_ne_zero (show fu ≠ 0 by omega)
    have hi : i < l := by omega
    have key : ∀ w, (hb c i → w = nI 1) → (¬ hb c i → w = nI 0) → ∃ Y', hX12_isCut_2 F fu c (nI (i + 1)) (zw Y 1 (1482 + 6 * i + 4) w) = some Y' ∧ cutY l Y Y' ∧ (∀ j, j < i → Y' 1 (1482 + 6 * j + 4) = Y 1 (1482 + 6 * j + 4)) ∧ ∀ j, i ≤ j → j < l → (hb c j → Y' 1 (1482 + 6 * j + 4) = nI 1) ∧ (¬ hb c j → Y' 1 (1482 + 6 * j + 4) = nI 0) := fun w w1 w0 => by
      obtain ⟨Y', k1, k2, k3, k4⟩ := ih fu (i + 1) (zw Y 1 (1482 + 6 * i + 4) w) (by omega) (by omega) (by omega) (by rw [zw_no (Or.inr (by omega))]; exact h4)
      refine ⟨Y', k1, ⟨(fr1 (k := 1)).sub (by decide) |>.trans k2.1, fun a ha => ?_⟩, fun j hj => ?_, fun j g1 g2 => ?_⟩
      · rw [k2.2 a ha, zw_no (Or.inr (ha i hi))]
      · rw [k3 j (by omega), zw_no (Or.inr (by omega))]
      · by_cases z : j = i
        · subst z
          rw [k3 j (by omega), zw_at]
          exact ⟨w1, w0⟩
        · exact k4 j (by omega) g2
    unfold hX12_isCut_2
    rw [h4, if_neg (nI_ge hi (by omega))]
    unfold jX12_isCut_32
    by_cases c1 : hb c i
    · rw [if_pos (show ((c >>> (nI i &&& 31)) &&& nI 1) = nI 1 from c1), a_l, y_in (by omega), qchk, qzn (by omega), nI_add]
      exact key _ (fun _ => rfl) (fun z => absurd c1 z)
    · rw [if_neg (show ¬ ((c >>> (nI i &&& 31)) &&& nI 1) = nI 1 from c1), a_l, y_in (by omega), qchk, qzn (by omega), nI_add]
      exact key _ (fun z => absurd z c1) (fun _ => rfl)
theorem y_cut (F : Nat) (hF : 300 ≤ F) {l : Nat} (hl : l ≤ 10) (c : Int32) {Y : zX} (e : Y 1 1 = nI l) : ∃ Y', eX12_isCut F c Y = some Y' ∧ cutY l Y Y' ∧ cutC l c Y' := by
  obtain ⟨Y', k1, k2, -, k4⟩ := y_isCut F hl c l F 0 Y rfl (Nat.zero_le _) (by omega) e
  exact ⟨Y', k1, k2, fun i hi => k4 i (Nat.zero_le _) hi⟩
theorem y_cuts (F : Nat) {l : Nat} (hl : l ≤ 10) {Y : zX} (h4 : Y 1 1 = nI l) : ∀ (d fu i : Nat) (acc : Int32), l - i = d → i ≤ l → d < fu → ∃ r, hX12_cuts_4 F fu acc (nI i) Y = some r ∧ ∀ q, q < 32 → (hb r q ↔ hb acc q ∨ (i ≤ q ∧ q < l ∧ Y 1 (1482 + 6 * q + 4) = nI 1)) := by
  intro d
  induction d with
  | zero =>
    intro fu i acc h1 h2 h3
    obtain ⟨fu, rfl⟩ := Nat.exists_eq_succ_of_ne_zero (show fu ≠ 0 by omega)
    unfold hX12_cuts_4
    rw [h4, if_pos ((nI_leI (by omega) (by omega)).mpr (by omega))]
    exact ⟨_, rfl, fun q hq => ⟨Or.inl, fun z => z.elim id (fun w => by omega)⟩⟩
  | succ d ih =>
    intro fu i acc h1 h2 h3
    obtain ⟨fu, rfl⟩ := Nat.exists_eq_succ_of_ne_zero (show fu ≠ 0 by omega)
    have hi : i < l := by omega
    unfold hX12_cuts_4
    rw [h4, if_neg (nI_ge hi (by omega)), y_lk _ (by omega) (by decide), qbd]
    unfold jX12_cuts_30
    by_cases c : Y 1 (1482 + 6 * i + 4) = nI 1
    · rw [if_pos c, nI_add]
      obtain ⟨r, e, k⟩ := ih fu (i + 1) (acc ||| (nI 1 <<< (nI i &&& 31))) (by omega) (by omega) (by omega)
      refine ⟨r, e, fun q hq => (k q hq).trans ?_⟩
      rw [hb_or (by omega) hq]
      constructor
      · rintro ((z | z) | ⟨z1, z2, z3⟩)
        · exact Or.inl z
        · subst z; exact Or.inr ⟨Nat.le_refl _, hi, c⟩
        · exact Or.inr ⟨by omega, z2, z3⟩
      · rintro (z | ⟨z1, z2, z3⟩)
        · exact Or.inl (Or.inl z)
        · by_cases w : q = i
          · exact Or.inl (Or.inr w)
          · exact Or.inr ⟨by omega, z2, z3⟩
    · rw [if_neg c, nI_add, or_0]
      obtain ⟨r, e, k⟩ := ih fu (i + 1) acc (by omega) (by omega) (by omega)
      refine ⟨r, e, fun q hq => (k q hq).trans ?_⟩
      constructor
      · rintro (z | ⟨z1, z2, z3⟩)
        · exact Or.inl z
        · exact Or.inr ⟨by omega, z2, z3⟩
      · rintro (z | ⟨z1, z2, z3⟩)
        · exact Or.inl z
        · by_cases w : q = i
          · subst w; exact absurd z3 c
          · exact Or.inr ⟨by omega, z2, z3⟩
section NO
variable {G : gT} {s : Nat}
theorem near_lp (hG : gOK G s) (F : Nat) {p v : Int32} {Y : zX} (hh : holdY s p v Y) (hn : Y 1 0 = nI s) {a : Nat} (ha : a < s) (hY : ∀ x, x < s → Y 7 (6 * a + x) = nI (gW G s a x)) : ∀ (d fu j b : Nat), s - j = d → j ≤ s → d < fu → b ≤ 1 → ∃ b', hX12_isNearOne_9 F fu (nI a) p (nI b) (nI j) Y = some (nI b', Y) ∧ b' ≤ 1 ∧ (b' = 1 ↔ b = 1 ∨ ∃ n, j ≤ n ∧ n < s ∧ iw G s a n = true ∧ hb v n) := by
  have hs := hG.1
  intro d
  induction d with
  | zero =>
    intro fu j b h1 h2 h3 h4
    obtain ⟨fu, rfl⟩ := Nat.exists_eq_succ_of_ne_zero (show fu ≠ 0 by omega)
    have z2 : zbl (nI b) = true := by
      have : b = 0 ∨ b = 1 := by omega
      rcases this with rfl | rfl <;> rfl
    unfold hX12_isNearOne_9
    rw [hn, if_pos ((nI_leI (by omega) (by omega)).mpr (by omega)), z2, qchk]
    exact ⟨b, rfl, h4, fun z => Or.inl z, fun z => z.elim id (fun ⟨n, w⟩ => by omega)⟩
  | succ d ih =>
    intro fu j b h1 h2 h3 h4
    obtain ⟨fu, rfl⟩ := Nat.exists_eq_succ_of_ne_zero (show fu ≠ 0 by omega)
    have hj : j < s := by omega
    have f1 : s - (j + 1) = d := by omega
    have f2 : j + 1 ≤ s := by omega
    have f3 : d < fu := by omega
    have yes : (b = 1 ∨ (iw G s a j = true ∧ hb v j)) → ∃ b', hX12_isNearOne_9 F fu (nI a) p (nI 1) (nI (j + 1)) Y = some (nI b', Y) ∧ b' ≤ 1 ∧ (b' = 1 ↔ b = 1 ∨ ∃ n, j ≤ n ∧ n < s ∧ iw G s a n = true ∧ hb v n) := fun y => by
      obtain ⟨b', k1, k2, k3⟩ := ih fu (j + 1) 1 f1 f2 f3 (Nat.le_refl _)
      refine ⟨b', k1, k2, fun _ => y.imp id (fun w => ⟨j, Nat.le_refl _, hj, w⟩), fun _ => k3.mpr (Or.inl rfl)⟩
    have no : b = 0 → ¬ (iw G s a j = true ∧ hb v j) → ∃ b', hX12_isNearOne_9 F fu (nI a) p (nI 0) (nI (j + 1)) Y = some (nI b', Y) ∧ b' ≤ 1 ∧ (b' = 1 ↔ b = 1 ∨ ∃ n, j ≤ n ∧ n < s ∧ iw G s a n = true ∧ hb v n) := fun b0 y => by
      obtain ⟨b', k1, k2, k3⟩ := ih fu (j + 1) 0 f1 f2 f3 (Nat.zero_le _)
      refine ⟨b', k1, k2, k3.trans ?_⟩
      constructor
      · rintro (z | ⟨n, z1, z2⟩)
        · omega
        · exact Or.inr ⟨n, by omega, z2⟩
      · rintro (z | ⟨n, z1, z2, z3⟩)
        · omega
        · by_cases w : n = j
          · subst w; exact absurd z3 y
          · exact Or.inr ⟨n, by omega, z2, z3⟩
    unfold hX12_isNearOne_9
    rw [hn, if_neg (nI_ge hj (by omega))]
    unfold jX12_isNearOne_42 jX12_isNearOne_46
    rw [nI_add]
    by_cases b0 : b = 0
    · rw [if_pos (show nI b = 0 by rw [b0]; rfl), y_isWay hG (by omega) (by omega) (hY j hj), qbd]
      obtain ⟨k1, k0⟩ := hh.is hj hs
      by_cases c1 : iw G s a j = true
      · rw [if_pos c1, if_neg (by decide)]
        by_cases c2 : hb v j
        · rw [k1 c2, qbd, if_neg (by decide)]
          exact yes (Or.inr ⟨c1, c2⟩)
        · rw [k0 c2, qbd, if_pos (by decide)]
          exact no b0 (fun z => c2 z.2)
      · rw [if_neg c1, if_pos (by decide)]
        exact no b0 (fun z => c1 z.1)
    · have b1 : b = 1 := by omega
      rw [if_neg (show ¬ nI b = 0 by rw [b1]; decide)]
      exact yes (Or.inl b1)
theorem y_nearOne (hG : gOK G s) (F : Nat) (hF : 300 ≤ F) {p v : Int32} {Y : zX} (gy : gY G s Y) (hh : holdY s p v Y) {a : Nat} (ha : a < s) : ∃ b Y', eX12_isNearOne F (nI a) p Y = some (nI b, Y') ∧ fr [7, 8, 9] Y Y' ∧ b ≤ 1 ∧ (b = 1 ↔ ∃ n, n < s ∧ iw G s a n = true ∧ hb v n) := by
  have hs := hG.1
  obtain ⟨Y', e, f, w⟩ := y_lays hG F (by omega) gy
  have hh' : holdY s p v Y' := fun n hn => by rw [f 1 (by decide)]; exact hh n hn
  obtain ⟨b, k1, k2, k3⟩ := near_lp hG F hh' (by rw [f 1 (by decide)]; exact gy.1) ha (fun x hx => (w a x ha hx).1) s F 0 0 rfl (Nat.zero_le _) (by omega) (by omega)
  refine ⟨b, Y', ?_, f, k2, k3.trans ⟨?_, ?_⟩⟩
  · unfold eX12_isNearOne
    rw [e, qbd]
    exact k1
  · rintro (z | ⟨n, z1, z2⟩)
    · omega
    · exact ⟨n, z2⟩
  · rintro ⟨n, z⟩
    exact Or.inr ⟨n, Nat.zero_le _, z⟩
/-- joined with none, by the class -/
theorem nj_iff (hG : gOK G s) {r v : Int32} {a : Nat} (ha : a < s) (hv : ¬ hb v a) (hvs : ∀ q, q < 32 → hb v q → q < s) (j2 : ∀ q, q < 32 → (hb r q ↔ q < s ∧ gW G s a q < 1000000)) : r &&& v = 0 ↔ ¬ ∃ n, n < s ∧ iw G s a n = true ∧ hb v n := by
  have hs := hG.1
  rw [and_0]
  constructor
  · rintro z ⟨n, n1, n2, n3⟩
    exact z n (by omega) ⟨(j2 n (by omega)).mpr ⟨n1, (iw_t n2).2⟩, n3⟩
  · intro z q hq y
    obtain ⟨y1, y2⟩ := (j2 q hq).mp y.1
    exact z ⟨q, y1, iw_mk (fun e => hv (e ▸ y.2)) y2, y.2⟩
end NO
section GU
variable {lo : Nat × (Nat → Int32)} {s l m : Nat} {T : Nat × Nat} {X Y : zX}
/-- one set of links more -/
theorem st_guard (F : Nat) (hF : 300 ≤ F) {G : gT} (hG : gOK G s) (hX : gX G X) (gy : gY G s Y) {p v : Int32} (hh : holdY s p v Y) {a : Nat} (ha : a < s) (hv : ¬ hb v a) (hvs : ∀ q, q < 32 → hb v q → q < s) {c c' : Int32} (hc : ∀ i, i < gl G → (hb c i ↔ hb c' i)) {Y1 : zX} (h1 : cutY (gl G) Y Y1) : ∃ r b Y2 Y3, eX2_joined F (nI a) c X = some r ∧ eX12_isCut F c' Y1 = some Y2 ∧ eX12_isNearOne F (nI a) p Y2 = some (nI b, Y3) ∧ cutY (gl G) Y Y3 ∧ b ≤ 1 ∧ (r &&& v = 0 ↔ b = 0) := by
  have hgl := hG.2.1
  have e11 : Y1 1 1 = nI (gl G) := by rw [h1.2 1 (fun i hi => by omega)]; exact gy.2.1
  obtain ⟨Y2, k1, k2, k3⟩ := y_cut F hF hgl c' e11
  have h2 := h1.trans k2
  have hc2 : cutC (gl G) c Y2 := fun i hi => ⟨fun z => (k3 i hi).1 ((hc i hi).mp z), fun z => (k3 i hi).2 (fun w => z ((hc i hi).mpr w))⟩
  obtain ⟨H, eH⟩ : ∃ H, H = cutG G c := ⟨_, rfl⟩
  have gy2 := h2.gY hG gy hc2
  obtain ⟨r, j1, j2⟩ := x_joined (c := c) hG hX F hF ha
  rw [← eH] at gy2 j2
  have hH : gOK H s := by rw [eH]; exact cutG_ok hG
  obtain ⟨b, Y3, n1, n2, n3, n4⟩ := y_nearOne hH F hF gy2 (h2.hold hG.1 hh) ha
  refine ⟨r, b, Y2, Y3, j1, k1, n1, h2.trans ⟨n2.sub (by decide), fun a _ => by rw [n2 1 (by decide)]⟩, n3, ?_⟩
  rw [nj_iff hH ha hv hvs j2, ← n4]
  omega
theorem r_guard (F : Nat) (hF : 300 ≤ F) {G : gT} (hG : gOK G s) (hX : gX G X) (gy : gY G s Y) {p v : Int32} (hh : holdY s p v Y) {a : Nat} (ha : a < s) (hv : ¬ hb v a) (hvs : ∀ q, q < 32 → hb v q → q < s) {old : Int32} (ho : cutC (gl G) old Y) (hoc : ∀ i, i < gl G → (hb old i ↔ hb (X 5 1) i)) : ∀ (d fu fu' b w : Nat) (Y1 : zX), 2 ^ gl G - b = d → b ≤ 2 ^ gl G → d < fu → d < fu' → w < 1024 → 1 ≤ b → cutY (gl G) Y Y1 → ∃ r Y', hX2_fewestAround_33 F fu (nI a) v (if w = 0 then -1 else nI w) (if w = 0 then nI 11 else bcv (nI w)) (nI b) X = some r ∧ hX12_guard_42 F fu' (nI a) p old (if w = 0 then -1 else nI w) (nI b) Y1 = some (r, Y') ∧ cutY (gl G) Y Y' ∧ Y' 1 = Y 1 := by
  have hgl := hG.2.1
  have h10 : 2 ^ gl G ≤ 2 ^ 10 := Nat.pow_le_pow_right (by decide) hgl
  intro d
  induction d with
  | zero =>
    intro fu fu' b w Y1 h1 h2 h3 h4 h5 h8 h6
    obtain ⟨fu, rfl⟩ := Nat.exists_eq_succ_of_ne_zero (show fu ≠ 0 by omega)
    obtain ⟨fu', rfl⟩ := Nat.exists_eq_succ_of_ne_zero (show fu' ≠ 0 by omega)
    have e11 : Y1 1 1 = nI (gl G) := by rw [h6.2 1 (fun i hi => by omega)]; exact gy.2.1
    obtain ⟨Y2, k1, k2, k3⟩ := y_cut F hF hgl old e11
    unfold hX2_fewestAround_33 hX12_guard_42
    rw [hX.1, e11, pow_l _ (by omega), if_pos ((nI_leI (by omega) (by omega)).mpr (by omega)), if_pos ((nI_leI (by omega) (by omega)).mpr (by omega)), k1, qbd]
    have h7 := h6.trans k2
    exact ⟨_, _, rfl, rfl, h7, h7.back ho k3⟩
  | succ d ih =>
    intro fu fu' b w Y1 h1 h2 h3 h4 h5 h8 h6
    obtain ⟨fu, rfl⟩ := Nat.exists_eq_succ_of_ne_zero (show fu ≠ 0 by omega)
    obtain ⟨fu', rfl⟩ := Nat.exists_eq_succ_of_ne_zero (show fu' ≠ 0 by omega)
    have hb' : b < 2 ^ gl G := by omega
    have e11 : Y1 1 1 = nI (gl G) := by rw [h6.2 1 (fun i hi => by omega)]; exact gy.2.1
    have skip := fun Y1 (h6 : cutY (gl G) Y Y1) => ih fu fu' (b + 1) w Y1 (by omega) (by omega) (by omega) (by omega) h5 (by omega) h6
    have take := fun Y1 (h6 : cutY (gl G) Y Y1) => ih fu fu' (b + 1) b Y1 (by omega) (by omega) (by omega) (by omega) (by omega) (by omega) h6
    have eand : (nI b &&& X 5 1 = 0) ↔ (nI b &&& old = 0) := by
      rw [and_0, and_0]
      constructor
      · intro z q hq y
        have hql := hb_lt hb' hgl hq y.1
        exact z q hq ⟨y.1, (hoc q hql).mp y.2⟩
      · intro z q hq y
        have hql := hb_lt hb' hgl hq y.1
        exact z q hq ⟨y.1, (hoc q hql).mpr y.2⟩
    have hor : ∀ i, i < gl G → (hb (X 5 1 ||| nI b) i ↔ hb (old ||| nI b) i) := fun i hi => by
      rw [hb_orw (by omega), hb_orw (by omega), hoc i hi]
    unfold hX2_fewestAround_33 hX12_guard_42
    rw [hX.1, e11, pow_l _ (by omega), if_neg (nI_ge hb' (by omega)), if_neg (nI_ge hb' (by omega))]
    unfold jX2_fewestAround_68 jX2_fewestAround_69 jX12_guard_82
    rw [nI_add, if_pos (show nI 0 = 0 from rfl), if_neg (show ¬ nI 1 = 0 by decide)]
    by_cases c1 : nI b &&& old = 0
    · rw [if_pos (eand.mpr c1), if_pos c1, bc_e, qbd]
      have step : ∃ r Y', (zbd (eX2_joined F (nI a) (X 5 1 ||| nI b) X) fun r3 => if (r3 &&& v) = 0 then zbd (some (bcv (nI b))) fun r6 => hX2_fewestAround_33 F fu (nI a) v (nI b) r6 (nI (b + 1)) X else hX2_fewestAround_33 F fu (nI a) v (if w = 0 then -1 else nI w) (if w = 0 then nI 11 else bcv (nI w)) (nI (b + 1)) X) = some r ∧ (zbd (eX12_isCut F (old ||| nI b) Y1) fun y2 => zbd (eX12_isNearOne F (nI a) p y2) fun y4 => if y4.1 = 0 then hX12_guard_42 F fu' (nI a) p old (nI b) (nI (b + 1)) y4.2 else hX12_guard_42 F fu' (nI a) p old (if w = 0 then -1 else nI w) (nI (b + 1)) y4.2) = some (r, Y') ∧ cutY (gl G) Y Y' ∧ Y' 1 = Y 1 := by
        obtain ⟨r, b2, Y2, Y3, k1, k2, k3, k4, k5, k6⟩ := st_guard F hF hG hX gy hh ha hv hvs hor h6
        rw [k1, qbd, qbd, k2, qbd, k3, qbd]
        dsimp only
        by_cases z : b2 = 0
        · have hb0 : b ≠ 0 := by omega
          have t := take Y3 k4
          rw [if_neg hb0, if_neg hb0] at t
          rw [if_pos (k6.mpr z), if_pos (show nI b2 = 0 by rw [z]; rfl)]
          exact t
        · rw [if_neg (fun y => z (k6.mp y)), if_neg (show ¬ nI b2 = 0 by rw [show b2 = 1 by omega]; decide)]
          exact skip Y3 k4
      by_cases c2 : w = 0
      · rw [if_neg (show ¬ (if w = 0 then nI 11 else bcv (nI w)) ≤ bcv (nI b) by rw [if_pos c2]; exact bc_ten b (by omega)), if_pos (show (if w = 0 then (-1 : Int32) else nI w) = -1 by rw [if_pos c2])]
        exact step
      · rw [if_neg (show ¬ (if w = 0 then (-1 : Int32) else nI w) = -1 by rw [if_neg c2]; exact nI_ne_m1 (by omega)), show (if w = 0 then (-1 : Int32) else nI w) = nI w from if_neg c2, show (if w = 0 then nI 11 else bcv (nI w)) = bcv (nI w) from if_neg c2, bc_e, qbd, qbd]
        rw [show (if w = 0 then (-1 : Int32) else nI w) = nI w from if_neg c2, show (if w = 0 then nI 11 else bcv (nI w)) = bcv (nI w) from if_neg c2] at step
        have sk := skip Y1 h6
        rw [show (if w = 0 then (-1 : Int32) else nI w) = nI w from if_neg c2, show (if w = 0 then nI 11 else bcv (nI w)) = bcv (nI w) from if_neg c2] at sk
        by_cases c3 : bcv (nI b) < bcv (nI w)
        · have c4 : ¬ bcv (nI w) ≤ bcv (nI b) := fun z => by
            rw [Int32.lt_iff_toInt_lt] at c3; rw [Int32.le_iff_toInt_le] at z; omega
          rw [if_neg c4, qbd, if_pos c3]
          exact step
        · have c4 : bcv (nI w) ≤ bcv (nI b) := by
            rw [Int32.lt_iff_toInt_lt] at c3; rw [Int32.le_iff_toInt_le]; omega
          rw [if_pos c4, qbd, if_neg c3]
          exact sk
    · rw [if_neg (fun z => c1 (eand.mp z)), if_neg c1]
      exact skip Y1 h6
end GU
theorem cutG_self (l : Nat) (X : zX) : cutG (gOf l X) (X 5 1) = gOf l X := rfl
section F19
variable {T : Nat} {μ : zM}
theorem f_guard (F : Nat) (hF : 3000 ≤ F) (h : INV T μ) (x0 x1 : Int32) : ∃ res, eX11_guard F x0 x1 μ = some (res, μ) ∧ okR T μ res [eIO] (eX12_guard F x0 x1 (μ 1)) := by
  obtain ⟨s, l, nx, m, Z, hw, hW, hK⟩ := h.2.2.2.1
  have hs := hw.hs
  have hl := hw.hl
  have hw0 := hw.row (Y' := zw (μ 1) 0 0 (nI 0)) (r_0 _)
  obtain ⟨hG, hX⟩ := gOf_X hw.1.1 hw.1.2.2.2.2.2.2.2.2.2.1
  unfold eX11_guard eX12_guard
  rw [hw.nodes, zg_id]
  rcases rg_cases x0 (N := s) (by omega) with ⟨n, hn, rfl⟩ | hx
  · rw [if_neg (rg_in hn (by omega))]
    rcases rg_cases x1 (N := 12) (by omega) with ⟨p, hp, rfl⟩ | hy
    · rw [if_neg (rg_in hp (by omega)), y_nnp1 hw hn hp, qbd, if_pos q00]
      dsimp only
      obtain ⟨v, e4, kv⟩ := r_holdB F hw0 (nI p) s F 0 (nI 0) rfl (Nat.zero_le _) (by omega)
      have e4' : eX4_holdersOf F (nI p) (μ 4) = some v := e4
      have hvs : ∀ q, q < 32 → hb v q → q < s := fun q hq z => ((kv q hq).mp z).elim (fun w => absurd w (hb_0 hq)) (fun w => w.2.1)
      have hh : holdY s (nI p) v (zw (μ 1) 0 0 (nI 0)) := fun q hq => by
        have e := y_holder (zw (μ 1) 0 0 (nI 0)) (n := q) (by omega) (nI p)
        rw [kv q (by omega)]
        by_cases c : (((μ 4) 3 1 >>> (nI q &&& 31)) &&& nI 1) = nI 1 ∧ (((μ 4) 9 q >>> (nI p &&& 31)) &&& nI 1) = nI 1
        · rw [r_hold1 hw0 hq c.1 c.2] at e
          refine ⟨fun _ => ?_, fun _ => Or.inr ⟨Nat.zero_le _, hq, c⟩⟩
          refine Classical.byContradiction fun z => ?_
          rw [if_neg z] at e
          exact absurd e (by decide)
        · rw [r_hold0 hw0 hq c] at e
          refine ⟨fun z => z.elim (fun w => absurd w (hb_0 (by omega))) (fun w => absurd w.2.2 c), fun z => ?_⟩
          rw [if_pos z] at e
          exact absurd e (by decide)
      obtain ⟨i1, i0⟩ := hh.is hn hs
      obtain ⟨r2, j1, j2⟩ := x_joined (c := (μ 4) 5 1) hG hX F (by omega) hn
      rw [cutG_self] at j2
      unfold eX2_fewestAround
      rw [e4', qbd, j1, qbd]
      by_cases c1 : hb v n
      · rw [i1 c1, qbd, if_neg (show ¬ nI 1 = 0 by decide), if_pos (show ((v >>> (nI n &&& 31)) &&& nI 1) = nI 1 from c1), ite_self, qbd]
        exact ⟨_, rfl, okR_val h (st_0 _) (r_0 _) (zw_at _ _ _ _) _ _⟩
      · rw [i0 c1, qbd, if_pos (show nI 0 = 0 from rfl), if_neg (show ¬ ((v >>> (nI n &&& 31)) &&& nI 1) = nI 1 from c1)]
        have gy := r_gY hw0
        obtain ⟨b, Y3, n1, n2, n3, n4⟩ := y_nearOne hG F (by omega) gy hh hn
        have nj := (nj_iff hG hn c1 hvs j2).trans (not_congr n4.symm)
        have st3 : stY (μ 1) Y3 := (st_0 _).trans (stY.fr n2 (by decide))
        have r3 : Y3 1 = (μ 1) 1 := (n2 1 (by decide)).trans (r_0 _)
        have z3 : Y3 0 0 = nI 0 := by rw [n2 0 (by decide), zw_at]
        rw [n1, qbd]
        dsimp only
        by_cases c2 : b = 1
        · have hw3 := hw.row (Y' := Y3) r3
          obtain ⟨old, o1, o2⟩ := y_cuts F hl (Y := Y3) (by rw [hw3.ln, hw3.links]) l F 0 (nI 0) rfl (Nat.zero_le _) (by omega)
          have o1' : eX12_cuts F Y3 = some old := o1
          have hcells := hw3.2.2.2.1
          have hoc : ∀ i, i < l → (hb old i ↔ hb ((μ 4) 5 1) i) := fun i hi => by
            rw [o2 i (by omega)]
            constructor
            · rintro (z | ⟨-, -, z⟩)
              · exact absurd z (hb_0 (by omega))
              · refine Classical.byContradiction fun w => ?_
                rw [(hcells i hi).2 w] at z
                exact absurd z (by decide)
            · intro z
              exact Or.inr ⟨Nat.zero_le _, hi, (hcells i hi).1 z⟩
          have ho : cutC l old Y3 := fun i hi => ⟨fun z => (hcells i hi).1 ((hoc i hi).mp z), fun z => (hcells i hi).2 (fun w => z ((hoc i hi).mpr w))⟩
          have hh3 : holdY s (nI p) v Y3 := fun q hq => by rw [n2 1 (by decide)]; exact hh q hq
          have hp2 : 1 ≤ 2 ^ l := Nat.one_le_two_pow
          have h10 : 2 ^ l ≤ 2 ^ 10 := Nat.pow_le_pow_right (by decide) hl
          obtain ⟨r, Y', k1, k2, k3, k4⟩ := r_guard F (by omega) hG hX (r_gY hw3) hh3 hn c1 hvs ho hoc (2 ^ l - 1) F F 1 0 Y3 rfl hp2 (by omega) (by omega) (by omega) (Nat.le_refl _) (cutY.rf _ _)
          have k1' : hX2_fewestAround_33 F F (nI n) v (-1) (nI 11) (nI 1) (μ 4) = some r := k1
          have k2' : hX12_guard_42 F F (nI n) (nI p) old (-1) (nI 1) Y3 = some (r, Y') := k2
          rw [if_neg (fun z => (nj.mp z) c2), if_neg (show ¬ nI b = 0 by rw [c2]; decide), k1', qbd, o1', qbd, k2']
          exact ⟨_, rfl, okR_val h (st3.trans (stY.fr k3.1 (by decide))) (k4.trans r3) (by rw [k3.1 0 (by decide)]; exact z3) _ _⟩
        · have b0 : b = 0 := by omega
          rw [if_pos (nj.mpr c2), if_pos (show nI b = 0 by rw [b0]; rfl), qbd]
          exact ⟨_, rfl, okR_val h st3 r3 z3 _ _⟩
    · rw [if_pos hy, y_nnp2 hw (Or.inr hy), qbd, if_neg q11]
      exact ⟨_, rfl, okR_thr h (st_00 _ _) (r_00 _ _) 0 rfl (zw_at _ _ _ _) _⟩
  · rw [if_pos hx, y_nnp2 hw (Or.inl hx), qbd, if_neg q11]
    exact ⟨_, rfl, okR_thr h (st_00 _ _) (r_00 _ _) 0 rfl (zw_at _ _ _ _) _⟩
end F19
