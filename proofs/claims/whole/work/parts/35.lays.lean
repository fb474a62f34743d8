/-! the reference lays its ways -/
def gY (G : gT) (s : Nat) (Y : zX) : Prop := Y 1 0 = nI s ∧ Y 1 1 = nI (gl G) ∧ ∀ i, i < gl G → Y 1 (1482 + 6 * i + 0) = nI (go G i) ∧ Y 1 (1482 + 6 * i + 1) = nI (gt G i) ∧ Y 1 (1482 + 6 * i + 2) = nI (gd G i) ∧ Y 1 (1482 + 6 * i + 4) = (if gc G i then nI 1 else nI 0)
theorem gY.fr {G : gT} {s : Nat} {Y Y' : zX} {L : List Nat} (h : gY G s Y) (f : fr L Y Y') (hL : L.contains 1 = false) : gY G s Y' := by
  unfold gY at *; rw [f 1 hL]; exact h
def iw (G : gT) (s a b : Nat) : Bool := decide (a ≠ b ∧ gW G s a b < 1000000)
def wY (G : gT) (s : Nat) (Y : zX) : Prop := ∀ a b, a < s → b < s → Y 7 (6 * a + b) = nI (gW G s a b) ∧ Y 8 (6 * a + b) = (if iw G s a b then nI (gP G s a b) else -1) ∧ Y 9 (6 * a + b) = (if iw G s a b then nI (gH G s a b) else -1)
section LW
variable {G : gT} {s : Nat}
theorem y_bw (h : gOK G s) {Y : zX} (hY : gY G s Y) (F : Nat) (hF : 100 ≤ F) {a b : Nat} (ha : a < 6) (hb : b < 6) : eX12_between F (nI a) (nI b) Y = some (if bw G a b = gl G then -1 else nI (bw G a b)) := by
  have hl := h.2.1
  have key : ∀ (d k fu : Nat), gl G - k = d → k ≤ gl G → d < fu → hX12_between_2 F fu (nI a) (nI b) (nI k) Y = some (if ff (lnk G a b) d k = gl G then -1 else nI (ff (lnk G a b) d k)) := by
    intro d
    induction d with
    | zero =>
      intro k fu hd hk hf
      obtain ⟨fu, rfl⟩ : ∃ g, fu = g + 1 := ⟨fu - 1, by omega⟩
      have : k = gl G := by omega
      unfold hX12_between_2 jX12_between_56
      rw [hY.2.1, if_pos ((nI_leI (by omega) (by omega)).mpr (by omega)), if_pos ((nI_leI (by omega) (by omega)).mpr (by omega))]
      unfold ff
      rw [if_pos this]
    | succ d ih =>
      intro k fu hd hk hf
      obtain ⟨fu, rfl⟩ : ∃ g, fu = g + 1 := ⟨fu - 1, by omega⟩
      obtain ⟨e0, e1, -, -⟩ := hY.2.2 k (by omega)
      obtain ⟨g1, g2, -⟩ := h.2.2.1 k (by omega)
      have hs := h.1
      unfold hX12_between_2 jX12_between_30 jX12_between_56
      have hn : ¬ nI (gl G) ≤ nI k := nI_ge (by omega) (by omega)
      rw [hY.2.1, if_neg hn, y_lk Y (by omega) (by omega), qbd, y_lk Y (by omega) (by omega), qbd, if_neg hn, qbd, qbd, e0, e1]
      unfold ff
      simp only [nI_eq (show go G k < 2 ^ 31 by omega) (show a < 2 ^ 31 by omega), nI_eq (show go G k < 2 ^ 31 by omega) (show b < 2 ^ 31 by omega), nI_eq (show gt G k < 2 ^ 31 by omega) (show a < 2 ^ 31 by omega), nI_eq (show gt G k < 2 ^ 31 by omega) (show b < 2 ^ 31 by omega), nI_add]
      by_cases c : lnk G a b k = true
      · have hk' : ¬ k = gl G := by omega
        rw [if_pos c, if_neg hk']
        rcases of_decide_eq_true c with ⟨c1, c2⟩ | ⟨c1, c2⟩
        · rw [if_pos c1, if_pos c2]
        · by_cases c3 : go G k = a
          · by_cases c4 : gt G k = b
            · rw [if_pos c3, if_pos c4]
            · rw [if_pos c3, if_neg c4, if_pos c1, if_pos c2]
          · rw [if_neg c3, if_pos c1, if_pos c2]
      · rw [if_neg c]
        have c' := of_decide_eq_false (by simpa using c : lnk G a b k = false)
        have e := ih (k + 1) fu (by omega) (by omega) (by omega)
        rw [e]
        by_cases c1 : go G k = a
        · have c2 : ¬ gt G k = b := fun z => c' (Or.inl ⟨c1, z⟩)
          rw [if_pos c1, if_neg c2]
          by_cases c3 : go G k = b
          · have c4 : ¬ gt G k = a := fun z => c' (Or.inr ⟨c3, z⟩)
            rw [if_pos c3, if_neg c4]
          · rw [if_neg c3]
        · rw [if_neg c1]
          by_cases c3 : go G k = b
          · have c4 : ¬ gt G k = a := fun z => c' (Or.inr ⟨c3, z⟩)
            rw [if_pos c3, if_neg c4]
          · rw [if_neg c3]
  unfold eX12_between
  exact key (gl G) 0 F (by omega) (by omega) (by omega)
theorem nI_far : (1000000 : Int32) = nI 1000000 := rfl
theorem y_dl (h : gOK G s) {Y : zX} (hY : gY G s Y) (F : Nat) (hF : 100 ≤ F) {a b : Nat} (ha : a < 6) (hb : b < 6) : eX12_delayOf F (nI a) (nI b) Y = some (nI (dl G a b)) := by
  have hl := h.2.1
  have hbl := bw_le G a b
  unfold eX12_delayOf dl
  rw [y_bw h hY F hF ha hb, qbd]
  by_cases c : bw G a b = gl G
  · rw [if_pos c, if_pos rfl, if_pos c]; rfl
  · obtain ⟨-, -, e2, e4⟩ := hY.2.2 (bw G a b) (by omega)
    rw [if_neg c, if_neg (nI_ne_m1 (by omega)), if_neg c, y_lk Y (by omega) (by omega), qbd, e4]
    by_cases c2 : gc G (bw G a b) = true
    · rw [if_pos c2, if_pos rfl, if_pos c2]; rfl
    · rw [if_neg c2, if_neg (by decide), if_neg c2, y_lk Y (by omega) (by omega), qbd, e2]
/-- rows of the reference's own -/
theorem y6_in {a b : Nat} (ha : a < 6) (hb : b < 6) : zin (nI (6 * a + b)) 36 = true := qzin (by omega) (by omega)
theorem y6_zn {a b : Nat} (ha : a < 6) (hb : b < 6) : zn (nI (6 * a + b)) = 6 * a + b := qzn (by omega)
theorem lw1 (h : gOK G s) (F : Nat) (hF : 100 ≤ F) (K : Int32 → zX → Option zX) {a : Nat} (ha : a < s) : ∀ (d b fu : Nat) (Y : zX), s - b = d → b ≤ s → d < fu → gY G s Y → ∃ Y', hX12_laysWays_12 F K fu (nI a) (nI b) Y = K (nI (a + 1)) Y' ∧ fr [7] Y Y' ∧ (∀ i, (i < 6 * a + b ∨ 6 * a + s ≤ i) → Y' 7 i = Y 7 i) ∧ (∀ x, b ≤ x → x < s → Y' 7 (6 * a + x) = nI (wk G 0 a x)) := by
  have hs := h.1
  intro d
  induction d with
  | zero =>
    intro b fu Y hd hb hf hY
    obtain ⟨fu, rfl⟩ : ∃ g, fu = g + 1 := ⟨fu - 1, by omega⟩
    refine ⟨Y, ?_, fr.refl _ _, fun _ _ => rfl, fun x h1 h2 => by omega⟩
    unfold hX12_laysWays_12
    rw [hY.1, if_pos ((nI_leI (by omega) (by omega)).mpr (by omega)), nI_add]
  | succ d ih =>
    intro b fu Y hd hb hf hY
    obtain ⟨fu, rfl⟩ : ∃ g, fu = g + 1 := ⟨fu - 1, by omega⟩
    have e0 : (hX12_laysWays_12 F K (fu + 1) (nI a) (nI b) Y) = hX12_laysWays_12 F K fu (nI a) (nI (b + 1)) (zw Y 7 (6 * a + b) (nI (wk G 0 a b))) := by
      rw [hX12_laysWays_12]
      unfold jX12_laysWays_44 wk
      rw [hY.1, if_neg (nI_ge (by omega) (by omega)), a_6, y6_in (by omega) (by omega), qchk, y6_zn (by omega) (by omega), nI_add]
      by_cases q : a = b
      · subst q; rw [if_pos rfl, if_pos rfl]
      · rw [if_neg (fun z => q ((nI_eq (by omega) (by omega)).mp z)), if_neg q, y_dl h hY F hF (by omega) (by omega), qbd, qchk]
    obtain ⟨Y', e, f, g1, g2⟩ := ih (b + 1) fu (zw Y 7 (6 * a + b) (nI (wk G 0 a b))) (by omega) (by omega) (by omega) (hY.fr fr1 (by decide))
    refine ⟨Y', by rw [e0, e], (fr_w (fr.refl [7] Y) (by decide)).trans f, fun i hi => by rw [g1 i (by omega), zw_no (Or.inr (by omega))], fun x h1 h2 => ?_⟩
    by_cases q : x = b
    · subst q; rw [g1 _ (by omega), zw_at]
    · exact g2 x (by omega) h2
theorem lw2 (h : gOK G s) (F : Nat) (hF : 100 ≤ F) : ∀ (d a fu : Nat) (Y : zX), s - a = d → a ≤ s → d < fu → gY G s Y → (∀ x y, x < a → y < s → Y 7 (6 * x + y) = nI (wk G 0 x y)) → ∃ Y', hX12_laysWays_2 F fu (nI a) Y = hX12_laysWays_59 F F (nI 0) Y' ∧ fr [7] Y Y' ∧ (∀ x y, x < s → y < s → Y' 7 (6 * x + y) = nI (wk G 0 x y)) := by
  have hs := h.1
  intro d
  induction d with
  | zero =>
    intro a fu Y hd ha hf hY hp
    obtain ⟨fu, rfl⟩ : ∃ g, fu = g + 1 := ⟨fu - 1, by omega⟩
    refine ⟨Y, ?_, fr.refl _ _, fun x y h1 h2 => hp x y (by omega) h2⟩
    unfold hX12_laysWays_2
    rw [hY.1, if_pos ((nI_leI (by omega) (by omega)).mpr (by omega))]
  | succ d ih =>
    intro a fu Y hd ha hf hY hp
    obtain ⟨fu, rfl⟩ : ∃ g, fu = g + 1 := ⟨fu - 1, by omega⟩
    obtain ⟨Y1, e1, f1, g1, g2⟩ := lw1 h F hF (hX12_laysWays_2 F fu) (a := a) (by omega) s 0 F Y (by omega) (by omega) (by omega) hY
    obtain ⟨Y', e, f, g⟩ := ih (a + 1) fu Y1 (by omega) (by omega) (by omega) (hY.fr f1 (by decide)) (fun x y h1 h2 => by
      by_cases q : x = a
      · subst q; exact g2 y (by omega) h2
      · rw [g1 _ (by omega)]; exact hp x y (by omega) h2)
    refine ⟨Y', ?_, f1.trans f, g⟩
    unfold hX12_laysWays_2
    rw [hY.1, if_neg (nI_ge (by omega) (by omega)), e1, e]
/-- in the midst of round k -/
def mid (G : gT) (s k a b : Nat) (Y : zX) : Prop := ∀ x y, x < s → y < s → Y 7 (6 * x + y) = nI (if x < a ∨ (x = a ∧ y < b) then wk G (k + 1) x y else wk G k x y)
theorem lw3 (h : gOK G s) (F : Nat) (K59 : Int32 → zX → Option zX) (K69 : Int32 → Int32 → zX → Option zX) {k a : Nat} (hk : k < s) (ha : a < s) : ∀ (d b fu : Nat) (Y : zX), s - b = d → b ≤ s → d < fu → gY G s Y → mid G s k a b Y → ∃ Y', hX12_laysWays_79 F K59 K69 fu (nI k) (nI a) (nI b) Y = K69 (nI k) (nI (a + 1)) Y' ∧ fr [7] Y Y' ∧ mid G s k (a + 1) 0 Y' := by
  have hs := h.1
  intro d
  induction d with
  | zero =>
    intro b fu Y hd hb hf hY hm
    obtain ⟨fu, rfl⟩ : ∃ g, fu = g + 1 := ⟨fu - 1, by omega⟩
    refine ⟨Y, ?_, fr.refl _ _, fun x y h1 h2 => ?_⟩
    · unfold hX12_laysWays_79
      rw [hY.1, if_pos ((nI_leI (by omega) (by omega)).mpr (by omega)), nI_add]
    · rw [hm x y h1 h2]
      congr 1
      by_cases q : x < a + 1
      · rw [if_pos (by omega), if_pos (by omega)]
      · rw [if_neg (by omega), if_neg (by omega)]
  | succ d ih =>
    intro b fu Y hd hb hf hY hm
    obtain ⟨fu, rfl⟩ : ∃ g, fu = g + 1 := ⟨fu - 1, by omega⟩
    have e1 := hm a b ha (by omega)
    rw [if_neg (by omega)] at e1
    have e2 : Y 7 (6 * a + k) = nI (wk G k a k) := by
      rw [hm a k ha hk]
      split
      · rw [wk_row]
      · rfl
    have e3 : Y 7 (6 * k + b) = nI (wk G k k b) := by
      rw [hm k b hk (by omega)]
      split
      · rw [wk_col]
      · rfl
    have b1 := wk_far h k a b
    have b2 := wk_far h k a k
    have b3 := wk_far h k k b
    obtain ⟨Y', e, f, g⟩ := ih (b + 1) fu (zw Y 7 (6 * a + b) (nI (wk G (k + 1) a b))) (by omega) (by omega) (by omega) (hY.fr fr1 (by decide)) (fun x y h1 h2 => by
      by_cases q : x = a ∧ y = b
      · obtain ⟨rfl, rfl⟩ := q
        rw [zw_at, if_pos (by omega)]
      · rw [zw_no (Or.inr (by omega)), hm x y h1 h2]
        congr 1
        by_cases q2 : x < a ∨ (x = a ∧ y < b)
        · rw [if_pos q2, if_pos (by omega)]
        · rw [if_neg q2, if_neg (by omega)])
    refine ⟨Y', ?_, (fr_w (fr.refl [7] Y) (by decide)).trans f, g⟩
    unfold hX12_laysWays_79
    rw [hY.1, if_neg (nI_ge (by omega) (by omega)), a_6, a_6, a_6, y6_in (by omega) (by omega), qchk, y6_in (by omega) (by omega), qchk, y6_in (by omega) (by omega), qchk, qchk, qlet, y6_zn (by omega) (by omega), y6_zn (by omega) (by omega), y6_zn (by omega) (by omega), e1, e2, e3, nI_add, nI_add, zmn_nI (by omega) (by omega), ← wk_s, e]
theorem lw4 (h : gOK G s) (F : Nat) (hF : 100 ≤ F) (K59 : Int32 → zX → Option zX) {k : Nat} (hk : k < s) : ∀ (d a fu : Nat) (Y : zX), s - a = d → a ≤ s → d < fu → gY G s Y → mid G s k a 0 Y → ∃ Y', hX12_laysWays_69 F K59 fu (nI k) (nI a) Y = K59 (nI (k + 1)) Y' ∧ fr [7] Y Y' ∧ mid G s (k + 1) 0 0 Y' := by
  have hs := h.1
  intro d
  induction d with
  | zero =>
    intro a fu Y hd ha hf hY hm
    obtain ⟨fu, rfl⟩ : ∃ g, fu = g + 1 := ⟨fu - 1, by omega⟩
    refine ⟨Y, ?_, fr.refl _ _, fun x y h1 h2 => ?_⟩
    · unfold hX12_laysWays_69
      rw [hY.1, if_pos ((nI_leI (by omega) (by omega)).mpr (by omega)), nI_add]
    · rw [hm x y h1 h2, if_pos (by omega), if_neg (by omega)]
  | succ d ih =>
    intro a fu Y hd ha hf hY hm
    obtain ⟨fu, rfl⟩ : ∃ g, fu = g + 1 := ⟨fu - 1, by omega⟩
    obtain ⟨Y1, e1, f1, g1⟩ := lw3 h F K59 (hX12_laysWays_69 F K59 fu) hk (a := a) (by omega) s 0 F Y (by omega) (by omega) (by omega) hY hm
    obtain ⟨Y', e, f, g⟩ := ih (a + 1) fu Y1 (by omega) (by omega) (by omega) (hY.fr f1 (by decide)) g1
    refine ⟨Y', ?_, f1.trans f, g⟩
    unfold hX12_laysWays_69
    rw [hY.1, if_neg (nI_ge (by omega) (by omega)), e1, e]
theorem lw5 (h : gOK G s) (F : Nat) (hF : 100 ≤ F) : ∀ (d k fu : Nat) (Y : zX), s - k = d → k ≤ s → d < fu → gY G s Y → mid G s k 0 0 Y → ∃ Y', hX12_laysWays_59 F fu (nI k) Y = hX12_laysWays_151 F F (nI 0) Y' ∧ fr [7] Y Y' ∧ (∀ x y, x < s → y < s → Y' 7 (6 * x + y) = nI (gW G s x y)) := by
  have hs := h.1
  intro d
  induction d with
  | zero =>
    intro k fu Y hd hk hf hY hm
    obtain ⟨fu, rfl⟩ : ∃ g, fu = g + 1 := ⟨fu - 1, by omega⟩
    have : k = s := by omega
    subst this
    refine ⟨Y, ?_, fr.refl _ _, fun x y h1 h2 => ?_⟩
    · unfold hX12_laysWays_59
      rw [hY.1, if_pos ((nI_leI (by omega) (by omega)).mpr (by omega))]
    · rw [hm x y h1 h2, if_neg (by omega)]; rfl
  | succ d ih =>
    intro k fu Y hd hk hf hY hm
    obtain ⟨fu, rfl⟩ : ∃ g, fu = g + 1 := ⟨fu - 1, by omega⟩
    obtain ⟨Y1, e1, f1, g1⟩ := lw4 h F hF (hX12_laysWays_59 F fu) (k := k) (by omega) s 0 F Y (by omega) (by omega) (by omega) hY hm
    obtain ⟨Y', e, f, g⟩ := ih (k + 1) fu Y1 (by omega) (by omega) (by omega) (hY.fr f1 (by decide)) g1
    refine ⟨Y', ?_, f1.trans f, g⟩
    unfold hX12_laysWays_59
    rw [hY.1, if_neg (nI_ge (by omega) (by omega)), e1, e]
theorem y_isWay (h : gOK G s) {Y : zX} {a b : Nat} (ha : a < 6) (hb : b < 6) (h7 : Y 7 (6 * a + b) = nI (gW G s a b)) : eX12_isWay (nI a) (nI b) Y = some (if iw G s a b then nI 1 else nI 0) := by
  have hw := gW_far h a b
  unfold eX12_isWay iw
  rw [a_6, y6_in ha hb, qchk, y6_zn ha hb, h7, nI_far]
  by_cases q : a = b
  · rw [if_pos (by rw [q]), if_neg (by simp [q])]
  · rw [if_neg (fun z => q ((nI_eq (by omega) (by omega)).mp z))]
    by_cases c : gW G s a b < 1000000
    · rw [if_neg (fun z => by have := (nI_leI (by omega) (by omega)).mp z; omega), if_pos (by simp [q, c])]
    · rw [if_pos ((nI_leI (by omega) (by omega)).mpr (by omega)), if_neg (by simp [c])]
theorem y_aboveOf (h : gOK G s) {Y : zX} (hY : gY G s Y) (F : Nat) (hF : 100 ≤ F) {a b : Nat} (ha : a < s) (hb : b < s) (hab : a ≠ b) (hw : gW G s a b < 1000000) (h7 : ∀ x, x < s → Y 7 (6 * a + x) = nI (gW G s a x)) : eX12_aboveOf F (nI a) (nI b) Y = some (nI (gP G s a b)) := by
  have hs := h.1
  obtain ⟨p1, p2, p3, p4, p5⟩ := gP_ok h ha hab hw
  have key : ∀ (d p fu : Nat), gP G s a b - p = d → p ≤ gP G s a b → d < fu → hX12_aboveOf_2 F fu (nI a) (nI b) (nI p) Y = some (nI (gP G s a b)) := by
    intro d
    induction d with
    | zero =>
      intro p fu hd hp hf
      obtain ⟨fu, rfl⟩ : ∃ g, fu = g + 1 := ⟨fu - 1, by omega⟩
      have : p = gP G s a b := by omega
      subst this
      unfold hX12_aboveOf_2
      rw [if_neg (fun z => p2 ((nI_eq (by omega) (by omega)).mp z)), a_6, a_6, y6_in (by omega) (by omega), qchk, y6_in (by omega) (by omega), y_dl h hY F hF (by omega) (by omega), qbd, qchk, y6_zn (by omega) (by omega), y6_zn (by omega) (by omega), h7 _ p1, h7 b hb, nI_add, p3, if_pos rfl]
    | succ d ih =>
      intro p fu hd hp hf
      obtain ⟨fu, rfl⟩ : ∃ g, fu = g + 1 := ⟨fu - 1, by omega⟩
      have hn := gP_no (G := G) (s := s) (a := a) (b := b) (p := p) (by omega)
      have hi := ih (p + 1) fu (by omega) (by omega) (by omega)
      unfold hX12_aboveOf_2
      by_cases q : p = b
      · rw [if_pos (by rw [q]), nI_add, hi]
      · have hw2 := gW_far h a p
        have hd2 := (dl_pos h (a := p) (b := b)).2
        rw [if_neg (fun z => q ((nI_eq (by omega) (by omega)).mp z)), a_6, a_6, y6_in (by omega) (by omega), qchk, y6_in (by omega) (by omega), y_dl h hY F hF (by omega) (by omega), qbd, qchk, y6_zn (by omega) (by omega), y6_zn (by omega) (by omega), h7 p (by omega), h7 b hb, nI_add, if_neg (fun z => hn ⟨q, (nI_eq (by omega) (by omega)).mp z⟩), nI_add, hi]
  unfold eX12_aboveOf
  exact key _ 0 F rfl (by omega) (by omega)
theorem y_hopsOf (h : gOK G s) {Y : zX} (F : Nat) (hF : 100 ≤ F) {a b : Nat} (ha : a < s) (hb : b < s) (hw : gW G s a b < 1000000) (h8 : ∀ x, x < s → iw G s a x = true → Y 8 (6 * a + x) = nI (gP G s a x)) : eX12_hopsOf F (nI a) (nI b) Y = some (nI (gH G s a b)) := by
  have hs := h.1
  have key : ∀ (d b fu n : Nat), b < s → gW G s a b < 1000000 → gH G s a b = d → d < fu → hX12_hopsOf_5 F fu (nI a) (nI n) (nI b) Y = some (nI (n + d)) := by
    intro d
    induction d with
    | zero =>
      intro b fu n hb hw hd hf
      obtain ⟨fu, rfl⟩ : ∃ g, fu = g + 1 := ⟨fu - 1, by omega⟩
      have : b = a := by
        refine Decidable.byContradiction fun q => ?_
        have := gH_s h ha hb (fun z => q z.symm) hw
        omega
      subst this
      unfold hX12_hopsOf_5
      rw [if_pos rfl]; rfl
    | succ d ih =>
      intro b fu n hb hw hd hf
      obtain ⟨fu, rfl⟩ : ∃ g, fu = g + 1 := ⟨fu - 1, by omega⟩
      have hab : a ≠ b := by
        rintro rfl
        rw [gH_0 ha] at hd; omega
      obtain ⟨p1, p2, p3, p4, p5⟩ := gP_ok h ha hab hw
      have e := gH_s h ha hb hab hw
      unfold hX12_hopsOf_5
      rw [if_neg (fun z => hab ((nI_eq (by omega) (by omega)).mp z).symm), a_6, y6_in (by omega) (by omega), qchk, y6_zn (by omega) (by omega), h8 b hb (decide_eq_true ⟨hab, hw⟩), nI_add, ih (gP G s a b) fu (n + 1) p1 (by omega) (by omega) (by omega)]
      congr 2; omega
  have h5 := (gH_le h ha hb hw).2
  unfold eX12_hopsOf
  rw [key _ b F 0 hb hw rfl (by omega), Nat.zero_add]
theorem lw6 (h : gOK G s) (F : Nat) (hF : 100 ≤ F) (K : Int32 → zX → Option zX) {a : Nat} (ha : a < s) : ∀ (d b fu : Nat) (Y : zX), s - b = d → b ≤ s → d < fu → gY G s Y → (∀ x, x < s → Y 7 (6 * a + x) = nI (gW G s a x)) → ∃ Y', hX12_laysWays_161 F K fu (nI a) (nI b) Y = K (nI (a + 1)) Y' ∧ fr [8] Y Y' ∧ (∀ i, (i < 6 * a + b ∨ 6 * a + s ≤ i) → Y' 8 i = Y 8 i) ∧ (∀ x, b ≤ x → x < s → Y' 8 (6 * a + x) = (if iw G s a x then nI (gP G s a x) else -1)) := by
  have hs := h.1
  intro d
  induction d with
  | zero =>
    intro b fu Y hd hb hf hY h7
    obtain ⟨fu, rfl⟩ : ∃ g, fu = g + 1 := ⟨fu - 1, by omega⟩
    refine ⟨Y, ?_, fr.refl _ _, fun _ _ => rfl, fun x h1 h2 => by omega⟩
    unfold hX12_laysWays_161
    rw [hY.1, if_pos ((nI_leI (by omega) (by omega)).mpr (by omega)), nI_add]
  | succ d ih =>
    intro b fu Y hd hb hf hY h7
    obtain ⟨fu, rfl⟩ : ∃ g, fu = g + 1 := ⟨fu - 1, by omega⟩
    have e0 : (hX12_laysWays_161 F K (fu + 1) (nI a) (nI b) Y) = hX12_laysWays_161 F K fu (nI a) (nI (b + 1)) (zw Y 8 (6 * a + b) (if iw G s a b then nI (gP G s a b) else -1)) := by
      rw [hX12_laysWays_161]
      unfold jX12_laysWays_197
      rw [hY.1, if_neg (nI_ge (by omega) (by omega)), y_isWay h (by omega) (by omega) (h7 b (by omega)), qbd, a_6, y6_in (by omega) (by omega), y6_zn (by omega) (by omega), nI_add]
      by_cases q : iw G s a b = true
      · obtain ⟨q1, q2⟩ := of_decide_eq_true q
        rw [if_pos q, if_pos q, if_neg (by decide), y_aboveOf h hY F hF ha (by omega) q1 q2 h7, qbd, qchk]
      · rw [if_neg q, if_neg q, if_pos (show nI 0 = 0 from rfl), qchk]
    obtain ⟨Y', e, f, g1, g2⟩ := ih (b + 1) fu (zw Y 8 (6 * a + b) (if iw G s a b then nI (gP G s a b) else -1)) (by omega) (by omega) (by omega) (hY.fr fr1 (by decide)) (fun x hx => by rw [zw_no (Or.inl (by decide))]; exact h7 x hx)
    refine ⟨Y', by rw [e0, e], (fr_w (fr.refl [8] Y) (by decide)).trans f, fun i hi => by rw [g1 i (by omega), zw_no (Or.inr (by omega))], fun x h1 h2 => ?_⟩
    by_cases q : x = b
    · subst q; rw [g1 _ (by omega), zw_at]
    · exact g2 x (by omega) h2
theorem lw7 (h : gOK G s) (F : Nat) (hF : 100 ≤ F) : ∀ (d a fu : Nat) (Y : zX), s - a = d → a ≤ s → d < fu → gY G s Y → (∀ x y, x < s → y < s → Y 7 (6 * x + y) = nI (gW G s x y)) → (∀ x y, x < a → y < s → Y 8 (6 * x + y) = (if iw G s x y then nI (gP G s x y) else -1)) → ∃ Y', hX12_laysWays_151 F fu (nI a) Y = hX12_laysWays_212 F F (nI 0) Y' ∧ fr [8] Y Y' ∧ (∀ x y, x < s → y < s → Y' 8 (6 * x + y) = (if iw G s x y then nI (gP G s x y) else -1)) := by
  have hs := h.1
  intro d
  induction d with
  | zero =>
    intro a fu Y hd ha hf hY h7 hp
    obtain ⟨fu, rfl⟩ : ∃ g, fu = g + 1 := ⟨fu - 1, by omega⟩
    refine ⟨Y, ?_, fr.refl _ _, fun x y h1 h2 => hp x y (by omega) h2⟩
    unfold hX12_laysWays_151
    rw [hY.1, if_pos ((nI_leI (by omega) (by omega)).mpr (by omega))]
  | succ d ih =>
    intro a fu Y hd ha hf hY h7 hp
    obtain ⟨fu, rfl⟩ : ∃ g, fu = g + 1 := ⟨fu - 1, by omega⟩
    obtain ⟨Y1, e1, f1, g1, g2⟩ := lw6 h F hF (hX12_laysWays_151 F fu) (a := a) (by omega) s 0 F Y (by omega) (by omega) (by omega) hY (fun x hx => h7 a x (by omega) hx)
    obtain ⟨Y', e, f, g⟩ := ih (a + 1) fu Y1 (by omega) (by omega) (by omega) (hY.fr f1 (by decide)) (fun x y h1 h2 => by rw [f1 7 (by decide)]; exact h7 x y h1 h2) (fun x y h1 h2 => by
      by_cases q : x = a
      · subst q; exact g2 y (by omega) h2
      · rw [g1 _ (by omega)]; exact hp x y (by omega) h2)
    refine ⟨Y', ?_, f1.trans f, g⟩
    unfold hX12_laysWays_151
    rw [hY.1, if_neg (nI_ge (by omega) (by omega)), e1, e]
theorem lw8 (h : gOK G s) (F : Nat) (hF : 100 ≤ F) (K : Int32 → zX → Option zX) {a : Nat} (ha : a < s) : ∀ (d b fu : Nat) (Y : zX), s - b = d → b ≤ s → d < fu → gY G s Y → (∀ x, x < s → Y 7 (6 * a + x) = nI (gW G s a x)) → (∀ x, x < s → Y 8 (6 * a + x) = (if iw G s a x then nI (gP G s a x) else -1)) → ∃ Y', hX12_laysWays_222 F K fu (nI a) (nI b) Y = K (nI (a + 1)) Y' ∧ fr [9] Y Y' ∧ (∀ i, (i < 6 * a + b ∨ 6 * a + s ≤ i) → Y' 9 i = Y 9 i) ∧ (∀ x, b ≤ x → x < s → Y' 9 (6 * a + x) = (if iw G s a x then nI (gH G s a x) else -1)) := by
  have hs := h.1
  intro d
  induction d with
  | zero =>
    intro b fu Y hd hb hf hY h7 h8
    obtain ⟨fu, rfl⟩ : ∃ g, fu = g + 1 := ⟨fu - 1, by omega⟩
    refine ⟨Y, ?_, fr.refl _ _, fun _ _ => rfl, fun x h1 h2 => by omega⟩
    unfold hX12_laysWays_222
    rw [hY.1, if_pos ((nI_leI (by omega) (by omega)).mpr (by omega)), nI_add]
  | succ d ih =>
    intro b fu Y hd hb hf hY h7 h8
    obtain ⟨fu, rfl⟩ : ∃ g, fu = g + 1 := ⟨fu - 1, by omega⟩
    have e0 : (hX12_laysWays_222 F K (fu + 1) (nI a) (nI b) Y) = hX12_laysWays_222 F K fu (nI a) (nI (b + 1)) (zw Y 9 (6 * a + b) (if iw G s a b then nI (gH G s a b) else -1)) := by
      rw [hX12_laysWays_222]
      unfold jX12_laysWays_258
      rw [hY.1, if_neg (nI_ge (by omega) (by omega)), y_isWay h (by omega) (by omega) (h7 b (by omega)), qbd, a_6, y6_in (by omega) (by omega), y6_zn (by omega) (by omega), nI_add]
      by_cases q : iw G s a b = true
      · obtain ⟨q1, q2⟩ := of_decide_eq_true q
        rw [if_pos q, if_pos q, if_neg (by decide), y_hopsOf h F hF ha (by omega) q2 (fun x hx hi => by rw [h8 x hx, if_pos hi]), qbd, qchk]
      · rw [if_neg q, if_neg q, if_pos (show nI 0 = 0 from rfl), qchk]
    obtain ⟨Y', e, f, g1, g2⟩ := ih (b + 1) fu (zw Y 9 (6 * a + b) (if iw G s a b then nI (gH G s a b) else -1)) (by omega) (by omega) (by omega) (hY.fr fr1 (by decide)) (fun x hx => by rw [zw_no (Or.inl (by decide))]; exact h7 x hx) (fun x hx => by rw [zw_no (Or.inl (by decide))]; exact h8 x hx)
    refine ⟨Y', by rw [e0, e], (fr_w (fr.refl [9] Y) (by decide)).trans f, fun i hi => by rw [g1 i (by omega), zw_no (Or.inr (by omega))], fun x h1 h2 => ?_⟩
    by_cases q : x = b
    · subst q; rw [g1 _ (by omega), zw_at]
    · exact g2 x (by omega) h2
theorem lw9 (h : gOK G s) (F : Nat) (hF : 100 ≤ F) : ∀ (d a fu : Nat) (Y : zX), s - a = d → a ≤ s → d < fu → gY G s Y → (∀ x y, x < s → y < s → Y 7 (6 * x + y) = nI (gW G s x y)) → (∀ x y, x < s → y < s → Y 8 (6 * x + y) = (if iw G s x y then nI (gP G s x y) else -1)) → (∀ x y, x < a → y < s → Y 9 (6 * x + y) = (if iw G s x y then nI (gH G s x y) else -1)) → ∃ Y', hX12_laysWays_212 F fu (nI a) Y = some Y' ∧ fr [9] Y Y' ∧ (∀ x y, x < s → y < s → Y' 9 (6 * x + y) = (if iw G s x y then nI (gH G s x y) else -1)) := by
  have hs := h.1
  intro d
  induction d with
  | zero =>
    intro a fu Y hd ha hf hY h7 h8 hp
    obtain ⟨fu, rfl⟩ : ∃ g, fu = g + 1 := ⟨fu - 1, by omega⟩
    refine ⟨Y, ?_, fr.refl _ _, fun x y h1 h2 => hp x y (by omega) h2⟩
    unfold hX12_laysWays_212
    rw [hY.1, if_pos ((nI_leI (by omega) (by omega)).mpr (by omega))]
  | succ d ih =>
    intro a fu Y hd ha hf hY h7 h8 hp
    obtain ⟨fu, rfl⟩ : ∃ g, fu = g + 1 := ⟨fu - 1, by omega⟩
    obtain ⟨Y1, e1, f1, g1, g2⟩ := lw8 h F hF (hX12_laysWays_212 F fu) (a := a) (by omega) s 0 F Y (by omega) (by omega) (by omega) hY (fun x hx => h7 a x (by omega) hx) (fun x hx => h8 a x (by omega) hx)
    obtain ⟨Y', e, f, g⟩ := ih (a + 1) fu Y1 (by omega) (by omega) (by omega) (hY.fr f1 (by decide)) (fun x y h1 h2 => by rw [f1 7 (by decide)]; exact h7 x y h1 h2) (fun x y h1 h2 => by rw [f1 8 (by decide)]; exact h8 x y h1 h2) (fun x y h1 h2 => by
      by_cases q : x = a
      · subst q; exact g2 y (by omega) h2
      · rw [g1 _ (by omega)]; exact hp x y (by omega) h2)
    refine ⟨Y', ?_, f1.trans f, g⟩
    unfold hX12_laysWays_212
    rw [hY.1, if_neg (nI_ge (by omega) (by omega)), e1, e]
/-- the ways are laid -/
theorem y_lays (h : gOK G s) (F : Nat) (hF : 100 ≤ F) {Y : zX} (hY : gY G s Y) : ∃ Y', eX12_laysWays F Y = some Y' ∧ fr [7, 8, 9] Y Y' ∧ wY G s Y' := by
  have hs := h.1
  obtain ⟨Y1, e1, f1, g1⟩ := lw2 h F hF s 0 F Y (by omega) (by omega) (by omega) hY (fun x y h1 => absurd h1 (Nat.not_lt_zero _))
  have hY1 := hY.fr f1 (by decide)
  obtain ⟨Y2, e2, f2, g2⟩ := lw5 h F hF s 0 F Y1 (by omega) (by omega) (by omega) hY1 (fun x y h1 h2 => by rw [if_neg (by omega)]; exact g1 x y h1 h2)
  have hY2 := hY1.fr f2 (by decide)
  obtain ⟨Y3, e3, f3, g3⟩ := lw7 h F hF s 0 F Y2 (by omega) (by omega) (by omega) hY2 g2 (fun x y h1 => absurd h1 (Nat.not_lt_zero _))
  have hY3 := hY2.fr f3 (by decide)
  have g2' : ∀ x y, x < s → y < s → Y3 7 (6 * x + y) = nI (gW G s x y) := fun x y h1 h2 => by rw [f3 7 (by decide)]; exact g2 x y h1 h2
  obtain ⟨Y4, e4, f4, g4⟩ := lw9 h F hF s 0 F Y3 (by omega) (by omega) (by omega) hY3 g2' g3 (fun x y h1 => absurd h1 (Nat.not_lt_zero _))
  refine ⟨Y4, ?_, (((f1.sub (by decide)).trans (f2.sub (by decide))).trans (f3.sub (by decide))).trans (f4.sub (by decide)), fun a b ha hb => ⟨?_, ?_, g4 a b ha hb⟩⟩
  · unfold eX12_laysWays
    rw [e1, e2, e3, e4]
  · rw [f4 7 (by decide)]; exact g2' a b ha hb
  · rw [f4 8 (by decide)]; exact g3 a b ha hb
end LW
