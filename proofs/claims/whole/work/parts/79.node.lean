/-! lines of a text: a node -/
section ND
variable {tp : Nat → Int32} {e b a : Nat} {X Y : zX} {T : Nat × Nat} {μ : zM}
theorem y_knows (Y : zX) {n o : Nat} (hn : n < 6) (ho : o < 6) : eX12_knows (nI n) (nI o) Y = some (zw (zw (zw Y 1 (18 + 244 * n + (10 + 3 * o + 0)) (if n = o then nI 1 else nI 4)) 1 (18 + 244 * n + (10 + 3 * o + 1)) (-1)) 1 (18 + 244 * n + (10 + 3 * o + 2)) (-1)) := by
  unfold eX12_knows jX12_knows_20
  simp only [a_o]
  rw [y_in (show 18 + 244 * n + (10 + 3 * o + 0) < 2422 by omega), y_in (show 18 + 244 * n + (10 + 3 * o + 1) < 2422 by omega), y_in (show 18 + 244 * n + (10 + 3 * o + 2) < 2422 by omega), qzn (show 18 + 244 * n + (10 + 3 * o + 0) < 2147483648 by omega), qzn (show 18 + 244 * n + (10 + 3 * o + 1) < 2147483648 by omega), qzn (show 18 + 244 * n + (10 + 3 * o + 2) < 2147483648 by omega)]
  by_cases c : n = o
  · rw [if_pos (show nI n = nI o by rw [c]), if_pos c]; rfl
  · rw [if_neg (fun z => c ((nI_eq (by omega) (by omega)).mp z)), if_neg c]; rfl
/-- the cells of two -/
def kC (n o j : Nat) : Nat := 18 + 244 * n + (10 + 3 * o + j)
def kV (j : Nat) : Int32 := if j = 0 then nI 4 else -1
theorem kC_ne {n o j n' o' j' : Nat} (ho : o < 6) (ho' : o' < 6) (hj : j < 3) (hj' : j' < 3) (h : n ≠ n' ∨ o ≠ o' ∨ j ≠ j') : kC n o j ≠ kC n' o' j' := by
  unfold kC
  refine nd_ne (by omega) (by omega) ?_
  omega
theorem y_kn1 {n o : Nat} (hn : n < 6) (ho : o < 6) (hne : n ≠ o) (Y : zX) : ∃ Y', eX12_knows (nI n) (nI o) Y = some Y' ∧ fr [1] Y Y' ∧ (∀ j, j < 3 → Y' 1 (kC n o j) = kV j) ∧ ∀ a, (∀ j, j < 3 → a ≠ kC n o j) → Y' 1 a = Y 1 a := by
  refine ⟨_, y_knows Y hn ho, fr_w (fr_w fr1 (by decide)) (by decide), fun j hj => ?_, fun a ha => ?_⟩
  · rw [if_neg hne]
    have : j = 0 ∨ j = 1 ∨ j = 2 := by omega
    unfold kC kV
    rcases this with rfl | rfl | rfl
    · rw [zw_no (Or.inr (by omega)), zw_no (Or.inr (by omega)), zw_at]; rfl
    · rw [zw_no (Or.inr (by omega)), zw_at]; rfl
    · rw [zw_at]; rfl
  · have h0 := ha 0 (by decide); have h1 := ha 1 (by decide); have h2 := ha 2 (by decide)
    unfold kC at h0 h1 h2
    rw [zw_no (Or.inr h2), zw_no (Or.inr h1), zw_no (Or.inr h0)]
theorem y_kn0 {n : Nat} (hn : n < 6) (Y : zX) : ∃ Y', eX12_knows (nI n) (nI n) Y = some Y' ∧ fr [1] Y Y' ∧ ∀ a, (∀ j, j < 3 → a ≠ kC n n j) → Y' 1 a = Y 1 a := by
  refine ⟨_, y_knows Y hn hn, fr_w (fr_w fr1 (by decide)) (by decide), fun a ha => ?_⟩
  have h0 := ha 0 (by decide); have h1 := ha 1 (by decide); have h2 := ha 2 (by decide)
  unfold kC at h0 h1 h2
  rw [zw_no (Or.inr h2), zw_no (Or.inr h1), zw_no (Or.inr h0)]
theorem y_nk (F : Nat) {s : Nat} (hs : s < 6) : ∀ (d fu o : Nat) (Y : zX), 6 - o = d → o ≤ 6 → d < fu → ∃ Y', hX12_readNode_122 F fu (nI s) (nI o) Y = hX12_readNode_148 F F (nI s) (nI 0) Y' ∧ fr [1] Y Y' ∧ (∀ q j, o ≤ q → q < 6 → q ≠ s → j < 3 → Y' 1 (kC s q j) = kV j ∧ Y' 1 (kC q s j) = kV j) ∧ ∀ a, (∀ q j, o ≤ q → q < 6 → j < 3 → a ≠ kC s q j ∧ a ≠ kC q s j) → Y' 1 a = Y 1 a := by
  intro d
  induction d with
  | zero =>
    intro fu o Y h1 h2 h3
    obtain ⟨fu, rfl⟩ := Nat.exists_eq_succ_of_ne_zero (show fu ≠ 0 by omega)
    refine ⟨Y, ?_, fr.refl _ _, fun q j g1 g2 => by omega, fun _ _ => rfl⟩
    conv => lhs; unfold hX12_readNode_122
    rw [if_pos ((nI_leI (by omega) (by omega)).mpr (by omega))]
  | succ d ih =>
    intro fu o Y h1 h2 h3
    obtain ⟨fu, rfl⟩ := Nat.exists_eq_succ_of_ne_zero (show fu ≠ 0 by omega)
    have ho : o < 6 := by omega
    by_cases c : s = o
    · subst c
      obtain ⟨Y1, e1, f1, k1⟩ := y_kn0 hs Y
      obtain ⟨Y2, e2, f2, k2⟩ := y_kn0 hs Y1
      obtain ⟨Y', e3, f3, k3, k4⟩ := ih fu (s + 1) Y2 (by omega) (by omega) (by omega)
      refine ⟨Y', ?_, (f1.trans f2).trans f3, fun q j g1 g2 g3 g4 => k3 q j (by omega) g2 g3 g4, fun a ha => ?_⟩
      · conv => lhs; unfold hX12_readNode_122
        rw [if_neg (nI_ge ho (by omega)), e1, qbd, e2, qbd, nI_add, e3]
      · have hh : ∀ j, j < 3 → a ≠ kC s s j := fun j hj => (ha s j (Nat.le_refl _) hs hj).1
        rw [k4 a (fun q j g1 g2 g3 => ha q j (by omega) g2 g3), k2 a hh, k1 a hh]
    · obtain ⟨Y1, e1, f1, v1, k1⟩ := y_kn1 hs ho c Y
      obtain ⟨Y2, e2, f2, v2, k2⟩ := y_kn1 ho hs (fun z => c z.symm) Y1
      obtain ⟨Y', e3, f3, k3, k4⟩ := ih fu (o + 1) Y2 (by omega) (by omega) (by omega)
      refine ⟨Y', ?_, (f1.trans f2).trans f3, fun q j g1 g2 g3 g4 => ?_, fun a ha => ?_⟩
      · conv => lhs; unfold hX12_readNode_122
        rw [if_neg (nI_ge ho (by omega)), e1, qbd, e2, qbd, nI_add, e3]
      · by_cases z : q = o
        · subst z
          refine ⟨?_, ?_⟩
          · rw [k4 _ (fun q' j' g1' g2' g3' => ⟨kC_ne g2 g2' g4 g3' (by omega), kC_ne g2 hs g4 g3' (by omega)⟩), k2 _ (fun j' hj' => kC_ne g2 hs g4 hj' (by omega))]
            exact v1 j g4
          · rw [k4 _ (fun q' j' g1' g2' g3' => ⟨kC_ne hs g2' g4 g3' (by omega), kC_ne hs hs g4 g3' (by omega)⟩)]
            exact v2 j g4
        · exact k3 q j (by omega) g2 g3 g4
      · rw [k4 a (fun q j g1 g2 g3 => ha q j (by omega) g2 g3), k2 a (fun j hj => (ha o j (Nat.le_refl _) ho hj).2), k1 a (fun j hj => (ha o j (Nat.le_refl _) ho hj).1)]
def p4 (w : Nat) : Prop := w = 0 ∨ w = 5 ∨ w = 9 ∨ w = 10
theorem y_np (F : Nat) {s : Nat} (hs : s < 6) : ∀ (d fu p : Nat) (Y : zX), 12 - p = d → p ≤ 12 → d < fu → ∃ Y', hX12_readNode_148 F fu (nI s) (nI p) Y = some (nI 1, zw Y' 1 0 ((Y' 1 0) + nI 1)) ∧ fr [1] Y Y' ∧ (∀ q w, p ≤ q → q < 12 → p4 w → Y' 1 (18 + 244 * s + (28 + 18 * q + w)) = -1) ∧ ∀ a, (∀ q w, p ≤ q → q < 12 → p4 w → a ≠ 18 + 244 * s + (28 + 18 * q + w)) → Y' 1 a = Y 1 a := by
  intro d
  induction d with
  | zero =>
    intro fu p Y h1 h2 h3
    obtain ⟨fu, rfl⟩ := Nat.exists_eq_succ_of_ne_zero (show fu ≠ 0 by omega)
    refine ⟨Y, ?_, fr.refl _ _, fun q w g1 g2 => by omega, fun _ _ => rfl⟩
    unfold hX12_readNode_148
    rw [if_pos ((nI_leI (by omega) (by omega)).mpr (by omega))]
  | succ d ih =>
    intro fu p Y h1 h2 h3
    obtain ⟨fu, rfl⟩ := Nat.exists_eq_succ_of_ne_zero (show fu ≠ 0 by omega)
    have hp : p < 12 := by omega
    obtain ⟨Y', e1, f1, k1, k2⟩ := ih fu (p + 1) (zw (zw (zw (zw Y 1 (18 + 244 * s + (28 + 18 * p + 0)) (-1)) 1 (18 + 244 * s + (28 + 18 * p + 5)) (-1)) 1 (18 + 244 * s + (28 + 18 * p + 9)) (-1)) 1 (18 + 244 * s + (28 + 18 * p + 10)) (-1)) (by omega) (by omega) (by omega)
    refine ⟨Y', ?_, (fr_w (fr_w (fr_w fr1 (by decide)) (by decide)) (by decide)).trans f1, fun q w g1 g2 g3 => ?_, fun a ha => ?_⟩
    · unfold hX12_readNode_148 eX12_hasItFrom
      simp only [a_p]
      rw [if_neg (nI_ge hp (by omega)), y_in (show 18 + 244 * s + (28 + 18 * p + 0) < 2422 by omega), qchk, qlet, y_in (show 18 + 244 * s + (28 + 18 * p + 5) < 2422 by omega), qchk, qlet, y_in (show 18 + 244 * s + (28 + 18 * p + 9) < 2422 by omega), qchk, qlet, y_in (show 18 + 244 * s + (28 + 18 * p + 10) < 2422 by omega), qchk, qlet, qbd, qzn (show 18 + 244 * s + (28 + 18 * p + 0) < 2147483648 by omega), qzn (show 18 + 244 * s + (28 + 18 * p + 5) < 2147483648 by omega), qzn (show 18 + 244 * s + (28 + 18 * p + 9) < 2147483648 by omega), qzn (show 18 + 244 * s + (28 + 18 * p + 10) < 2147483648 by omega), nI_add]
      exact e1
    · by_cases z : q = p
      · subst z
        rw [k2 _ (fun q' w' g1' g2' g3' => by unfold p4 at g3 g3'; omega)]
        unfold p4 at g3
        rcases g3 with rfl | rfl | rfl | rfl
        · rw [zw_no (Or.inr (by omega)), zw_no (Or.inr (by omega)), zw_no (Or.inr (by omega)), zw_at]
        · rw [zw_no (Or.inr (by omega)), zw_no (Or.inr (by omega)), zw_at]
        · rw [zw_no (Or.inr (by omega)), zw_at]
        · rw [zw_at]
      · exact k1 q w (by omega) g2 g3
    · rw [k2 a (fun q w g1 g2 g3 => ha q w (by omega) g2 g3), zw_no (Or.inr (ha p 10 (Nat.le_refl _) hp (by unfold p4; omega))), zw_no (Or.inr (ha p 9 (Nat.le_refl _) hp (by unfold p4; omega))), zw_no (Or.inr (ha p 5 (Nat.le_refl _) hp (by unfold p4; omega))), zw_no (Or.inr (ha p 0 (Nat.le_refl _) hp (by unfold p4; omega)))]
theorem y_nz (F : Nat) {s : Nat} (hs : s < 6) : ∀ (d fu i : Nat) (Y : zX), 244 - i = d → i ≤ 244 → d < fu → ∃ Y', hX12_readNode_15 F fu (nI s) (nI i) Y = (zbd (eX12_passess31 F Y') fun y3 => if y3.1 = 0 then jX12_readNode_62 F (nI s) (nI 1) (((nI 18) + ((nI 244) * nI s)) + (nI 0)) y3.2 else jX12_readNode_62 F (nI s) (nI 0) (((nI 18) + ((nI 244) * nI s)) + (nI 0)) y3.2) ∧ fr [1] Y Y' ∧ (∀ w, i ≤ w → w < 244 → Y' 1 (18 + 244 * s + w) = nI 0) ∧ ∀ a, (∀ w, i ≤ w → w < 244 → a ≠ 18 + 244 * s + w) → Y' 1 a = Y 1 a := by
  intro d
  induction d with
  | zero =>
    intro fu i Y h1 h2 h3
    obtain ⟨fu, rfl⟩ := Nat.exists_eq_succ_of_ne_zero (show fu ≠ 0 by omega)
    refine ⟨Y, ?_, fr.refl _ _, fun w g1 g2 => by omega, fun _ _ => rfl⟩
    conv => lhs; unfold hX12_readNode_15
    rw [if_pos ((nI_leI (by omega) (by omega)).mpr (by omega))]
  | succ d ih =>
    intro fu i Y h1 h2 h3
    obtain ⟨fu, rfl⟩ := Nat.exists_eq_succ_of_ne_zero (show fu ≠ 0 by omega)
    have hi : i < 244 := by omega
    obtain ⟨Y', e1, f1, k1, k2⟩ := ih fu (i + 1) (zw Y 1 (18 + 244 * s + i) (nI 0)) (by omega) (by omega) (by omega)
    refine ⟨Y', ?_, (fr1 (k := 1)).trans f1, fun w g1 g2 => ?_, fun a ha => ?_⟩
    · conv => lhs; unfold hX12_readNode_15
      rw [if_neg (nI_ge hi (by omega)), a_n, y_in (by omega), qchk, qlet, qzn (by omega), nI_add]
      exact e1
    · by_cases z : w = i
      · subst z
        rw [k2 _ (fun w' g1' g2' => by omega), zw_at]
      · exact k1 w (by omega) g2
    · rw [k2 a (fun w g1 g2 => ha w (by omega) g2), zw_no (Or.inr (ha i (Nat.le_refl _) hi))]
theorem y_nodeEnd (F : Nat) (hF : 500 ≤ F) {s : Nat} (hs : s < 6) {Y : zX} (hz : ∀ w, w < 244 → Y 1 (18 + 244 * s + w) = nI 0) (h0 : Y 1 0 = nI s) (up : Int32) : ∃ Y', jX12_readNode_62 F (nI s) up (((nI 18) + ((nI 244) * nI s)) + (nI 0)) Y = some (nI 1, Y') ∧ fr [1] Y Y' ∧ Y' 1 0 = nI (s + 1) ∧ (∀ a, ndO s a → Y' 1 a = Y 1 a) ∧ Y' 1 (18 + 244 * s + 0) = up ∧ Y' 1 (18 + 244 * s + 1) = nI 0 ∧ Y' 1 (18 + 244 * s + 2) = -1 ∧ Y' 1 (18 + 244 * s + 3) = Y 1 8 ∧ Y' 1 (18 + 244 * s + 4) = Y 1 9 ∧ Y' 1 (18 + 244 * s + 5) = nI 16 ∧ (∀ w, 6 ≤ w → w ≤ 9 → Y' 1 (18 + 244 * s + w) = nI 0)
    ∧ (∀ o j, o < s → j < 3 → Y' 1 (18 + 244 * s + (10 + 3 * o + j)) = (if j = 0 then nI 4 else -1) ∧ Y' 1 (18 + 244 * o + (10 + 3 * s + j)) = (if j = 0 then nI 4 else -1))
    ∧ (∀ p w, p < 12 → w < 12 → Y' 1 (18 + 244 * s + (28 + 18 * p + w)) = (if w = 0 ∨ w = 5 ∨ w = 9 ∨ w = 10 then -1 else nI 0)) := by
  obtain ⟨Y1, eY1⟩ : ∃ Y1, Y1 = zw (zw (zw (zw (zw Y 1 (18 + 244 * s + 0) up) 1 (18 + 244 * s + 2) (-1)) 1 (18 + 244 * s + 3) (Y 1 8)) 1 (18 + 244 * s + 4) (Y 1 9)) 1 (18 + 244 * s + 5) (nI 16) := ⟨_, rfl⟩
  have f1 : fr [1] Y Y1 := by rw [eY1]; exact fr_w (fr_w (fr_w (fr_w fr1 (by decide)) (by decide)) (by decide)) (by decide)
  have yo1 : ∀ a, (∀ w, w < 6 → a ≠ 18 + 244 * s + w) → Y1 1 a = Y 1 a := fun a ha => by
    rw [eY1, zw_no (Or.inr (ha 5 (by decide))), zw_no (Or.inr (ha 4 (by decide))), zw_no (Or.inr (ha 3 (by decide))), zw_no (Or.inr (ha 2 (by decide))), zw_no (Or.inr (ha 0 (by decide)))]
  obtain ⟨Y2, e2, f2, k1, k2⟩ := y_nk F hs 6 F 0 Y1 rfl (Nat.zero_le _) (by omega)
  obtain ⟨Y3, e3, f3, k3, k4⟩ := y_np F hs 12 F 0 Y2 rfl (Nat.zero_le _) (by omega)
  have lowk : ∀ w, w < 10 → ∀ q j, 0 ≤ q → q < 6 → j < 3 → 18 + 244 * s + w ≠ kC s q j ∧ 18 + 244 * s + w ≠ kC q s j := fun w hw q j _ hq hj => by
    unfold kC
    exact ⟨nd_ne (by omega) (by omega) (Or.inl (by omega)), nd_ne (by omega) (by omega) (Or.inl (by omega))⟩
  have hik : ∀ w, 28 ≤ w → w < 244 → ∀ q j, 0 ≤ q → q < 6 → j < 3 → 18 + 244 * s + w ≠ kC s q j ∧ 18 + 244 * s + w ≠ kC q s j := fun w hw hw2 q j _ hq hj => by
    unfold kC
    exact ⟨nd_ne (by omega) (by omega) (Or.inl (by omega)), nd_ne (by omega) (by omega) (Or.inl (by omega))⟩
  have lo : ∀ w, w < 10 → (zw Y3 1 0 ((Y3 1 0) + nI 1)) 1 (18 + 244 * s + w) = Y1 1 (18 + 244 * s + w) := fun w hw => by
    rw [zw_no (Or.inr (by omega)), k4 _ (fun q w' _ g2 g3 => by omega), k2 _ (lowk w hw)]
  have z0 : Y3 1 0 = nI s := by
    rw [k4 0 (fun q w' _ g2 g3 => by omega), k2 0 (fun q j _ g2 g3 => by unfold kC; omega), yo1 0 (fun w hw => by omega), h0]
  refine ⟨zw Y3 1 0 ((Y3 1 0) + nI 1), ?_, ((f1.trans f2).trans f3).trans fr1, by rw [zw_at, z0, nI_add], fun a ha => ?_, ?_, ?_, ?_, ?_, ?_, ?_, fun w g1 g2 => ?_, fun o j g1 g2 => ?_, fun p w g1 g2 => ?_⟩
  · unfold jX12_readNode_62
    simp only [a_n]
    rw [y_in (show 18 + 244 * s + 0 < 2422 by omega), qchk, y_in (show 18 + 244 * s + 2 < 2422 by omega), qchk, qlet, y_in (show 18 + 244 * s + 3 < 2422 by omega), qchk, qlet, y_in (show 18 + 244 * s + 4 < 2422 by omega), qchk, qlet, y_in (show 18 + 244 * s + 5 < 2422 by omega), qchk, qlet, qzn (show 18 + 244 * s + 0 < 2147483648 by omega), qzn (show 18 + 244 * s + 2 < 2147483648 by omega), qzn (show 18 + 244 * s + 3 < 2147483648 by omega), qzn (show 18 + 244 * s + 4 < 2147483648 by omega), qzn (show 18 + 244 * s + 5 < 2147483648 by omega), zw_no (b := 8) (Or.inr (by omega)), zw_no (b := 8) (Or.inr (by omega)), zw_no (b := 9) (Or.inr (by omega)), zw_no (b := 9) (Or.inr (by omega)), zw_no (b := 9) (Or.inr (by omega)), ← eY1]
    have e2' : hX12_readNode_122 F F (nI s) (nI 0) Y1 = _ := e2
    have e3' : hX12_readNode_148 F F (nI s) (nI 0) Y2 = _ := e3
    rw [e2', e3']
  · obtain ⟨a0, a1, a2⟩ := ha
    rw [zw_no (Or.inr a0), k4 a (fun q w' _ g2 g3 => a1 _ (by unfold p4 at g3; omega)), k2 a (fun q j _ g2 g3 => ⟨by unfold kC; exact a1 _ (by omega), by unfold kC; exact a2 q j g2 g3⟩), yo1 a (fun w hw => a1 w (by omega))]
  · rw [lo 0 (by decide), eY1, zw_no (Or.inr (by omega)), zw_no (Or.inr (by omega)), zw_no (Or.inr (by omega)), zw_no (Or.inr (by omega)), zw_at]
  · rw [lo 1 (by decide), eY1, zw_no (Or.inr (by omega)), zw_no (Or.inr (by omega)), zw_no (Or.inr (by omega)), zw_no (Or.inr (by omega)), zw_no (Or.inr (by omega)), hz 1 (by decide)]
  · rw [lo 2 (by decide), eY1, zw_no (Or.inr (by omega)), zw_no (Or.inr (by omega)), zw_no (Or.inr (by omega)), zw_at]
  · rw [lo 3 (by decide), eY1, zw_no (Or.inr (by omega)), zw_no (Or.inr (by omega)), zw_at]
  · rw [lo 4 (by decide), eY1, zw_no (Or.inr (by omega)), zw_at]
  · rw [lo 5 (by decide), eY1, zw_at]
  · rw [lo w (by omega), yo1 _ (fun w' hw' => by omega), hz w (by omega)]
  · have ho : o < 6 := by omega
    have kk := k1 o j (Nat.zero_le _) ho (by omega) g2
    have q1 : (18 + 244 * s + (10 + 3 * o + j)) ≠ 0 := by omega
    have q2 : (18 + 244 * o + (10 + 3 * s + j)) ≠ 0 := by omega
    rw [zw_no (Or.inr q1), zw_no (Or.inr q2), k4 _ (fun q w' _ g2' g3' => nd_ne (by omega) (by unfold p4 at g3'; omega) (Or.inl (by omega))), k4 _ (fun q w' _ g2' g3' => nd_ne (by omega) (by unfold p4 at g3'; omega) (Or.inl (by omega)))]
    exact kk
  · have q1 : (18 + 244 * s + (28 + 18 * p + w)) ≠ 0 := by omega
    rw [zw_no (Or.inr q1)]
    by_cases c : w = 0 ∨ w = 5 ∨ w = 9 ∨ w = 10
    · rw [if_pos c]
      exact k3 p w (Nat.zero_le _) g1 c
    · rw [if_neg c, k4 _ (fun q w' _ g2' g3' => by unfold p4 at g3'; omega), k2 _ (hik (28 + 18 * p + w) (by omega) (by omega)), yo1 _ (fun w' hw' => by omega)]
      exact hz (28 + 18 * p + w) (by omega)
end ND
