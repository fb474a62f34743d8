/-! the middle of the ways; the fewest that reach all -/
def cntP (P : Nat → Bool) : Nat → Nat
  | 0 => 0
  | j + 1 => cntP P j + (if P j = true then 1 else 0)
theorem cntP_le (P : Nat → Bool) : ∀ j, cntP P j ≤ j
  | 0 => Nat.le_refl _
  | j + 1 => by
    have := cntP_le P j
    unfold cntP
    split <;> omega
theorem cnt_bij (P : Nat → Bool) : ∀ (j N : Nat) (f : Nat → Nat), (∀ k, k < N → f k < j ∧ P (f k) = true) → (∀ k k', k < N → k' < N → f k = f k' → k = k') → (∀ b, b < j → P b = true → ∃ k, k < N ∧ f k = b) → N = cntP P j := by
  intro j
  induction j with
  | zero =>
    intro N f h1 h2 h3
    by_cases c : N = 0
    · subst c; rfl
    · have := (h1 0 (by omega)).1
      omega
  | succ j ih =>
    intro N f h1 h2 h3
    unfold cntP
    by_cases c : P j = true
    · rw [if_pos c]
      obtain ⟨k0, hk0, e0⟩ := h3 j (by omega) c
      have := ih (N - 1) (fun i => if i = k0 then f (N - 1) else f i) (fun i hi => by
        by_cases z : i = k0
        · rw [if_pos z]
          obtain ⟨g1, g2⟩ := h1 (N - 1) (by omega)
          have : f (N - 1) ≠ j := fun y => by have := h2 (N - 1) k0 (by omega) hk0 (y.trans e0.symm); omega
          exact ⟨by omega, g2⟩
        · rw [if_neg z]
          obtain ⟨g1, g2⟩ := h1 i (by omega)
          have : f i ≠ j := fun y => z (h2 i k0 (by omega) hk0 (y.trans e0.symm))
          exact ⟨by omega, g2⟩) (fun i i' hi hi' e => by
        by_cases z : i = k0
        · by_cases z' : i' = k0
          · omega
          · rw [if_pos z, if_neg z'] at e
            have := h2 (N - 1) i' (by omega) (by omega) e
            omega
        · by_cases z' : i' = k0
          · rw [if_neg z, if_pos z'] at e
            have := h2 i (N - 1) (by omega) (by omega) e
            omega
          · rw [if_neg z, if_neg z'] at e
            exact h2 i i' (by omega) (by omega) e) (fun b hb' hp => by
        obtain ⟨k, hk, e⟩ := h3 b (by omega) hp
        have hkk : k ≠ k0 := fun y => by subst y; omega
        by_cases z : k = N - 1
        · refine ⟨k0, by omega, ?_⟩
          rw [if_pos rfl, ← z]; exact e
        · refine ⟨k, by omega, ?_⟩
          rw [if_neg hkk]; exact e)
      omega
    · rw [if_neg c]
      exact ih N f (fun k hk => by
        obtain ⟨g1, g2⟩ := h1 k hk
        have : f k ≠ j := fun y => c (y ▸ g2)
        exact ⟨by omega, g2⟩) h2 (fun b hb' hp => h3 b (by omega) hp)
def mxP (P : Nat → Bool) (g : Nat → Nat) : Nat → Nat
  | 0 => 0
  | j + 1 => if P j = true then max (mxP P g j) (g j) else mxP P g j
theorem mxP_le {P : Nat → Bool} {g : Nat → Nat} {v : Nat} : ∀ j, (∀ b, b < j → P b = true → g b ≤ v) → mxP P g j ≤ v
  | 0, _ => Nat.zero_le _
  | j + 1, h => by
    have := mxP_le j (fun b hb' hp => h b (by omega) hp)
    unfold mxP
    by_cases c : P j = true
    · rw [if_pos c]
      have := h j (by omega) c
      omega
    · rw [if_neg c]; exact this
theorem mxP_ge {P : Nat → Bool} {g : Nat → Nat} : ∀ j b, b < j → P b = true → g b ≤ mxP P g j
  | 0, _, h, _ => absurd h (Nat.not_lt_zero _)
  | j + 1, b, h, hp => by
    unfold mxP
    by_cases e : b = j
    · subst e
      rw [if_pos hp]; omega
    · have := mxP_ge (P := P) (g := g) j b (by omega) hp
      by_cases c : P j = true
      · rw [if_pos c]; omega
      · rw [if_neg c]; exact this
section MD
variable {lo : Nat × (Nat → Int32)} {s l m : Nat} {T : Nat × Nat} {X Y : zX} {G : gT}
theorem ord_lt {a x N : Nat} {f : Nat → Nat} (h : ordX G s a x N f) : ∀ (d k : Nat), k + d + 1 < N → lx G s a (f k) (f (k + d + 1))
  | 0, k, hk => h.2.2.1 k hk
  | d + 1, k, hk => by
    have h1 := ord_lt h d k (by omega)
    have h2 := h.2.2.1 (k + d + 1) (by omega)
    rw [show k + (d + 1) + 1 = k + d + 1 + 1 by omega]
    unfold lx at *
    omega
theorem ord_n (hW : wC G s X) {a N : Nat} {f : Nat → Nat} (ho : ordX G s a s N f) : N = cntP (iw G s a) s ∧ (N = 0 → mxP (iw G s a) (gW G s a) s = 0) ∧ (N ≠ 0 → mxP (iw G s a) (gW G s a) s = gW G s a (f (N - 1))) := by
  have hlt := ord_lt ho
  refine ⟨cnt_bij _ s N f ho.2.1 (fun k k' hk hk' e => ?_) ho.2.2.2, fun z => ?_, fun z => ?_⟩
  · rcases Nat.lt_trichotomy k k' with y | y | y
    · have := hlt (k' - k - 1) k (by omega)
      rw [show k + (k' - k - 1) + 1 = k' by omega, e] at this
      unfold lx at this; omega
    · exact y
    · have := hlt (k - k' - 1) k' (by omega)
      rw [show k' + (k - k' - 1) + 1 = k by omega, e] at this
      unfold lx at this; omega
  · have := mxP_le (P := iw G s a) (g := gW G s a) (v := 0) s (fun b hb' hp => by
      obtain ⟨k, hk, -⟩ := ho.2.2.2 b hb' hp
      omega)
    omega
  · have h1 := mxP_le (P := iw G s a) (g := gW G s a) (v := gW G s a (f (N - 1))) s (fun b hb' hp => by
      obtain ⟨k, hk, rfl⟩ := ho.2.2.2 b hb' hp
      by_cases y : k = N - 1
      · rw [y]; exact Nat.le_refl _
      · have := hlt (N - 1 - k - 1) k (by omega)
        rw [show k + (N - 1 - k - 1) + 1 = N - 1 by omega] at this
        unfold lx at this; omega)
    obtain ⟨b1, b2⟩ := ho.2.1 (N - 1) (by omega)
    have h2 := mxP_ge (P := iw G s a) (g := gW G s a) s (f (N - 1)) b1 b2
    omega
theorem x_longest (hG : gOK G s) (hW : wC G s X) {a : Nat} (ha : a < s) : X 44 a = nI (cntP (iw G s a) s) ∧ eX9_longest (nI a) X = some (nI (mxP (iw G s a) (gW G s a) s)) := by
  have hs := hG.1
  obtain ⟨w39, -, -, -, N, f, ho, e44, e43⟩ := hW.2 a ha
  obtain ⟨n1, n2, n3⟩ := ord_n hW ho
  have hN := ho.1
  refine ⟨by rw [e44, ← n1], ?_⟩
  unfold eX9_longest
  rw [qzin (show a < 6 by omega) (by omega), qchk, qzn (by omega), e44]
  by_cases c : N = 0
  · subst c
    rw [if_pos (by decide), n2 rfl]
  · obtain ⟨b1, b2⟩ := ho.2.1 (N - 1) (by omega)
    rw [if_neg (nI_nle (by omega) (by omega)), nI_sub (by omega), x_6, x_in6 (by omega) (by omega), qchk, x_zn6 (by omega) (by omega), e43 (N - 1) (by omega), x_6, x_in6 (by omega) (by omega), qchk, x_zn6 (by omega) (by omega), w39 _ b1, lenE_lt (iw_t b2).2, n3 c]
theorem y_ways (F : Nat) (hF : 300 ≤ F) (h : wR lo s l m T X Y) (hG : gOK G s) (hY : wY G s Y) {a : Nat} (ha : a < s) : eX12_waysOf F (nI a) Y = some (nI (cntP (iw G s a) s)) := by
  have hs := h.hs
  have L : ∀ (d fu j : Nat), s - j = d → j ≤ s → d < fu → hX12_waysOf_4 F fu (nI a) (nI (cntP (iw G s a) j)) (nI j) Y = some (nI (cntP (iw G s a) s)) := by
    intro d
    induction d with
    | zero =>
      intro fu j h1 h2 h3
      obtain ⟨fu, rfl⟩ := Nat.exists_eq_succ_of_ne_zero (show fu ≠ 0 by omega)
      have : j = s := by omega
      subst this
      unfold hX12_waysOf_4
      rw [h.nn, h.nodes, if_pos ((nI_leI (by omega) (by omega)).mpr (Nat.le_refl _))]
    | succ d ih =>
      intro fu j h1 h2 h3
      obtain ⟨fu, rfl⟩ := Nat.exists_eq_succ_of_ne_zero (show fu ≠ 0 by omega)
      have hj : j < s := by omega
      have e := ih fu (j + 1) (by omega) (by omega) (by omega)
      unfold hX12_waysOf_4
      rw [h.nn, h.nodes, if_neg (nI_ge hj (by omega)), y_isWay hG (by omega) (by omega) (hY a j ha hj).1, qbd]
      unfold jX12_waysOf_27
      by_cases c : iw G s a j = true
      · rw [if_pos c, if_neg (show ¬ nI 1 = 0 by decide)]
        simp only [nI_add]
        rw [cntP, if_pos c] at e
        exact e
      · rw [if_neg c, if_pos (show nI 0 = 0 from rfl)]
        simp only [nI_add]
        rw [cntP, if_neg c] at e
        exact e
  exact L s F 0 rfl (Nat.zero_le _) (by omega)
theorem y_great (F : Nat) (hF : 300 ≤ F) (h : wR lo s l m T X Y) (hG : gOK G s) (hY : wY G s Y) {a : Nat} (ha : a < s) : eX12_greatestWay F (nI a) Y = some (nI (mxP (iw G s a) (gW G s a) s)) := by
  have hs := h.hs
  have L : ∀ (d fu j : Nat), s - j = d → j ≤ s → d < fu → hX12_greatestWay_4 F fu (nI a) (nI (mxP (iw G s a) (gW G s a) j)) (nI j) Y = some (nI (mxP (iw G s a) (gW G s a) s)) := by
    intro d
    induction d with
    | zero =>
      intro fu j h1 h2 h3
      obtain ⟨fu, rfl⟩ := Nat.exists_eq_succ_of_ne_zero (show fu ≠ 0 by omega)
      have : j = s := by omega
      subst this
      unfold hX12_greatestWay_4
      rw [h.nn, h.nodes, if_pos ((nI_leI (by omega) (by omega)).mpr (Nat.le_refl _))]
    | succ d ih =>
      intro fu j h1 h2 h3
      obtain ⟨fu, rfl⟩ := Nat.exists_eq_succ_of_ne_zero (show fu ≠ 0 by omega)
      have hj : j < s := by omega
      have e := ih fu (j + 1) (by omega) (by omega) (by omega)
      have hm : mxP (iw G s a) (gW G s a) j ≤ 1000000 := mxP_le j (fun b _ hp => by have := (iw_t hp).2; omega)
      unfold hX12_greatestWay_4
      rw [h.nn, h.nodes, if_neg (nI_ge hj (by omega)), y_isWay hG (by omega) (by omega) (hY a j ha hj).1, qbd, nI_add]
      by_cases c : iw G s a j = true
      · have := (iw_t c).2
        rw [if_pos c, if_neg (show ¬ nI 1 = 0 by decide), a_6, qzin (by omega) (by omega), qchk, qzn (by omega), (hY a j ha hj).1, zmx_nI (by omega) (by omega)]
        rw [mxP, if_pos c] at e
        exact e
      · rw [if_neg c, if_pos (show nI 0 = 0 from rfl)]
        rw [mxP, if_neg c] at e
        exact e
  exact L s F 0 rfl (Nat.zero_le _) (by omega)
theorem r_middle (F : Nat) (hF : 300 ≤ F) (h : wR lo s l m T X Y) (hG : gOK G s) (hW : wC G s X) (hY : wY G s Y) : ∀ (d fu fu' j : Nat) (a : Int32), s - j = d → j ≤ s → d < fu → d < fu' → (a = -1 ∨ ∃ o, o < s ∧ a = nI o) → ∃ r, hX9_middle_4 F fu a (nI j) X = some r ∧ hX12_center_13 F fu' a (nI j) Y = some (r, Y) := by
  have hs := h.hs
  intro d
  induction d with
  | zero =>
    intro fu fu' j a h1 h2 h3 h4 hab
    obtain ⟨fu, rfl⟩ := Nat.exists_eq_succ_of_ne_zero (show fu ≠ 0 by omega)
    obtain ⟨fu', rfl⟩ := Nat.exists_eq_succ_of_ne_zero (show fu' ≠ 0 by omega)
    unfold hX9_middle_4 hX12_center_13
    rw [hW.1, h.nn, h.nodes, if_pos ((nI_leI (by omega) (by omega)).mpr (by omega)), if_pos ((nI_leI (by omega) (by omega)).mpr (by omega))]
    exact ⟨_, rfl, rfl⟩
  | succ d ih =>
    intro fu fu' j a h1 h2 h3 h4 hab
    obtain ⟨fu, rfl⟩ := Nat.exists_eq_succ_of_ne_zero (show fu ≠ 0 by omega)
    obtain ⟨fu', rfl⟩ := Nat.exists_eq_succ_of_ne_zero (show fu' ≠ 0 by omega)
    have hj : j < s := by omega
    have K := fun a' => ih fu fu' (j + 1) a' (by omega) (by omega) (by omega) (by omega)
    have J := K _ (Or.inr ⟨j, hj, rfl⟩)
    obtain ⟨j1, j2⟩ := x_longest hG hW hj
    have j3 := y_ways F hF h hG hY hj
    have j4 := y_great F hF h hG hY hj
    unfold hX9_middle_4 hX12_center_13
    unfold jX9_middle_60 jX12_center_65 jX12_center_69 jX12_center_70
    rw [hW.1, h.nn, h.nodes, if_neg (nI_ge hj (by omega)), if_neg (nI_ge hj (by omega)), nI_add, if_neg (show ¬ nI 1 = 0 by decide), if_pos (show nI 0 = 0 from rfl)]
    by_cases ca : a = -1
    · rw [if_pos ca, if_pos ca]
      exact J
    · obtain ⟨o, ho, rfl⟩ := hab.resolve_left ca
      obtain ⟨o1, o2⟩ := x_longest hG hW ho
      have o3 := y_ways F hF h hG hY ho
      have o4 := y_great F hF h hG hY ho
      rw [if_neg ca, if_neg ca, qzin (show j < 6 by omega) (by omega), qzin (show o < 6 by omega) (by omega), qchk, qchk, qchk, qchk, qzn (by omega), qzn (by omega), j1, o1, j2, o2, j3, o3, j4, o4, qbd, qbd, qbd, qbd, qbd, qbd, qbd, qbd]
      by_cases c1 : nI (cntP (iw G s o) s) < nI (cntP (iw G s j) s)
      · rw [if_pos c1, if_pos c1]
        exact J
      · rw [if_neg c1, if_neg c1]
        by_cases c2 : nI (cntP (iw G s j) s) = nI (cntP (iw G s o) s)
        · rw [if_pos c2, if_pos c2]
          by_cases c3 : nI (mxP (iw G s o) (gW G s o) s) ≤ nI (mxP (iw G s j) (gW G s j) s)
          · rw [if_pos c3, if_pos c3]
            exact K _ hab
          · rw [if_neg c3, if_neg c3]
            exact J
        · rw [if_neg c2, if_neg c2]
          exact K _ hab
end MD
section F11
variable {T : Nat} {μ : zM}
theorem f_center (F : Nat) (hF : 300 ≤ F) (h : INV T μ) : ∃ r, eX11_center F μ = some r ∧ okR T μ (.inl r) [] (eX12_center F (μ 1)) := by
  obtain ⟨s, l, nx, m, Z, hw, hW, hK⟩ := h.2.2.2.1
  have hs := hw.hs
  have hl := hw.hl
  have hm := hw.hm
  have hw0 := hw.row (Y' := zw (μ 1) 0 0 (nI 0)) (r_0 _)
  have hG := r_G hw
  unfold eX11_center eX12_center
  obtain ⟨Y', e, w⟩ := r_lays F hF hw
  have hw' := hw.row (Y' := Y') w.r1
  obtain ⟨r, e1, e2⟩ := r_middle F hF hw' hG hW w.2 s F F 0 (-1) rfl (Nat.zero_le _) (by omega) (by omega) (Or.inl rfl)
  have e1' : eX9_middle F (μ 4) = some r := e1
  have e2' : hX12_center_13 F F (-1) (nI 0) Y' = _ := e2
  rw [e, qbd, e1', e2', qbd]
  exact ⟨_, rfl, okR_val h w.st w.r1 w.z _ _⟩
end F11
