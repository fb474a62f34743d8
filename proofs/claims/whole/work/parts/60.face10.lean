/-! a world is kept, and brought back -/
section IM
variable {lo : Nat × (Nat → Int32)} {s l m : Nat} {T : Nat × Nat} {X Y : zX}
theorem wR.cell (h : wR lo s l m T X Y) {Y' : zX} (e : ∀ a, a < 2422 → Y' 1 a = Y 1 a) : wR lo s l m T X Y' := by
  have hs := h.hs
  have hl := h.hl
  have hm := h.hm
  obtain ⟨i, d1, d2, d3, d4, d5, d6, d7, d8⟩ := h
  refine ⟨i, ?_, ?_, ?_, ?_, ?_, ?_, ?_, ?_⟩
  · intro k i' a hc hq
    obtain ⟨b1, b2, b3, b4, b5, b6, b7, b8, b9, b10, b11, b12, -⟩ := rc_bd hs hl hm hc
    rw [e a (by omega)]
    exact d1 k i' a hc hq
  · intro n hn; rw [e _ (by omega)]; exact d2 n hn
  · intro n hn; rw [e _ (by omega)]; exact d3 n hn
  · intro n p hn hp; rw [e _ (by omega), e _ (by omega)]; exact d4 n p hn hp
  · intro n p hn hp; exact (d5 n p hn hp).cong (fun w _ hw' => e (18 + 244 * n + (28 + 18 * p + w)) (by omega))
  · obtain ⟨q, t, g1, g2, g3, g4, g5⟩ := d6
    exact ⟨q, t, g1, g2, g3, g4, fun a w ha hw => by rw [e _ (by omega)]; exact g5 a w ha hw⟩
  · intro k hk hlo h3; rw [e _ (by omega), e _ (by omega)]; exact d7 k hk hlo h3
  · intro a a1 a2 a3; rw [e _ (by omega)]; exact d8 a a1 a2 a3
theorem rS.cell {s l : Nat} {T : Nat × Nat} {X Y Y' : zX} (h : rS s l T X Y) (e : ∀ a, a < 2422 → Y' 1 a = Y 1 a) : rS s l T X Y' := by
  obtain ⟨m, Z, h, a, b⟩ := h
  exact ⟨m, Z, h.cell e, a, b⟩
theorem y_image (F : Nat) : ∀ (d fu j : Nat) (Y : zX), 2422 - j = d → j ≤ 2422 → d < fu → ∃ Y', hX12_image_7 F fu (nI j) Y = some Y' ∧ (∀ k, k ≠ 0 → k ≠ 2 → Y' k = Y k) ∧ (∀ i, i ≠ 5 → Y' 0 i = Y 0 i) ∧ Y' 0 5 = nI 1 ∧ (∀ a, j ≤ a → a < 2422 → Y' 2 a = Y 1 a) ∧ (∀ a, a < j → Y' 2 a = Y 2 a) := by
  intro d
  induction d with
  | zero =>
    intro fu j Y h1 h2 h3
    obtain ⟨fu, rfl⟩ := Nat.exists_eq_succ_of_ne_zero (show fu ≠ 0 by omega)
    have : j = 2422 := by omega
    subst this
    unfold hX12_image_7
    rw [if_pos (by decide)]
    exact ⟨_, rfl, fun k h1 _ => zw_row_ne h1, fun i hi => zw_no (Or.inr hi), zw_at _ _ _ _, fun a h1 h2 => by omega, fun a _ => zw_no (Or.inl (by decide))⟩
  | succ d ih =>
    intro fu j Y h1 h2 h3
    obtain ⟨fu, rfl⟩ := Nat.exists_eq_succ_of_ne_zero (show fu ≠ 0 by omega)
    obtain ⟨Y', e, k1, k2, k3, k4, k5⟩ := ih fu (j + 1) (zw Y 2 j (Y 1 j)) (by omega) (by omega) (by omega)
    refine ⟨Y', ?_, fun k g1 g2 => by rw [k1 k g1 g2, zw_row_ne g2], fun i hi => by rw [k2 i hi, zw_no (Or.inl (by decide))], k3, fun a g1 g2 => ?_, fun a g1 => by rw [k5 a (by omega), zw_no (Or.inr (by omega))]⟩
    · unfold hX12_image_7
      rw [if_neg (nI_ge (show j < 2422 by omega) (by omega)), y_in (by omega), qchk, qchk, qzn (by omega), nI_add, e]
    · by_cases c : a = j
      · subst c
        rw [k5 a (by omega), zw_at]
      · rw [k4 a (by omega) g2, zw_no (Or.inl (by decide))]
theorem y_back (F : Nat) : ∀ (d fu j : Nat) (Y : zX), 2422 - j = d → j ≤ 2422 → d < fu → ∃ Y', hX12_back_16 F fu (nI j) Y = some (nI 1, Y') ∧ fr [1] Y Y' ∧ (∀ a, j ≤ a → a < 2422 → Y' 1 a = Y 2 a) ∧ (∀ a, a < j → Y' 1 a = Y 1 a) := by
  intro d
  induction d with
  | zero =>
    intro fu j Y h1 h2 h3
    obtain ⟨fu, rfl⟩ := Nat.exists_eq_succ_of_ne_zero (show fu ≠ 0 by omega)
    have : j = 2422 := by omega
    subst this
    unfold hX12_back_16
    rw [if_pos (by decide)]
    exact ⟨_, rfl, fr.refl _ _, fun a h1 h2 => by omega, fun a _ => rfl⟩
  | succ d ih =>
    intro fu j Y h1 h2 h3
    obtain ⟨fu, rfl⟩ := Nat.exists_eq_succ_of_ne_zero (show fu ≠ 0 by omega)
    obtain ⟨Y', e, k1, k4, k5⟩ := ih fu (j + 1) (zw Y 1 j (Y 2 j)) (by omega) (by omega) (by omega)
    refine ⟨Y', ?_, (fr1 (k := 1)).trans k1, fun a g1 g2 => ?_, fun a g1 => by rw [k5 a (by omega), zw_no (Or.inr (by omega))]⟩
    · unfold hX12_back_16
      rw [if_neg (nI_ge (show j < 2422 by omega) (by omega)), y_in (by omega), qchk, qchk, qzn (by omega), nI_add, e]
    · by_cases c : a = j
      · subst c
        rw [k5 a (by omega), zw_at]
      · rw [k4 a (by omega) g2, zw_no (Or.inl (by decide))]
end IM
section F12
variable {T : Nat} {μ : zM}
theorem f_image (F : Nat) (hF : 3000 ≤ F) (h : INV T μ) : ∃ μ' Y', eX11_image μ = some μ' ∧ eX12_image F (μ 1) = some Y' ∧ INV T (zg μ' 1 Y') ∧ Y' 0 0 = nI 0 := by
  unfold eX11_image eX12_image
  obtain ⟨Y', e, k1, k2, k3, k4, k5⟩ := y_image F 2422 F 0 (zw (μ 1) 0 0 (nI 0)) rfl (Nat.zero_le _) (by omega)
  have e' : hX12_image_7 F F (nI 0) (zw (μ 1) 0 0 (nI 0)) = some Y' := e
  obtain ⟨⟨len, a1, a2, a3, a4⟩, b, c, ⟨s, l, nx, d⟩, -⟩ := h
  refine ⟨_, Y', rfl, e', ⟨⟨len, a1, ?_, ?_, fun i hi => ?_⟩, ?_, ?_, ⟨s, l, nx, ?_⟩, Or.inr ⟨?_, ?_, ?_, s, l, nx, ?_⟩⟩, ?_⟩
  · rw [zg_ne (by decide), zg_at, zw_no (Or.inl (by decide))]; exact a2
  · rw [zg_at, k2 7 (by decide), zw_no (by decide)]; exact a3
  · rw [zg_ne (by decide), zg_at, zg_at, zw_no (Or.inl (by decide)), k1 5 (by decide) (by decide), zw_no (Or.inl (by decide))]; exact a4 i hi
  · rw [zg_ne (by decide), zg_at, zg_at, zw_no (Or.inr (by decide)), k2 11 (by decide), zw_no (by decide)]; exact b
  · rw [zg_ne (by decide), zg_ne (by decide), zg_ne (by decide)]; exact c
  · rw [zg_ne (show (4 : Nat) ≠ 1 by decide), zg_ne (show (4 : Nat) ≠ 0 by decide), zg_ne (show (4 : Nat) ≠ 5 by decide), zg_at]
    exact d.row (by rw [k1 1 (by decide) (by decide), zw_row_ne (by decide)])
  · rw [zg_ne (by decide), zg_at, zw_at]
  · rw [zg_at]; exact k3
  · rw [zg_ne (by decide), zg_ne (by decide), zg_at]; exact c
  · rw [zg_ne (show (5 : Nat) ≠ 1 by decide), zg_ne (show (5 : Nat) ≠ 0 by decide), zg_at, zg_at]
    refine d.cell fun a ha => ?_
    rw [zr_at, k4 a (Nat.zero_le _) ha, zw_no (Or.inl (by decide))]
  · rw [k2 0 (by decide), zw_at]
theorem f_back (F : Nat) (hF : 3000 ≤ F) (h : INV T μ) : ∃ r μ', eX11_back μ = some (r, μ') ∧ okR T μ' (.inl r) [] (eX12_back F (μ 1)) := by
  unfold eX11_back eX12_back
  have e05 : (zw (μ 1) 0 0 (nI 0)) 0 5 = (μ 1) 0 5 := zw_no (by decide)
  rw [zg_id, e05]
  rcases h.2.2.2.2 with ⟨e1, e2⟩ | ⟨e1, e2, e3, s', l', nx', e4⟩
  · rw [if_pos (show (μ 0) 0 5 = 0 from e1), if_pos (show (μ 1) 0 5 = 0 from e2)]
    exact ⟨_, _, rfl, okR_val h (st_0 _) (r_0 _) (zw_at _ _ _ _) _ _⟩
  · obtain ⟨Y', e, k1, k4, k5⟩ := y_back F 2422 F 0 (zw (μ 1) 0 0 (nI 0)) rfl (Nat.zero_le _) (by omega)
    have e' : hX12_back_16 F F (nI 0) (zw (μ 1) 0 0 (nI 0)) = _ := e
    rw [if_neg (show ¬ (μ 0) 0 5 = 0 by rw [e1]; decide), if_neg (show ¬ (μ 1) 0 5 = 0 by rw [e2]; decide), e']
    refine ⟨_, _, rfl, _, _, rfl, ?_, ?_, rfl⟩
    · refine h.now (Nat.le_refl _) ((st_0 _).trans (stY.fr k1 (by decide))) e3 (e4.cell fun a ha => ?_)
      rw [k4 a (Nat.zero_le _) ha, zr_at, zw_no (Or.inl (by decide))]
    · rw [k1 0 (by decide), zw_at]
end F12
/-! the fewest that reach all -/
def bcv (x : Int32) : Int32 := (eJ6_bitCount_0f7a4 x).getD 0
theorem bc_e (x : Int32) : eJ6_bitCount_0f7a4 x = some (bcv x) := rfl
theorem bc_all : ∀ s, s < 7 → ∀ v, v < 64 → v < 2 ^ s - 1 → bcv (nI v) < bcv (nI (2 ^ s - 1)) := by decide +kernel
theorem all_s : ∀ s, s < 7 → (nI 1 <<< (nI s &&& 31)) - nI 1 = nI (2 ^ s - 1) := by decide +kernel
section SP
variable {lo : Nat × (Nat → Int32)} {s l m : Nat} {T : Nat × Nat} {X Y : zX} {G : gT}
theorem r_cover (F : Nat) (hF : 300 ≤ F) (h : wR lo s l m T X Y) (hG : gOK G s) (hW : wC G s X) (hY : wY G s Y) {c : Nat} (hc : c ≤ 5) (v : Int32) : ∀ (d fu fu' j : Nat) (acc : Int32), s - j = d → j ≤ s → d < fu → d < fu' → ∃ cov, hX9_covered_5 F fu v (nI c) acc (nI j) X = some cov ∧ ∀ K a2 a3, hX12_spread_59 F K fu' (nI c) a2 a3 v acc (nI j) Y = hX12_spread_59 F K (0 + 1) (nI c) a2 a3 v cov (nI s) Y := by
  have hs := h.hs
  intro d
  induction d with
  | zero =>
    intro fu fu' j acc h1 h2 h3 h4
    obtain ⟨fu, rfl⟩ := Nat.exists_eq_succ_of_ne_zero (show fu ≠ 0 by omega)
    obtain ⟨fu', rfl⟩ := Nat.exists_eq_succ_of_ne_zero (show fu' ≠ 0 by omega)
    have : j = s := by omega
    subst this
    have le : nI j ≤ nI j := (nI_leI (by omega) (by omega)).mpr (Nat.le_refl _)
    refine ⟨acc, ?_, fun K a2 a3 => ?_⟩
    · unfold hX9_covered_5
      rw [hW.1, if_pos le]
    · unfold hX12_spread_59
      rw [h.nn, h.nodes, if_pos le, if_pos le]
  | succ d ih =>
    intro fu fu' j acc h1 h2 h3 h4
    obtain ⟨fu, rfl⟩ := Nat.exists_eq_succ_of_ne_zero (show fu ≠ 0 by omega)
    obtain ⟨fu', rfl⟩ := Nat.exists_eq_succ_of_ne_zero (show fu' ≠ 0 by omega)
    have hj : j < s := by omega
    obtain ⟨r, e1, e2, -⟩ := r_reach F hF h hG hW hY hj hc
    have key : ∀ b, (∃ cov, hX9_covered_5 F fu v (nI c) (acc ||| b) (nI (j + 1)) X = some cov ∧ ∀ K a2 a3, hX12_spread_59 F K fu' (nI c) a2 a3 v (acc ||| b) (nI (j + 1)) Y = hX12_spread_59 F K (0 + 1) (nI c) a2 a3 v cov (nI s) Y) := fun b => ih fu fu' (j + 1) _ (by omega) (by omega) (by omega) (by omega)
    by_cases cb : ((v >>> (nI j &&& 31)) &&& nI 1) = nI 1
    · obtain ⟨cov, k1, k2⟩ := key r
      refine ⟨cov, ?_, fun K a2 a3 => ?_⟩
      · unfold hX9_covered_5
        rw [hW.1, if_neg (nI_ge hj (by omega)), if_pos cb, e1, qbd]
        unfold jX9_covered_35
        rw [nI_add]; exact k1
      · rw [← k2 K a2 a3]
        conv => lhs; unfold hX12_spread_59
        rw [h.nn, h.nodes, if_neg (nI_ge hj (by omega)), if_pos cb, e2, qbd]
        unfold jX12_spread_91
        rw [nI_add]
    · obtain ⟨cov, k1, k2⟩ := key (nI 0)
      refine ⟨cov, ?_, fun K a2 a3 => ?_⟩
      · unfold hX9_covered_5
        rw [hW.1, if_neg (nI_ge hj (by omega)), if_neg cb]
        unfold jX9_covered_35
        rw [nI_add]; exact k1
      · rw [← k2 K a2 a3]
        conv => lhs; unfold hX12_spread_59
        rw [h.nn, h.nodes, if_neg (nI_ge hj (by omega)), if_neg cb]
        unfold jX12_spread_91
        rw [nI_add]
theorem r_spread (F : Nat) (hF : 300 ≤ F) (h : wR lo s l m T X Y) (hG : gOK G s) (hW : wC G s X) (hY : wY G s Y) {c : Nat} (hc : c ≤ 5) : ∀ (d fu fu' v w : Nat), (2 ^ s - 1) - v = d → v ≤ 2 ^ s - 1 → d < fu → d < fu' → (w ≤ v ∨ w = 2 ^ s - 1) → w ≤ 2 ^ s - 1 → ∃ r, hX9_fewestCovering_13 F fu (nI c) (nI (2 ^ s - 1)) (nI w) (nI v) X = some r ∧ hX12_spread_47 F fu' (nI c) (nI (2 ^ s - 1)) (nI w) (nI v) Y = some (r, Y) := by
  have hs := h.hs
  have hM : 2 ^ s ≤ 2 ^ 6 := Nat.pow_le_pow_right (by decide) hs
  intro d
  induction d with
  | zero =>
    intro fu fu' v w h1 h2 h3 h4 h5 h6
    obtain ⟨fu, rfl⟩ := Nat.exists_eq_succ_of_ne_zero (show fu ≠ 0 by omega)
    obtain ⟨fu', rfl⟩ := Nat.exists_eq_succ_of_ne_zero (show fu' ≠ 0 by omega)
    unfold hX9_fewestCovering_13 hX12_spread_47
    rw [if_pos ((nI_leI (by omega) (by omega)).mpr (by omega)), if_pos ((nI_leI (by omega) (by omega)).mpr (by omega))]
    exact ⟨_, rfl, rfl⟩
  | succ d ih =>
    intro fu fu' v w h1 h2 h3 h4 h5 h6
    obtain ⟨fu, rfl⟩ := Nat.exists_eq_succ_of_ne_zero (show fu ≠ 0 by omega)
    obtain ⟨fu', rfl⟩ := Nat.exists_eq_succ_of_ne_zero (show fu' ≠ 0 by omega)
    have hv : v < 2 ^ s - 1 := by omega
    obtain ⟨cov, k1, k2⟩ := r_cover F hF h hG hW hY hc (nI v) s F F 0 (nI 0) rfl (Nat.zero_le _) (by omega) (by omega)
    have k1' : eX9_covered F (nI v) (nI c) X = some cov := k1
    have k2' : ∀ K a2 a3, hX12_spread_59 F K F (nI c) a2 a3 (nI v) (nI 0) (nI 0) Y = _ := k2
    obtain ⟨r1, p1, p2⟩ := ih fu fu' (v + 1) w (by omega) (by omega) (by omega) (by omega) (by omega) h6
    obtain ⟨r2, q1, q2⟩ := ih fu fu' (v + 1) v (by omega) (by omega) (by omega) (by omega) (by omega) (by omega)
    unfold hX9_fewestCovering_13 hX12_spread_47
    rw [if_neg (nI_ge hv (by omega)), if_neg (nI_ge hv (by omega)), k2' _ _ _, bc_e, bc_e, qbd, qbd, k1', qbd, nI_add]
    unfold hX12_spread_59
    rw [h.nn, h.nodes, if_pos ((nI_leI (by omega) (by omega)).mpr (Nat.le_refl _)), bc_e, bc_e, qbd, qbd, qbd, qbd, nI_add]
    unfold jX12_spread_136
    rw [nI_add]
    by_cases cc : cov = nI (2 ^ s - 1)
    · rw [if_pos cc, if_pos cc]
      by_cases c1 : bcv (nI v) < bcv (nI w)
      · have c2 : ¬ bcv (nI w) ≤ bcv (nI v) := fun z => by
          rw [Int32.lt_iff_toInt_lt] at c1; rw [Int32.le_iff_toInt_le] at z; omega
        rw [if_neg c2, if_pos c1]
        exact ⟨_, q1, q2⟩
      · have c2 : bcv (nI w) ≤ bcv (nI v) := by
          rw [Int32.lt_iff_toInt_lt] at c1; rw [Int32.le_iff_toInt_le]; omega
        rw [if_pos c2, if_neg c1]
        by_cases c3 : bcv (nI v) = bcv (nI w)
        · have c4 : w ≤ v := h5.resolve_right (fun z => by
            subst z
            have := bc_all s (by omega) v (by omega) hv
            exact c1 this)
          rw [if_pos c3, if_pos ((nI_leI (by omega) (by omega)).mpr c4)]
          exact ⟨_, p1, p2⟩
        · rw [if_neg c3]
          exact ⟨_, p1, p2⟩
    · rw [if_neg cc, if_neg cc, ite_self]
      exact ⟨_, p1, p2⟩
end SP
section F13
variable {T : Nat} {μ : zM}
theorem f_spread (F : Nat) (hF : 300 ≤ F) (h : INV T μ) (x0 : Int32) : ∃ res, eX11_spread F x0 μ = some (res, μ) ∧ okR T μ res [eIA] (eX12_spread F x0 (μ 1)) := by
  obtain ⟨s, l, nx, m, Z, hw, hW, hK⟩ := h.2.2.2.1
  have hs := hw.hs
  have hl := hw.hl
  have hm := hw.hm
  have hw0 := hw.row (Y' := zw (μ 1) 0 0 (nI 0)) (r_0 _)
  have hG := r_G hw
  unfold eX11_spread eX12_spread jX12_spread_20
  rw [zg_id]
  rcases rg_sw x0 (N := 5) (by decide) with ⟨k, hk, rfl⟩ | ⟨hx1, hx2⟩
  · have c1 : (¬ (nI k < nI 0)) ∧ ¬ (nI 5 < nI k) := ⟨nI_pos (by omega), nI_nlt (by omega) (by omega)⟩
    obtain ⟨Y', e, w⟩ := r_lays F hF hw
    have hw' := hw.row (Y' := Y') w.r1
    have hM : 2 ^ s ≤ 2 ^ 6 := Nat.pow_le_pow_right (by decide) hs
    obtain ⟨r, e1, e2⟩ := r_spread F hF hw' hG hW w.2 hk (2 ^ s - 1) F F 0 (2 ^ s - 1) rfl (Nat.zero_le _) (by omega) (by omega) (Or.inr rfl) (Nat.le_refl _)
    unfold eX9_fewestCovering
    rw [if_neg (fun z => z.elim c1.1 c1.2), if_pos c1, y_thr0, qbd, if_pos q00]
    dsimp only
    have e1' : hX9_fewestCovering_13 F F (nI k) (nI (2 ^ s - 1)) (nI (2 ^ s - 1)) (nI 0) (μ 4) = _ := e1
    have e2' : hX12_spread_47 F F (nI k) (nI (2 ^ s - 1)) (nI (2 ^ s - 1)) (nI 0) Y' = _ := e2
    rw [e, qbd, hW.1, hw'.nn, hw'.nodes, all_s s (by omega), e1', qbd, e2']
    exact ⟨_, rfl, okR_val h w.st w.r1 w.z _ _⟩
  · have c1 : x0 < 0 ∨ nI 5 < x0 := Decidable.byContradiction fun z => hx1 ⟨fun y => z (Or.inl y), fun y => z (Or.inr y)⟩
    rw [if_pos c1, if_neg hx1, y_thr1, qbd, if_neg q11]
    exact ⟨_, rfl, okR_thr h (st_00 _ _) (r_00 _ _) 0 rfl (zw_at _ _ _ _) _⟩
end F13
