/-! the links that hold parts together -/
theorem or_0 (x : Int32) : x ||| nI 0 = x := hb_ext (fun q hq => by rw [hb_orw hq]; exact ⟨fun z => z.elim id (fun w => absurd w (hb_0 hq)), Or.inl⟩)
theorem sumW_b (G : gT) {s : Nat} (hs : s ≤ 6) : ∀ j, j ≤ s → sumW G s j ≤ 6 * j
  | 0, _ => Nat.le_refl _
  | j + 1, h => by
    have := sumW_b G hs j (by omega)
    have := cntP_le (iw G s j) s
    unfold sumW
    omega
theorem prt_iff {G H : gT} {s : Nat} (h : gOK G s) (h' : gOK H s) (e1 : gl H = gl G) (e2 : go H = go G) (e3 : gt H = gt G) (e4 : ∀ j, j < gl G → gc G j = true → gc H j = true) {i : Nat} (hi : i < gl G) (hc : ¬ gc G i = true) (e5 : ∀ j, j < gl G → j ≠ i → gc H j = true → gc G j = true) {r : Int32} (j2 : ∀ q, q < 32 → (hb r q ↔ q < s ∧ gW H s (go G i) q < 1000000)) : hb r (gt G i) ↔ sumW G s s ≤ sumW H s s := by
  obtain ⟨g1, g2, -⟩ := h.2.2.1 i hi
  have hs := h.1
  rw [sum_iff h h' e1 e2 e3 e4 hi hc e5, j2 _ (by omega)]
  exact ⟨fun z => z.2, fun z => ⟨g2, z⟩⟩
theorem cutG_gl (G : gT) (c : Int32) : gl (cutG G c) = gl G := rfl
theorem cutG_go (G : gT) (c : Int32) : go (cutG G c) = go G := rfl
theorem cutG_gt (G : gT) (c : Int32) : gt (cutG G c) = gt G := rfl
section PT
variable {lo : Nat × (Nat → Int32)} {s l m : Nat} {T : Nat × Nat} {X Y : zX}
theorem gOf_cut (l : Nat) (X : zX) (c : Int32) : cutG (gOf l X) c = gOf l (zw X 5 1 c) := by
  unfold gOf cutG
  rw [zw_at, zw_row_ne (show (34 : Nat) ≠ 5 by decide), zw_row_ne (show (35 : Nat) ≠ 5 by decide), zw_row_ne (show (36 : Nat) ≠ 5 by decide)]
theorem st_gY (h : wR lo s l m T X Y) {i : Nat} (hi : i < l) (c1 : ¬ hb (X 5 1) i) : gY (cutG (gOf l X) (X 5 1 ||| (nI 1 <<< (nI i &&& 31)))) s (zw Y 1 (1482 + 6 * i + 4) (nI 1)) := by
  have hl := h.hl
  have hw2 := h.w_cut hi (v := X 5 1 ||| (nI 1 <<< (nI i &&& 31))) (w := nI 1) (fun q hq hne => by rw [hb_or (by omega) (by omega)]; exact ⟨fun z => z.resolve_right hne, Or.inl⟩) (fun _ => rfl) (fun z => absurd ((hb_or (by omega) (by omega)).mpr (Or.inr rfl)) z)
  rw [gOf_cut]
  exact r_gY hw2
theorem st_iff (h : wR lo s l m T X Y) (hG : gOK (gOf l X) s) (hX : gX (gOf l X) X) {i : Nat} (hi : i < l) (c1 : ¬ hb (X 5 1) i) {H : gT} (eH : H = cutG (gOf l X) (X 5 1 ||| (nI 1 <<< (nI i &&& 31)))) {r : Int32} (j2 : ∀ q, q < 32 → (hb r q ↔ q < s ∧ gW H s (go (gOf l X) i) q < 1000000)) : hb r (gt (gOf l X) i) ↔ sumW (gOf l X) s s ≤ sumW H s s := by
  have hl := h.hl
  have cc : ∀ j, gc H j = true ↔ hb (X 5 1 ||| (nI 1 <<< (nI i &&& 31))) j := fun j => by rw [eH]; exact cutG_c
  have cX : ∀ j, j < l → (hb (X 5 1) j ↔ gc (gOf l X) j = true) := fun j hj => (hX.2 j hj).2.2.2
  refine prt_iff hG (by rw [eH]; exact cutG_ok hG) (by rw [eH]; exact cutG_gl _ _) (by rw [eH]; exact cutG_go _ _) (by rw [eH]; exact cutG_gt _ _) (fun j hj z => ?_) hi (fun z => c1 ((cX i hi).mpr z)) (fun j hj hne z => ?_) j2
  · have hj' : j < l := hj
    rw [cc, hb_or (by omega) (by omega)]
    exact Or.inl ((cX j hj').mpr z)
  · have hj' : j < l := hj
    rw [cc, hb_or (by omega) (by omega)] at z
    exact (cX j hj').mp (z.resolve_right hne)
theorem st_parts (F : Nat) (hF : 300 ≤ F) (h : wR lo s l m T X Y) (hG : gOK (gOf l X) s) (hX : gX (gOf l X) X) {i : Nat} (hi : i < l) (c1 : ¬ hb (X 5 1) i) : ∃ r Y8 M, M ≤ 36 ∧ eX2_joined F (nI (go (gOf l X) i)) (X 5 1 ||| (nI 1 <<< (nI i &&& 31))) X = some r ∧ eX12_waysMany F (zw Y 1 (1482 + 6 * i + 4) (nI 1)) = some (nI M, Y8) ∧ fr [7, 8, 9] (zw Y 1 (1482 + 6 * i + 4) (nI 1)) Y8 ∧ (hb r (gt (gOf l X) i) ↔ sumW (gOf l X) s s ≤ M) := by
  have hs := h.hs
  obtain ⟨H, eH⟩ : ∃ H, H = cutG (gOf l X) (X 5 1 ||| (nI 1 <<< (nI i &&& 31))) := ⟨_, rfl⟩
  have gy := st_gY h hi c1
  obtain ⟨rj, j1, j2⟩ := x_joined (c := X 5 1 ||| (nI 1 <<< (nI i &&& 31))) hG hX F hF (hG.2.2.1 i hi).1
  rw [← eH] at gy j2
  have hG' : gOK H s := by rw [eH]; exact cutG_ok hG
  obtain ⟨Y8, y1, y2, -⟩ := y_many hG' F hF gy
  have b2 := sumW_b H hs s (Nat.le_refl _)
  exact ⟨rj, Y8, sumW H s s, by omega, j1, y1, y2, st_iff h hG hX hi c1 eH j2⟩
theorem r_parts (F : Nat) (hF : 300 ≤ F) (hG : gOK (gOf l X) s) (hX : gX (gOf l X) X) {N : Nat} (eN : N = sumW (gOf l X) s s) (hN : N ≤ 36) : ∀ (d fu fu' i : Nat) (acc : Int32) (Y : zX), wR lo s l m T X Y → l - i = d → i ≤ l → d < fu → d < fu' → ∃ r Y', hX2_bridges_4 F fu acc (nI i) X = some r ∧ hX12_parts_14 F fu' (nI N) acc (nI i) Y = some (r, Y') ∧ fr [1, 7, 8, 9] Y Y' ∧ Y' 1 = Y 1 := by
  intro d
  induction d with
  | zero =>
    intro fu fu' i acc Y h h1 h2 h3 h4
    have hl := h.hl
    obtain ⟨fu, rfl⟩ := Nat.exists_eq_succ_of_ne_zero (show fu ≠ 0 by omega)
    obtain ⟨fu', rfl⟩ := Nat.exists_eq_succ_of_ne_zero (show fu' ≠ 0 by omega)
    unfold hX2_bridges_4 hX12_parts_14
    rw [h.ln, h.links, if_pos ((nI_leI (by omega) (by omega)).mpr (by omega)), if_pos ((nI_leI (by omega) (by omega)).mpr (by omega))]
    exact ⟨_, _, rfl, rfl, fr.refl _ _, rfl⟩
  | succ d ih =>
    intro fu fu' i acc Y h h1 h2 h3 h4
    have hs := h.hs
    have hl := h.hl
    obtain ⟨fu, rfl⟩ := Nat.exists_eq_succ_of_ne_zero (show fu ≠ 0 by omega)
    obtain ⟨fu', rfl⟩ := Nat.exists_eq_succ_of_ne_zero (show fu' ≠ 0 by omega)
    have hi : i < l := by omega
    obtain ⟨u1, u2⟩ := h.2.2.2.1 i hi
    unfold hX2_bridges_4 hX12_parts_14
    rw [h.ln, h.links, if_neg (nI_ge hi (by omega)), if_neg (nI_ge hi (by omega)), y_lk _ (by omega) (by decide), qbd, nI_add]
    by_cases c1 : hb (X 5 1) i
    · rw [if_pos (show (((X 5 1) >>> (nI i &&& 31)) &&& (nI 1)) = (nI 1) from c1), u1 c1, if_pos rfl]
      exact ih fu fu' (i + 1) acc Y h (by omega) (by omega) (by omega) (by omega)
    · obtain ⟨e34, e35, -, -⟩ := hX.2 i hi
      obtain ⟨rj, Y8, M, hM, j1, y1, y2, key⟩ := st_parts F hF h hG hX hi c1
      rw [← eN] at key
      obtain ⟨-, g2, -⟩ := hG.2.2.1 i hi
      rw [if_neg (show ¬ (((X 5 1) >>> (nI i &&& 31)) &&& (nI 1)) = (nI 1) from c1), u2 c1, if_neg (show ¬ nI 0 = nI 1 by decide), qzin (show i < 10 by omega) (by omega), qchk, qzn (by omega), e34, e35, j1, qbd, qchk, a_l, y_in (by omega), qchk, qlet, qzn (by omega), y1, qbd]
      unfold jX12_parts_62
      rw [a_l, y_in (by omega), qchk, qchk, qlet, qlet, qzn (by omega), nI_add]
      have r9 : (zw Y8 1 (1482 + 6 * i + 4) (nI 0)) 1 = Y 1 := by
        funext a
        by_cases z : a = 1482 + 6 * i + 4
        · rw [z, zw_at, u2 c1]
        · rw [zw_no (Or.inr z), y2 1 (by decide), zw_no (Or.inr z)]
      have f9 : fr [1, 7, 8, 9] Y (zw Y8 1 (1482 + 6 * i + 4) (nI 0)) := fr_w (((fr1 (k := 1)).sub (by decide)).trans (y2.sub (by decide))) (by decide)
      have go9 := fun acc => ih fu fu' (i + 1) acc _ (h.row r9) (by omega) (by omega) (by omega) (by omega)
      by_cases c2 : N ≤ M
      · obtain ⟨r, Y', k1, k2, k3, k4⟩ := go9 acc
        rw [if_pos (show ((rj >>> (nI (gt (gOf l X) i) &&& 31)) &&& nI 1) = nI 1 from key.mpr c2), if_pos ((nI_leI (by omega) (by omega)).mpr c2), or_0, k1, k2]
        exact ⟨r, Y', rfl, rfl, f9.trans k3, k4.trans r9⟩
      · obtain ⟨r, Y', k1, k2, k3, k4⟩ := go9 (acc ||| (nI 1 <<< (nI i &&& 31)))
        rw [if_neg (show ¬ ((rj >>> (nI (gt (gOf l X) i) &&& 31)) &&& nI 1) = nI 1 from fun z => c2 (key.mp z)), if_neg (fun z => c2 ((nI_leI (by omega) (by omega)).mp z)), k1, k2]
        exact ⟨r, Y', rfl, rfl, f9.trans k3, k4.trans r9⟩
end PT
section F18
variable {T : Nat} {μ : zM}
theorem f_parts (F : Nat) (hF : 300 ≤ F) (h : INV T μ) : ∃ r, eX11_parts F μ = some r ∧ okR T μ (.inl r) [] (eX12_parts F (μ 1)) := by
  obtain ⟨s, l, nx, m, Z, hw, hW, hK⟩ := h.2.2.2.1
  have hs := hw.hs
  have hl := hw.hl
  have hw0 := hw.row (Y' := zw (μ 1) 0 0 (nI 0)) (r_0 _)
  obtain ⟨hG, hX⟩ := gOf_X hw.1.1 hw.1.2.2.2.2.2.2.2.2.2.1
  unfold eX11_parts eX12_parts eX2_bridges
  obtain ⟨Y1, y1, y2, -⟩ := y_many hG F hF (r_gY hw0)
  have hw1 := hw0.row (Y' := Y1) (y2 1 (by decide))
  have b1 := sumW_b (gOf l (μ 4)) hs s (Nat.le_refl _)
  obtain ⟨r, Y', k1, k2, k3, k4⟩ := r_parts F hF hG hX rfl (by omega) l F F 0 (nI 0) Y1 hw1 rfl (Nat.zero_le _) (by omega) (by omega)
  have k1' : hX2_bridges_4 F F (nI 0) (nI 0) (μ 4) = _ := k1
  have k2' : hX12_parts_14 F F (nI (sumW (gOf l (μ 4)) s s)) (nI 0) (nI 0) Y1 = _ := k2
  rw [y1, qbd, k1', qbd, k2']
  exact ⟨r, rfl, okR_val h (((st_0 _).trans (stY.fr y2 (by decide))).trans (stY.fr k3 (by decide))) (k4.trans ((y2 1 (by decide)).trans (r_0 _))) (by rw [k3 0 (by decide), y2 0 (by decide), zw_at]) _ _⟩
end F18
