/-! floods, on -/
theorem vn_0 : vp_nar .boolean (nI 0) = nI 0 := by decide
theorem vn_1 : vp_nar .boolean (nI 1) = nI 1 := by decide
section FG
variable {s l m : Nat} {T : Nat × Nat} {X Y : zX} {Z : Nat → Int32}
/-- a gap is told -/
theorem fl_gap (F : Nat) (hF : 100 ≤ F) (K38 : Int32 → Int32 → Int32 → Int32 → Int32 → Int32 → Int32 → zX → Option zX) (K101 : Int32 → Int32 → Int32 → Int32 → Int32 → zX → Option zX) {P : Nat → Bool} {p a b u c k N : Nat} {pk sc rm g lost room : Int32} (h : wS (0, Z) s l m T (nwO P p X) Y) (ha : a < s) (hbs : b < s) (hPb : P b = false) (hp : p < 12) (hc : c ≤ 3) (hpk : c = 0 → pk = nI p) (h40 : X 40 (a * 6 + b) = nI u) (κ : Nat) (hg : (g = nI 1 ∧ lost = nI 0 ∧ Y 10 b = nI 0 ∧ (c = 0 → u < s ∧ u ≠ b ∧ P u = false ∧ gpc (nwO P p X) (u * 12 + p) κ)) ∨ (g = nI 0 ∧ lost = nI 1) ∨ (g = nI 3 ∧ lost = nI 0 ∧ Y 10 b = nI 1 ∧ room = nI 0) ∨ (g = -1 ∧ lost = nI 0 ∧ Y 10 b = nI 1 ∧ room = nI 1)) :
    ∃ X' Y', jX10_flood_175 F K38 (nI a) (nI c) pk sc rm (nI N) (nI k) (nI b) (nI (a * 6 + b)) g X = K38 (nI a) (nI c) pk sc rm (nI N) (nI (k + 1)) X' ∧ jX12_flood_273 F K101 (nI a) (nI c) pk sc (nI b) (nI u) lost room Y = jX12_flood_341 F K101 (nI a) (nI c) pk sc (nI b) Y' ∧ wS (0, Z) s l m T (nwO P p X') Y' ∧ fr [30, 31] X X' ∧ fr [1] Y Y' ∧ (∀ i, i ≠ b * 12 + p → nwO P p X' 30 i = nwO P p X 30 i ∧ nwO P p X' 31 i = nwO P p X 31 i) ∧ (c = 0 → (g = nI 1 → nwO P p X' 30 (b * 12 + p) = nI 1 ∧ nwO P p X' 31 (b * 12 + p) = nI (κ + 1)) ∧ (g = nI 0 → nwO P p X' 30 (b * 12 + p) = nI 0 ∧ nwO P p X' 31 (b * 12 + p) = nI 0)) := by
  have hs := h.1.hs
  unfold jX10_flood_175 jX12_flood_273
  by_cases c0 : c = 0
  · subst c0
    have hpk := hpk rfl
    subst hpk
    have q0 : nI 0 = (0 : Int32) := rfl
    rw [if_pos q0, if_pos q0, x_in6 (by omega) (by omega), qchk, x_zn6 (by omega) (by omega), h40]
    have i6 : zin (nI b) 6 = true := qzin (by omega) (by omega)
    have z6 : zn (nI b) = b := qzn (by omega)
    -- a gap of its own
    have own : ∀ (g' : Int32) (Y1 : zX), g' ≠ nI 1 → wS (0, Z) s l m T (zw (zw (nwO P p X) 30 (b * 12 + p) g') 31 (b * 12 + p) (nI 0)) Y1 → fr [1] Y Y1 → ∃ X' Y', zbd (eX10_tellGap (nI b) (nI p) g' (nI u) X) (fun y4 => K38 (nI a) (nI 0) (nI p) sc rm (nI N) (nI k + nI 1) y4) = K38 (nI a) (nI 0) (nI p) sc rm (nI N) (nI (k + 1)) X' ∧ jX12_flood_341 F K101 (nI a) (nI 0) (nI p) sc (nI b) Y1 = jX12_flood_341 F K101 (nI a) (nI 0) (nI p) sc (nI b) Y' ∧ wS (0, Z) s l m T (nwO P p X') Y' ∧ fr [30, 31] X X' ∧ fr [1] Y Y' ∧ (∀ i, i ≠ b * 12 + p → nwO P p X' 30 i = nwO P p X 30 i ∧ nwO P p X' 31 i = nwO P p X 31 i) ∧ nwO P p X' 30 (b * 12 + p) = g' ∧ nwO P p X' 31 (b * 12 + p) = nI 0 := by
      intro g' Y1 hg1 h1 g1
      refine ⟨zw (zw X 30 (b * 12 + p) g') 31 (b * 12 + p) (nI 0), Y1, ?_, rfl, by rw [nw_gap hPb hp]; exact h1, fr_w (fr_w (fr.refl _ _) (by decide)) (by decide), g1, fun i hi => ?_, ?_, ?_⟩
      · unfold eX10_tellGap
        rw [if_neg hg1, x_ix, x_setGap X (by omega) hp, qbd, qbd, nI_add]
      · rw [nw_gap hPb hp]
        exact ⟨by rw [zw_no (Or.inl (by decide)), zw_no (Or.inr hi)], by rw [zw_no (Or.inr hi), zw_no (Or.inl (by decide))]⟩
      · rw [nw_gap hPb hp, zw_no (Or.inl (by decide)), zw_at]
      · rw [nw_gap hPb hp, zw_at]
    rcases hg with ⟨rfl, rfl, hr, hk⟩ | ⟨rfl, rfl⟩ | ⟨rfl, rfl, hr, rfl⟩ | ⟨rfl, rfl, hr, rfl⟩
    · obtain ⟨hu, hub, hPu, hgp⟩ := hk rfl
      obtain ⟨Xh, Y1, e1, e2, h1, f1, g1, k1, k2, k3⟩ := s_behind F hF h hbs hp hu (fun z => hub z.symm) hgp
      rw [if_pos q0, i6, qchk, z6, hr, if_pos q0, e2, qbd]
      have ex : eX5_setGapBehind (nI (b * 12 + p)) (nI (u * 12 + p)) X = some (zw (zw X 30 (b * 12 + p) (nI 1)) 31 (b * 12 + p) ((X 31 (u * 12 + p)) + (nI 1))) := by
        unfold eX5_setGapBehind
        rw [x_in (by omega) hp, qchk, x_in (by omega) hp, qchk, qchk, qlet, x_zn (by omega) hp, x_zn (by omega) hp]
      have exh : Xh = nwO P p (zw (zw X 30 (b * 12 + p) (nI 1)) 31 (b * 12 + p) ((X 31 (u * 12 + p)) + (nI 1))) := by
        unfold eX5_setGapBehind at e1
        rw [x_in (by omega) hp, qchk, x_in (by omega) hp, qchk, qchk, qlet, x_zn (by omega) hp, x_zn (by omega) hp, nw_cell hPu hp] at e1
        rw [nw_gap hPb hp]
        exact (Option.some.inj e1).symm
      refine ⟨_, Y1, ?_, rfl, exh ▸ h1, fr_w (fr_w (fr.refl _ _) (by decide)) (by decide), g1, fun i hi => exh ▸ k3 i hi, fun _ => ⟨fun _ => exh ▸ ⟨k1, k2⟩, fun z => absurd z (by decide)⟩⟩
      unfold eX10_tellGap
      rw [if_pos rfl, x_ix, x_ix, ex, qbd, qbd, nI_add]
    · rw [if_neg (show ¬ nI 1 = 0 by decide), y_hasGap Y (by omega) hp, qbd]
      obtain ⟨X', Y', a1, a2, a3, a4, a5, a6, a7, a8⟩ := own (nI 0) _ (by decide) (s_hasGap h hbs hp (by decide)) (fr_w (fr_w (fr.refl _ _) (by decide)) (by decide))
      exact ⟨X', Y', a1, a2, a3, a4, a5, a6, fun _ => ⟨fun z => absurd z (by decide), fun _ => ⟨a7, a8⟩⟩⟩
    · rw [if_pos q0, i6, qchk, z6, hr, if_neg (show ¬ nI 1 = 0 by decide), y_hasGap Y (by omega) hp, qbd]
      obtain ⟨X', Y', a1, a2, a3, a4, a5, a6, a7, a8⟩ := own (nI 3) _ (by decide) (s_hasGap h hbs hp (by decide)) (fr_w (fr_w (fr.refl _ _) (by decide)) (by decide))
      exact ⟨X', Y', a1, a2, a3, a4, a5, a6, fun _ => ⟨fun z => absurd z (by decide), fun z => absurd z (by decide)⟩⟩
    · rw [if_pos q0, i6, qchk, z6, hr, if_neg (show ¬ nI 1 = 0 by decide), if_neg (show ¬ nI 1 = 0 by decide), y_noGap Y (by omega) hp, qbd]
      obtain ⟨X', Y', a1, a2, a3, a4, a5, a6, a7, a8⟩ := own (-1) _ (by decide) (s_noGap h hbs hp) (fr_w (fr.refl _ _) (by decide))
      exact ⟨X', Y', a1, a2, a3, a4, a5, a6, fun _ => ⟨fun z => absurd z (by decide), fun z => absurd z (by decide)⟩⟩
  · have q0 : ¬ nI c = 0 := nI_ne0 (by omega) (by omega)
    rw [if_neg q0, if_neg q0, nI_add]
    exact ⟨X, Y, rfl, rfl, h, fr.refl _ _, fr.refl _ _, fun _ _ => ⟨rfl, rfl⟩, fun z => absurd z c0⟩
end FG
/-- who is reached -/
def rchR (s : Nat) (rm : Int32) (Y : zX) : Prop := ∀ x, x < s → (hb rm x → Y 10 x = nI 1) ∧ (¬ hb rm x → Y 10 x = nI 0)
abbrev flL : List Nat := [0, 2, 7, 30, 31, 38, 45, 46, 47, 48, 49, 50, 51, 52, 53, 54]
/-- the packet of a message -/
def pkO (X : zX) (a c : Nat) (pk : Int32) : Prop := c ≠ 3 → ∃ p : Nat, p < 12 ∧ pk = nI p ∧ (p : Int) ≤ (X 10 a).toInt
section FM
variable {s l : Nat} {T : Nat × Nat} {Z : Nat → Int32} {G : gT}
theorem fl_loop (F : Nat) (hF : 300 ≤ F) (hT : T.1 < 1000000) (hG : gOK G s) (hGl : gl G = l) {P : Nat → Bool} {p a c N : Nat} {f : Nat → Nat} {pk sc : Int32} (ha : a < s) (hp : p < 12) (hc : c ≤ 3) (ho : ordX G s a s N f) (hpk : c = 0 → pk = nI p) (hsc : c = 0 → sc = nI 5) (hP : ∀ x, iw G s a x = true → P x = false) (hPa : P a = false) : ∀ (d k fu gu m : Nat) (rm : Int32) (X Y : zX), N - k = d → k ≤ N → d < fu → d < gu → wS (0, Z) s l m T (nwO P p X) Y → wC G s X → gX G X → wY G s Y → rchR s rm Y → hb rm a → (∀ x, hb rm x → x < s → x = a ∨ ∃ j, j < k ∧ f j = x) → (c = 0 → ∀ j, j < k → ¬ hb rm (f j) → ∃ κ, κ + 1 ≤ gH G s a (f j) ∧ gpc (nwO P p X) (f j * 12 + p) κ) → pkO X a c pk →
    ∃ X' Y' m', hX10_flood_38 F fu (nI a) (nI c) pk sc rm (nI N) (nI k) X = (if nI c = 0 then zbd (eX10_tellNoWay F (nI a) pk X') fun y4 => some y4 else some X') ∧ hX12_flood_101 F gu (nI a) (nI c) pk sc (if k < N then nI (f k) else -1) Y = some Y' ∧ wS (0, Z) s l m' T (nwO P p X') Y' ∧ fr flL X X' ∧ fr [1, 10] Y Y' ∧ (∀ i, i ≠ 10 → X' 0 i = X 0 i) := by
  have hs := hG.1
  have hl := hG.2.1
  have hNs := ho.1
  intro d
  induction d with
  | zero =>
    intro k fu gu m rm X Y hd hk hf hg h hW hX hw hr hra hrs hgp hpa
    obtain ⟨fu, rfl⟩ : ∃ g, fu = g + 1 := ⟨fu - 1, by omega⟩
    obtain ⟨gu, rfl⟩ : ∃ g, gu = g + 1 := ⟨gu - 1, by omega⟩
    refine ⟨X, Y, m, ?_, ?_, h, fr.refl _ _, fr.refl _ _, fun _ _ => rfl⟩
    · unfold hX10_flood_38
      rw [if_pos ((nI_leI (by omega) (by omega)).mpr (by omega))]
    · unfold hX12_flood_101
      rw [if_neg (show ¬ k < N by omega), if_pos rfl]
  | succ d ih =>
    intro k fu gu m rm X Y hd hk hf hg h hW hX hw hr hra hrs hgp hpa
    obtain ⟨fu, rfl⟩ : ∃ g, fu = g + 1 := ⟨fu - 1, by omega⟩
    obtain ⟨gu, rfl⟩ : ∃ g, gu = g + 1 := ⟨gu - 1, by omega⟩
    have hkN : k < N := by omega
    obtain ⟨hbs, hib⟩ := ho.2.1 k hkN
    obtain ⟨hab, hwb⟩ := of_decide_eq_true hib
    obtain ⟨p1, p2, p3, p4, p5⟩ := gP_ok hG ha hab hwb
    obtain ⟨w39, -, wset, -, N', f', wo, w44, w43⟩ := hW.2 a ha
    have w43k : X 43 (a * 6 + k) = nI (f k) := by
      -- the order is one
      have e0 := y_beh0 hG (h.1.gY (hX.fr (nw_fr P p X) (by decide)) hGl) hw F (by omega) ha ho
      have e1 := y_beh0 hG (h.1.gY (hX.fr (nw_fr P p X) (by decide)) hGl) hw F (by omega) ha wo
      have hN' := wo.1
      have key : ∀ i, (i < N ↔ i < N') ∧ (i < N → f i = f' i) := by
        intro i
        induction i with
        | zero =>
          rw [e0] at e1
          have e1 := Option.some.inj e1
          by_cases z1 : 0 < N
          · by_cases z2 : 0 < N'
            · rw [if_pos z1, if_pos z2] at e1
              have q1 := (ho.2.1 0 z1).1
              have q2 := (wo.2.1 0 z2).1
              exact ⟨by omega, fun _ => (nI_eq (by omega) (by omega)).mp e1⟩
            · rw [if_pos z1, if_neg z2] at e1
              have q1 := (ho.2.1 0 z1).1
              exact absurd e1 (nI_ne_m1 (by omega))
          · by_cases z2 : 0 < N'
            · rw [if_neg z1, if_pos z2] at e1
              have q2 := (wo.2.1 0 z2).1
              exact absurd e1.symm (nI_ne_m1 (by omega))
            · exact ⟨by omega, fun z => absurd z z1⟩
        | succ i ihi =>
          by_cases z : i < N
          · have z' := ihi.1.mp z
            have g0 := y_behS hG (h.1.gY (hX.fr (nw_fr P p X) (by decide)) hGl) hw F (by omega) ha ho z
            have g1 := y_behS hG (h.1.gY (hX.fr (nw_fr P p X) (by decide)) hGl) hw F (by omega) ha wo z'
            rw [ihi.2 z, g1] at g0
            have e2 := Option.some.inj g0
            by_cases z1 : i + 1 < N
            · by_cases z2 : i + 1 < N'
              · rw [if_pos z1, if_pos z2] at e2
                have q1 := (ho.2.1 (i + 1) z1).1
                have q2 := (wo.2.1 (i + 1) z2).1
                exact ⟨by omega, fun _ => ((nI_eq (by omega) (by omega)).mp e2).symm⟩
              · rw [if_pos z1, if_neg z2] at e2
                have q1 := (ho.2.1 (i + 1) z1).1
                exact absurd e2.symm (nI_ne_m1 (by omega))
            · by_cases z2 : i + 1 < N'
              · rw [if_neg z1, if_pos z2] at e2
                have q2 := (wo.2.1 (i + 1) z2).1
                exact absurd e2 (nI_ne_m1 (by omega))
              · exact ⟨by omega, fun z => absurd z z1⟩
          · have z' : ¬ i < N' := fun q => z (ihi.1.mpr q)
            exact ⟨by omega, fun q => by omega⟩
      rw [w43 k ((key k).1.mp hkN), ((key k).2 hkN)]
    obtain ⟨c40, c41, c42⟩ := wset (f k) hbs hib
    obtain ⟨y7, y8, y9⟩ := hw a (f k) ha hbs
    rw [if_pos hib] at y8 y9
    have hH := gH_s hG ha hbs hab hwb
    have hH5 := (gH_le hG ha hbs hwb).2
    have hdd := dl_lt hG p4
    have hbnot : ¬ hb rm (f k) := fun z => by
      rcases hrs (f k) z hbs with q | ⟨j, hj, ej⟩
      · exact hab q.symm
      · exact ord_inj ho hj hkN ej
    have hPb := hP _ hib
    have hPu : P (gP G s a (f k)) = false := by
      by_cases q : gP G s a (f k) = a
      · rw [q]; exact hPa
      · exact hP _ (decide_eq_true ⟨fun z => q z.symm, by omega⟩)
    have i6b : zin (nI (f k)) 6 = true := qzin (by omega) (by omega)
    have z6b : zn (nI (f k)) = f k := qzn (by omega)
    -- what follows a told gap
    have next : ∀ (m1 : Nat) (rm1 : Int32) (X1 Y1 : zX), wS (0, Z) s l m1 T (nwO P p X1) Y1 → fr flL X X1 → (∀ i, i ≠ 10 → X1 0 i = X 0 i) → fr [1, 10] Y Y1 → rchR s rm1 Y1 → hb rm1 a → (∀ x, hb rm1 x → x < s → x = a ∨ ∃ j, j < k + 1 ∧ f j = x) → (c = 0 → ∀ j, j < k + 1 → ¬ hb rm1 (f j) → ∃ κ, κ + 1 ≤ gH G s a (f j) ∧ gpc (nwO P p X1) (f j * 12 + p) κ) → ∃ X' Y' m', hX10_flood_38 F fu (nI a) (nI c) pk sc rm1 (nI N) (nI (k + 1)) X1 = (if nI c = 0 then zbd (eX10_tellNoWay F (nI a) pk X') fun y4 => some y4 else some X') ∧ jX12_flood_341 F (hX12_flood_101 F gu) (nI a) (nI c) pk sc (nI (f k)) Y1 = some Y' ∧ wS (0, Z) s l m' T (nwO P p X') Y' ∧ fr flL X X' ∧ fr [1, 10] Y Y' ∧ (∀ i, i ≠ 10 → X' 0 i = X 0 i) := by
      intro m1 rm1 X1 Y1 h1 f1 z1 g1 r1 ra1 rs1 gp1
      have hW1 := hW.fr f1 (by decide)
      have hX1 := hX.fr f1 (by decide)
      have hw1 : wY G s Y1 := by unfold wY at *; rw [g1 7 (by decide), g1 8 (by decide), g1 9 (by decide)]; exact hw
      obtain ⟨X', Y', m', e1, e2, e3, e4, e5, e6⟩ := ih (k + 1) fu gu m1 rm1 X1 Y1 (by omega) (by omega) (by omega) (by omega) h1 hW1 hX1 hw1 r1 ra1 rs1 gp1 (fun z => by rw [f1 10 (by decide)]; exact hpa z)
      refine ⟨X', Y', m', e1, ?_, e3, f1.trans e4, g1.trans e5, fun i hi => by rw [e6 i hi, z1 i hi]⟩
      unfold jX12_flood_341
      rw [y_behS hG (h1.1.gY (hX1.fr (nw_fr P p X1) (by decide)) hGl) hw1 F (by omega) ha ho hkN, qbd, e2]
    have old : ∀ (X1 : zX), (∀ i, i ≠ f k * 12 + p → nwO P p X1 30 i = nwO P p X 30 i ∧ nwO P p X1 31 i = nwO P p X 31 i) → ∀ j, j < k → ∀ κ, gpc (nwO P p X) (f j * 12 + p) κ → gpc (nwO P p X1) (f j * 12 + p) κ := by
      intro X1 hk1 j hj κ hg
      have hne := ord_inj ho hj hkN
      obtain ⟨q1, q2⟩ := hk1 (f j * 12 + p) (by omega)
      unfold gpc at *; rw [q1, q2]; exact hg
    unfold hX10_flood_38 hX12_flood_101
    rw [if_pos hkN, if_neg (nI_ge hkN (by omega)), if_neg (nI_ne_m1 (by omega)), x_6, x_in6 (by omega) (by omega), qchk, qlet, x_zn6 (by omega) (by omega), w43k, x_6, x_in6 (by omega) (by omega), qchk, qchk, x_zn6 (by omega) (by omega), c40, c41, c42, qchk, a_6, y6_in (by omega) (by omega), qchk, y6_zn (by omega) (by omega), y8, y9, qzin (show gP G s a (f k) < 6 by omega) (by omega), qchk, qzn (show gP G s a (f k) < 2147483648 by omega), qchk]
    -- not reached above
    have notMay : (c = 0 → ¬ hb rm (gP G s a (f k))) → ∃ X' Y' m', jX10_flood_117 F (hX10_flood_38 F fu) (nI a) (nI c) pk sc rm (nI N) (nI k) (nI (f k)) (nI (a * 6 + f k)) X = (if nI c = 0 then zbd (eX10_tellNoWay F (nI a) pk X') fun y4 => some y4 else some X') ∧ jX12_flood_150 F (hX12_flood_101 F gu) (nI a) (nI c) pk sc (nI (f k)) (nI (gP G s a (f k))) Y = some Y' ∧ wS (0, Z) s l m' T (nwO P p X') Y' ∧ fr flL X X' ∧ fr [1, 10] Y Y' ∧ (∀ i, i ≠ 10 → X' 0 i = X 0 i) := by
      intro hn
      -- the reference's steps
      have gz : fr [10] Y (zw Y 10 (f k) (nI 0)) := fr1
      have hz : wS (0, Z) s l m T (nwO P p X) (zw Y 10 (f k) (nI 0)) := h.frY gz (by decide) (by decide)
      have hκ : ∃ κ, κ + 2 ≤ gH G s a (f k) ∨ c ≠ 0 ∧ κ = 0 := by
        by_cases c0 : c = 0
        · have hnu := hn c0
          by_cases q : gP G s a (f k) = a
          · rw [q] at hnu; exact absurd hra hnu
          · obtain ⟨j, hj, ej⟩ := ho.2.2.2 _ p1 (decide_eq_true ⟨fun z => q z.symm, by omega⟩)
            have hjk : j < k := by
              refine Decidable.byContradiction fun z => ?_
              have := ord_mono ho (j - k) k (by omega)
              rw [show k + (j - k) = j by omega, ej] at this
              omega
            obtain ⟨κ, k1, k2⟩ := hgp c0 j hjk (by rw [ej]; exact hnu)
            rw [ej] at k1
            exact ⟨κ, Or.inl (by omega)⟩
        · exact ⟨0, Or.inr ⟨c0, rfl⟩⟩
      have hκ2 : ∃ κ, (c = 0 → κ + 2 ≤ gH G s a (f k) ∧ gpc (nwO P p X) (gP G s a (f k) * 12 + p) κ) := by
        by_cases c0 : c = 0
        · have hnu := hn c0
          by_cases q : gP G s a (f k) = a
          · rw [q] at hnu; exact absurd hra hnu
          · obtain ⟨j, hj, ej⟩ := ho.2.2.2 _ p1 (decide_eq_true ⟨fun z => q z.symm, by omega⟩)
            have hjk : j < k := by
              refine Decidable.byContradiction fun z => ?_
              have := ord_mono ho (j - k) k (by omega)
              rw [show k + (j - k) = j by omega, ej] at this
              omega
            obtain ⟨κ, k1, k2⟩ := hgp c0 j hjk (by rw [ej]; exact hnu)
            rw [ej] at k1 k2
            exact ⟨κ, fun _ => ⟨by omega, k2⟩⟩
        · exact ⟨0, fun z => absurd z c0⟩
      obtain ⟨κ, hκ3⟩ := hκ2
      have step : ∀ room, ∃ X' Y' m', jX10_flood_117 F (hX10_flood_38 F fu) (nI a) (nI c) pk sc rm (nI N) (nI k) (nI (f k)) (nI (a * 6 + f k)) X = (if nI c = 0 then zbd (eX10_tellNoWay F (nI a) pk X') fun y4 => some y4 else some X') ∧ jX12_flood_273 F (hX12_flood_101 F gu) (nI a) (nI c) pk sc (nI (f k)) (nI (gP G s a (f k))) (nI 0) room (zw Y 10 (f k) (nI 0)) = some Y' ∧ wS (0, Z) s l m' T (nwO P p X') Y' ∧ fr flL X X' ∧ fr [1, 10] Y Y' ∧ (∀ i, i ≠ 10 → X' 0 i = X 0 i) := by
        intro room
        obtain ⟨X1, Y1, e1, e2, h1, f1, g1, kp, kg⟩ := fl_gap F (by omega) (hX10_flood_38 F fu) (hX12_flood_101 F gu) (rm := rm) (sc := sc) (k := k) (N := N) (room := room) (g := nI 1) (lost := nI 0) hz ha hbs hPb hp hc hpk c40 κ (Or.inl ⟨rfl, rfl, zw_at _ _ _ _, fun z => ⟨p1, p2, hPu, (hκ3 z).2⟩⟩)
        unfold jX10_flood_117
        rw [e1, e2]
        refine next m rm X1 Y1 h1 (f1.sub (by decide)) (fun i _ => by rw [f1 0 (by decide)]) ((gz.sub (by decide)).trans (g1.sub (by decide))) (fun x hx => ?_) hra (fun x hx1 hx2 => ?_) (fun c0 j hj hnr => ?_)
        · rw [g1 10 (by decide)]
          by_cases q : x = f k
          · subst q; rw [zw_at]; exact ⟨fun z => absurd z hbnot, fun _ => rfl⟩
          · rw [zw_no (Or.inr q)]; exact hr x hx
        · rcases hrs x hx1 hx2 with q | ⟨j, hj, ej⟩
          · exact Or.inl q
          · exact Or.inr ⟨j, by omega, ej⟩
        · by_cases q : j = k
          · subst q
            obtain ⟨q1, q2⟩ := (kg c0).1 rfl
            have := (hκ3 c0).1
            exact ⟨κ + 1, by omega, Or.inr ⟨by omega, by omega, q1, q2⟩⟩
          · obtain ⟨κ', k1, k2⟩ := hgp c0 j (by omega) hnr
            exact ⟨κ', k1, old X1 kp j (by omega) κ' k2⟩
      have ey : ∃ room, jX12_flood_150 F (hX12_flood_101 F gu) (nI a) (nI c) pk sc (nI (f k)) (nI (gP G s a (f k))) Y = jX12_flood_273 F (hX12_flood_101 F gu) (nI a) (nI c) pk sc (nI (f k)) (nI (gP G s a (f k))) (nI 0) room (zw Y 10 (f k) (nI 0)) := by
        unfold jX12_flood_150 jX12_flood_151 jX12_flood_177 jX12_flood_178 jX12_flood_200 jX12_flood_201 jX12_flood_219 jX12_flood_247
        have q0 : nI 0 = (0 : Int32) := rfl
        rw [if_pos q0, if_pos q0, i6b, qchk, vn_0, z6b, qchk, zw_at, if_pos q0, qchk, if_pos q0, qchk, if_pos q0, qchk, if_pos q0]
        split
        · exact ⟨_, rfl⟩
        · exact ⟨_, rfl⟩
      obtain ⟨room, ey⟩ := ey
      rw [ey]
      exact step room
    by_cases u : hb rm (gP G s a (f k))
    · have u1 : ((rm >>> (nI (gP G s a (f k)) &&& 31)) &&& nI 1) = nI 1 := u
      have r1 := (hr _ p1).1 u
      rw [if_pos u1, r1, if_neg (show ¬ nI 1 = 0 by decide)]
      by_cases cs : nI (gH G s a (f k)) ≤ sc
      · have cs' : ¬ sc < nI (gH G s a (f k)) := fun z => by rw [Int32.le_iff_toInt_le] at cs; rw [Int32.lt_iff_toInt_lt] at z; omega
        rw [if_pos cs, if_neg cs']
        -- the link
        have hbl : bw G (gP G s a (f k)) (f k) < l := by rw [← hGl]; exact hdd.1
        obtain ⟨Xh, Y1, r, r', e1, e2, e3, h1, f1, g1⟩ := s_cross h hbl
        obtain ⟨X1, e1', eh, f1'⟩ := nw_cross (show bw G (gP G s a (f k)) (f k) < 10 by omega) e1
        subst eh
        rw [e1', qbd]
        unfold jX12_flood_151
        rw [if_neg (show ¬ nI 1 = 0 by decide), y_bw hG (h.1.gY (hX.fr (nw_fr P p X) (by decide)) hGl) F (by omega) (by omega) (by omega), if_neg (show ¬ bw G (gP G s a (f k)) (f k) = gl G by omega), qbd, e2, qbd]
        have fX1 : fr flL X X1 := f1'.sub (by decide)
        have z01 : ∀ i, i ≠ 10 → X1 0 i = X 0 i := fun i _ => by rw [f1' 0 (by decide)]
        have c40' : X1 40 (a * 6 + f k) = nI (gP G s a (f k)) := by rw [f1' 40 (by decide)]; exact c40
        have gpk : ∀ j, j < k → ∀ κ, gpc (nwO P p X) (f j * 12 + p) κ → gpc (nwO P p X1) (f j * 12 + p) κ := fun j _ κ hg => by
          unfold gpc at *; rw [f1 30 (by decide), f1 31 (by decide)]; exact hg
        rcases e3 with ⟨rfl, rfl⟩ | ⟨rfl, rfl⟩
        · -- lost
          rw [if_pos (show (nI 0, X1).fst = 0 from rfl), if_neg (show ¬ (nI 1, Y1).fst = 0 from (by decide : ¬ nI 1 = 0))]
          have gz : fr [10] Y1 (zw Y1 10 (f k) (nI 0)) := fr1
          have hz := h1.frY gz (by decide) (by decide)
          have step : ∀ room, ∃ X' Y' m', jX10_flood_175 F (hX10_flood_38 F fu) (nI a) (nI c) pk sc rm (nI N) (nI k) (nI (f k)) (nI (a * 6 + f k)) (nI 0) X1 = (if nI c = 0 then zbd (eX10_tellNoWay F (nI a) pk X') fun y4 => some y4 else some X') ∧ jX12_flood_273 F (hX12_flood_101 F gu) (nI a) (nI c) pk sc (nI (f k)) (nI (gP G s a (f k))) (nI 1) room (zw Y1 10 (f k) (nI 0)) = some Y' ∧ wS (0, Z) s l m' T (nwO P p X') Y' ∧ fr flL X X' ∧ fr [1, 10] Y Y' ∧ (∀ i, i ≠ 10 → X' 0 i = X 0 i) := by
            intro room
            obtain ⟨X2, Y2, e4, e5, h2, f2, g2, kp, kg⟩ := fl_gap F (by omega) (hX10_flood_38 F fu) (hX12_flood_101 F gu) (rm := rm) (sc := sc) (k := k) (N := N) (room := room) (g := nI 0) (lost := nI 1) hz ha hbs hPb hp hc hpk c40' 0 (Or.inr (Or.inl ⟨rfl, rfl⟩))
            rw [e4, e5]
            refine next m rm X2 Y2 h2 (fX1.trans (f2.sub (by decide))) (fun i hi => by rw [f2 0 (by decide), z01 i hi]) (((g1.sub (by decide)).trans (gz.sub (by decide))).trans (g2.sub (by decide))) (fun x hx => ?_) hra (fun x hx1 hx2 => ?_) (fun c0 j hj hnr => ?_)
            · rw [g2 10 (by decide)]
              by_cases q : x = f k
              · subst q; rw [zw_at]; exact ⟨fun z => absurd z hbnot, fun _ => rfl⟩
              · rw [zw_no (Or.inr q), g1 10 (by decide)]; exact hr x hx
            · rcases hrs x hx1 hx2 with q | ⟨j, hj, ej⟩
              · exact Or.inl q
              · exact Or.inr ⟨j, by omega, ej⟩
            · by_cases q : j = k
              · subst q
                obtain ⟨q1, q2⟩ := (kg c0).2 rfl
                exact ⟨0, by omega, Or.inl ⟨rfl, q1, q2⟩⟩
              · obtain ⟨κ', k1, k2⟩ := hgp c0 j (by omega) hnr
                have hne := ord_inj ho (show j < k by omega) hkN
                obtain ⟨q1, q2⟩ := kp (f j * 12 + p) (by omega)
                have := gpk j (by omega) κ' k2
                exact ⟨κ', k1, by unfold gpc at *; rw [q1, q2]; exact this⟩
          have ey : ∃ room, jX12_flood_178 F (hX12_flood_101 F gu) (nI a) (nI c) pk sc (nI (f k)) (nI (gP G s a (f k))) (nI 1) (nI 1) Y1 = jX12_flood_273 F (hX12_flood_101 F gu) (nI a) (nI c) pk sc (nI (f k)) (nI (gP G s a (f k))) (nI 1) room (zw Y1 10 (f k) (nI 0)) := by
            unfold jX12_flood_178 jX12_flood_200 jX12_flood_201 jX12_flood_219 jX12_flood_247
            have q0 : nI 0 = (0 : Int32) := rfl
            have q1 : ¬ nI 1 = (0 : Int32) := by decide
            rw [if_neg q1, if_neg q1, i6b, qchk, vn_0, z6b, qchk, zw_at, if_pos q0, qchk, if_pos q0, qchk, if_pos q0, qchk, if_pos q0]
            split
            · exact ⟨_, rfl⟩
            · exact ⟨_, rfl⟩
          obtain ⟨room, ey⟩ := ey
          rw [ey]
          exact step room
        · -- reached
          rw [if_neg (show ¬ (nI 1, X1).fst = 0 from (by decide : ¬ nI 1 = 0)), if_pos (show (nI 0, Y1).fst = 0 from rfl), qlet]
          have gz : fr [10] Y1 (zw Y1 10 (f k) (nI 1)) := fr1
          have hz := h1.frY gz (by decide) (by decide)
          have hb' : ∀ x, x < s → (hb (rm ||| (nI 1 <<< (nI (f k) &&& 31))) x ↔ hb rm x ∨ x = f k) := fun x hx => hb_or (by omega) (by omega)
          have rch : ∀ (Y2 : zX), Y2 10 = zw Y1 10 (f k) (nI 1) 10 → rchR s (rm ||| (nI 1 <<< (nI (f k) &&& 31))) Y2 := fun Y2 hy x hx => by
            rw [hy]
            by_cases q : x = f k
            · subst q; rw [zw_at]; exact ⟨fun _ => rfl, fun z => absurd ((hb' _ hx).mpr (Or.inr rfl)) z⟩
            · rw [zw_no (Or.inr q), g1 10 (by decide)]
              exact ⟨fun z => (hr x hx).1 (((hb' x hx).mp z).resolve_right q), fun z => (hr x hx).2 (fun w => z ((hb' x hx).mpr (Or.inl w)))⟩
          have rsx : ∀ x, hb (rm ||| (nI 1 <<< (nI (f k) &&& 31))) x → x < s → x = a ∨ ∃ j, j < k + 1 ∧ f j = x := fun x hx1 hx2 => by
            rcases (hb' x hx2).mp hx1 with q | q
            · rcases hrs x q hx2 with q | ⟨j, hj, ej⟩
              · exact Or.inl q
              · exact Or.inr ⟨j, by omega, ej⟩
            · exact Or.inr ⟨k, by omega, q.symm⟩
          have gpx : ∀ (X2 X3 : zX), fr [0, 7, 45, 46, 47, 48, 49, 50, 51, 52, 53, 54] X1 X2 → (∀ i, i ≠ f k * 12 + p → nwO P p X3 30 i = nwO P p X2 30 i ∧ nwO P p X3 31 i = nwO P p X2 31 i) → (nwO P p X2 30 = nwO P p X1 30 ∧ nwO P p X2 31 = nwO P p X1 31) → c = 0 → ∀ j, j < k + 1 → ¬ hb (rm ||| (nI 1 <<< (nI (f k) &&& 31))) (f j) → ∃ κ, κ + 1 ≤ gH G s a (f j) ∧ gpc (nwO P p X3) (f j * 12 + p) κ := by
            intro X2 X3 _ hk3 h23 c0 j hj hnr
            have hjs := (ho.2.1 j (by omega)).1
            have q : j ≠ k := fun z => by subst z; exact hnr ((hb' _ hjs).mpr (Or.inr rfl))
            obtain ⟨κ', k1, k2⟩ := hgp c0 j (by omega) (fun z => hnr ((hb' _ hjs).mpr (Or.inl z)))
            have hne := ord_inj ho (show j < k by omega) hkN
            obtain ⟨q1, q2⟩ := hk3 (f j * 12 + p) (by omega)
            have := gpk j (by omega) κ' k2
            exact ⟨κ', k1, by unfold gpc at *; rw [q1, q2, h23.1, h23.2]; exact this⟩
          have e7 : X1 7 0 = nI m := by rw [f1' 7 (by decide)]; have := h.1.airs; rw [nw_row (by decide)] at this; exact this
          have hmle := h.1.hm
          have e12 : Y1 1 12 = nI m := by rw [h1.1.mn, nw_row (by decide)]; exact e7
          dsimp only
          by_cases hfull : m < 64
          · -- there is room
            rw [if_neg (show ¬ ¬ X1 7 0 < nI 64 from fun z => z (by rw [e7]; exact (nI_ltI (by omega) (by decide)).mpr hfull))]
            have h39 : nwO P p X1 39 (a * 6 + f k) = nI (gW G s a (f k)) := by
              rw [nw_row (by decide), f1' 39 (by decide), w39 (f k) hbs]; exact lenE_lt hwb
            obtain ⟨Xh2, Y2, d1, d2, h2, f2, g2⟩ := s_launch hz hT (c := c) ha hbs hab hc hfull h39 (by rw [gz 7 (by decide), g1 7 (by decide)]; exact y7) pk sc (fun z => by rw [nw_row (by decide), f1' 10 (by decide)]; exact hpa z)
            obtain ⟨X2, d1', eh2, f2'⟩ := nw_launch (show a < 6 by omega) (show f k < 6 by omega) hc hfull e7 d1
            subst eh2
            obtain ⟨X3, Y3, e4, e5, h3, f3, g3, kp, kg⟩ := fl_gap F (by omega) (hX10_flood_38 F fu) (hX12_flood_101 F gu) (rm := rm ||| (nI 1 <<< (nI (f k) &&& 31))) (sc := sc) (k := k) (N := N) (room := nI 1) (g := -1) (lost := nI 0) (u := gP G s a (f k)) h2 ha hbs hPb hp hc hpk (by rw [f2' 40 (by decide)]; exact c40') 0 (Or.inr (Or.inr (Or.inr ⟨rfl, rfl, by rw [g2 10 (by decide), zw_at], rfl⟩)))
            have ey : jX12_flood_177 F (hX12_flood_101 F gu) (nI a) (nI c) pk sc (nI (f k)) (nI (gP G s a (f k))) (nI 1) Y1 = jX12_flood_273 F (hX12_flood_101 F gu) (nI a) (nI c) pk sc (nI (f k)) (nI (gP G s a (f k))) (nI 0) (nI 1) Y2 := by
              unfold jX12_flood_177 jX12_flood_178 jX12_flood_201 jX12_flood_219 jX12_flood_247
              have q0 : nI 0 = (0 : Int32) := rfl
              have q1 : ¬ nI 1 = (0 : Int32) := by decide
              rw [if_neg q1, if_pos q0, i6b, qchk, vn_1, z6b, e12, if_neg (fun z => by have := (nI_leI (by decide) (by omega)).mp z; omega), qchk, zw_at, if_neg q1, if_neg q1, d2, qbd, qchk, g2 10 (by decide), zw_at, if_neg q1, if_neg q1]
            rw [ey]
            unfold jX10_flood_162
            rw [d1', qbd, e4, e5]
            refine next (m + 1) _ X3 Y3 h3 ((fX1.trans (f2'.sub (by decide))).trans (f3.sub (by decide))) (fun i hi => by rw [f3 0 (by decide), f2' 0 (by decide), z01 i hi]) ((((g1.sub (by decide)).trans (gz.sub (by decide))).trans (g2.sub (by decide))).trans (g3.sub (by decide))) (rch Y3 (by rw [g3 10 (by decide), g2 10 (by decide)])) ((hb' a ha).mpr (Or.inl hra)) rsx (gpx X2 X3 (f2'.sub (by decide)) kp ⟨by funext i; unfold nwO; rw [f2' 30 (by decide)], by funext i; unfold nwO; rw [f2' 31 (by decide)]⟩)
          · -- the crowd
            have hm64 : m = 64 := by omega
            have hfl : ¬ X1 7 0 < nI 64 := fun z => hfull (by rw [e7] at z; exact (nI_ltI (by omega) (by decide)).mp z)
            rw [if_pos hfl]
            have h2 := hz.w (hz.1.w_row0 (v := (nwO P p X1 0 10) + nI 1) (i := 10) (a := 13) (Or.inr (Or.inl ⟨rfl, rfl⟩))) (Or.inl (by decide))
            have ex2 : zw (nwO P p X1) 0 10 ((nwO P p X1 0 10) + nI 1) = nwO P p (zw X1 0 10 ((X1 0 10) + nI 1)) := by
              rw [nw_w (Or.inl (by decide)), nw_row (by decide)]
            rw [ex2] at h2
            have f2' : fr [0] X1 (zw X1 0 10 ((X1 0 10) + nI 1)) := fr1
            have g2 : fr [1] (zw Y1 10 (f k) (nI 1)) (zw (zw Y1 10 (f k) (nI 1)) 1 13 ((nwO P p X1 0 10) + nI 1)) := fr1
            obtain ⟨X3, Y3, e4, e5, h3, f3, g3, kp, kg⟩ := fl_gap F (by omega) (hX10_flood_38 F fu) (hX12_flood_101 F gu) (rm := rm ||| (nI 1 <<< (nI (f k) &&& 31))) (sc := sc) (k := k) (N := N) (room := nI 0) (g := nI 3) (lost := nI 0) (u := gP G s a (f k)) h2 ha hbs hPb hp hc hpk (by rw [f2' 40 (by decide)]; exact c40') 0 (Or.inr (Or.inr (Or.inl ⟨rfl, rfl, by rw [g2 10 (by decide), zw_at], rfl⟩)))
            have ey : jX12_flood_177 F (hX12_flood_101 F gu) (nI a) (nI c) pk sc (nI (f k)) (nI (gP G s a (f k))) (nI 1) Y1 = jX12_flood_273 F (hX12_flood_101 F gu) (nI a) (nI c) pk sc (nI (f k)) (nI (gP G s a (f k))) (nI 0) (nI 0) (zw (zw Y1 10 (f k) (nI 1)) 1 13 ((nwO P p X1 0 10) + nI 1)) := by
              unfold jX12_flood_177 jX12_flood_178 jX12_flood_201 jX12_flood_219 jX12_flood_247
              have q0 : nI 0 = (0 : Int32) := rfl
              have q1 : ¬ nI 1 = (0 : Int32) := by decide
              rw [if_neg q1, if_pos q0, i6b, qchk, vn_1, z6b, e12, if_pos ((nI_leI (by decide) (by omega)).mpr (by omega)), qchk, zw_at, if_neg q1, if_pos q0, qchk, if_neg q1, if_pos q0, hz.1.crowd]
            rw [ey]
            unfold jX10_flood_162 eX10_launch
            rw [if_pos hfl, qbd, e4, e5]
            refine next m _ X3 Y3 h3 ((fX1.trans (f2'.sub (by decide))).trans (f3.sub (by decide))) (fun i hi => by rw [f3 0 (by decide), zw_no (Or.inr hi), z01 i hi]) ((((g1.sub (by decide)).trans (gz.sub (by decide))).trans (g2.sub (by decide))).trans (g3.sub (by decide))) (rch Y3 (by rw [g3 10 (by decide), g2 10 (by decide)])) ((hb' a ha).mpr (Or.inl hra)) rsx (gpx _ X3 (f2'.sub (by decide)) kp ⟨by funext i; unfold nwO; rw [f2' 30 (by decide)], by funext i; unfold nwO; rw [f2' 31 (by decide)]⟩)
      · have cs' : sc < nI (gH G s a (f k)) := by rw [Int32.le_iff_toInt_le] at cs; rw [Int32.lt_iff_toInt_lt]; omega
        rw [if_neg cs, if_pos cs']
        refine notMay (fun c0 => ?_)
        exfalso
        apply cs
        rw [hsc c0]
        exact (nI_leI (by omega) (by decide)).mpr hH5
    · have u1 : ¬ ((rm >>> (nI (gP G s a (f k)) &&& 31)) &&& nI 1) = nI 1 := u
      have r1 := (hr _ p1).2 u
      rw [if_neg u1, r1, if_pos (show nI 0 = 0 from rfl)]
      exact notMay (fun _ => u)
end FM
