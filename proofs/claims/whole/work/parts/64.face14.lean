/-! who gave it, and who gave it to that one -/
theorem cnt_add (P P' : Nat → Bool) (g : Nat) (hg : P g = false) : ∀ j, (∀ q, q < j → (P' q = true ↔ P q = true ∨ q = g)) → cntP P' j = cntP P j + (if g < j then 1 else 0)
  | 0, _ => rfl
  | j + 1, h => by
    have ih := cnt_add P P' g hg j (fun q hq => h q (by omega))
    have hj := h j (by omega)
    unfold cntP
    rw [ih]
    by_cases c : j = g
    · subst c
      have h1 : P' j = true := hj.mpr (Or.inr rfl)
      rw [if_neg (show ¬ j < j by omega), if_pos (show j < j + 1 by omega), h1, hg]; rfl
    · by_cases c2 : P j = true
      · have h1 : P' j = true := hj.mpr (Or.inl c2)
        rw [if_pos h1, if_pos c2]
        by_cases c3 : g < j
        · rw [if_pos c3, if_pos (show g < j + 1 by omega)]
        · rw [if_neg c3, if_neg (show ¬ g < j + 1 by omega)]
      · have h1 : ¬ P' j = true := fun z => (hj.mp z).elim c2 c
        rw [if_neg h1, if_neg c2]
        by_cases c3 : g < j
        · rw [if_pos c3, if_pos (show g < j + 1 by omega)]
        · rw [if_neg c3, if_neg (show ¬ g < j + 1 by omega)]
theorem cnt_1 : ∀ n, n < 6 → cntP (fun q => bt (nI 1 <<< (nI n &&& 31)) q) 6 = 1 := by decide +kernel
theorem cnt_or {v : Int32} {g : Nat} (hg : g < 6) (h : ¬ hb v g) : cntP (fun q => bt (v ||| (nI 1 <<< (nI g &&& 31))) q) 6 = cntP (fun q => bt v q) 6 + 1 := by
  rw [cnt_add (fun q => bt v q) (fun q => bt (v ||| (nI 1 <<< (nI g &&& 31))) q) g (by
    have := mt (hb_bt (v := v) (p := g) (by omega)).mpr h
    simpa using this) 6 (fun q hq => by
    rw [← hb_bt (by omega), ← hb_bt (by omega), hb_or (by omega) (by omega)]), if_pos hg]
section GI
variable {T : Nat} {μ : zM}
theorem r_giv (F : Nat) {s p : Nat} (hs : s ≤ 6) (hp : p < 12) (J : J7 s (μ 4)) : ∀ (d i fu fu' g : Nat) (seen : Int32) (Y : zX), i + d = 5 → d + 1 < fu → d + 1 < fu' → g < s → cntP (fun q => bt seen q) 6 = i + 2 → Y 11 i = nI g → (∀ n, n < s → Y 1 (18 + 244 * n + (28 + 18 * p + 9)) = (μ 4) 32 (n * 12 + p)) → ∃ k Y', hX12_laysGivers_33 F fu' (nI p) (nI (i + 1)) seen ((μ 4) 32 (g * 12 + p)) Y = some (nI k, Y') ∧ i < k ∧ k ≤ 6 ∧ fr [11] Y Y' ∧ (∀ q, q ≤ i → Y' 11 q = Y 11 q) ∧ ∀ c, i ≤ c → c < 6 → hX11_giver_62 F fu (nI p) (nI c) (nI g) seen (nI i) μ = some (.inl (if c < k then Y' 11 c else -1), μ) := by
  intro d
  induction d with
  | zero =>
    intro i fu fu' g seen Y h1 h2 h3 hg hc h4 h5
    have := cntP_le (fun q => bt seen q) 6
    omega
  | succ d ih =>
    intro i fu fu' g seen Y h1 h2 h3 hg hc h4 h5
    obtain ⟨fu, rfl⟩ := Nat.exists_eq_succ_of_ne_zero (show fu ≠ 0 by omega)
    obtain ⟨fu', rfl⟩ := Nat.exists_eq_succ_of_ne_zero (show fu' ≠ 0 by omega)
    have stop : ∀ {w : Option (Int32 × zX)}, w = some (nI (i + 1), Y) → (∀ c, i < c → c < 6 → hX11_giver_62 F (fu + 1) (nI p) (nI c) (nI g) seen (nI i) μ = some (.inl (-1), μ)) → ∃ k Y', w = some (nI k, Y') ∧ i < k ∧ k ≤ 6 ∧ fr [11] Y Y' ∧ (∀ q, q ≤ i → Y' 11 q = Y 11 q) ∧ ∀ c, i ≤ c → c < 6 → hX11_giver_62 F (fu + 1) (nI p) (nI c) (nI g) seen (nI i) μ = some (.inl (if c < k then Y' 11 c else -1), μ) := by
      intro w e1 e2
      refine ⟨i + 1, Y, e1, by omega, by omega, fr.refl _ _, fun _ _ => rfl, fun c hc1 hc2 => ?_⟩
      by_cases z : c = i
      · subst z
        rw [if_pos (by omega), h4]
        unfold hX11_giver_62
        rw [if_pos ((nI_leI (by omega) (by omega)).mpr (Nat.le_refl _))]
      · rw [if_neg (by omega), e2 c (by omega) hc2]
    have cls : ∀ c, i < c → c < 6 → hX11_giver_62 F (fu + 1) (nI p) (nI c) (nI g) seen (nI i) μ = (if (μ 4) 32 (g * 12 + p) = -1 then some (.inl (-1), μ) else if ((seen >>> (((μ 4) 32 (g * 12 + p)) &&& 31)) &&& (nI 1)) = (nI 1) then some (.inl (-1), μ) else hX11_giver_62 F fu (nI p) (nI c) ((μ 4) 32 (g * 12 + p)) (seen ||| ((nI 1) <<< (((μ 4) 32 (g * 12 + p)) &&& 31))) (nI (i + 1)) μ) := fun c h1 h2 => by
      conv => lhs; unfold hX11_giver_62
      rw [if_neg (nI_ge h1 (by omega)), x_ix, x_in (by omega) hp, qchk, x_zn (by omega) hp, zg_id, nI_add]
      rfl
    by_cases c1 : (μ 4) 32 (g * 12 + p) = -1
    · refine stop ?_ (fun c h1 h2 => by rw [cls c h1 h2, if_pos c1])
      unfold hX12_laysGivers_33
      rw [if_pos c1]
    · obtain ⟨o, ho, eo⟩ := (J g p hg hp).resolve_left c1
      by_cases c2 : ((seen >>> (((μ 4) 32 (g * 12 + p)) &&& 31)) &&& (nI 1)) = (nI 1)
      · refine stop ?_ (fun c h1 h2 => by rw [cls c h1 h2, if_neg c1, if_pos c2])
        unfold hX12_laysGivers_33
        rw [if_neg c1, if_pos c2]
      · have c2' : ¬ hb seen o := by unfold hb; rw [← eo]; exact c2
        have hcn := cnt_or (v := seen) (g := o) (by omega) c2'
        have hle := cntP_le (fun q => bt (seen ||| (nI 1 <<< (nI o &&& 31))) q) 6
        obtain ⟨k, Y', e1, k1, k2, k3, k4, k5⟩ := ih (i + 1) fu fu' o (seen ||| (nI 1 <<< (nI o &&& 31))) (zw Y 11 (i + 1) (nI o)) (by omega) (by omega) (by omega) ho (by omega) (zw_at _ _ _ _) (fun n hn => by rw [zw_no (Or.inl (by decide))]; exact h5 n hn)
        refine ⟨k, Y', ?_, by omega, k2, (fr1 (k := 11)).trans k3, fun q hq => by rw [k4 q (by omega), zw_no (Or.inr (by omega))], fun c hc1 hc2 => ?_⟩
        · unfold hX12_laysGivers_33
          rw [if_neg c1, if_neg c2, qzin (show i + 1 < 6 by omega) (by omega), qchk, qzn (by omega), eo, y_pk _ (by omega) hp (by decide), qbd, zw_no (Or.inl (by decide)), h5 o ho, nI_add]
          exact e1
        · by_cases z : c = i
          · subst z
            rw [if_pos (by omega), k4 c (by omega), zw_no (Or.inr (by omega)), h4]
            unfold hX11_giver_62
            rw [if_pos ((nI_leI (by omega) (by omega)).mpr (Nat.le_refl _))]
          · rw [cls c (by omega) hc2, if_neg c1, if_neg c2, eo]
            exact k5 c (by omega) hc2
end GI
section F17
variable {T : Nat} {μ : zM}
theorem f_giver (F : Nat) (hF : 300 ≤ F) (h : INV T μ) (x0 x1 x2 : Int32) : ∃ res, eX11_giver F x0 x1 x2 μ = some (res, μ) ∧ okR T μ res [eIO] (eX12_giver F x0 x1 x2 (μ 1)) := by
  obtain ⟨s, l, nx, m, Z, hw, hW, hK⟩ := h.2.2.2.1
  have hs := hw.hs
  have hl := hw.hl
  have hm := hw.hm
  have hw0 := hw.row (Y' := zw (μ 1) 0 0 (nI 0)) (r_0 _)
  have J := hw.1.2.2.2.2.2.2.2.1
  unfold eX11_giver eX12_giver
  rw [hw.nodes, zg_id]
  rcases rg_cases x0 (N := s) (by omega) with ⟨n, hn, rfl⟩ | hx
  · rw [if_neg (rg_in hn (by omega))]
    rcases rg_cases x1 (N := 12) (by omega) with ⟨p, hp, rfl⟩ | hy
    · have n6 : n < 6 := by omega
      rw [if_neg (rg_in hp (by omega)), y_nnp1 hw hn hp, qbd, if_pos q00]
      dsimp only
      rw [x_ix, x_in n6 hp, qchk, x_zn n6 hp]
      have gv : ∀ q, q < s → (zw (μ 1) 0 0 (nI 0)) 1 (18 + 244 * q + (28 + 18 * p + 9)) = (μ 4) 32 (q * 12 + p) := fun q hq => hw0.giver hq hp
      have yg : ∃ k Y', eX12_laysGivers F (nI n) (nI p) (zw (μ 1) 0 0 (nI 0)) = some (nI k, Y') ∧ k ≤ 6 ∧ fr [11] (zw (μ 1) 0 0 (nI 0)) Y' ∧ ∀ c, c < 6 → (if (μ 4) 32 (n * 12 + p) = -1 then some ((Sum.inl (-1) : Int32 ⊕ String), μ) else zlet (((nI 1) <<< (nI n &&& 31)) ||| ((nI 1) <<< (((μ 4) 32 (n * 12 + p)) &&& 31))) fun v7 => hX11_giver_62 F F (nI p) (nI c) ((μ 4) 32 (n * 12 + p)) v7 (nI 0) μ) = some (.inl (if c < k then Y' 11 c else -1), μ) := by
        obtain ⟨f, rfl⟩ : ∃ f, F = f + 1 := ⟨F - 1, by omega⟩
        unfold eX12_laysGivers
        rw [y_pk _ n6 hp (by decide), qbd, gv n hn]
        by_cases c1 : (μ 4) 32 (n * 12 + p) = -1
        · refine ⟨0, _, ?_, by omega, fr.refl _ _, fun c hc => ?_⟩
          · rw [c1, if_neg (fun z => nI_ne_m1 (show n < 2147483648 by omega) z.symm)]
            unfold hX12_laysGivers_33
            rw [if_pos rfl]
          · rw [if_pos c1, if_neg (Nat.not_lt_zero c)]
        · obtain ⟨o, ho, eo⟩ := (J n p hn hp).resolve_left c1
          by_cases c2 : o = n
          · subst c2
            rw [eo, if_pos rfl]
            refine ⟨1, _, rfl, by omega, fr1, fun c hc => ?_⟩
            rw [if_neg (nI_ne_m1 (by omega)), qlet]
            by_cases cz : c = 0
            · subst cz
              rw [if_pos (by decide), zw_at]
              unfold hX11_giver_62
              rw [if_pos (show nI 0 ≤ nI 0 by decide)]
            · rw [if_neg (by omega)]
              have hbo : (((nI 1 <<< (nI o &&& 31)) ||| (nI 1 <<< (nI o &&& 31))) >>> (nI o &&& 31)) &&& nI 1 = nI 1 := (hb_or (v := nI 1 <<< (nI o &&& 31)) (p := o) (q := o) (by omega) (by omega)).mpr (Or.inr rfl)
              unfold hX11_giver_62
              rw [if_neg (nI_ge (show 0 < c by omega) (by omega)), x_ix, x_in n6 hp, qchk, x_zn n6 hp, zg_id, eo, if_neg (nI_ne_m1 (by omega)), if_pos hbo]
          · rw [eo, if_neg (fun z => c2 ((nI_eq (by omega) (by omega)).mp z))]
            have hno : ¬ hb (nI 1 <<< (nI n &&& 31)) o := by
              rw [hb_bt (by omega), hb_1shl (by omega) (by omega)]
              simpa using c2
            have hcn := cnt_or (v := nI 1 <<< (nI n &&& 31)) (g := o) (by omega) hno
            rw [cnt_1 n n6] at hcn
            obtain ⟨k, Y', e1, k1, k2, k3, k4, k5⟩ := r_giv (μ := μ) (f + 1) hs hp J 5 0 (f + 1) f o ((nI 1 <<< (nI n &&& 31)) ||| (nI 1 <<< (nI o &&& 31))) (zw (zw (μ 1) 0 0 (nI 0)) 11 0 (nI o)) rfl (by omega) (by omega) ho hcn (zw_at _ _ _ _) (fun q hq => by rw [zw_no (Or.inl (by decide))]; exact gv q hq)
            refine ⟨k, Y', ?_, k2, (fr1 (k := 11)).trans k3, fun c hc => ?_⟩
            · unfold hX12_laysGivers_33
              rw [if_neg (nI_ne_m1 (by omega)), if_neg (show ¬ ((((nI 1 <<< (nI n &&& 31)) >>> (nI o &&& 31)) &&& nI 1) = nI 1) from hno), qzin (show 0 < 6 by omega) (by omega), qchk, qzn (by omega), y_pk _ (by omega) hp (by decide), qbd, zw_no (Or.inl (by decide)), gv o ho, nI_add]
              exact e1
            · rw [if_neg (nI_ne_m1 (by omega)), qlet]
              exact k5 c (Nat.zero_le _) hc
      obtain ⟨k, Y', e1, e2, e3, e4⟩ := yg
      have st : stY (μ 1) Y' := (st_0 _).trans (stY.fr e3 (by decide))
      have r1 : Y' 1 = (μ 1) 1 := (e3 1 (by decide)).trans (r_0 _)
      have z0 : Y' 0 0 = nI 0 := by rw [e3 0 (by decide), zw_at]
      rw [e1, qbd]
      dsimp only
      rcases rg_cases x2 (N := 6) (by omega) with ⟨c, hc, rfl⟩ | hz
      · have e4' := e4 c hc
        rw [if_neg (nI_pos (by omega)), if_neg (nI_ge hc (by omega)), e4']
        by_cases ck : c < k
        · rw [if_pos ck, if_pos (rg_y ck (by omega)), qzin hc (by omega), qchk, qzn (by omega)]
          exact ⟨_, rfl, okR_val h st r1 z0 _ _⟩
        · have cq : ¬ ((¬ (nI c < nI 0)) ∧ (¬ ((nI k - nI 1) < nI c))) := rg_n (by omega) (Or.inr ((nI_leI (by omega) (by omega)).mpr (by omega)))
          rw [if_neg ck, if_neg cq]
          exact ⟨_, rfl, okR_val h st r1 z0 _ _⟩
      · have cq : ¬ ((¬ (x2 < nI 0)) ∧ (¬ ((nI k - nI 1) < x2))) := rg_n (by omega) (hz.imp id (fun z => by
          rw [Int32.le_iff_toInt_le, nI_toInt (by omega)] at z ⊢; omega))
        have e : ∀ {α : Type} {a b : α}, (if x2 < 0 then b else if nI 6 ≤ x2 then b else a) = b := by
          intro α a b
          rcases hz with z | z
          · rw [if_pos z]
          · rw [if_pos z, ite_self]
        rw [e, if_neg cq]
        exact ⟨_, rfl, okR_val h st r1 z0 _ _⟩
    · rw [if_pos hy, y_nnp2 hw (Or.inr hy), qbd, if_neg q11]
      exact ⟨_, rfl, okR_thr h (st_00 _ _) (r_00 _ _) 0 rfl (zw_at _ _ _ _) _⟩
  · rw [if_pos hx, y_nnp2 hw (Or.inl hx), qbd, if_neg q11]
    exact ⟨_, rfl, okR_thr h (st_00 _ _) (r_00 _ _) 0 rfl (zw_at _ _ _ _) _⟩
end F17
