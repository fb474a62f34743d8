/-! more of what is read between calls -/
section F2
variable {lo : Nat × (Nat → Int32)} {s l m : Nat} {T : Nat × Nat} {X Y : zX}
theorem wR.toS (h : wR lo s l m T X Y) : wS lo s l m T X (zw Y 0 16 (X 2 1)) := ⟨h.row (zw_row_ne (by decide)), (zw_at _ _ _ _).symm⟩
theorem r_isUp (h : wR lo s l m T X Y) {n : Nat} (hn : n < s) : eX12_isUp (nI n) Y = some (zB (((X 3 1 >>> (nI n &&& 31)) &&& nI 1) = nI 1)) := by
  have := s_isUp h.toS hn
  unfold eX12_isUp eX12_of at this ⊢
  rw [zw_row_ne (by decide)] at this
  exact this
theorem r_has (h : wR lo s l m T X Y) {n : Nat} (hn : n < s) (p : Int32) : eX12_hasIt (nI n) p Y = some (zB (((X 9 n >>> (p &&& 31)) &&& nI 1) = nI 1)) := by
  have := y_hasP h.toS hn p
  unfold eX12_hasIt eX12_of at this ⊢
  rw [zw_row_ne (by decide)] at this
  exact this
theorem r_est (h : wR lo s l m T X Y) {n o : Nat} (hn : n < s) (ho : o < s) (hne : n ≠ o) : ∃ f, f ≤ T.1 + 4 ∧ X 18 (n * 6 + o) = nI f ∧ eX12_estOf (nI n) (nI o) Y = some (nI f) := by
  have := s_est h.toS hn ho hne
  unfold eX12_estOf at this ⊢
  rw [zw_row_ne (by decide)] at this
  exact this
theorem r_src (h : wR lo s l m T X Y) {n : Nat} (hn : n < s) : ∃ f, f ≤ T.1 + 4 ∧ eX10_sourceDistance (nI n) X = some (nI f) ∧ eX12_estOf (nI n) (Y 1 3) Y = some (nI f) := by
  have := s_src h.toS hn
  unfold eX12_estOf at this ⊢
  rw [zw_row_ne (by decide)] at this
  exact this
theorem y_nR {n : Nat} (hn : n < 12) : zB (¬ ((¬ (nI n < nI 0)) ∧ (¬ (nI 11 < nI n)))) = nI 0 := zB_f (fun z => z ⟨nI_pos (by omega), nI_nlt (by omega) (by omega)⟩)
theorem y_oR {x : Int32} (h : x < 0 ∨ nI 12 ≤ x) : zB (¬ ((¬ (x < nI 0)) ∧ (¬ (nI 11 < x)))) = nI 1 := zB_t (by
  have := rg_n (N := 12) (by omega) h
  rw [nI_sub (by omega)] at this
  exact this)
end F2
section F3
variable {T : Nat} {μ : zM}
theorem f_est (h : INV T μ) (x0 x1 : Int32) : ∃ res, eX11_est x0 x1 μ = some (res, μ) ∧ okR T μ res [eIO, eIA] (eX12_est x0 x1 (μ 1)) := by
  obtain ⟨s, l, nx, m, Z, hw, hW, hK⟩ := h.2.2.2.1
  have hs := hw.hs
  have hl := hw.hl
  have hm := hw.hm
  have hw0 := hw.row (Y' := zw (μ 1) 0 0 (nI 0)) (r_0 _)
  unfold eX11_est eX12_est
  rw [hw.nodes, zg_id]
  have e22 : jX12_est_22 x0 x1 (zw (μ 1) 0 0 (nI 0)) = some (nI 0, zw (zw (μ 1) 0 0 (nI 0)) 0 0 (nI 1)) := by
    unfold jX12_est_22 jX12_est_27
    rw [y_thr1, qbd, if_neg q11]
  rcases rg_cases x0 (N := s) (by omega) with ⟨n, hn, rfl⟩ | hx
  · rw [if_neg (rg_in hn (by omega)), y_noNode1 hw0 hn, qbd, if_pos (show nI 0 = 0 from rfl)]
    rcases rg_cases x1 (N := s) (by omega) with ⟨o, ho, rfl⟩ | hy
    · rw [if_neg (rg_in ho (by omega)), y_noNode1 hw0 ho, qbd, if_pos (show nI 0 = 0 from rfl)]
      unfold jX12_est_27
      rw [y_thr0, qbd, if_pos q00]
      dsimp only
      by_cases c : n = o
      · subst c
        rw [if_pos rfl, if_pos rfl]
        unfold jX12_est_45
        rw [y_thr1, qbd, if_neg q11]
        exact ⟨_, rfl, okR_thr h (st_00 _ _) (r_00 _ _) 1 rfl (zw_at _ _ _ _) _⟩
      · have c' : ¬ nI n = nI o := fun z => c ((nI_eq (by omega) (by omega)).mp z)
        obtain ⟨f, hf, e1, e2⟩ := r_est hw0 hn ho c
        rw [if_neg c', if_neg c', x_6, x_in6 (by omega) (by omega), qchk, x_zn6 (by omega) (by omega), e1]
        unfold jX12_est_45
        rw [y_thr0, qbd, if_pos q00]
        dsimp only
        rw [e2, qbd]
        exact ⟨_, rfl, okR_val h (st_0 _) (r_0 _) (zw_at _ _ _ _) _ _⟩
    · rw [if_pos hy, y_noNode2 hw0 hy, qbd, if_neg (by decide), e22]
      exact ⟨_, rfl, okR_thr h (st_00 _ _) (r_00 _ _) 0 rfl (zw_at _ _ _ _) _⟩
  · rw [if_pos hx, y_noNode2 hw0 hx, qbd, if_neg (by decide), e22]
    exact ⟨_, rfl, okR_thr h (st_00 _ _) (r_00 _ _) 0 rfl (zw_at _ _ _ _) _⟩
theorem f_when (h : INV T μ) (x0 x1 : Int32) : ∃ res, eX11_when x0 x1 μ = some (res, μ) ∧ okR T μ res [eIO] (eX12_when x0 x1 (μ 1)) := by
  obtain ⟨s, l, nx, m, Z, hw, hW, hK⟩ := h.2.2.2.1
  have hs := hw.hs
  have hl := hw.hl
  have hm := hw.hm
  have hw0 := hw.row (Y' := zw (μ 1) 0 0 (nI 0)) (r_0 _)
  unfold eX11_when eX12_when
  rw [hw.nodes, zg_id]
  rcases rg_cases x0 (N := s) (by omega) with ⟨n, hn, rfl⟩ | hx
  · rw [if_neg (rg_in hn (by omega))]
    rcases rg_cases x1 (N := 12) (by omega) with ⟨p, hp, rfl⟩ | hy
    · have n6 : n < 6 := by omega
      rw [if_neg (rg_in hp (by omega)), y_nnp1 hw hn hp, qbd, if_pos q00]
      dsimp only
      rw [x_ix, x_in n6 hp, qchk, x_zn n6 hp, y_pk _ n6 hp (by decide), qbd, hw0.since hn hp]
      exact ⟨_, rfl, okR_val h (st_0 _) (r_0 _) (zw_at _ _ _ _) _ _⟩
    · rw [if_pos hy, y_nnp2 hw (Or.inr hy), qbd, if_neg q11]
      exact ⟨_, rfl, okR_thr h (st_00 _ _) (r_00 _ _) 0 rfl (zw_at _ _ _ _) _⟩
  · rw [if_pos hx, y_nnp2 hw (Or.inl hx), qbd, if_neg q11]
    exact ⟨_, rfl, okR_thr h (st_00 _ _) (r_00 _ _) 0 rfl (zw_at _ _ _ _) _⟩
theorem f_gap (h : INV T μ) (x0 x1 x2 : Int32) : ∃ res, eX11_gap x0 x1 x2 μ = some (res, μ) ∧ okR T μ res [eIO] (eX12_gap x0 x1 x2 (μ 1)) := by
  obtain ⟨s, l, nx, m, Z, hw, hW, hK⟩ := h.2.2.2.1
  have hs := hw.hs
  have hl := hw.hl
  have hm := hw.hm
  have hw0 := hw.row (Y' := zw (μ 1) 0 0 (nI 0)) (r_0 _)
  unfold eX11_gap eX12_gap
  rw [hw.nodes, zg_id]
  rcases rg_cases x0 (N := s) (by omega) with ⟨n, hn, rfl⟩ | hx
  · rw [if_neg (rg_in hn (by omega))]
    rcases rg_cases x1 (N := 12) (by omega) with ⟨p, hp, rfl⟩ | hy
    · have n6 : n < 6 := by omega
      rw [if_neg (rg_in hp (by omega)), y_nnp1 hw hn hp, qbd, if_pos q00]
      dsimp only
      obtain g := hw0.2.2.2.2.2.1 n p hn hp
      rw [x_ix, y_pk _ n6 hp (by decide), qbd]
      have key : ∃ r, eX5_gapBehind (nI (n * 12 + p)) x2 (μ 4) = some r ∧ (if (¬ (x2 < (nI 0))) ∧ (¬ (((zw (μ 1) 0 0 (nI 0)) 1 (18 + 244 * n + (28 + 18 * p + 11)) - (nI 1)) < x2)) then zbd (eX12_ofPacket (nI n) (nI p) ((nI 12) + x2) (zw (μ 1) 0 0 (nI 0))) fun r8 => some (r8, zw (μ 1) 0 0 (nI 0)) else some ((-1), zw (μ 1) 0 0 (nI 0))) = some (r, zw (μ 1) 0 0 (nI 0)) := by
        unfold eX5_gapBehind
        simp only [x_in n6 hp, qchk, x_zn n6 hp]
        by_cases c0 : x2 < 0
        · exact ⟨-1, if_pos c0, if_neg (fun z => z.1 c0)⟩
        · obtain ⟨j, hj, rfl⟩ := nI_of c0
          rw [if_neg c0]
          have ez : ∀ {v : Nat}, v < 2000000 → (nI j ≤ nI v ↔ j ≤ v) := fun hv => nI_leI hj (by omega)
          rcases g with ⟨g1, g2, g3⟩ | ⟨g1, g2, g3, g4⟩ | ⟨c, c1, c5, g1, g2, g3, g4, g5⟩
          · dsimp only at g3
            rw [g3, g2, g1]
            refine ⟨-1, ?_, if_neg ?_⟩
            · by_cases z : j = 0
              · subst z; rfl
              · rw [if_neg (fun w => z (by have := (ez (by omega)).mp w; omega))]
            · rintro ⟨-, w⟩
              apply w
              rw [Int32.lt_iff_toInt_lt, nI_toInt (by omega)]
              exact Int.lt_of_lt_of_le (by decide) (Int.natCast_nonneg j)
          · dsimp only at g3 g4
            rw [g3, g2, nI_sub (by decide)]
            by_cases z : j = 0
            · subst z
              rw [if_pos (by decide), if_pos (by decide), if_pos (by decide), nI_add, y_pk _ n6 hp (by decide), qbd, g4]
              exact ⟨_, rfl, rfl⟩
            · rw [if_neg (fun w => z (by have := (ez (by omega)).mp w; omega)), if_neg (fun w => w.2 ((nI_ltI (by omega) hj).mpr (by omega)))]
              exact ⟨_, rfl, rfl⟩
          · dsimp only at g3 g4 g5
            rw [g3, g2, nI_sub (by omega), show c + 1 - 1 = c by omega]
            by_cases z : j ≤ c
            · have cc : (¬ nI j < nI 0) ∧ ¬ nI c < nI j := ⟨nI_pos hj, nI_nlt z (by omega)⟩
              rw [if_pos ((ez (by omega)).mpr z), if_pos cc, nI_add, y_pk _ n6 hp (by omega), qbd]
              by_cases zc : j = c
              · subst zc
                rw [if_neg (nI_nle (by omega) hj), if_pos rfl, g5]
                exact ⟨_, rfl, rfl⟩
              · rw [g4 j (by omega), g1, if_neg (fun w => zc ((nI_eq hj (by omega)).mp w)), ite_self]
                exact ⟨_, rfl, rfl⟩
            · rw [if_neg (fun w => z ((ez (by omega)).mp w)), if_neg (fun w => w.2 ((nI_ltI (by omega) hj).mpr (by omega)))]
              exact ⟨_, rfl, rfl⟩
      obtain ⟨r, k1, k2⟩ := key
      rw [k1, qbd, k2]
      exact ⟨_, rfl, okR_val h (st_0 _) (r_0 _) (zw_at _ _ _ _) _ _⟩
    · rw [if_pos hy, y_nnp2 hw (Or.inr hy), qbd, if_neg q11]
      exact ⟨_, rfl, okR_thr h (st_00 _ _) (r_00 _ _) 0 rfl (zw_at _ _ _ _) _⟩
  · rw [if_pos hx, y_nnp2 hw (Or.inl hx), qbd, if_neg q11]
    exact ⟨_, rfl, okR_thr h (st_00 _ _) (r_00 _ _) 0 rfl (zw_at _ _ _ _) _⟩
theorem f_window (h : INV T μ) (x0 x1 x2 : Int32) : ∃ res, eX11_window x0 x1 x2 μ = some (res, μ) ∧ okR T μ res [eIO] (eX12_window x0 x1 x2 (μ 1)) := by
  obtain ⟨s, l, nx, m, Z, hw, hW, hK⟩ := h.2.2.2.1
  have hs := hw.hs
  have hl := hw.hl
  have hm := hw.hm
  have hw0 := hw.row (Y' := zw (μ 1) 0 0 (nI 0)) (r_0 _)
  unfold eX11_window eX12_window
  rw [hw.nodes, zg_id]
  rcases rg_cases x0 (N := s) (by omega) with ⟨n, hn, rfl⟩ | hx
  · rw [if_neg (rg_in hn (by omega))]
    rcases rg_cases x1 (N := 12) (by omega) with ⟨p, hp, rfl⟩ | hy
    · have n6 : n < 6 := by omega
      rw [if_neg (rg_in hp (by omega)), y_nnp1 hw hn hp, qbd, if_pos q00]
      dsimp only
      unfold eX10_askWindow
      rw [x_ix, x_in n6 hp, qchk, x_zn n6 hp, y_pk _ n6 hp (by decide), qbd, hw0.ask hn hp]
      by_cases c : (μ 4) 21 (n * 12 + p) = -1
      · rw [if_pos c, if_pos c, qbd]
        exact ⟨_, rfl, okR_val h (st_0 _) (r_0 _) (zw_at _ _ _ _) _ _⟩
      · rw [if_neg c, if_neg c]
        obtain ⟨⟨a, ha, ea⟩, ⟨b, hb', eb⟩⟩ := hw0.1.2.2.2.2.1 n hn
        have key : ∀ v, ∃ f, f ≤ T + 4 ∧ eX10_sourceDistance (nI n) (μ 4) = some (nI f) ∧ eX12_estOf (nI n) ((μ 1) 1 3) (zw (zw (μ 1) 0 0 (nI 0)) 0 16 v) = some (nI f) := by
          intro v
          have := r_src (hw0.row (Y' := zw (zw (μ 1) 0 0 (nI 0)) 0 16 v) (zw_row_ne (by decide))) hn
          rw [zw_row_ne (by decide), zw_row_ne (by decide)] at this
          exact this
        have r3 : ∀ v k, (zw (zw (μ 1) 0 0 (nI 0)) 0 16 v) 1 k = (zw (μ 1) 0 0 (nI 0)) 1 k := fun v k => zw_no (Or.inl (by decide))
        have st : ∀ v, stY (μ 1) (zw (zw (μ 1) 0 0 (nI 0)) 0 16 v) := fun v => (st_0 _).w0 (by decide)
        have rr : ∀ v, (zw (zw (μ 1) 0 0 (nI 0)) 0 16 v) 1 = (μ 1) 1 := fun v => by rw [zw_row_ne (by decide), zw_row_ne (by decide)]
        have h0 : ∀ v, (zw (zw (μ 1) 0 0 (nI 0)) 0 16 v) 0 0 = nI 0 := fun v => by rw [zw_no (by decide), zw_at]
        by_cases c2 : x2 = 0
        · obtain ⟨f, hf, e1, e2⟩ := key (nI 1)
          rw [e1, qbd, if_pos c2, if_pos c2]
          unfold jX10_askWindow_52 jX12_window_34 eX10_timeOf
          rw [qzin n6 (by omega), qchk, x_in n6 hp, qchk, qzn (by omega), x_zn n6 hp, qbd, qbd]
          rw [y_of _ n6 (by decide), qbd, y_of _ n6 (by decide), qbd, show (zw (μ 1) 0 0 (nI 0)) 1 3 = (μ 1) 1 3 from zw_no (by decide), e2, qbd, y_pk _ n6 hp (by decide), qbd]
          unfold eX12_timeBy
          rw [zw_at, if_neg (by decide), if_neg (by decide)]
          unfold jX12_timeBy_39
          rw [qbd]
          simp only [r3]
          rw [hw0.c1 hn, hw0.backed hn hp, hw0.tick]
          refine ⟨_, rfl, ?_⟩
          exact okR_val h (st _) (rr _) (h0 _) _ _
        · obtain ⟨f, hf, e1, e2⟩ := key (nI 2)
          rw [e1, qbd, if_neg c2, if_neg c2]
          unfold jX10_askWindow_52 jX12_window_34 eX10_timeOf
          rw [qzin n6 (by omega), qchk, qchk, x_in n6 hp, qchk, qzn (by omega), x_zn n6 hp, qbd, qbd]
          rw [y_of _ n6 (by decide), qbd, y_of _ n6 (by decide), qbd, show (zw (μ 1) 0 0 (nI 0)) 1 3 = (μ 1) 1 3 from zw_no (by decide), e2, qbd, y_pk _ n6 hp (by decide), qbd]
          unfold eX12_timeBy
          rw [zw_at, if_neg (by decide), if_pos rfl]
          unfold jX12_timeBy_39
          rw [qbd]
          simp only [r3]
          rw [hw0.c1 hn, hw0.backed hn hp, hw0.tick]
          rw [hw0.c2 hn]
          refine ⟨_, rfl, ?_⟩
          exact okR_val h (st _) (rr _) (h0 _) _ _
    · rw [if_pos hy, y_nnp2 hw (Or.inr hy), qbd, if_neg q11]
      exact ⟨_, rfl, okR_thr h (st_00 _ _) (r_00 _ _) 0 rfl (zw_at _ _ _ _) _⟩
  · rw [if_pos hx, y_nnp2 hw (Or.inl hx), qbd, if_neg q11]
    exact ⟨_, rfl, okR_thr h (st_00 _ _) (r_00 _ _) 0 rfl (zw_at _ _ _ _) _⟩
end F3
