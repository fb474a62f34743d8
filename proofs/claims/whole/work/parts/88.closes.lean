section LC
variable {i Ln T : Nat} {u : Nat × Nat} {xs : Nat → Int32} {μ μ1 μ2 : zM}
theorem lc_feed (hi : i + 5 < Ln) (hL : Ln < 2147483648) (hI : INV T μ) (hT : T + 200 < 1000000) (hu : u.1 + 4 ≤ 601024 ∧ u.2 + 24 ≤ 7293034) (K : ∀ μ', INV (T + 60) μ' → zJ mL_law 14 cC (u.1 + 4, u.2 + 24) (zQL xs Ln) 2717 (LH i) [] μ') : zJ mL_law 14 cC u (zQL xs Ln) 220 (LH i) [] μ := by
  obtain ⟨r, μc, hx, b, Y, hy, h1, h2, h3⟩ := f_feed 4000 (by decide) hI (xs (i + 1)) (xs (i + 2)) (xs (i + 3)) (xs (i + 4)) (xs (i + 5))
  have hk : μc 1 = μ 1 := kpt_feed _ _ _ _ _ _ _ hx
  refine cs_feed hi hL (tX11_feed hx) (zg_lm hk (tX12_feed hy)) h3.symm (z_wid ⟨Nat.le_add_right _ _, hu.1⟩ ⟨Nat.le_add_right _ _, hu.2⟩ (K _ (h1.mono (by omega))))
theorem lc_end (hi : i + 5 < Ln) (hL : Ln < 2147483648) (hI : INV T μ) (hT : T + 200 < 1000000) (hu : u.1 + 4 ≤ 601024 ∧ u.2 + 24 ≤ 7293034) (K : ∀ μ', INV (T + 60) μ' → zJ mL_law 14 cC (u.1 + 4, u.2 + 24) (zQL xs Ln) 2717 (LH i) [] μ') : zJ mL_law 14 cC u (zQL xs Ln) 293 (LH i) [] μ := by
  obtain ⟨r, μc, hx, b, Y, hy, h1, h2, h3⟩ := f_end hI (xs (i + 1))
  have hk : μc 1 = μ 1 := kpt_end _ _ hx
  refine cs_end hi hL (tX11_end hx) (zg_lm hk (tX12_end hy)) h3.symm (z_wid ⟨Nat.le_add_right _ _, hu.1⟩ ⟨Nat.le_add_right _ _, hu.2⟩ (K _ (h1.mono (by omega))))
theorem lc_group (hi : i + 5 < Ln) (hL : Ln < 2147483648) (hI : INV T μ) (hT : T + 200 < 1000000) (hu : u.1 + 4 ≤ 601024 ∧ u.2 + 24 ≤ 7293034) (K : ∀ μ', INV (T + 60) μ' → zJ mL_law 14 cC (u.1 + 4, u.2 + 24) (zQL xs Ln) 2717 (LH i) [] μ') : zJ mL_law 14 cC u (zQL xs Ln) 318 (LH i) [] μ := by
  obtain ⟨res, μc, hx, b, Y, hy, h1, hm⟩ := f_group 4000 (by decide) hI
  have hk : μc 1 = μ 1 := kpt_group _ _ hx
  rcases res with r | E
  · obtain ⟨h2, h3⟩ := hm
    refine cs_group hi hL hu (tL_group_r hx) (zg_lm ((zg_ne (by decide)).trans hk) (tX12_group hy)) h2 (fun _ => (zw_00 _ _).trans h3.symm) (K _ (INV.g2 (h1.mono (by omega))))
  · obtain ⟨q, hq, h2⟩ := hm
    rcases q with _ | q
    · cases hq
      refine cs_group hi hL hu (tL_group_0 hx) (zg_lm hk (tX12_group hy)) h2 (fun z => absurd z (by decide)) (K _ (h1.mono (by omega)))
    rcases q with _ | q
    · cases hq
      refine cs_group hi hL hu (tL_group_1 hx) (zg_lm hk (tX12_group hy)) h2 (fun z => absurd z (by decide)) (K _ (h1.mono (by omega)))
    · cases hq
theorem lc_fault (hi : i + 5 < Ln) (hL : Ln < 2147483648) (hI : INV T μ) (hT : T + 200 < 1000000) (hu : u.1 + 4 ≤ 601024 ∧ u.2 + 24 ≤ 7293034) (K : ∀ μ', INV (T + 60) μ' → zJ mL_law 14 cC (u.1 + 4, u.2 + 24) (zQL xs Ln) 2717 (LH i) [] μ') : zJ mL_law 14 cC u (zQL xs Ln) 362 (LH i) [] μ := by
  obtain ⟨r, hx, b, Y, hy, h1, h2, h3⟩ := f_fault hI
  have hk : μ 1 = μ 1 := rfl
  refine cs_fault hi hL (tX11_fault hx) (zg_lm hk (tX12_fault hy)) h3.symm (z_wid ⟨Nat.le_add_right _ _, hu.1⟩ ⟨Nat.le_add_right _ _, hu.2⟩ (K _ (h1.mono (by omega))))
theorem lc_node (hi : i + 5 < Ln) (hL : Ln < 2147483648) (hI : INV T μ) (hT : T + 200 < 1000000) (hu : u.1 + 4 ≤ 601024 ∧ u.2 + 24 ≤ 7293034) (K : ∀ μ', INV (T + 60) μ' → zJ mL_law 14 cC (u.1 + 4, u.2 + 24) (zQL xs Ln) 2717 (LH i) [] μ') : zJ mL_law 14 cC u (zQL xs Ln) 375 (LH i) [] μ := by
  obtain ⟨res, hx, b, Y, hy, h1, hm⟩ := f_node hI (xs (i + 1)) (xs (i + 2))
  have hk : μ 1 = μ 1 := rfl
  rcases res with r | E
  · obtain ⟨h2, h3⟩ := hm
    refine cs_node hi hL hu (tL_node_r hx) (zg_lm ((zg_ne (by decide)).trans hk) (tX12_node hy)) h2 (fun _ => (zw_00 _ _).trans h3.symm) (K _ (INV.g2 (h1.mono (by omega))))
  · obtain ⟨q, hq, h2⟩ := hm
    rcases q with _ | q
    · cases hq
      refine cs_node hi hL hu (tL_node_0 hx) (zg_lm hk (tX12_node hy)) h2 (fun z => absurd z (by decide)) (K _ (h1.mono (by omega)))
    rcases q with _ | q
    · cases hq
      refine cs_node hi hL hu (tL_node_1 hx) (zg_lm hk (tX12_node hy)) h2 (fun z => absurd z (by decide)) (K _ (h1.mono (by omega)))
    · cases hq
theorem lc_est (hi : i + 5 < Ln) (hL : Ln < 2147483648) (hI : INV T μ) (hT : T + 200 < 1000000) (hu : u.1 + 4 ≤ 601024 ∧ u.2 + 24 ≤ 7293034) (K : ∀ μ', INV (T + 60) μ' → zJ mL_law 14 cC (u.1 + 4, u.2 + 24) (zQL xs Ln) 2717 (LH i) [] μ') : zJ mL_law 14 cC u (zQL xs Ln) 443 (LH i) [] μ := by
  obtain ⟨res, hx, b, Y, hy, h1, hm⟩ := f_est hI (xs (i + 1)) (xs (i + 2))
  have hk : μ 1 = μ 1 := rfl
  rcases res with r | E
  · obtain ⟨h2, h3⟩ := hm
    refine cs_est hi hL hu (tL_est_r hx) (zg_lm ((zg_ne (by decide)).trans hk) (tX12_est hy)) h2 (fun _ => (zw_00 _ _).trans h3.symm) (K _ (INV.g2 (h1.mono (by omega))))
  · obtain ⟨q, hq, h2⟩ := hm
    rcases q with _ | q
    · cases hq
      refine cs_est hi hL hu (tL_est_0 hx) (zg_lm hk (tX12_est hy)) h2 (fun z => absurd z (by decide)) (K _ (h1.mono (by omega)))
    rcases q with _ | q
    · cases hq
      refine cs_est hi hL hu (tL_est_1 hx) (zg_lm hk (tX12_est hy)) h2 (fun z => absurd z (by decide)) (K _ (h1.mono (by omega)))
    · cases hq
theorem lc_timer (hi : i + 5 < Ln) (hL : Ln < 2147483648) (hI : INV T μ) (hT : T + 200 < 1000000) (hu : u.1 + 4 ≤ 601024 ∧ u.2 + 24 ≤ 7293034) (K : ∀ μ', INV (T + 60) μ' → zJ mL_law 14 cC (u.1 + 4, u.2 + 24) (zQL xs Ln) 2717 (LH i) [] μ') : zJ mL_law 14 cC u (zQL xs Ln) 511 (LH i) [] μ := by
  obtain ⟨res, hx, b, Y, hy, h1, hm⟩ := f_timer hI (xs (i + 1)) (xs (i + 2)) (xs (i + 3))
  have hk : μ 1 = μ 1 := rfl
  rcases res with r | E
  · obtain ⟨h2, h3⟩ := hm
    refine cs_timer hi hL hu (tL_timer_r hx) (zg_lm ((zg_ne (by decide)).trans hk) (tX12_timer hy)) h2 (fun _ => (zw_00 _ _).trans h3.symm) (K _ (INV.g2 (h1.mono (by omega))))
  · obtain ⟨q, hq, h2⟩ := hm
    rcases q with _ | q
    · cases hq
      refine cs_timer hi hL hu (tL_timer_0 hx) (zg_lm hk (tX12_timer hy)) h2 (fun z => absurd z (by decide)) (K _ (h1.mono (by omega)))
    rcases q with _ | q
    · cases hq
      refine cs_timer hi hL hu (tL_timer_1 hx) (zg_lm hk (tX12_timer hy)) h2 (fun z => absurd z (by decide)) (K _ (h1.mono (by omega)))
    · cases hq
theorem lc_gap (hi : i + 5 < Ln) (hL : Ln < 2147483648) (hI : INV T μ) (hT : T + 200 < 1000000) (hu : u.1 + 4 ≤ 601024 ∧ u.2 + 24 ≤ 7293034) (K : ∀ μ', INV (T + 60) μ' → zJ mL_law 14 cC (u.1 + 4, u.2 + 24) (zQL xs Ln) 2717 (LH i) [] μ') : zJ mL_law 14 cC u (zQL xs Ln) 591 (LH i) [] μ := by
  obtain ⟨res, hx, b, Y, hy, h1, hm⟩ := f_gap hI (xs (i + 1)) (xs (i + 2)) (xs (i + 3))
  have hk : μ 1 = μ 1 := rfl
  rcases res with r | E
  · obtain ⟨h2, h3⟩ := hm
    refine cs_gap hi hL hu (tL_gap_r hx) (zg_lm ((zg_ne (by decide)).trans hk) (tX12_gap hy)) h2 (fun _ => (zw_00 _ _).trans h3.symm) (K _ (INV.g2 (h1.mono (by omega))))
  · obtain ⟨q, hq, h2⟩ := hm
    rcases q with _ | q
    · cases hq
      refine cs_gap hi hL hu (tL_gap_0 hx) (zg_lm hk (tX12_gap hy)) h2 (fun z => absurd z (by decide)) (K _ (h1.mono (by omega)))
    · cases hq
theorem lc_link (hi : i + 5 < Ln) (hL : Ln < 2147483648) (hI : INV T μ) (hT : T + 200 < 1000000) (hu : u.1 + 4 ≤ 601024 ∧ u.2 + 24 ≤ 7293034) (K : ∀ μ', INV (T + 60) μ' → zJ mL_law 14 cC (u.1 + 4, u.2 + 24) (zQL xs Ln) 2717 (LH i) [] μ') : zJ mL_law 14 cC u (zQL xs Ln) 671 (LH i) [] μ := by
  obtain ⟨res, hx, b, Y, hy, h1, hm⟩ := f_link hI (xs (i + 1)) (xs (i + 2))
  have hk : μ 1 = μ 1 := rfl
  rcases res with r | E
  · obtain ⟨h2, h3⟩ := hm
    refine cs_link hi hL hu (tL_link_r hx) (zg_lm ((zg_ne (by decide)).trans hk) (tX12_link hy)) h2 (fun _ => (zw_00 _ _).trans h3.symm) (K _ (INV.g2 (h1.mono (by omega))))
  · obtain ⟨q, hq, h2⟩ := hm
    rcases q with _ | q
    · cases hq
      refine cs_link hi hL hu (tL_link_0 hx) (zg_lm hk (tX12_link hy)) h2 (fun z => absurd z (by decide)) (K _ (h1.mono (by omega)))
    rcases q with _ | q
    · cases hq
      refine cs_link hi hL hu (tL_link_1 hx) (zg_lm hk (tX12_link hy)) h2 (fun z => absurd z (by decide)) (K _ (h1.mono (by omega)))
    · cases hq
theorem lc_flight (hi : i + 5 < Ln) (hL : Ln < 2147483648) (hI : INV T μ) (hT : T + 200 < 1000000) (hu : u.1 + 4 ≤ 601024 ∧ u.2 + 24 ≤ 7293034) (K : ∀ μ', INV (T + 60) μ' → zJ mL_law 14 cC (u.1 + 4, u.2 + 24) (zQL xs Ln) 2717 (LH i) [] μ') : zJ mL_law 14 cC u (zQL xs Ln) 739 (LH i) [] μ := by
  obtain ⟨res, hx, b, Y, hy, h1, hm⟩ := f_flight hI (xs (i + 1)) (xs (i + 2))
  have hk : μ 1 = μ 1 := rfl
  rcases res with r | E
  · obtain ⟨h2, h3⟩ := hm
    refine cs_flight hi hL hu (tL_flight_r hx) (zg_lm ((zg_ne (by decide)).trans hk) (tX12_flight hy)) h2 (fun _ => (zw_00 _ _).trans h3.symm) (K _ (INV.g2 (h1.mono (by omega))))
  · obtain ⟨q, hq, h2⟩ := hm
    rcases q with _ | q
    · cases hq
      refine cs_flight hi hL hu (tL_flight_0 hx) (zg_lm hk (tX12_flight hy)) h2 (fun z => absurd z (by decide)) (K _ (h1.mono (by omega)))
    rcases q with _ | q
    · cases hq
      refine cs_flight hi hL hu (tL_flight_1 hx) (zg_lm hk (tX12_flight hy)) h2 (fun z => absurd z (by decide)) (K _ (h1.mono (by omega)))
    · cases hq
theorem lc_ticks (hi : i + 5 < Ln) (hL : Ln < 2147483648) (hI : INV T μ) (hT : T + 200 < 1000000) (hu : u.1 + 4 ≤ 601024 ∧ u.2 + 24 ≤ 7293034) (K : ∀ μ', INV (T + 60) μ' → zJ mL_law 14 cC (u.1 + 4, u.2 + 24) (zQL xs Ln) 2717 (LH i) [] μ') : zJ mL_law 14 cC u (zQL xs Ln) 807 (LH i) [] μ := by
  obtain ⟨res, μc, hx, b, Y, hy, h1, hm⟩ := f_ticks 4000 (by decide) (by omega) hI (xs (i + 1))
  have hk : μc 1 = μ 1 := kpt_ticks _ _ _ hx
  rcases res with r | E
  · obtain ⟨h2, h3⟩ := hm
    refine cs_ticks hi hL hu (tL_ticks_r hx) (zg_lm ((zg_ne (by decide)).trans hk) (tX12_ticks hy)) h2 (fun _ => (zw_00 _ _).trans h3.symm) (K _ (INV.g2 h1))
  · obtain ⟨q, hq, h2⟩ := hm
    rcases q with _ | q
    · cases hq
      refine cs_ticks hi hL hu (tL_ticks_0 hx) (zg_lm hk (tX12_ticks hy)) h2 (fun z => absurd z (by decide)) (K _ h1)
    · cases hq
theorem lc_send (hi : i + 5 < Ln) (hL : Ln < 2147483648) (hI : INV T μ) (hT : T + 200 < 1000000) (hu : u.1 + 4 ≤ 601024 ∧ u.2 + 24 ≤ 7293034) (K : ∀ μ', INV (T + 60) μ' → zJ mL_law 14 cC (u.1 + 4, u.2 + 24) (zQL xs Ln) 2717 (LH i) [] μ') : zJ mL_law 14 cC u (zQL xs Ln) 863 (LH i) [] μ := by
  obtain ⟨res, μc, hx, b, Y, hy, h1, hm⟩ := f_send 4000 (by decide) (by omega) hI
  have hk : μc 1 = μ 1 := kpt_send _ _ hx
  rcases res with r | E
  · obtain ⟨h2, h3⟩ := hm
    refine cs_send hi hL hu (tL_send_r hx) (zg_lm ((zg_ne (by decide)).trans hk) (tX12_send hy)) h2 (fun _ => (zw_00 _ _).trans h3.symm) (K _ (INV.g2 (h1.mono (by omega))))
  · obtain ⟨q, hq, h2⟩ := hm
    rcases q with _ | q
    · cases hq
      refine cs_send hi hL hu (tL_send_0 hx) (zg_lm hk (tX12_send hy)) h2 (fun z => absurd z (by decide)) (K _ (h1.mono (by omega)))
    · cases hq
theorem lc_wake (hi : i + 5 < Ln) (hL : Ln < 2147483648) (hI : INV T μ) (hT : T + 200 < 1000000) (hu : u.1 + 4 ≤ 601024 ∧ u.2 + 24 ≤ 7293034) (K : ∀ μ', INV (T + 60) μ' → zJ mL_law 14 cC (u.1 + 4, u.2 + 24) (zQL xs Ln) 2717 (LH i) [] μ') : zJ mL_law 14 cC u (zQL xs Ln) 907 (LH i) [] μ := by
  obtain ⟨res, μc, hx, b, Y, hy, h1, hm⟩ := f_wake hI (xs (i + 1)) (z_bl01 _)
  have hk : μc 1 = μ 1 := kpt_wake _ _ _ hx
  rcases res with r | E
  · obtain ⟨h2, h3⟩ := hm
    refine cs_wake hi hL hu (tL_wake_r hx) (zg_lm ((zg_ne (by decide)).trans hk) (tX12_wake hy)) h2 (fun _ => (zw_00 _ _).trans (by rw [h3])) (K _ (INV.g2 (h1.mono (by omega))))
  · obtain ⟨q, hq, h2⟩ := hm
    rcases q with _ | q
    · cases hq
      refine cs_wake hi hL hu (tL_wake_0 hx) (zg_lm hk (tX12_wake hy)) h2 (fun z => absurd z (by decide)) (K _ (h1.mono (by omega)))
    · cases hq
theorem lc_cut (hi : i + 5 < Ln) (hL : Ln < 2147483648) (hI : INV T μ) (hT : T + 200 < 1000000) (hu : u.1 + 4 ≤ 601024 ∧ u.2 + 24 ≤ 7293034) (K : ∀ μ', INV (T + 60) μ' → zJ mL_law 14 cC (u.1 + 4, u.2 + 24) (zQL xs Ln) 2717 (LH i) [] μ') : zJ mL_law 14 cC u (zQL xs Ln) 998 (LH i) [] μ := by
  obtain ⟨res, μc, hx, b, Y, hy, h1, hm⟩ := f_cut 4000 (by decide) hI (xs (i + 1)) (z_bl01 _)
  have hk : μc 1 = μ 1 := kpt_cut _ _ _ _ hx
  rcases res with r | E
  · obtain ⟨h2, h3⟩ := hm
    refine cs_cut hi hL hu (tL_cut_r hx) (zg_lm ((zg_ne (by decide)).trans hk) (tX12_cut hy)) h2 (fun _ => (zw_00 _ _).trans (by rw [h3])) (K _ (INV.g2 (h1.mono (by omega))))
  · obtain ⟨q, hq, h2⟩ := hm
    rcases q with _ | q
    · cases hq
      refine cs_cut hi hL hu (tL_cut_0 hx) (zg_lm hk (tX12_cut hy)) h2 (fun z => absurd z (by decide)) (K _ (h1.mono (by omega)))
    · cases hq
theorem lc_loss (hi : i + 5 < Ln) (hL : Ln < 2147483648) (hI : INV T μ) (hT : T + 200 < 1000000) (hu : u.1 + 4 ≤ 601024 ∧ u.2 + 24 ≤ 7293034) (K : ∀ μ', INV (T + 60) μ' → zJ mL_law 14 cC (u.1 + 4, u.2 + 24) (zQL xs Ln) 2717 (LH i) [] μ') : zJ mL_law 14 cC u (zQL xs Ln) 1089 (LH i) [] μ := by
  obtain ⟨res, μc, hx, b, Y, hy, h1, hm⟩ := f_loss hI (xs (i + 1)) (xs (i + 2))
  have hk : μc 1 = μ 1 := kpt_loss _ _ _ hx
  rcases res with r | E
  · obtain ⟨h2, h3⟩ := hm
    refine cs_loss hi hL hu (tL_loss_r hx) (zg_lm ((zg_ne (by decide)).trans hk) (tX12_loss hy)) h2 (fun _ => (zw_00 _ _).trans h3.symm) (K _ (INV.g2 (h1.mono (by omega))))
  · obtain ⟨q, hq, h2⟩ := hm
    rcases q with _ | q
    · cases hq
      refine cs_loss hi hL hu (tL_loss_0 hx) (zg_lm hk (tX12_loss hy)) h2 (fun z => absurd z (by decide)) (K _ (h1.mono (by omega)))
    rcases q with _ | q
    · cases hq
      refine cs_loss hi hL hu (tL_loss_1 hx) (zg_lm hk (tX12_loss hy)) h2 (fun z => absurd z (by decide)) (K _ (h1.mono (by omega)))
    · cases hq
theorem lc_give (hi : i + 5 < Ln) (hL : Ln < 2147483648) (hI : INV T μ) (hT : T + 200 < 1000000) (hu : u.1 + 4 ≤ 601024 ∧ u.2 + 24 ≤ 7293034) (K : ∀ μ', INV (T + 60) μ' → zJ mL_law 14 cC (u.1 + 4, u.2 + 24) (zQL xs Ln) 2717 (LH i) [] μ') : zJ mL_law 14 cC u (zQL xs Ln) 1157 (LH i) [] μ := by
  obtain ⟨res, μc, hx, b, Y, hy, h1, hm⟩ := f_give hI (xs (i + 1)) (xs (i + 2)) (z_bl01 _)
  have hk : μc 1 = μ 1 := kpt_give _ _ _ _ hx
  rcases res with r | E
  · obtain ⟨h2, h3⟩ := hm
    refine cs_give hi hL hu (tL_give_r hx) (zg_lm ((zg_ne (by decide)).trans hk) (tX12_give hy)) h2 (fun _ => (zw_00 _ _).trans (by rw [h3])) (K _ (INV.g2 (h1.mono (by omega))))
  · obtain ⟨q, hq, h2⟩ := hm
    rcases q with _ | q
    · cases hq
      refine cs_give hi hL hu (tL_give_0 hx) (zg_lm hk (tX12_give hy)) h2 (fun z => absurd z (by decide)) (K _ (h1.mono (by omega)))
    rcases q with _ | q
    · cases hq
      refine cs_give hi hL hu (tL_give_1 hx) (zg_lm hk (tX12_give hy)) h2 (fun z => absurd z (by decide)) (K _ (h1.mono (by omega)))
    · cases hq
theorem lc_way (hi : i + 5 < Ln) (hL : Ln < 2147483648) (hI : INV T μ) (hT : T + 200 < 1000000) (hu : u.1 + 4 ≤ 601024 ∧ u.2 + 24 ≤ 7293034) (K : ∀ μ', INV (T + 60) μ' → zJ mL_law 14 cC (u.1 + 4, u.2 + 24) (zQL xs Ln) 2717 (LH i) [] μ') : zJ mL_law 14 cC u (zQL xs Ln) 1260 (LH i) [] μ := by
  obtain ⟨res, hx, b, Y, hy, h1, hm⟩ := f_way 4000 (by decide) hI (xs (i + 1)) (xs (i + 2)) (if xs (i + 3) = 0 then nI 0 else nI 1)
  have hk : μ 1 = μ 1 := rfl
  rcases res with r | E
  · obtain ⟨h2, h3⟩ := hm
    refine cs_way hi hL hu (tL_way_r hx) (zg_lm ((zg_ne (by decide)).trans hk) (tX12_way hy)) h2 (fun _ => (zw_00 _ _).trans h3.symm) (K _ (INV.g2 (h1.mono (by omega))))
  · obtain ⟨q, hq, h2⟩ := hm
    rcases q with _ | q
    · cases hq
      refine cs_way hi hL hu (tL_way_0 hx) (zg_lm hk (tX12_way hy)) h2 (fun z => absurd z (by decide)) (K _ (h1.mono (by omega)))
    · cases hq
theorem lc_above (hi : i + 5 < Ln) (hL : Ln < 2147483648) (hI : INV T μ) (hT : T + 200 < 1000000) (hu : u.1 + 4 ≤ 601024 ∧ u.2 + 24 ≤ 7293034) (K : ∀ μ', INV (T + 60) μ' → zJ mL_law 14 cC (u.1 + 4, u.2 + 24) (zQL xs Ln) 2717 (LH i) [] μ') : zJ mL_law 14 cC u (zQL xs Ln) 1356 (LH i) [] μ := by
  obtain ⟨res, hx, b, Y, hy, h1, hm⟩ := f_above 4000 (by decide) hI (xs (i + 1)) (xs (i + 2))
  have hk : μ 1 = μ 1 := rfl
  rcases res with r | E
  · obtain ⟨h2, h3⟩ := hm
    refine cs_above hi hL hu (tL_above_r hx) (zg_lm ((zg_ne (by decide)).trans hk) (tX12_above hy)) h2 (fun _ => (zw_00 _ _).trans h3.symm) (K _ (INV.g2 (h1.mono (by omega))))
  · obtain ⟨q, hq, h2⟩ := hm
    rcases q with _ | q
    · cases hq
      refine cs_above hi hL hu (tL_above_0 hx) (zg_lm hk (tX12_above hy)) h2 (fun z => absurd z (by decide)) (K _ (h1.mono (by omega)))
    · cases hq
theorem lc_window (hi : i + 5 < Ln) (hL : Ln < 2147483648) (hI : INV T μ) (hT : T + 200 < 1000000) (hu : u.1 + 4 ≤ 601024 ∧ u.2 + 24 ≤ 7293034) (K : ∀ μ', INV (T + 60) μ' → zJ mL_law 14 cC (u.1 + 4, u.2 + 24) (zQL xs Ln) 2717 (LH i) [] μ') : zJ mL_law 14 cC u (zQL xs Ln) 1424 (LH i) [] μ := by
  obtain ⟨res, hx, b, Y, hy, h1, hm⟩ := f_window hI (xs (i + 1)) (xs (i + 2)) (if xs (i + 3) = 0 then nI 0 else nI 1)
  have hk : μ 1 = μ 1 := rfl
  rcases res with r | E
  · obtain ⟨h2, h3⟩ := hm
    refine cs_window hi hL hu (tL_window_r hx) (zg_lm ((zg_ne (by decide)).trans hk) (tX12_window hy)) h2 (fun _ => (zw_00 _ _).trans h3.symm) (K _ (INV.g2 (h1.mono (by omega))))
  · obtain ⟨q, hq, h2⟩ := hm
    rcases q with _ | q
    · cases hq
      refine cs_window hi hL hu (tL_window_0 hx) (zg_lm hk (tX12_window hy)) h2 (fun z => absurd z (by decide)) (K _ (h1.mono (by omega)))
    · cases hq
theorem lc_near (hi : i + 5 < Ln) (hL : Ln < 2147483648) (hI : INV T μ) (hT : T + 200 < 1000000) (hu : u.1 + 4 ≤ 601024 ∧ u.2 + 24 ≤ 7293034) (K : ∀ μ', INV (T + 60) μ' → zJ mL_law 14 cC (u.1 + 4, u.2 + 24) (zQL xs Ln) 2717 (LH i) [] μ') : zJ mL_law 14 cC u (zQL xs Ln) 1520 (LH i) [] μ := by
  obtain ⟨res, hx, b, Y, hy, h1, hm⟩ := f_near 4000 (by decide) hI (xs (i + 1)) (xs (i + 2))
  have hk : μ 1 = μ 1 := rfl
  rcases res with r | E
  · obtain ⟨h2, h3⟩ := hm
    refine cs_near hi hL hu (tL_near_r hx) (zg_lm ((zg_ne (by decide)).trans hk) (tX12_near hy)) h2 (fun _ => (zw_00 _ _).trans h3.symm) (K _ (INV.g2 (h1.mono (by omega))))
  · obtain ⟨q, hq, h2⟩ := hm
    rcases q with _ | q
    · cases hq
      refine cs_near hi hL hu (tL_near_0 hx) (zg_lm hk (tX12_near hy)) h2 (fun z => absurd z (by decide)) (K _ (h1.mono (by omega)))
    · cases hq
theorem lc_reach (hi : i + 5 < Ln) (hL : Ln < 2147483648) (hI : INV T μ) (hT : T + 200 < 1000000) (hu : u.1 + 4 ≤ 601024 ∧ u.2 + 24 ≤ 7293034) (K : ∀ μ', INV (T + 60) μ' → zJ mL_law 14 cC (u.1 + 4, u.2 + 24) (zQL xs Ln) 2717 (LH i) [] μ') : zJ mL_law 14 cC u (zQL xs Ln) 1588 (LH i) [] μ := by
  obtain ⟨res, hx, b, Y, hy, h1, hm⟩ := f_reach 4000 (by decide) hI (xs (i + 1)) (xs (i + 2))
  have hk : μ 1 = μ 1 := rfl
  rcases res with r | E
  · obtain ⟨h2, h3⟩ := hm
    refine cs_reach hi hL hu (tL_reach_r hx) (zg_lm ((zg_ne (by decide)).trans hk) (tX12_reach hy)) h2 (fun _ => (zw_00 _ _).trans h3.symm) (K _ (INV.g2 (h1.mono (by omega))))
  · obtain ⟨q, hq, h2⟩ := hm
    rcases q with _ | q
    · cases hq
      refine cs_reach hi hL hu (tL_reach_0 hx) (zg_lm hk (tX12_reach hy)) h2 (fun z => absurd z (by decide)) (K _ (h1.mono (by omega)))
    rcases q with _ | q
    · cases hq
      refine cs_reach hi hL hu (tL_reach_1 hx) (zg_lm hk (tX12_reach hy)) h2 (fun z => absurd z (by decide)) (K _ (h1.mono (by omega)))
    · cases hq
theorem lc_far (hi : i + 5 < Ln) (hL : Ln < 2147483648) (hI : INV T μ) (hT : T + 200 < 1000000) (hu : u.1 + 4 ≤ 601024 ∧ u.2 + 24 ≤ 7293034) (K : ∀ μ', INV (T + 60) μ' → zJ mL_law 14 cC (u.1 + 4, u.2 + 24) (zQL xs Ln) 2717 (LH i) [] μ') : zJ mL_law 14 cC u (zQL xs Ln) 1656 (LH i) [] μ := by
  obtain ⟨res, hx, b, Y, hy, h1, hm⟩ := f_far 4000 (by decide) hI (xs (i + 1)) (xs (i + 2))
  have hk : μ 1 = μ 1 := rfl
  rcases res with r | E
  · obtain ⟨h2, h3⟩ := hm
    refine cs_far hi hL hu (tL_far_r hx) (zg_lm ((zg_ne (by decide)).trans hk) (tX12_far hy)) h2 (fun _ => (zw_00 _ _).trans h3.symm) (K _ (INV.g2 (h1.mono (by omega))))
  · obtain ⟨q, hq, h2⟩ := hm
    rcases q with _ | q
    · cases hq
      refine cs_far hi hL hu (tL_far_0 hx) (zg_lm hk (tX12_far hy)) h2 (fun z => absurd z (by decide)) (K _ (h1.mono (by omega)))
    · cases hq
theorem lc_whole (hi : i + 5 < Ln) (hL : Ln < 2147483648) (hI : INV T μ) (hT : T + 200 < 1000000) (hu : u.1 + 4 ≤ 601024 ∧ u.2 + 24 ≤ 7293034) (K : ∀ μ', INV (T + 60) μ' → zJ mL_law 14 cC (u.1 + 4, u.2 + 24) (zQL xs Ln) 2717 (LH i) [] μ') : zJ mL_law 14 cC u (zQL xs Ln) 1724 (LH i) [] μ := by
  obtain ⟨r, μc, hx, b, Y, hy, h1, h2, h3⟩ := f_whole 4000 (by decide) (by omega) hI (if xs (i + 1) = 0 then nI 0 else nI 1)
  have hk : μc 1 = μ 1 := kpt_whole _ _ _ hx
  refine cs_whole hi hL (tX11_whole hx) (zg_lm hk (tX12_whole hy)) h3.symm (z_wid ⟨Nat.le_add_right _ _, hu.1⟩ ⟨Nat.le_add_right _ _, hu.2⟩ (K _ (h1.mono (by omega))))
theorem lc_talk (hi : i + 5 < Ln) (hL : Ln < 2147483648) (hI : INV T μ) (hT : T + 200 < 1000000) (hu : u.1 + 4 ≤ 601024 ∧ u.2 + 24 ≤ 7293034) (K : ∀ μ', INV (T + 60) μ' → zJ mL_law 14 cC (u.1 + 4, u.2 + 24) (zQL xs Ln) 2717 (LH i) [] μ') : zJ mL_law 14 cC u (zQL xs Ln) 1765 (LH i) [] μ := by
  obtain ⟨res, μc, hx, b, Y, hy, h1, hm⟩ := f_talk 4000 (by decide) (by omega) hI (xs (i + 1)) (if xs (i + 2) = 0 then nI 0 else nI 1) (if xs (i + 3) = 0 then nI 0 else nI 1)
  have hk : μc 1 = μ 1 := kpt_talk _ _ _ _ _ hx
  rcases res with r | E
  · obtain ⟨h2, h3⟩ := hm
    refine cs_talk hi hL hu (tL_talk_r hx) (zg_lm ((zg_ne (by decide)).trans hk) (tX12_talk hy)) h2 (fun _ => (zw_00 _ _).trans h3.symm) (K _ (INV.g2 (h1.mono (by omega))))
  · obtain ⟨q, hq, h2⟩ := hm
    rcases q with _ | q
    · cases hq
      refine cs_talk hi hL hu (tL_talk_0 hx) (zg_lm hk (tX12_talk hy)) h2 (fun z => absurd z (by decide)) (K _ (h1.mono (by omega)))
    · cases hq
theorem lc_parts (hi : i + 5 < Ln) (hL : Ln < 2147483648) (hI : INV T μ) (hT : T + 200 < 1000000) (hu : u.1 + 4 ≤ 601024 ∧ u.2 + 24 ≤ 7293034) (K : ∀ μ', INV (T + 60) μ' → zJ mL_law 14 cC (u.1 + 4, u.2 + 24) (zQL xs Ln) 2717 (LH i) [] μ') : zJ mL_law 14 cC u (zQL xs Ln) 1877 (LH i) [] μ := by
  obtain ⟨r, hx, b, Y, hy, h1, h2, h3⟩ := f_parts 4000 (by decide) hI
  have hk : μ 1 = μ 1 := rfl
  refine cs_parts hi hL (tX11_parts hx) (zg_lm hk (tX12_parts hy)) h3.symm (z_wid ⟨Nat.le_add_right _ _, hu.1⟩ ⟨Nat.le_add_right _ _, hu.2⟩ (K _ (h1.mono (by omega))))
theorem lc_giver (hi : i + 5 < Ln) (hL : Ln < 2147483648) (hI : INV T μ) (hT : T + 200 < 1000000) (hu : u.1 + 4 ≤ 601024 ∧ u.2 + 24 ≤ 7293034) (K : ∀ μ', INV (T + 60) μ' → zJ mL_law 14 cC (u.1 + 4, u.2 + 24) (zQL xs Ln) 2717 (LH i) [] μ') : zJ mL_law 14 cC u (zQL xs Ln) 1890 (LH i) [] μ := by
  obtain ⟨res, hx, b, Y, hy, h1, hm⟩ := f_giver 4000 (by decide) hI (xs (i + 1)) (xs (i + 2)) (xs (i + 3))
  have hk : μ 1 = μ 1 := rfl
  rcases res with r | E
  · obtain ⟨h2, h3⟩ := hm
    refine cs_giver hi hL hu (tL_giver_r hx) (zg_lm ((zg_ne (by decide)).trans hk) (tX12_giver hy)) h2 (fun _ => (zw_00 _ _).trans h3.symm) (K _ (INV.g2 (h1.mono (by omega))))
  · obtain ⟨q, hq, h2⟩ := hm
    rcases q with _ | q
    · cases hq
      refine cs_giver hi hL hu (tL_giver_0 hx) (zg_lm hk (tX12_giver hy)) h2 (fun z => absurd z (by decide)) (K _ (h1.mono (by omega)))
    · cases hq
theorem lc_when (hi : i + 5 < Ln) (hL : Ln < 2147483648) (hI : INV T μ) (hT : T + 200 < 1000000) (hu : u.1 + 4 ≤ 601024 ∧ u.2 + 24 ≤ 7293034) (K : ∀ μ', INV (T + 60) μ' → zJ mL_law 14 cC (u.1 + 4, u.2 + 24) (zQL xs Ln) 2717 (LH i) [] μ') : zJ mL_law 14 cC u (zQL xs Ln) 1970 (LH i) [] μ := by
  obtain ⟨res, hx, b, Y, hy, h1, hm⟩ := f_when hI (xs (i + 1)) (xs (i + 2))
  have hk : μ 1 = μ 1 := rfl
  rcases res with r | E
  · obtain ⟨h2, h3⟩ := hm
    refine cs_when hi hL hu (tL_when_r hx) (zg_lm ((zg_ne (by decide)).trans hk) (tX12_when hy)) h2 (fun _ => (zw_00 _ _).trans h3.symm) (K _ (INV.g2 (h1.mono (by omega))))
  · obtain ⟨q, hq, h2⟩ := hm
    rcases q with _ | q
    · cases hq
      refine cs_when hi hL hu (tL_when_0 hx) (zg_lm hk (tX12_when hy)) h2 (fun z => absurd z (by decide)) (K _ (h1.mono (by omega)))
    · cases hq
theorem lc_route (hi : i + 5 < Ln) (hL : Ln < 2147483648) (hI : INV T μ) (hT : T + 200 < 1000000) (hu : u.1 + 4 ≤ 601024 ∧ u.2 + 24 ≤ 7293034) (K : ∀ μ', INV (T + 60) μ' → zJ mL_law 14 cC (u.1 + 4, u.2 + 24) (zQL xs Ln) 2717 (LH i) [] μ') : zJ mL_law 14 cC u (zQL xs Ln) 2038 (LH i) [] μ := by
  obtain ⟨res, hx, b, Y, hy, h1, hm⟩ := f_route 4000 (by decide) hI (xs (i + 1)) (xs (i + 2)) (xs (i + 3))
  have hk : μ 1 = μ 1 := rfl
  rcases res with r | E
  · obtain ⟨h2, h3⟩ := hm
    refine cs_route hi hL hu (tL_route_r hx) (zg_lm ((zg_ne (by decide)).trans hk) (tX12_route hy)) h2 (fun _ => (zw_00 _ _).trans h3.symm) (K _ (INV.g2 (h1.mono (by omega))))
  · obtain ⟨q, hq, h2⟩ := hm
    rcases q with _ | q
    · cases hq
      refine cs_route hi hL hu (tL_route_0 hx) (zg_lm hk (tX12_route hy)) h2 (fun z => absurd z (by decide)) (K _ (h1.mono (by omega)))
    · cases hq
theorem lc_crossed (hi : i + 5 < Ln) (hL : Ln < 2147483648) (hI : INV T μ) (hT : T + 200 < 1000000) (hu : u.1 + 4 ≤ 601024 ∧ u.2 + 24 ≤ 7293034) (K : ∀ μ', INV (T + 60) μ' → zJ mL_law 14 cC (u.1 + 4, u.2 + 24) (zQL xs Ln) 2717 (LH i) [] μ') : zJ mL_law 14 cC u (zQL xs Ln) 2118 (LH i) [] μ := by
  obtain ⟨res, hx, b, Y, hy, h1, hm⟩ := f_crossed 4000 (by decide) hI (xs (i + 1)) (xs (i + 2))
  have hk : μ 1 = μ 1 := rfl
  rcases res with r | E
  · obtain ⟨h2, h3⟩ := hm
    refine cs_crossed hi hL hu (tL_crossed_r hx) (zg_lm ((zg_ne (by decide)).trans hk) (tX12_crossed hy)) h2 (fun _ => (zw_00 _ _).trans h3.symm) (K _ (INV.g2 (h1.mono (by omega))))
  · obtain ⟨q, hq, h2⟩ := hm
    rcases q with _ | q
    · cases hq
      refine cs_crossed hi hL hu (tL_crossed_0 hx) (zg_lm hk (tX12_crossed hy)) h2 (fun z => absurd z (by decide)) (K _ (h1.mono (by omega)))
    rcases q with _ | q
    · cases hq
      refine cs_crossed hi hL hu (tL_crossed_1 hx) (zg_lm hk (tX12_crossed hy)) h2 (fun z => absurd z (by decide)) (K _ (h1.mono (by omega)))
    · cases hq
theorem lc_center (hi : i + 5 < Ln) (hL : Ln < 2147483648) (hI : INV T μ) (hT : T + 200 < 1000000) (hu : u.1 + 4 ≤ 601024 ∧ u.2 + 24 ≤ 7293034) (K : ∀ μ', INV (T + 60) μ' → zJ mL_law 14 cC (u.1 + 4, u.2 + 24) (zQL xs Ln) 2717 (LH i) [] μ') : zJ mL_law 14 cC u (zQL xs Ln) 2186 (LH i) [] μ := by
  obtain ⟨r, hx, b, Y, hy, h1, h2, h3⟩ := f_center 4000 (by decide) hI
  have hk : μ 1 = μ 1 := rfl
  refine cs_center hi hL (tX11_center hx) (zg_lm hk (tX12_center hy)) h3.symm (z_wid ⟨Nat.le_add_right _ _, hu.1⟩ ⟨Nat.le_add_right _ _, hu.2⟩ (K _ (h1.mono (by omega))))
theorem lc_first (hi : i + 5 < Ln) (hL : Ln < 2147483648) (hI : INV T μ) (hT : T + 200 < 1000000) (hu : u.1 + 4 ≤ 601024 ∧ u.2 + 24 ≤ 7293034) (K : ∀ μ', INV (T + 60) μ' → zJ mL_law 14 cC (u.1 + 4, u.2 + 24) (zQL xs Ln) 2717 (LH i) [] μ') : zJ mL_law 14 cC u (zQL xs Ln) 2199 (LH i) [] μ := by
  obtain ⟨res, hx, b, Y, hy, h1, hm⟩ := f_first 4000 (by decide) hI (xs (i + 1))
  have hk : μ 1 = μ 1 := rfl
  rcases res with r | E
  · obtain ⟨h2, h3⟩ := hm
    refine cs_first hi hL hu (tL_first_r hx) (zg_lm ((zg_ne (by decide)).trans hk) (tX12_first hy)) h2 (fun _ => (zw_00 _ _).trans h3.symm) (K _ (INV.g2 (h1.mono (by omega))))
  · obtain ⟨q, hq, h2⟩ := hm
    rcases q with _ | q
    · cases hq
      refine cs_first hi hL hu (tL_first_0 hx) (zg_lm hk (tX12_first hy)) h2 (fun z => absurd z (by decide)) (K _ (h1.mono (by omega)))
    · cases hq
theorem lc_blind (hi : i + 5 < Ln) (hL : Ln < 2147483648) (hI : INV T μ) (hT : T + 200 < 1000000) (hu : u.1 + 4 ≤ 601024 ∧ u.2 + 24 ≤ 7293034) (K : ∀ μ', INV (T + 60) μ' → zJ mL_law 14 cC (u.1 + 4, u.2 + 24) (zQL xs Ln) 2717 (LH i) [] μ') : zJ mL_law 14 cC u (zQL xs Ln) 2255 (LH i) [] μ := by
  obtain ⟨res, hx, b, Y, hy, h1, hm⟩ := f_blind 4000 (by decide) hI (xs (i + 1))
  have hk : μ 1 = μ 1 := rfl
  rcases res with r | E
  · obtain ⟨h2, h3⟩ := hm
    refine cs_blind hi hL hu (tL_blind_r hx) (zg_lm ((zg_ne (by decide)).trans hk) (tX12_blind hy)) h2 (fun _ => (zw_00 _ _).trans h3.symm) (K _ (INV.g2 (h1.mono (by omega))))
  · obtain ⟨q, hq, h2⟩ := hm
    rcases q with _ | q
    · cases hq
      refine cs_blind hi hL hu (tL_blind_0 hx) (zg_lm hk (tX12_blind hy)) h2 (fun z => absurd z (by decide)) (K _ (h1.mono (by omega)))
    · cases hq
theorem lc_guard (hi : i + 5 < Ln) (hL : Ln < 2147483648) (hI : INV T μ) (hT : T + 200 < 1000000) (hu : u.1 + 4 ≤ 601024 ∧ u.2 + 24 ≤ 7293034) (K : ∀ μ', INV (T + 60) μ' → zJ mL_law 14 cC (u.1 + 4, u.2 + 24) (zQL xs Ln) 2717 (LH i) [] μ') : zJ mL_law 14 cC u (zQL xs Ln) 2311 (LH i) [] μ := by
  obtain ⟨res, hx, b, Y, hy, h1, hm⟩ := f_guard 4000 (by decide) hI (xs (i + 1)) (xs (i + 2))
  have hk : μ 1 = μ 1 := rfl
  rcases res with r | E
  · obtain ⟨h2, h3⟩ := hm
    refine cs_guard hi hL hu (tL_guard_r hx) (zg_lm ((zg_ne (by decide)).trans hk) (tX12_guard hy)) h2 (fun _ => (zw_00 _ _).trans h3.symm) (K _ (INV.g2 (h1.mono (by omega))))
  · obtain ⟨q, hq, h2⟩ := hm
    rcases q with _ | q
    · cases hq
      refine cs_guard hi hL hu (tL_guard_0 hx) (zg_lm hk (tX12_guard hy)) h2 (fun z => absurd z (by decide)) (K _ (h1.mono (by omega)))
    · cases hq
theorem lc_best (hi : i + 5 < Ln) (hL : Ln < 2147483648) (hI : INV T μ) (hT : T + 200 < 1000000) (hu : u.1 + 4 ≤ 601024 ∧ u.2 + 24 ≤ 7293034) (K : ∀ μ', INV (T + 60) μ' → zJ mL_law 14 cC (u.1 + 4, u.2 + 24) (zQL xs Ln) 2717 (LH i) [] μ') : zJ mL_law 14 cC u (zQL xs Ln) 2379 (LH i) [] μ := by
  obtain ⟨res, μc, hx, b, Y, hy, h1, hm⟩ := f_best 4000 (by decide) (by omega) hI (xs (i + 1)) (if xs (i + 2) = 0 then nI 0 else nI 1)
  have hk : μc 1 = μ 1 := kpt_best _ _ _ _ hx
  rcases res with r | E
  · obtain ⟨h2, h3⟩ := hm
    refine cs_best hi hL hu (tL_best_r hx) (zg_lm ((zg_ne (by decide)).trans hk) (tX12_best hy)) h2 (fun _ => (zw_00 _ _).trans h3.symm) (K _ (INV.g2 (h1.mono (by omega))))
  · obtain ⟨q, hq, h2⟩ := hm
    rcases q with _ | q
    · cases hq
      refine cs_best hi hL hu (tL_best_0 hx) (zg_lm hk (tX12_best hy)) h2 (fun z => absurd z (by decide)) (K _ (h1.mono (by omega)))
    · cases hq
theorem lc_spread (hi : i + 5 < Ln) (hL : Ln < 2147483648) (hI : INV T μ) (hT : T + 200 < 1000000) (hu : u.1 + 4 ≤ 601024 ∧ u.2 + 24 ≤ 7293034) (K : ∀ μ', INV (T + 60) μ' → zJ mL_law 14 cC (u.1 + 4, u.2 + 24) (zQL xs Ln) 2717 (LH i) [] μ') : zJ mL_law 14 cC u (zQL xs Ln) 2463 (LH i) [] μ := by
  obtain ⟨res, hx, b, Y, hy, h1, hm⟩ := f_spread 4000 (by decide) hI (xs (i + 1))
  have hk : μ 1 = μ 1 := rfl
  rcases res with r | E
  · obtain ⟨h2, h3⟩ := hm
    refine cs_spread hi hL hu (tL_spread_r hx) (zg_lm ((zg_ne (by decide)).trans hk) (tX12_spread hy)) h2 (fun _ => (zw_00 _ _).trans h3.symm) (K _ (INV.g2 (h1.mono (by omega))))
  · obtain ⟨q, hq, h2⟩ := hm
    rcases q with _ | q
    · cases hq
      refine cs_spread hi hL hu (tL_spread_0 hx) (zg_lm hk (tX12_spread hy)) h2 (fun z => absurd z (by decide)) (K _ (h1.mono (by omega)))
    · cases hq
theorem lc_holders (hi : i + 5 < Ln) (hL : Ln < 2147483648) (hI : INV T μ) (hT : T + 200 < 1000000) (hu : u.1 + 4 ≤ 601024 ∧ u.2 + 24 ≤ 7293034) (K : ∀ μ', INV (T + 60) μ' → zJ mL_law 14 cC (u.1 + 4, u.2 + 24) (zQL xs Ln) 2717 (LH i) [] μ') : zJ mL_law 14 cC u (zQL xs Ln) 2519 (LH i) [] μ := by
  obtain ⟨res, hx, b, Y, hy, h1, hm⟩ := f_holders 4000 (by decide) hI (xs (i + 1))
  have hk : μ 1 = μ 1 := rfl
  rcases res with r | E
  · obtain ⟨h2, h3⟩ := hm
    refine cs_holders hi hL hu (tL_holders_r hx) (zg_lm ((zg_ne (by decide)).trans hk) (tX12_holders hy)) h2 (fun _ => (zw_00 _ _).trans h3.symm) (K _ (INV.g2 (h1.mono (by omega))))
  · obtain ⟨q, hq, h2⟩ := hm
    rcases q with _ | q
    · cases hq
      refine cs_holders hi hL hu (tL_holders_0 hx) (zg_lm hk (tX12_holders hy)) h2 (fun z => absurd z (by decide)) (K _ (h1.mono (by omega)))
    · cases hq
theorem lc_log (hi : i + 5 < Ln) (hL : Ln < 2147483648) (hI : INV T μ) (hT : T + 200 < 1000000) (hu : u.1 + 4 ≤ 601024 ∧ u.2 + 24 ≤ 7293034) (K : ∀ μ', INV (T + 60) μ' → zJ mL_law 14 cC (u.1 + 4, u.2 + 24) (zQL xs Ln) 2717 (LH i) [] μ') : zJ mL_law 14 cC u (zQL xs Ln) 2575 (LH i) [] μ := by
  obtain ⟨res, hx, b, Y, hy, h1, hm⟩ := f_log hI (xs (i + 1)) (xs (i + 2))
  have hk : μ 1 = μ 1 := rfl
  rcases res with r | E
  · obtain ⟨h2, h3⟩ := hm
    refine cs_log hi hL hu (tL_log_r hx) (zg_lm ((zg_ne (by decide)).trans hk) (tX12_log hy)) h2 (fun _ => (zw_00 _ _).trans h3.symm) (K _ (INV.g2 (h1.mono (by omega))))
  · obtain ⟨q, hq, h2⟩ := hm
    rcases q with _ | q
    · cases hq
      refine cs_log hi hL hu (tL_log_0 hx) (zg_lm hk (tX12_log hy)) h2 (fun z => absurd z (by decide)) (K _ (h1.mono (by omega)))
    · cases hq
theorem lc_seed (hi : i + 5 < Ln) (hL : Ln < 2147483648) (hI : INV T μ) (hT : T + 200 < 1000000) (hu : u.1 + 4 ≤ 601024 ∧ u.2 + 24 ≤ 7293034) (K : ∀ μ', INV (T + 60) μ' → zJ mL_law 14 cC (u.1 + 4, u.2 + 24) (zQL xs Ln) 2717 (LH i) [] μ') : zJ mL_law 14 cC u (zQL xs Ln) 2643 (LH i) [] μ := by
  obtain ⟨r, μc, hx, b, Y, hy, h1, h2, h3⟩ := f_seed hI (xs (i + 1))
  have hk : μc 1 = μ 1 := kpt_seed _ _ hx
  refine cs_seed hi hL (tX11_seed hx) (zg_lm hk (tX12_seed hy)) h3.symm (z_wid ⟨Nat.le_add_right _ _, hu.1⟩ ⟨Nat.le_add_right _ _, hu.2⟩ (K _ (h1.mono (by omega))))
theorem lc_image (hi : i + 5 < Ln) (hL : Ln < 2147483648) (hI : INV T μ) (hT : T + 200 < 1000000) (hu : u.1 + 4 ≤ 601024 ∧ u.2 + 24 ≤ 7293034) (K : ∀ μ', INV (T + 60) μ' → zJ mL_law 14 cC (u.1 + 4, u.2 + 24) (zQL xs Ln) 2717 (LH i) [] μ') : zJ mL_law 14 cC u (zQL xs Ln) 2668 (LH i) [] μ := by
  obtain ⟨μc, Y, hx, hy, h1, -⟩ := f_image 4000 (by decide) hI
  have hk := kpt_image hx
  refine cs_image hi hL (tX11_image hx) (zg_lm hk (tX12_image hy)) (z_wid ⟨Nat.le_add_right _ _, hu.1⟩ ⟨Nat.le_add_right _ _, hu.2⟩ (K _ (h1.mono (by omega))))
theorem lc_back (hi : i + 5 < Ln) (hL : Ln < 2147483648) (hI : INV T μ) (hT : T + 200 < 1000000) (hu : u.1 + 4 ≤ 601024 ∧ u.2 + 24 ≤ 7293034) (K : ∀ μ', INV (T + 60) μ' → zJ mL_law 14 cC (u.1 + 4, u.2 + 24) (zQL xs Ln) 2717 (LH i) [] μ') : zJ mL_law 14 cC u (zQL xs Ln) 2679 (LH i) [] μ := by
  obtain ⟨r, μc, hx, b, Y, hy, h1, h2, h3⟩ := f_back 4000 (by decide) hI
  have hk : μc 1 = μ 1 := kpt_back _ hx
  refine cs_back hi hL (tX11_back hx) (zg_lm hk (tX12_back hy)) h3.symm (z_wid ⟨Nat.le_add_right _ _, hu.1⟩ ⟨Nat.le_add_right _ _, hu.2⟩ (K _ (h1.mono (by omega))))
theorem lc_count (hi : i + 5 < Ln) (hL : Ln < 2147483648) (hI : INV T μ) (hT : T + 200 < 1000000) (hu : u.1 + 4 ≤ 601024 ∧ u.2 + 24 ≤ 7293034) (K : ∀ μ', INV (T + 60) μ' → zJ mL_law 14 cC (u.1 + 4, u.2 + 24) (zQL xs Ln) 2717 (LH i) [] μ') : zJ mL_law 14 cC u (zQL xs Ln) 2692 (LH i) [] μ := by
  obtain ⟨r, hx, b, Y, hy, h1, h2, h3⟩ := f_count hI (xs (i + 1))
  have hk : μ 1 = μ 1 := rfl
  refine cs_count hi hL (tX11_count hx) (zg_lm hk (tX12_count hy)) h3.symm (z_wid ⟨Nat.le_add_right _ _, hu.1⟩ ⟨Nat.le_add_right _ _, hu.2⟩ (K _ (h1.mono (by omega))))
end LC
