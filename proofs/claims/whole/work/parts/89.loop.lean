/-! the law's loop -/
theorem and63 (x : Int32) : leN (x &&& nI 63) 63 := by
  refine ⟨(x.toBitVec.toNat % 64), by omega, ?_⟩
  apply b_ext
  intro i hi
  have e : bt (nI 63) i = decide (i < 6) := by
    have : ∀ i, i < 32 → bt (nI 63) i = decide (i < 6) := by decide +kernel
    exact this i hi
  rw [b_and, e]
  unfold bt
  show _ = (BitVec.ofNat 32 (x.toBitVec.toNat % 2 ^ 6)).getLsbD i
  rw [BitVec.getLsbD_ofNat, Nat.testBit_mod_two_pow]
  simp [hi, BitVec.getLsbD, Bool.and_comm]
theorem lg_end {Ln i : Nat} (hL : Ln < 100000) (hi : i < 100000) : (nI Ln - nI 6 < nI i) ↔ Ln < i + 6 := by
  rw [Int32.lt_iff_toInt_lt, nI_toInt (by omega)]
  have : (nI Ln - nI 6).toInt = (Ln : Int) - 6 := by
    have i6 : (nI 6).toInt = 6 := by decide
    rw [Int32.toInt_sub, nI_toInt (by omega), i6, Int.bmod_def]
    split <;> omega
  omega
section LO
variable {Ln : Nat} {xs : Nat → Int32}
theorem lw_turn {i T : Nat} {μ : zM} {u : Nat × Nat} (hi : i + 5 < Ln) (hL' : Ln < 2147483648) (hI : INV T μ) (hT : T + 200 < 1000000) (hu : u.1 + 4 ≤ 601024 ∧ u.2 + 24 ≤ 7293034) (K : ∀ μ', INV (T + 60) μ' → zJ mL_law 14 cC (u.1 + 4, u.2 + 24) (zQL xs Ln) 2717 (LH i) [] μ') : zJ mL_law 14 cC u (zQL xs Ln) 40 (LH i) [zi (xs i &&& nI 63)] μ := by
  obtain ⟨v, hv, ev⟩ := and63 (xs i)
  rw [ev]
  by_cases h : v ≤ 40
  · match v, h with
    | 0, _ => exact z_tabIn dL_law_40 (by decide) (by decide) (off := 180) (by decide) (by decide) (lc_feed hi hL' hI (by omega) (by omega) K)
    | 1, _ => exact z_tabIn dL_law_40 (by decide) (by decide) (off := 253) (by decide) (by decide) (lc_end hi hL' hI (by omega) (by omega) K)
    | 2, _ => exact z_tabIn dL_law_40 (by decide) (by decide) (off := 278) (by decide) (by decide) (lc_group hi hL' hI (by omega) (by omega) K)
    | 3, _ => exact z_tabIn dL_law_40 (by decide) (by decide) (off := 322) (by decide) (by decide) (lc_fault hi hL' hI (by omega) (by omega) K)
    | 4, _ => exact z_tabIn dL_law_40 (by decide) (by decide) (off := 335) (by decide) (by decide) (lc_node hi hL' hI (by omega) (by omega) K)
    | 5, _ => exact z_tabIn dL_law_40 (by decide) (by decide) (off := 403) (by decide) (by decide) (lc_est hi hL' hI (by omega) (by omega) K)
    | 6, _ => exact z_tabIn dL_law_40 (by decide) (by decide) (off := 471) (by decide) (by decide) (lc_timer hi hL' hI (by omega) (by omega) K)
    | 7, _ => exact z_tabIn dL_law_40 (by decide) (by decide) (off := 551) (by decide) (by decide) (lc_gap hi hL' hI (by omega) (by omega) K)
    | 8, _ => exact z_tabIn dL_law_40 (by decide) (by decide) (off := 631) (by decide) (by decide) (lc_link hi hL' hI (by omega) (by omega) K)
    | 9, _ => exact z_tabIn dL_law_40 (by decide) (by decide) (off := 699) (by decide) (by decide) (lc_flight hi hL' hI (by omega) (by omega) K)
    | 10, _ => exact z_tabIn dL_law_40 (by decide) (by decide) (off := 767) (by decide) (by decide) (lc_ticks hi hL' hI (by omega) (by omega) K)
    | 11, _ => exact z_tabIn dL_law_40 (by decide) (by decide) (off := 823) (by decide) (by decide) (lc_send hi hL' hI (by omega) (by omega) K)
    | 12, _ => exact z_tabIn dL_law_40 (by decide) (by decide) (off := 867) (by decide) (by decide) (lc_wake hi hL' hI (by omega) (by omega) K)
    | 13, _ => exact z_tabIn dL_law_40 (by decide) (by decide) (off := 958) (by decide) (by decide) (lc_cut hi hL' hI (by omega) (by omega) K)
    | 14, _ => exact z_tabIn dL_law_40 (by decide) (by decide) (off := 1049) (by decide) (by decide) (lc_loss hi hL' hI (by omega) (by omega) K)
    | 15, _ => exact z_tabIn dL_law_40 (by decide) (by decide) (off := 1117) (by decide) (by decide) (lc_give hi hL' hI (by omega) (by omega) K)
    | 16, _ => exact z_tabIn dL_law_40 (by decide) (by decide) (off := 1220) (by decide) (by decide) (lc_way hi hL' hI (by omega) (by omega) K)
    | 17, _ => exact z_tabIn dL_law_40 (by decide) (by decide) (off := 1316) (by decide) (by decide) (lc_above hi hL' hI (by omega) (by omega) K)
    | 18, _ => exact z_tabIn dL_law_40 (by decide) (by decide) (off := 1384) (by decide) (by decide) (lc_window hi hL' hI (by omega) (by omega) K)
    | 19, _ => exact z_tabIn dL_law_40 (by decide) (by decide) (off := 1480) (by decide) (by decide) (lc_near hi hL' hI (by omega) (by omega) K)
    | 20, _ => exact z_tabIn dL_law_40 (by decide) (by decide) (off := 1548) (by decide) (by decide) (lc_reach hi hL' hI (by omega) (by omega) K)
    | 21, _ => exact z_tabIn dL_law_40 (by decide) (by decide) (off := 1616) (by decide) (by decide) (lc_far hi hL' hI (by omega) (by omega) K)
    | 22, _ => exact z_tabIn dL_law_40 (by decide) (by decide) (off := 1684) (by decide) (by decide) (lc_whole hi hL' hI (by omega) (by omega) K)
    | 23, _ => exact z_tabIn dL_law_40 (by decide) (by decide) (off := 1725) (by decide) (by decide) (lc_talk hi hL' hI (by omega) (by omega) K)
    | 24, _ => exact z_tabIn dL_law_40 (by decide) (by decide) (off := 1837) (by decide) (by decide) (lc_parts hi hL' hI (by omega) (by omega) K)
    | 25, _ => exact z_tabIn dL_law_40 (by decide) (by decide) (off := 1850) (by decide) (by decide) (lc_giver hi hL' hI (by omega) (by omega) K)
    | 26, _ => exact z_tabIn dL_law_40 (by decide) (by decide) (off := 1930) (by decide) (by decide) (lc_when hi hL' hI (by omega) (by omega) K)
    | 27, _ => exact z_tabIn dL_law_40 (by decide) (by decide) (off := 1998) (by decide) (by decide) (lc_route hi hL' hI (by omega) (by omega) K)
    | 28, _ => exact z_tabIn dL_law_40 (by decide) (by decide) (off := 2078) (by decide) (by decide) (lc_crossed hi hL' hI (by omega) (by omega) K)
    | 29, _ => exact z_tabIn dL_law_40 (by decide) (by decide) (off := 2146) (by decide) (by decide) (lc_center hi hL' hI (by omega) (by omega) K)
    | 30, _ => exact z_tabIn dL_law_40 (by decide) (by decide) (off := 2159) (by decide) (by decide) (lc_first hi hL' hI (by omega) (by omega) K)
    | 31, _ => exact z_tabIn dL_law_40 (by decide) (by decide) (off := 2215) (by decide) (by decide) (lc_blind hi hL' hI (by omega) (by omega) K)
    | 32, _ => exact z_tabIn dL_law_40 (by decide) (by decide) (off := 2271) (by decide) (by decide) (lc_guard hi hL' hI (by omega) (by omega) K)
    | 33, _ => exact z_tabIn dL_law_40 (by decide) (by decide) (off := 2339) (by decide) (by decide) (lc_best hi hL' hI (by omega) (by omega) K)
    | 34, _ => exact z_tabIn dL_law_40 (by decide) (by decide) (off := 2423) (by decide) (by decide) (lc_spread hi hL' hI (by omega) (by omega) K)
    | 35, _ => exact z_tabIn dL_law_40 (by decide) (by decide) (off := 2479) (by decide) (by decide) (lc_holders hi hL' hI (by omega) (by omega) K)
    | 36, _ => exact z_tabIn dL_law_40 (by decide) (by decide) (off := 2535) (by decide) (by decide) (lc_log hi hL' hI (by omega) (by omega) K)
    | 37, _ => exact z_tabIn dL_law_40 (by decide) (by decide) (off := 2603) (by decide) (by decide) (lc_seed hi hL' hI (by omega) (by omega) K)
    | 38, _ => exact z_tabIn dL_law_40 (by decide) (by decide) (off := 2628) (by decide) (by decide) (lc_image hi hL' hI (by omega) (by omega) K)
    | 39, _ => exact z_tabIn dL_law_40 (by decide) (by decide) (off := 2639) (by decide) (by decide) (lc_back hi hL' hI (by omega) (by omega) K)
    | 40, _ => exact z_tabIn dL_law_40 (by decide) (by decide) (off := 2652) (by decide) (by decide) (lc_count hi hL' hI (by omega) (by omega) K)
    | n + 41, h => exact absurd h (by omega)
  · refine z_tabOut dL_law_40 (by decide) (Or.inr ?_) (z_wid ⟨Nat.le_add_right _ _, hu.1⟩ ⟨Nat.le_add_right _ _, hu.2⟩ (K _ (hI.mono (by omega))))
    rw [nI_toInt (by omega)]
    omega
theorem lw_head (hL : Ln ≤ 3072) {i : Nat} {μ : zM} {u : Nat × Nat} (hi : i < 100000) (hu : u.1 ≤ 601024 ∧ u.2 ≤ 7293034) (K : i + 5 < Ln → zJ mL_law 14 cC u (zQL xs Ln) 40 (LH i) [zi (xs i &&& nI 63)] μ) : zJ mL_law 14 cC u (zQL xs Ln) 23 (LH i) [] μ := by
  refine z_iload dL_law_23 rfl (z_aload dL_law_25 rfl (z_slen dL_law_26 (z_const dL_law_27 (z_isub dL_law_29 (z_icmp_gt dL_law_30 (fun _ => z_const dL_law_2723 (z_lret dL_law_2724 hu)) (fun g => ?_))))))
  rw [lg_end (by omega) (by omega)] at g
  exact z_aload dL_law_33 rfl (z_iload dL_law_34 rfl (z_sld dL_law_36 (by omega) (by omega) (z_const dL_law_37 (z_iand dL_law_39 (K (by omega))))))
theorem lw_loop (hL : Ln ≤ 3072) (m : Nat) : ∀ (i T : Nat) (μ : zM) (u : Nat × Nat), Ln < i + 6 * m + 6 → i + 6 * m < 10000 → INV T μ → T + 60 * m + 200 < 1000000 → u.1 + 4 * m ≤ 601024 ∧ u.2 + 24 * m ≤ 7293034 → zJ mL_law 14 cC u (zQL xs Ln) 23 (LH i) [] μ := by
  induction m with
  | zero =>
    intro i T μ u h1 h2 hI hT hu
    exact lw_head hL (by omega) ⟨by omega, by omega⟩ (fun g => absurd g (by omega))
  | succ m ih =>
    intro i T μ u h1 h2 hI hT hu
    refine lw_head hL (by omega) ⟨by omega, by omega⟩ (fun g => ?_)
    refine lw_turn g (by omega) hI (by omega) ⟨by omega, by omega⟩ (fun μ' hI' => ?_)
    refine z_iinc dL_law_2717 (Nat.le_of_ble_eq_true rfl) rfl ?_
    rw [nI_plus]
    exact z_goto dL_law_2720 (ih (i + 6) (T + 60) μ' (u.1 + 4, u.2 + 24) (by omega) (by omega) hI' (by omega) ⟨by show u.1 + 4 + 4 * m ≤ 601024; omega, by show u.2 + 24 + 24 * m ≤ 7293034; omega⟩)
end LO
