/-! a trial: how much is sent -/
section TK2
variable {lo : Nat × (Nat → Int32)} {s l m : Nat} {T : Nat × Nat} {X Y : zX}
theorem r_sumL14 (F : Nat) (h : wR lo s l m T X Y) : ∀ (d fu fu' j : Nat) (acc : Int32), s - j = d → j ≤ s → d < fu → d < fu' → ∃ r, hX4_sumq14_4 F fu acc (nI j) X = some r ∧ hX12_sentByAll_4 F fu' (nI 6) acc (nI j) Y = some r := by
  have hs := h.hs
  intro d
  induction d with
  | zero =>
    intro fu fu' j acc h1 h2 h3 h4
    obtain ⟨fu, rfl⟩ := Nat.exists_eq_succ_of_ne_zero (show fu ≠ 0 by omega)
    obtain ⟨fu', rfl⟩ := Nat.exists_eq_succ_of_ne_zero (show fu' ≠ 0 by omega)
    unfold hX4_sumq14_4 hX12_sentByAll_4
    rw [h.nn, h.nodes, if_pos ((nI_leI (by omega) (by omega)).mpr (by omega)), if_pos ((nI_leI (by omega) (by omega)).mpr (by omega))]
    exact ⟨_, rfl, rfl⟩
  | succ d ih =>
    intro fu fu' j acc h1 h2 h3 h4
    obtain ⟨fu, rfl⟩ := Nat.exists_eq_succ_of_ne_zero (show fu ≠ 0 by omega)
    obtain ⟨fu', rfl⟩ := Nat.exists_eq_succ_of_ne_zero (show fu' ≠ 0 by omega)
    have hj : j < s := by omega
    obtain ⟨r, e1, e2⟩ := ih fu fu' (j + 1) (acc + X 14 j) (by omega) (by omega) (by omega) (by omega)
    refine ⟨r, ?_, ?_⟩
    · unfold hX4_sumq14_4
      rw [h.nodes, if_neg (nI_ge hj (by omega)), if_neg (nI_ge (show j < 6 by omega) (by omega)), qzin (show j < 6 by omega) (by omega), qchk, qzn (by omega), nI_add]
      exact e1
    · unfold hX12_sentByAll_4
      rw [h.nn, h.nodes, if_neg (nI_ge hj (by omega)), y_of _ (by omega) (by decide), qbd, nI_add, h.nreq hj]
      exact e2
theorem r_sumL15 (F : Nat) (h : wR lo s l m T X Y) : ∀ (d fu fu' j : Nat) (acc : Int32), s - j = d → j ≤ s → d < fu → d < fu' → ∃ r, hX4_sumq15_4 F fu acc (nI j) X = some r ∧ hX12_sentByAll_4 F fu' (nI 7) acc (nI j) Y = some r := by
  have hs := h.hs
  intro d
  induction d with
  | zero =>
    intro fu fu' j acc h1 h2 h3 h4
    obtain ⟨fu, rfl⟩ := Nat.exists_eq_succ_of_ne_zero (show fu ≠ 0 by omega)
    obtain ⟨fu', rfl⟩ := Nat.exists_eq_succ_of_ne_zero (show fu' ≠ 0 by omega)
    unfold hX4_sumq15_4 hX12_sentByAll_4
    rw [h.nn, h.nodes, if_pos ((nI_leI (by omega) (by omega)).mpr (by omega)), if_pos ((nI_leI (by omega) (by omega)).mpr (by omega))]
    exact ⟨_, rfl, rfl⟩
  | succ d ih =>
    intro fu fu' j acc h1 h2 h3 h4
    obtain ⟨fu, rfl⟩ := Nat.exists_eq_succ_of_ne_zero (show fu ≠ 0 by omega)
    obtain ⟨fu', rfl⟩ := Nat.exists_eq_succ_of_ne_zero (show fu' ≠ 0 by omega)
    have hj : j < s := by omega
    obtain ⟨r, e1, e2⟩ := ih fu fu' (j + 1) (acc + X 15 j) (by omega) (by omega) (by omega) (by omega)
    refine ⟨r, ?_, ?_⟩
    · unfold hX4_sumq15_4
      rw [h.nodes, if_neg (nI_ge hj (by omega)), if_neg (nI_ge (show j < 6 by omega) (by omega)), qzin (show j < 6 by omega) (by omega), qchk, qzn (by omega), nI_add]
      exact e1
    · unfold hX12_sentByAll_4
      rw [h.nn, h.nodes, if_neg (nI_ge hj (by omega)), y_of _ (by omega) (by decide), qbd, nI_add, h.nrep hj]
      exact e2
theorem r_req (F : Nat) (hF : 300 ≤ F) (h : wR lo s l m T X Y) : ∃ r, eX4_allRequests F X = some r ∧ eX12_sentByAll F (nI 6) Y = some r := by
  have hs := h.hs
  obtain ⟨r, e1, e2⟩ := r_sumL14 F h s F F 0 (nI 0) rfl (Nat.zero_le _) (by omega) (by omega)
  refine ⟨r, ?_, e2⟩
  unfold eX4_allRequests eX4_sumq14
  have e1' : hX4_sumq14_4 F F (nI 0) (nI 0) X = some r := e1
  rw [e1', qbd]
theorem r_rep (F : Nat) (hF : 300 ≤ F) (h : wR lo s l m T X Y) : ∃ r, eX4_allRepairs F X = some r ∧ eX12_sentByAll F (nI 7) Y = some r := by
  have hs := h.hs
  obtain ⟨r, e1, e2⟩ := r_sumL15 F h s F F 0 (nI 0) rfl (Nat.zero_le _) (by omega) (by omega)
  refine ⟨r, ?_, e2⟩
  unfold eX4_allRepairs eX4_sumq15
  have e1' : hX4_sumq15_4 F F (nI 0) (nI 0) X = some r := e1
  rw [e1', qbd]
end TK2
section F16
variable {T : Nat} {μ : zM}
/-- one trial of N ticks, and what a sum over the nodes grows by: b the mode, c the cell -/
theorem r_talk (F : Nat) (hF : 3000 ≤ F) (hT : T + 200 < 1000000) (h : INV T μ) {N : Nat} (hN : N ≤ 120) {x2 b c : Int32} (hb0 : ¬ b = 0) {S : zX → Option Int32} (hS : ∀ {lo : Nat × (Nat → Int32)} {s l m : Nat} {t : Nat × Nat} {X Y : zX}, wR lo s l m t X Y → ∃ r, S X = some r ∧ eX12_sentByAll F c Y = some r) (hE : ∀ (fu : Nat) (bf : Int32) (ν : zM), hX11_talk_58 F (fu + 1) (nI N) x2 bf (nI N) ν = zbd (S (ν 6)) fun r4 => some (.inl (r4 - bf), zg ν 6 (ν 6))) : ∃ bf res μ', S (zw (μ 4) 2 1 b) = some bf ∧ hX11_talk_58 F F (nI N) x2 bf (nI 0) (zg μ 6 (zw (μ 4) 2 1 b)) = some (res, μ') ∧ eX12_sentByAll F c (zw (μ 1) 0 0 (nI 0)) = some bf ∧ ∃ Y1, eX12_keepsAll F (zw (μ 1) 0 0 (nI 0)) = some Y1 ∧ okR T μ' res [eIA] (jX12_talk_65 F (nI N) c bf b Y1) := by
  obtain ⟨s, l, nx, m, Z, hw, hW, hK⟩ := h.2.2.2.1
  have hs := hw.hs
  have hl := hw.hl
  have hm := hw.hm
  have hw0 := hw.row (Y' := zw (μ 1) 0 0 (nI 0)) (r_0 _)
  obtain ⟨Y1, k1, k2, k3, -⟩ := y_keeps F 2422 F 0 (zw (μ 1) 0 0 (nI 0)) rfl (Nat.zero_le _) (by omega)
  have hm0 := hw0.mode hb0
  obtain ⟨bf, s1, s2⟩ := hS hm0
  have h2 : sS s l (T, nx) (zw (μ 4) 2 1 b) (zw Y1 0 16 b) := ⟨m, Z, ⟨hm0.row (by rw [zw_row_ne (by decide), k2 1 (by decide)]), by rw [zw_at, zw_at]⟩, wC_fr hW fr1 (by decide), hK.fr fr1 (by decide)⟩
  obtain ⟨X', Y', r, nx', a1, a2, a3, a4, a5⟩ := s_goes F (by omega) (N := N) (by omega) N 0 F (T, nx) _ _ (nI 0) rfl (Nat.zero_le _) (by omega) (by dsimp only; omega) h2
  obtain ⟨m', Z', b1, b2, b3⟩ := a3
  obtain ⟨rf, s3, s4⟩ := hS b1.1
  have e1 := a1 F (by omega) (fun fu k X => hX11_talk_58 F fu (nI N) x2 bf k (zg μ 6 X)) (fun X => zbd (S X) fun r4 => some (.inl (r4 - bf), zg μ 6 X)) (fun n k X hk => by
    show hX11_talk_58 F (n + 1) (nI N) x2 bf (nI k) (zg μ 6 X) = _
    conv => lhs; unfold hX11_talk_58
    rw [if_neg (nI_ge hk (by omega)), zg_at, nI_add]
    simp only [zg_zg]) (fun n X => by
    show hX11_talk_58 F (n + 1) (nI N) x2 bf (nI N) (zg μ 6 X) = _
    rw [hE n bf (zg μ 6 X), zg_at, zg_zg])
  have e1' : hX11_talk_58 F F (nI N) x2 bf (nI 0) (zg μ 6 (zw (μ 4) 2 1 b)) = _ := e1
  rw [s3, qbd] at e1'
  refine ⟨bf, _, _, s1, e1', s2, Y1, k1, ?_⟩
  unfold jX12_talk_65 eX12_goesOn eX12_bringsBack
  have a2' : hX12_goesOn_4 F F (nI N) (nI 0) (nI 0) (zw Y1 0 16 b) = _ := a2
  obtain ⟨Y2, d1, d2, d3, -⟩ := y_brings F 2422 F 0 Y' rfl (Nat.zero_le _) (by omega)
  have d1' : hX12_bringsBack_2 F F (nI 0) Y' = some Y2 := d1
  rw [a2', qbd]
  dsimp only
  rw [s4, qbd, d1', qbd]
  have st : stY (μ 1) Y2 := ((((st_0 (μ 1)).trans (stY.fr k2 (by decide))).w0 (i := 16) (v := b) (by decide)).trans (stY.fr a5 (by decide))).trans (stY.fr d2 (by decide))
  refine ⟨_, _, rfl, h.trial st (fun a ha => ?_), ?_, rfl⟩
  · rw [d3 a (Nat.zero_le _) ha, a5 4 (by decide), zw_no (Or.inl (by decide)), k3 a (Nat.zero_le _) ha, zw_no (Or.inl (by decide))]
  · rw [d2 0 (by decide), a5 0 (by decide), zw_no (by decide), k2 0 (by decide), zw_at]
theorem f_talk (F : Nat) (hF : 3000 ≤ F) (hT : T + 200 < 1000000) (h : INV T μ) (x0 x1 x2 : Int32) : ∃ res μ', eX11_talk F x0 x1 x2 μ = some (res, μ') ∧ okR T μ' res [eIA] (eX12_talk F x0 x1 x2 (μ 1)) := by
  unfold eX11_talk eX12_talk jX12_talk_21
  rcases rg_sw x0 (N := 120) (by decide) with ⟨N, hN, rfl⟩ | ⟨hx1, -⟩
  · have c1 : (¬ (nI N < nI 0)) ∧ ¬ (nI 120 < nI N) := ⟨nI_pos (by omega), nI_nlt (by omega) (by omega)⟩
    rw [if_neg (show ¬ nI N < 0 from c1.1), if_pos ((nI_leI (by omega) (by omega)).mpr hN), if_pos c1, y_thr0, qbd, if_pos q00]
    dsimp only
    unfold eX11_lookAhead jX11_lookAhead_27 jX12_talk_41
    simp only [zg_at, zg_zg]
    have le : nI N ≤ nI N := (nI_leI (by omega) (by omega)).mpr (Nat.le_refl _)
    by_cases c2 : x2 = 0
    · have hE : ∀ (fu : Nat) (bf : Int32) (ν : zM), hX11_talk_58 F (fu + 1) (nI N) x2 bf (nI N) ν = zbd (eX4_allRequests F (ν 6)) fun r4 => some (.inl (r4 - bf), zg ν 6 (ν 6)) := fun fu bf ν => by
        unfold hX11_talk_58
        rw [if_pos le, if_pos c2]
      simp only [if_pos c2]
      by_cases c : x1 = 0
      · obtain ⟨bf, res, μ', p1, p2, p3, Y1, p4, p5⟩ := r_talk F hF hT h hN (x2 := x2) (b := nI 1) (c := nI 6) (by decide) (fun hw => r_req F (by omega) hw) hE
        rw [if_pos c, qbd, zg_at, p1, qbd, zg_zg, p2, p3, qbd, p4, qbd, if_pos c]
        exact ⟨_, _, rfl, p5⟩
      · obtain ⟨bf, res, μ', p1, p2, p3, Y1, p4, p5⟩ := r_talk F hF hT h hN (x2 := x2) (b := nI 2) (c := nI 6) (by decide) (fun hw => r_req F (by omega) hw) hE
        rw [if_neg c, qbd, zg_at, p1, qbd, zg_zg, p2, p3, qbd, p4, qbd, if_neg c]
        exact ⟨_, _, rfl, p5⟩
    · have hE : ∀ (fu : Nat) (bf : Int32) (ν : zM), hX11_talk_58 F (fu + 1) (nI N) x2 bf (nI N) ν = zbd (eX4_allRepairs F (ν 6)) fun r4 => some (.inl (r4 - bf), zg ν 6 (ν 6)) := fun fu bf ν => by
        unfold hX11_talk_58
        rw [if_pos le, if_neg c2]
      simp only [if_neg c2]
      by_cases c : x1 = 0
      · obtain ⟨bf, res, μ', p1, p2, p3, Y1, p4, p5⟩ := r_talk F hF hT h hN (x2 := x2) (b := nI 1) (c := nI 7) (by decide) (fun hw => r_rep F (by omega) hw) hE
        rw [if_pos c, qbd, zg_at, p1, qbd, zg_zg, p2, p3, qbd, p4, qbd, if_pos c]
        exact ⟨_, _, rfl, p5⟩
      · obtain ⟨bf, res, μ', p1, p2, p3, Y1, p4, p5⟩ := r_talk F hF hT h hN (x2 := x2) (b := nI 2) (c := nI 7) (by decide) (fun hw => r_rep F (by omega) hw) hE
        rw [if_neg c, qbd, zg_at, p1, qbd, zg_zg, p2, p3, qbd, p4, qbd, if_neg c]
        exact ⟨_, _, rfl, p5⟩
  · have e : ∀ {α : Type} {a b : α}, (if x0 < 0 then b else if x0 ≤ nI 120 then a else b) = b := by
      intro α a b
      by_cases z : x0 < 0
      · rw [if_pos z]
      · rw [if_neg z]
        refine if_neg (fun y => hx1 ⟨z, fun w => ?_⟩)
        rw [Int32.lt_iff_toInt_lt] at w
        rw [Int32.le_iff_toInt_le] at y
        omega
    rw [e, if_neg hx1, y_thr1, qbd, if_neg q11]
    exact ⟨_, _, rfl, okR_thr h (st_00 _ _) (r_00 _ _) 0 rfl (zw_at _ _ _ _) _⟩
end F16
