/-! lines of a text: numbers -/
abbrev txL : List Nat := [1, 3, 5, 11, 12, 34, 35, 36, 37]
def fY (Y Y' : zX) : Prop := (∀ k, k ≠ 0 → k ≠ 1 → Y' k = Y k) ∧ ∀ i, i ≠ 8 → i ≠ 10 → Y' 0 i = Y 0 i
theorem fY.rf (Y : zX) : fY Y Y := ⟨fun _ _ _ => rfl, fun _ _ _ => rfl⟩
theorem fY.trans {Y Y' Y'' : zX} (h : fY Y Y') (h' : fY Y' Y'') : fY Y Y'' := ⟨fun k h1 h2 => (h'.1 k h1 h2).trans (h.1 k h1 h2), fun i h1 h2 => (h'.2 i h1 h2).trans (h.2 i h1 h2)⟩
theorem fY.s (Y : zX) (b a : Nat) : fY Y (Ys Y b a) := ⟨fun k h1 _ => Ys_row _ _ _ h1, fun i h1 h2 => Ys_no _ _ _ ⟨h1, h2⟩⟩
theorem fY.w1 (Y : zX) (i : Nat) (v : Int32) : fY Y (zw Y 1 i v) := ⟨fun k _ h2 => zw_row_ne h2, fun j _ _ => zw_no (Or.inl (by decide))⟩
theorem fY.f1 {Y Y' : zX} (f : fr [1] Y Y') : fY Y Y' := ⟨fun k _ h2 => f k (by simp [h2]), fun j _ _ => by rw [f 0 (by decide)]⟩
def fXr (X X' : zX) : Prop := ∀ k, k ≠ 3 → X' k = X k
theorem fXr.rf (X : zX) : fXr X X := fun _ _ => rfl
theorem fXr.trans {X X' X'' : zX} (h : fXr X X') (h' : fXr X' X'') : fXr X X'' := fun k hk => (h' k hk).trans (h k hk)
theorem fXr.s (X : zX) (b a : Nat) : fXr X (Xs X b a) := fun k hk => Xs_row _ _ _ hk
theorem fXr.w (X : zX) (i : Nat) (v : Int32) : fXr X (zw X 3 i v) := fun k hk => zw_row_ne hk
theorem tpY.w1 {tp : Nat → Int32} {e b a : Nat} {Y : zX} (h : tpY tp e b a Y) {Y' : zX} (f : fr [1] Y Y') : tpY tp e b a Y' := by
  unfold tpY at *
  rw [f 0 (by decide), f 5 (by decide)]; exact h
/-- a world beside the reference's, its ways aside -/
def wP (s l : Nat) (T : Nat × Nat) (W Y : zX) : Prop := ∃ m Z, wR (0, Z) s l m T W Y ∧ K3 s W
theorem wP.row {s l : Nat} {T : Nat × Nat} {W Y Y' : zX} (h : wP s l T W Y) (e : Y' 1 = Y 1) : wP s l T W Y' := by
  obtain ⟨m, Z, a, b⟩ := h
  exact ⟨m, Z, a.row e, b⟩
def lnO (tp : Nat → Int32) (e : Nat) (T : Nat × Nat) (W : zX) (f : Int32) (X' W' : zX) (g : Int32) (Y' : zX) : Prop :=
  (f = nI 1 ∧ g = nI 1 ∧ ∃ s l b b' a, wP s l T W' Y' ∧ fr txL W W' ∧ tpX tp e b a X' ∧ tpY tp e b' a Y')
  ∨ (f = nI 0 ∧ g = nI 0 ∧ ∃ b, b ≤ e ∧ X' 3 3 = nI b ∧ Y' 0 10 = nI b)
  ∨ (f = nI 0 ∧ g = nI 1 ∧ ∃ b b', b < e ∧ X' 3 3 = nI b ∧ tpY tp e b' b Y' ∧ sL tp b = false)
def lnR (tp : Nat → Int32) (e : Nat) (T : Nat × Nat) (μ : zM) (Y : zX) (c : Option (Int32 × zM)) (r : Option (Int32 × zX)) : Prop := ∃ f X' W' g Y', c = some (f, zg (zg μ 0 X') 6 W') ∧ r = some (g, Y') ∧ lnO tp e T (μ 6) f X' W' g Y' ∧ fXr (μ 0) X' ∧ fY Y Y'
section LN
variable {tp : Nat → Int32} {e b a : Nat} {X Y : zX} {T : Nat × Nat} {μ : zM}
theorem zg_6 (μ : zM) (X : zX) : zg (zg μ 0 X) 6 (μ 6) = zg μ 0 X := by
  have : (zg μ 0 X) 6 = μ 6 := zg_ne (by decide)
  rw [← this, zg_id]
/-- the number that comes -/
def cN (tp : Nat → Int32) (e a : Nat) (lo hi : Int32) : Int32 := nmR tp (bk tp e a) (dw tp e (bk tp e a)) lo hi
def cB (tp : Nat → Int32) (e a : Nat) : Nat := bk tp e a
def cD (tp : Nat → Int32) (e a : Nat) : Nat := dw tp e (bk tp e a)
theorem cN_in (hT : byT tp e) (ha : a ≤ e) (lo hi : Int32) : cN tp e a lo hi = -1 ∨ ∃ v, v < 1000 ∧ cN tp e a lo hi = nI v ∧ ¬ nI v < lo ∧ nI v ≤ hi := nmR_in hT rfl (bk_b ha).2 lo hi
theorem cB_b (ha : a ≤ e) : cB tp e a ≤ e := (bk_b (tp := tp) ha).2
theorem cD_b (ha : a ≤ e) : cD tp e a ≤ e := (dw_b (bk_b (tp := tp) ha).2).2
theorem x_cn (F : Nat) (hF : 500 ≤ F) (hT : byT tp e) (h : tpX tp e b a X) (lo hi : Int32) : (cN tp e a lo hi = -1 → eX6_takeNumber F lo hi X = some (-1, zw (Xs X (cB tp e a) (cD tp e a)) 3 3 (nI (cB tp e a)))) ∧ (cN tp e a lo hi ≠ -1 → eX6_takeNumber F lo hi X = some (cN tp e a lo hi, Xs X (cB tp e a) (cD tp e a))) := by
  have k := x_num F hF hT h lo hi
  constructor
  · intro z
    rw [k]
    unfold cN at z
    rw [z, if_pos rfl]
    rfl
  · intro z
    rw [k]
    unfold cN at z
    rw [if_neg z]
    rfl
theorem y_cn (F : Nat) (hF : 500 ≤ F) (hT : byT tp e) (h : tpY tp e b a Y) (lo hi : Int32) : eX12_number F lo hi Y = some (cN tp e a lo hi, Ys Y (cB tp e a) (cD tp e a)) := y_num F hF hT h lo hi
theorem y_rn (F : Nat) (hF : 500 ≤ F) (hT : byT tp e) (h : tpY tp e b a Y) {ad : Nat} (had : ad < 2422) (lo hi : Int32) : (cN tp e a lo hi = -1 → eX12_readNumber F (nI ad) lo hi Y = some (nI 0, Ys Y (cB tp e a) (cD tp e a))) ∧ (cN tp e a lo hi ≠ -1 → eX12_readNumber F (nI ad) lo hi Y = some (nI 1, zw (Ys Y (cB tp e a) (cD tp e a)) 1 ad (cN tp e a lo hi))) := by
  unfold eX12_readNumber jX12_readNumber_29
  rw [y_cn F hF hT h, qbd]
  dsimp only
  constructor
  · intro z
    rw [z, if_neg (show ¬ (0 : Int32) ≤ -1 by decide), y_in had, qchk, qchk, if_pos (show (-1 : Int32) < 0 by decide), qzn (by omega), zw_sf rfl]
  · intro z
    rcases cN_in hT h.2.1 lo hi with w | ⟨v, v1, v2, v3, v4⟩
    · exact absurd w z
    · rw [v2, if_pos (show (0 : Int32) ≤ nI v from nI_pos' (by omega)), y_in had, qchk, if_neg (nI_pos (by omega)), qzn (by omega)]
/-- a line of one number -/
theorem l_one (F : Nat) (hF : 500 ≤ F) (hT : byT tp e) {s l : Nat} (hw : wP s l T (μ 6) Y) (hX : tpX tp e b a (μ 0)) (hY : tpY tp e b a Y) {i ad : Nat} (hia : (i = 0 ∧ ad = 3) ∨ (1 ≤ i ∧ i ≤ 7 ∧ ad = i + 4)) (hi : i < 4) (lo hi : Int32) (h0 : i = 0 → hi = nI s - nI 1) : lnR tp e T μ Y (zbd (eX6_takeNumber F lo hi (μ 0)) fun y => if ((zw (μ 6) 1 i y.1) 1 i) = (-1) then some ((nI 0), zg (zg μ 0 y.2) 6 (zw (μ 6) 1 i y.1)) else some ((nI 1), zg (zg μ 0 y.2) 6 (zw (μ 6) 1 i y.1))) (eX12_readNumber F (nI ad) lo hi Y) := by
  obtain ⟨m, Z, hw, hK⟩ := hw
  have hs := hw.hs
  obtain ⟨x1, x2⟩ := x_cn F hF hT hX lo hi
  obtain ⟨y1, y2⟩ := y_rn F hF hT hY (ad := ad) (by omega) lo hi
  have hD := cD_b (tp := tp) hX.2.1
  by_cases c : cN tp e a lo hi = -1
  · rw [x1 c, y1 c, qbd]
    dsimp only
    rw [zw_at, if_pos rfl]
    refine ⟨_, _, _, _, _, rfl, rfl, Or.inr (Or.inl ⟨rfl, rfl, cB tp e a, cB_b hX.2.1, zw_at _ _ _ _, (hY.s hD).2.2.2.1⟩), (fXr.s _ _ _).trans (fXr.w _ _ _), fY.s _ _ _⟩
  · rw [x2 c, y2 c, qbd]
    dsimp only
    rw [zw_at, if_neg c]
    have hw' := (hw.row (Y' := Ys Y (cB tp e a) (cD tp e a)) (Ys_row _ _ _ (by decide))).w_told (v := cN tp e a lo hi) hia (fun z => by
      rcases cN_in hT hX.2.1 lo hi with w | ⟨v, v1, v2, v3, v4⟩
      · exact absurd w c
      · refine ⟨v, ?_, v2⟩
        rw [h0 z, Int32.le_iff_toInt_le, nI_toInt (by omega)] at v4
        have : (nI s - nI 1).toInt = (s : Int) - 1 := by
          rw [Int32.toInt_sub, nI_toInt (by omega), i_1, Int.bmod_def]
          split <;> omega
        omega) (fun z => by omega)
    exact ⟨_, _, _, _, _, rfl, rfl, Or.inl ⟨rfl, rfl, s, l, _, _, _, ⟨m, Z, hw', hK.fr fr1 (by decide)⟩, fr1.sub (by decide), hX.s hD, (hY.s hD).w1 fr1⟩, fXr.s _ _ _, (fY.s _ _ _).trans (fY.w1 _ _ _)⟩
theorem cN_32 (hT : byT tp e) (ha : a ≤ e) (c : cN tp e a (nI 0) (nI 32) ≠ -1) : leN (cN tp e a (nI 0) (nI 32)) 32 := by
  rcases cN_in hT ha (nI 0) (nI 32) with w | ⟨v, v1, v2, v3, v4⟩
  · exact absurd w c
  · exact ⟨v, (nI_leI (by omega) (by omega)).mp v4, v2⟩
/-- repair -/
theorem l_repair (F : Nat) (hF : 500 ≤ F) (hT : byT tp e) {s l : Nat} (hw : wP s l T (μ 6) Y) (hX : tpX tp e b a (μ 0)) (hY : tpY tp e b a Y) : lnR tp e T μ Y (eX6_readRepair F μ) (zbd (eX12_readNumber F (nI 10) (nI 0) (nI 32) Y) fun y35 => if y35.1 = 0 then some ((nI 0), y35.2) else zbd (eX12_readNumber F (nI 11) (nI 0) (nI 32) y35.2) fun y38 => if y38.1 = 0 then some ((nI 0), y38.2) else some ((nI 1), y38.2)) := by
  obtain ⟨m, Z, hw, hK⟩ := hw
  obtain ⟨x1, x2⟩ := x_cn F hF hT hX (nI 0) (nI 32)
  obtain ⟨y1, y2⟩ := y_rn F hF hT hY (ad := 10) (by omega) (nI 0) (nI 32)
  have hD := cD_b (tp := tp) hX.2.1
  unfold eX6_readRepair jX6_readRepair_24
  by_cases c : cN tp e a (nI 0) (nI 32) = -1
  · rw [x1 c, y1 c, qbd, qbd]
    dsimp only
    rw [if_pos rfl, if_pos rfl, if_pos (show nI 0 = 0 from rfl)]
    exact ⟨_, _, μ 6, _, _, by rw [zg_6], rfl, Or.inr (Or.inl ⟨rfl, rfl, cB tp e a, cB_b hX.2.1, zw_at _ _ _ _, (hY.s hD).2.2.2.1⟩), (fXr.s _ _ _).trans (fXr.w _ _ _), fY.s _ _ _⟩
  · rw [x2 c, y2 c, qbd, qbd]
    dsimp only
    rw [if_neg c, if_neg (show ¬ nI 1 = 0 by decide)]
    have h32 := cN_32 hT hX.2.1 c
    generalize hv : cN tp e a (nI 0) (nI 32) = v at *
    have hX1 := hX.s (b' := cB tp e a) hD
    have hY1 := (hY.s (b' := cB tp e a) hD).w1 (Y' := zw (Ys Y (cB tp e a) (cD tp e a)) 1 10 v) fr1
    have hw1 := (hw.row (Y' := Ys Y (cB tp e a) (cD tp e a)) (Ys_row _ _ _ (by decide))).w_told (i := 6) (a := 10) (v := v) (Or.inr (by decide)) (fun z => absurd z (by decide)) (fun _ => h32)
    obtain ⟨x3, x4⟩ := x_cn F hF hT hX1 (nI 0) (nI 32)
    obtain ⟨y3, y4⟩ := y_rn F hF hT hY1 (ad := 11) (by omega) (nI 0) (nI 32)
    have hD2 := cD_b (tp := tp) hX1.2.1
    by_cases c2 : cN tp e (cD tp e a) (nI 0) (nI 32) = -1
    · rw [x3 c2, y3 c2, qbd, qbd]
      dsimp only
      rw [if_pos rfl, if_pos (show nI 0 = 0 from rfl)]
      exact ⟨_, _, μ 6, _, _, by rw [zg_6], rfl, Or.inr (Or.inl ⟨rfl, rfl, cB tp e (cD tp e a), cB_b hX1.2.1, zw_at _ _ _ _, (hY1.s hD2).2.2.2.1⟩), ((fXr.s _ _ _).trans (fXr.s _ _ _)).trans (fXr.w _ _ _), ((fY.s _ _ _).trans (fY.w1 _ _ _)).trans (fY.s _ _ _)⟩
    · rw [x4 c2, y4 c2, qbd, qbd]
      dsimp only
      rw [if_neg c2, if_neg (show ¬ nI 1 = 0 by decide)]
      have h32' := cN_32 hT hX1.2.1 c2
      have hw2 := (hw1.row (Y' := Ys (zw (Ys Y (cB tp e a) (cD tp e a)) 1 10 v) (cB tp e (cD tp e a)) (cD tp e (cD tp e a))) (Ys_row _ _ _ (by decide))).w_told (i := 7) (a := 11) (v := cN tp e (cD tp e a) (nI 0) (nI 32)) (Or.inr (by decide)) (fun z => absurd z (by decide)) (fun _ => h32')
      have f2 : fr [1] (μ 6) (zw (zw (μ 6) 1 6 v) 1 7 (cN tp e (cD tp e a) (nI 0) (nI 32))) := fr_w fr1 (by decide)
      refine ⟨_, _, _, _, _, by rw [zg_ne (by decide)], rfl, Or.inl ⟨rfl, rfl, s, l, _, _, _, ⟨m, Z, hw2, hK.fr f2 (by decide)⟩, f2.sub (by decide), hX1.s hD2, (hY1.s hD2).w1 fr1⟩, (fXr.s _ _ _).trans (fXr.s _ _ _), (((fY.s _ _ _).trans (fY.w1 _ _ _)).trans (fY.s _ _ _)).trans (fY.w1 _ _ _)⟩
/-- the reference sets what each node has -/
theorem y_rqL (F : Nat) {lo : Nat × (Nat → Int32)} {s l m : Nat} {v w : Int32} (hv : leN v 32) (hv2 : leN w 32) : ∀ (d fu i : Nat) (X Y : zX), wR lo s l m T X Y → Y 1 8 = v → Y 1 9 = w → s - i = d → i ≤ s → d < fu → ∃ X1 Y1, hX12_readRequest_28 F fu (nI i) Y = some (nI 1, Y1) ∧ wR lo s l m T X1 Y1 ∧ fr [11, 12] X X1 ∧ fr [1] Y Y1 ∧ (∀ n, n < i → X1 11 n = X 11 n ∧ X1 12 n = X 12 n) ∧ (∀ n, i ≤ n → n < s → X1 11 n = v ∧ X1 12 n = w) := by
  intro d
  induction d with
  | zero =>
    intro fu i X Y h e8 e9 h1 h2 h3
    have hs := h.hs
    obtain ⟨fu, rfl⟩ := Nat.exists_eq_succ_of_ne_zero (show fu ≠ 0 by omega)
    refine ⟨X, Y, ?_, h, fr.refl _ _, fr.refl _ _, fun _ _ => ⟨rfl, rfl⟩, fun n h1 h2 => by omega⟩
    unfold hX12_readRequest_28
    rw [h.nn, h.nodes, if_pos ((nI_leI (by omega) (by omega)).mpr (by omega))]
  | succ d ih =>
    intro fu i X Y h e8 e9 h1 h2 h3
    have hs := h.hs
    obtain ⟨fu, rfl⟩ := Nat.exists_eq_succ_of_ne_zero (show fu ≠ 0 by omega)
    have hi : i < s := by omega
    obtain ⟨X1, Y1, k1, k2, k3, k4, k5, k6⟩ := ih fu (i + 1) _ _ ((h.w_c1 hi hv).w_c2 hi hv2) (by rw [zw_no (Or.inr (by omega)), zw_no (Or.inr (by omega))]; exact e8) (by rw [zw_no (Or.inr (by omega)), zw_no (Or.inr (by omega))]; exact e9) (by omega) (by omega) (by omega)
    refine ⟨X1, Y1, ?_, k2, (fr_w (fr1.sub (L' := [11, 12]) (by decide)) (by decide)).trans k3, (fr_w fr1 (by decide)).trans k4, fun n hn => ?_, fun n g1 g2 => ?_⟩
    · unfold hX12_readRequest_28
      rw [h.nn, h.nodes, if_neg (nI_ge hi (by omega)), a_n, y_in (by omega), qchk, qlet, qzn (by omega), a_n, y_in (by omega), qchk, qlet, qzn (by omega), nI_add, e8, zw_no (b := 9) (Or.inr (by omega)), e9]
      exact k1
    · rw [(k5 n (by omega)).1, (k5 n (by omega)).2]
      exact ⟨by rw [zw_no (Or.inl (by decide)), zw_no (Or.inr (by omega))], by rw [zw_no (Or.inr (by omega)), zw_no (Or.inl (by decide))]⟩
    · by_cases z : n = i
      · subst z
        rw [(k5 n (by omega)).1, (k5 n (by omega)).2]
        exact ⟨by rw [zw_no (Or.inl (by decide)), zw_at], by rw [zw_at]⟩
      · exact k6 n (by omega) g2
/-- request -/
theorem l_request (F : Nat) (hF : 500 ≤ F) (hT : byT tp e) {s l : Nat} (hw : wP s l T (μ 6) Y) (hX : tpX tp e b a (μ 0)) (hY : tpY tp e b a Y) : lnR tp e T μ Y (eX6_readRequest F μ) (eX12_readRequest F Y) := by
  obtain ⟨m, Z, hw, hK⟩ := hw
  have hs := hw.hs
  obtain ⟨x1, x2⟩ := x_cn F hF hT hX (nI 0) (nI 32)
  obtain ⟨y1, y2⟩ := y_rn F hF hT hY (ad := 8) (by omega) (nI 0) (nI 32)
  have hD := cD_b (tp := tp) hX.2.1
  unfold eX6_readRequest jX6_readRequest_24 eX12_readRequest
  by_cases c : cN tp e a (nI 0) (nI 32) = -1
  · rw [x1 c, y1 c, qbd, qbd]
    dsimp only
    rw [if_pos rfl, if_pos rfl, if_pos (show nI 0 = 0 from rfl)]
    exact ⟨_, _, μ 6, _, _, by rw [zg_6], rfl, Or.inr (Or.inl ⟨rfl, rfl, cB tp e a, cB_b hX.2.1, zw_at _ _ _ _, (hY.s hD).2.2.2.1⟩), (fXr.s _ _ _).trans (fXr.w _ _ _), fY.s _ _ _⟩
  · rw [x2 c, y2 c, qbd, qbd]
    dsimp only
    rw [if_neg c, if_neg (show ¬ nI 1 = 0 by decide)]
    have h32 := cN_32 hT hX.2.1 c
    generalize hv : cN tp e a (nI 0) (nI 32) = v at *
    have hX1 := hX.s (b' := cB tp e a) hD
    have hY1 := (hY.s (b' := cB tp e a) hD).w1 (Y' := zw (Ys Y (cB tp e a) (cD tp e a)) 1 8 v) fr1
    have hw1 := (hw.row (Y' := Ys Y (cB tp e a) (cD tp e a)) (Ys_row _ _ _ (by decide))).w_told (i := 4) (a := 8) (v := v) (Or.inr (by decide)) (fun z => absurd z (by decide)) (fun _ => h32)
    obtain ⟨x3, x4⟩ := x_cn F hF hT hX1 (nI 0) (nI 32)
    obtain ⟨y3, y4⟩ := y_rn F hF hT hY1 (ad := 9) (by omega) (nI 0) (nI 32)
    have hD2 := cD_b (tp := tp) hX1.2.1
    by_cases c2 : cN tp e (cD tp e a) (nI 0) (nI 32) = -1
    · rw [x3 c2, y3 c2, qbd, qbd]
      dsimp only
      rw [if_pos rfl, if_pos (show nI 0 = 0 from rfl)]
      exact ⟨_, _, μ 6, _, _, by rw [zg_6], rfl, Or.inr (Or.inl ⟨rfl, rfl, cB tp e (cD tp e a), cB_b hX1.2.1, zw_at _ _ _ _, (hY1.s hD2).2.2.2.1⟩), ((fXr.s _ _ _).trans (fXr.s _ _ _)).trans (fXr.w _ _ _), ((fY.s _ _ _).trans (fY.w1 _ _ _)).trans (fY.s _ _ _)⟩
    · rw [x4 c2, y4 c2, qbd, qbd]
      dsimp only
      rw [if_neg c2, if_neg (show ¬ nI 1 = 0 by decide), zg_ne (show (6 : Nat) ≠ 0 by decide)]
      have h32' := cN_32 hT hX1.2.1 c2
      generalize hv' : cN tp e (cD tp e a) (nI 0) (nI 32) = w at *
      have hw2 := (hw1.row (Y' := Ys (zw (Ys Y (cB tp e a) (cD tp e a)) 1 8 v) (cB tp e (cD tp e a)) (cD tp e (cD tp e a))) (Ys_row _ _ _ (by decide))).w_told (i := 5) (a := 9) (v := w) (Or.inr (by decide)) (fun z => absurd z (by decide)) (fun _ => h32')
      have f2 : fr [1] (μ 6) (zw (zw (μ 6) 1 4 v) 1 5 w) := fr_w fr1 (by decide)
      obtain ⟨W3, g1, g2, g3⟩ := x_fill11 F (by omega) v (zw (zw (μ 6) 1 4 v) 1 5 w)
      obtain ⟨W4, g4, g5, g6⟩ := x_fill12 F (by omega) w W3
      obtain ⟨Xr, Y5, q1, q2, q3, q4, -, q6⟩ := y_rqL F h32 h32' s F 0 _ _ hw2 (by rw [zw_no (Or.inr (by decide)), Ys_row _ _ _ (by decide), zw_at]) (by rw [zw_at]) rfl (Nat.zero_le _) (by omega)
      have q1' : hX12_readRequest_28 F F (nI 0) (zw (Ys (zw (Ys Y (cB tp e a) (cD tp e a)) 1 8 v) (cB tp e (cD tp e a)) (cD tp e (cD tp e a))) 1 9 w) = _ := q1
      have f4 : fr [11, 12] (zw (zw (μ 6) 1 4 v) 1 5 w) W4 := (g2.sub (by decide)).trans (g5.sub (by decide))
      have fX : fr [11, 12] Xr W4 := fun k hk => (f4 k hk).trans (q3 k hk).symm
      have hw3 := q2.r1112 fX (fun n hn => ⟨by rw [g5 11 (by decide), g3 n (by omega), (q6 n (Nat.zero_le _) hn).1], by rw [g6 n (by omega), (q6 n (Nat.zero_le _) hn).2]⟩)
      have fW : fr [1, 11, 12] (μ 6) W4 := (f2.sub (by decide)).trans (f4.sub (by decide))
      rw [g1, qbd, g4, qbd, q1']
      refine ⟨_, _, _, _, _, rfl, rfl, Or.inl ⟨rfl, rfl, s, l, _, _, _, ⟨m, Z, hw3, hK.fr fW (by decide)⟩, fW.sub (by decide), hX1.s hD2, ((hY1.s hD2).w1 fr1).w1 q4⟩, (fXr.s _ _ _).trans (fXr.s _ _ _), ((((fY.s _ _ _).trans (fY.w1 _ _ _)).trans (fY.s _ _ _)).trans (fY.w1 _ _ _)).trans (fY.f1 q4)⟩
end LN
