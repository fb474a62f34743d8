/-! the class measures its ways -/
def gX (G : gT) (X : zX) : Prop := X 5 0 = nI (gl G) ∧ ∀ i, i < gl G → X 34 i = nI (go G i) ∧ X 35 i = nI (gt G i) ∧ X 36 i = nI (gd G i) ∧ (hb (X 5 1) i ↔ gc G i = true)
theorem gX.fr {G : gT} {X X' : zX} {L : List Nat} (h : gX G X) (f : fr L X X') (hL : (!L.contains 5 && !L.contains 34 && !L.contains 35 && !L.contains 36) = true) : gX G X' := by
  simp only [Bool.and_eq_true, Bool.not_eq_true'] at hL
  unfold gX at *; rw [f 5 hL.1.1.1, f 34 hL.1.1.2, f 35 hL.1.2, f 36 hL.2]; exact h
def lenE (v : Nat) : Int32 := if v < 1000000 then nI v else -1
theorem lenE_lt {v : Nat} (h : v < 1000000) : lenE v = nI v := if_pos h
theorem lenE_far : lenE 1000000 = -1 := if_neg (by omega)
theorem lenE_m1 {v : Nat} (h : v ≤ 1000000) : lenE v = -1 ↔ v = 1000000 := by
  unfold lenE
  constructor
  · intro z
    by_cases c : v < 1000000
    · rw [if_pos c] at z; exact absurd z (nI_ne_m1 (by omega))
    · omega
  · intro z; rw [if_neg (by omega)]

theorem x_fl39 (v : Int32) : ∀ (d i fu F : Nat) (X : zX), 36 - i = d → i ≤ 36 → d < fu → ∃ X', hJ7_fill_53178q39_5 F fu v (nI i) (nI 36) X = some X' ∧ fr [39] X X' ∧ (∀ j, j < i → X' 39 j = X 39 j) ∧ (∀ j, i ≤ j → j < 36 → X' 39 j = v) := by
  intro d
  induction d with
  | zero =>
    intro i fu F X hd hi hf
    obtain ⟨fu, rfl⟩ : ∃ g, fu = g + 1 := ⟨fu - 1, by omega⟩
    refine ⟨X, ?_, fr.refl _ _, fun _ _ => rfl, fun j h1 h2 => by omega⟩
    unfold hJ7_fill_53178q39_5
    rw [if_pos ((nI_leI (by omega) (by omega)).mpr (by omega))]
  | succ d ih =>
    intro i fu F X hd hi hf
    obtain ⟨fu, rfl⟩ : ∃ g, fu = g + 1 := ⟨fu - 1, by omega⟩
    obtain ⟨X', e, f, g1, g2⟩ := ih (i + 1) fu F (zw X 39 i v) (by omega) (by omega) (by omega)
    refine ⟨X', ?_, (fr_w (fr.refl [39] X) (by decide)).trans f, fun j hj => by rw [g1 j (by omega), zw_no (Or.inr (by omega))], fun j h1 h2 => ?_⟩
    · unfold hJ7_fill_53178q39_5
      rw [if_neg (nI_ge (by omega) (by omega)), qzin (by omega) (by omega), qchk, qzn (by omega), nI_add, e]
    · by_cases q : j = i
      · subst q; rw [g1 _ (by omega), zw_at]
      · exact g2 j (by omega) h2
theorem x_fill39 (F : Nat) (hF : 100 ≤ F) (v : Int32) (X : zX) : ∃ X', eJ7_fill_53178q39 F v X = some X' ∧ fr [39] X X' ∧ (∀ j, j < 36 → X' 39 j = v) := by
  obtain ⟨X', e, f, -, g⟩ := x_fl39 v 36 0 F F X (by omega) (by omega) (by omega)
  exact ⟨X', e, f, fun j hj => g j (Nat.zero_le _) hj⟩
theorem x_fl40 (v : Int32) : ∀ (d i fu F : Nat) (X : zX), 36 - i = d → i ≤ 36 → d < fu → ∃ X', hJ7_fill_53178q40_5 F fu v (nI i) (nI 36) X = some X' ∧ fr [40] X X' ∧ (∀ j, j < i → X' 40 j = X 40 j) ∧ (∀ j, i ≤ j → j < 36 → X' 40 j = v) := by
  intro d
  induction d with
  | zero =>
    intro i fu F X hd hi hf
    obtain ⟨fu, rfl⟩ : ∃ g, fu = g + 1 := ⟨fu - 1, by omega⟩
    refine ⟨X, ?_, fr.refl _ _, fun _ _ => rfl, fun j h1 h2 => by omega⟩
    unfold hJ7_fill_53178q40_5
    rw [if_pos ((nI_leI (by omega) (by omega)).mpr (by omega))]
  | succ d ih =>
    intro i fu F X hd hi hf
    obtain ⟨fu, rfl⟩ : ∃ g, fu = g + 1 := ⟨fu - 1, by omega⟩
    obtain ⟨X', e, f, g1, g2⟩ := ih (i + 1) fu F (zw X 40 i v) (by omega) (by omega) (by omega)
    refine ⟨X', ?_, (fr_w (fr.refl [40] X) (by decide)).trans f, fun j hj => by rw [g1 j (by omega), zw_no (Or.inr (by omega))], fun j h1 h2 => ?_⟩
    · unfold hJ7_fill_53178q40_5
      rw [if_neg (nI_ge (by omega) (by omega)), qzin (by omega) (by omega), qchk, qzn (by omega), nI_add, e]
    · by_cases q : j = i
      · subst q; rw [g1 _ (by omega), zw_at]
      · exact g2 j (by omega) h2
theorem x_fill40 (F : Nat) (hF : 100 ≤ F) (v : Int32) (X : zX) : ∃ X', eJ7_fill_53178q40 F v X = some X' ∧ fr [40] X X' ∧ (∀ j, j < 36 → X' 40 j = v) := by
  obtain ⟨X', e, f, -, g⟩ := x_fl40 v 36 0 F F X (by omega) (by omega) (by omega)
  exact ⟨X', e, f, fun j hj => g j (Nat.zero_le _) hj⟩
theorem x_fl41 (v : Int32) : ∀ (d i fu F : Nat) (X : zX), 36 - i = d → i ≤ 36 → d < fu → ∃ X', hJ7_fill_53178q41_5 F fu v (nI i) (nI 36) X = some X' ∧ fr [41] X X' ∧ (∀ j, j < i → X' 41 j = X 41 j) ∧ (∀ j, i ≤ j → j < 36 → X' 41 j = v) := by
  intro d
  induction d with
  | zero =>
    intro i fu F X hd hi hf
    obtain ⟨fu, rfl⟩ : ∃ g, fu = g + 1 := ⟨fu - 1, by omega⟩
    refine ⟨X, ?_, fr.refl _ _, fun _ _ => rfl, fun j h1 h2 => by omega⟩
    unfold hJ7_fill_53178q41_5
    rw [if_pos ((nI_leI (by omega) (by omega)).mpr (by omega))]
  | succ d ih =>
    intro i fu F X hd hi hf
    obtain ⟨fu, rfl⟩ : ∃ g, fu = g + 1 := ⟨fu - 1, by omega⟩
    obtain ⟨X', e, f, g1, g2⟩ := ih (i + 1) fu F (zw X 41 i v) (by omega) (by omega) (by omega)
    refine ⟨X', ?_, (fr_w (fr.refl [41] X) (by decide)).trans f, fun j hj => by rw [g1 j (by omega), zw_no (Or.inr (by omega))], fun j h1 h2 => ?_⟩
    · unfold hJ7_fill_53178q41_5
      rw [if_neg (nI_ge (by omega) (by omega)), qzin (by omega) (by omega), qchk, qzn (by omega), nI_add, e]
    · by_cases q : j = i
      · subst q; rw [g1 _ (by omega), zw_at]
      · exact g2 j (by omega) h2
theorem x_fill41 (F : Nat) (hF : 100 ≤ F) (v : Int32) (X : zX) : ∃ X', eJ7_fill_53178q41 F v X = some X' ∧ fr [41] X X' ∧ (∀ j, j < 36 → X' 41 j = v) := by
  obtain ⟨X', e, f, -, g⟩ := x_fl41 v 36 0 F F X (by omega) (by omega) (by omega)
  exact ⟨X', e, f, fun j hj => g j (Nat.zero_le _) hj⟩
theorem x_fl42 (v : Int32) : ∀ (d i fu F : Nat) (X : zX), 36 - i = d → i ≤ 36 → d < fu → ∃ X', hJ7_fill_53178q42_5 F fu v (nI i) (nI 36) X = some X' ∧ fr [42] X X' ∧ (∀ j, j < i → X' 42 j = X 42 j) ∧ (∀ j, i ≤ j → j < 36 → X' 42 j = v) := by
  intro d
  induction d with
  | zero =>
    intro i fu F X hd hi hf
    obtain ⟨fu, rfl⟩ : ∃ g, fu = g + 1 := ⟨fu - 1, by omega⟩
    refine ⟨X, ?_, fr.refl _ _, fun _ _ => rfl, fun j h1 h2 => by omega⟩
    unfold hJ7_fill_53178q42_5
    rw [if_pos ((nI_leI (by omega) (by omega)).mpr (by omega))]
  | succ d ih =>
    intro i fu F X hd hi hf
    obtain ⟨fu, rfl⟩ : ∃ g, fu = g + 1 := ⟨fu - 1, by omega⟩
    obtain ⟨X', e, f, g1, g2⟩ := ih (i + 1) fu F (zw X 42 i v) (by omega) (by omega) (by omega)
    refine ⟨X', ?_, (fr_w (fr.refl [42] X) (by decide)).trans f, fun j hj => by rw [g1 j (by omega), zw_no (Or.inr (by omega))], fun j h1 h2 => ?_⟩
    · unfold hJ7_fill_53178q42_5
      rw [if_neg (nI_ge (by omega) (by omega)), qzin (by omega) (by omega), qchk, qzn (by omega), nI_add, e]
    · by_cases q : j = i
      · subst q; rw [g1 _ (by omega), zw_at]
      · exact g2 j (by omega) h2
theorem x_fill42 (F : Nat) (hF : 100 ≤ F) (v : Int32) (X : zX) : ∃ X', eJ7_fill_53178q42 F v X = some X' ∧ fr [42] X X' ∧ (∀ j, j < 36 → X' 42 j = v) := by
  obtain ⟨X', e, f, -, g⟩ := x_fl42 v 36 0 F F X (by omega) (by omega) (by omega)
  exact ⟨X', e, f, fun j hj => g j (Nat.zero_le _) hj⟩
theorem x_fl11 (v : Int32) : ∀ (d i fu F : Nat) (X : zX), 6 - i = d → i ≤ 6 → d < fu → ∃ X', hJ7_fill_53178q11_5 F fu v (nI i) (nI 6) X = some X' ∧ fr [11] X X' ∧ (∀ j, j < i → X' 11 j = X 11 j) ∧ (∀ j, i ≤ j → j < 6 → X' 11 j = v) := by
  intro d
  induction d with
  | zero =>
    intro i fu F X hd hi hf
    obtain ⟨fu, rfl⟩ : ∃ g, fu = g + 1 := ⟨fu - 1, by omega⟩
    refine ⟨X, ?_, fr.refl _ _, fun _ _ => rfl, fun j h1 h2 => by omega⟩
    unfold hJ7_fill_53178q11_5
    rw [if_pos ((nI_leI (by omega) (by omega)).mpr (by omega))]
  | succ d ih =>
    intro i fu F X hd hi hf
    obtain ⟨fu, rfl⟩ : ∃ g, fu = g + 1 := ⟨fu - 1, by omega⟩
    obtain ⟨X', e, f, g1, g2⟩ := ih (i + 1) fu F (zw X 11 i v) (by omega) (by omega) (by omega)
    refine ⟨X', ?_, (fr_w (fr.refl [11] X) (by decide)).trans f, fun j hj => by rw [g1 j (by omega), zw_no (Or.inr (by omega))], fun j h1 h2 => ?_⟩
    · unfold hJ7_fill_53178q11_5
      rw [if_neg (nI_ge (by omega) (by omega)), qzin (by omega) (by omega), qchk, qzn (by omega), nI_add, e]
    · by_cases q : j = i
      · subst q; rw [g1 _ (by omega), zw_at]
      · exact g2 j (by omega) h2
theorem x_fill11 (F : Nat) (hF : 100 ≤ F) (v : Int32) (X : zX) : ∃ X', eJ7_fill_53178q11 F v X = some X' ∧ fr [11] X X' ∧ (∀ j, j < 6 → X' 11 j = v) := by
  obtain ⟨X', e, f, -, g⟩ := x_fl11 v 6 0 F F X (by omega) (by omega) (by omega)
  exact ⟨X', e, f, fun j hj => g j (Nat.zero_le _) hj⟩
theorem x_fl12 (v : Int32) : ∀ (d i fu F : Nat) (X : zX), 6 - i = d → i ≤ 6 → d < fu → ∃ X', hJ7_fill_53178q12_5 F fu v (nI i) (nI 6) X = some X' ∧ fr [12] X X' ∧ (∀ j, j < i → X' 12 j = X 12 j) ∧ (∀ j, i ≤ j → j < 6 → X' 12 j = v) := by
  intro d
  induction d with
  | zero =>
    intro i fu F X hd hi hf
    obtain ⟨fu, rfl⟩ : ∃ g, fu = g + 1 := ⟨fu - 1, by omega⟩
    refine ⟨X, ?_, fr.refl _ _, fun _ _ => rfl, fun j h1 h2 => by omega⟩
    unfold hJ7_fill_53178q12_5
    rw [if_pos ((nI_leI (by omega) (by omega)).mpr (by omega))]
  | succ d ih =>
    intro i fu F X hd hi hf
    obtain ⟨fu, rfl⟩ : ∃ g, fu = g + 1 := ⟨fu - 1, by omega⟩
    obtain ⟨X', e, f, g1, g2⟩ := ih (i + 1) fu F (zw X 12 i v) (by omega) (by omega) (by omega)
    refine ⟨X', ?_, (fr_w (fr.refl [12] X) (by decide)).trans f, fun j hj => by rw [g1 j (by omega), zw_no (Or.inr (by omega))], fun j h1 h2 => ?_⟩
    · unfold hJ7_fill_53178q12_5
      rw [if_neg (nI_ge (by omega) (by omega)), qzin (by omega) (by omega), qchk, qzn (by omega), nI_add, e]
    · by_cases q : j = i
      · subst q; rw [g1 _ (by omega), zw_at]
      · exact g2 j (by omega) h2
theorem x_fill12 (F : Nat) (hF : 100 ≤ F) (v : Int32) (X : zX) : ∃ X', eJ7_fill_53178q12 F v X = some X' ∧ fr [12] X X' ∧ (∀ j, j < 6 → X' 12 j = v) := by
  obtain ⟨X', e, f, -, g⟩ := x_fl12 v 6 0 F F X (by omega) (by omega) (by omega)
  exact ⟨X', e, f, fun j hj => g j (Nat.zero_le _) hj⟩
/-- shorter by an edge -/
def rx (L : Nat → Nat) (b c δ : Nat) : Nat → Nat := fun x => if x = c ∧ L b + δ < L c then L b + δ else L x
def rowL (s a B : Nat) (X : zX) (L : Nat → Nat) : Prop := ∀ b, b < s → X 39 (a * 6 + b) = lenE (L b) ∧ (L b ≤ B ∨ L b = 1000000)
theorem x_shorten {s a b c δ B : Nat} {X : zX} {L : Nat → Nat} (hs : s ≤ 6) (ha : a < s) (hb : b < s) (hc : c < s) (hB : B < 10000) (hd : δ ≤ 9) (h : rowL s a B X L) : ∃ X', eX9_shorten (nI (a * 6 + b)) (nI (a * 6 + c)) (nI δ) X = some X' ∧ fr [39] X X' ∧ (∀ i, i ≠ a * 6 + c → X' 39 i = X 39 i) ∧ rowL s a (B + 9) X' (rx L b c δ) := by
  obtain ⟨e1, k1⟩ := h b hb
  obtain ⟨e2, k2⟩ := h c hc
  have hm : rowL s a (B + 9) X L := fun x hx => ⟨(h x hx).1, by have := (h x hx).2; omega⟩
  have keep : ¬ (L b + δ < L c) → rowL s a (B + 9) X (rx L b c δ) := fun hn x hx => by
    unfold rx
    rw [if_neg (fun z => hn z.2)]
    exact hm x hx
  have wr : L b < 1000000 → L b + δ < L c → rowL s a (B + 9) (zw X 39 (a * 6 + c) (nI (L b + δ))) (rx L b c δ) := fun hb1 hn x hx => by
    unfold rx
    by_cases q : x = c
    · subst q
      rw [zw_at, if_pos ⟨rfl, hn⟩, lenE_lt (by omega)]
      exact ⟨rfl, by omega⟩
    · rw [zw_no (Or.inr (by omega)), if_neg (fun z => q z.1)]
      exact hm x hx
  unfold eX9_shorten jX9_shorten_37
  rw [x_in6 (by omega) (by omega), qchk, x_in6 (by omega) (by omega), qchk, qchk, qchk, qchk, qchk, x_zn6 (by omega) (by omega), x_zn6 (by omega) (by omega), e1, e2]
  by_cases c1 : L b = 1000000
  · rw [if_pos ((lenE_m1 (by omega)).mpr c1)]
    exact ⟨X, rfl, fr.refl _ _, fun _ _ => rfl, keep (by omega)⟩
  · rw [if_neg (fun z => c1 ((lenE_m1 (by omega)).mp z)), lenE_lt (show L b < 1000000 by omega), nI_add]
    by_cases c2 : L c = 1000000
    · rw [if_pos ((lenE_m1 (by omega)).mpr c2)]
      exact ⟨_, rfl, fr1, fun i hi => zw_no (Or.inr hi), wr (by omega) (by omega)⟩
    · rw [if_neg (fun z => c2 ((lenE_m1 (by omega)).mp z)), lenE_lt (show L c < 1000000 by omega)]
      by_cases c3 : L c ≤ L b + δ
      · rw [if_pos ((nI_leI (by omega) (by omega)).mpr c3)]
        exact ⟨X, rfl, fr.refl _ _, fun _ _ => rfl, keep (by omega)⟩
      · rw [if_neg (fun z => c3 ((nI_leI (by omega) (by omega)).mp z))]
        exact ⟨_, rfl, fr1, fun i hi => zw_no (Or.inr hi), wr (by omega) (by omega)⟩
theorem rx_le {L : Nat → Nat} {b c δ : Nat} (x : Nat) : rx L b c δ x ≤ L x := by
  unfold rx; split
  · next h => rw [h.1]; omega
  · exact Nat.le_refl _
theorem rx_at {L : Nat → Nat} {b c δ : Nat} : rx L b c δ c ≤ L b + δ := by
  unfold rx; split
  · exact Nat.le_refl _
  · next h =>
    have : ¬ L b + δ < L c := fun z => h ⟨rfl, z⟩
    omega
section MS
variable {G : gT} {s : Nat}
/-- what one round keeps: W below, L0 above, the links before i relaxed -/
def rdI (G : gT) (s a i : Nat) (L0 L : Nat → Nat) : Prop := L a = 0 ∧ (∀ b, b < s → gW G s a b ≤ L b ∧ L b ≤ L0 b) ∧ ∀ j, j < i → gc G j = false → L (gt G j) ≤ L0 (go G j) + gd G j ∧ L (go G j) ≤ L0 (gt G j) + gd G j
theorem ms_links (h : gOK G s) {a : Nat} (ha : a < s) (F : Nat) (K : Int32 → Int32 → zX → Option zX) (r : Nat) (L0 : Nat → Nat) (hL0 : ∀ b, b < s → L0 b ≤ 1000000) : ∀ (d i fu B : Nat) (X : zX) (L : Nat → Nat), gl G - i = d → i ≤ gl G → d < fu → B + 18 * d < 9000 → gX G X → rowL s a B X L → rdI G s a i L0 L → ∃ X' L', hX9_measure_24 F K fu (nI a) (nI r) (nI i) X = K (nI a) (nI (r + 1)) X' ∧ fr [39] X X' ∧ (∀ j, (j < a * 6 ∨ a * 6 + s ≤ j) → X' 39 j = X 39 j) ∧ rowL s a (B + 18 * d) X' L' ∧ rdI G s a (gl G) L0 L' := by
  have hs := h.1
  have hl := h.2.1
  intro d
  induction d with
  | zero =>
    intro i fu B X L hd hi hf hB hX hr hI
    obtain ⟨fu, rfl⟩ : ∃ g, fu = g + 1 := ⟨fu - 1, by omega⟩
    have : i = gl G := by omega
    subst this
    refine ⟨X, L, ?_, fr.refl _ _, fun _ _ => rfl, hr, hI⟩
    unfold hX9_measure_24
    rw [hX.1, if_pos ((nI_leI (by omega) (by omega)).mpr (by omega)), nI_add]
  | succ d ih =>
    intro i fu B X L hd hi hf hB hX hr hI
    obtain ⟨fu, rfl⟩ : ∃ g, fu = g + 1 := ⟨fu - 1, by omega⟩
    obtain ⟨e0, e1, e2, ec⟩ := hX.2 i (by omega)
    obtain ⟨q1, q2, q3, q4, q5⟩ := h.2.2.1 i (by omega)
    obtain ⟨I1, I2, I3⟩ := hI
    unfold hX9_measure_24
    rw [hX.1, if_neg (nI_ge (by omega) (by omega))]
    by_cases c : hb (X 5 1) i
    · rw [if_pos (show ((X 5 1 >>> (nI i &&& 31)) &&& nI 1) = nI 1 from c), nI_add]
      have hcut := ec.mp c
      have hr' : rowL s a (B + 18) X L := fun x hx => ⟨(hr x hx).1, by have := (hr x hx).2; omega⟩
      obtain ⟨X', L', g1, g2, g3, g4, g5⟩ := ih (i + 1) fu (B + 18) X L (by omega) (by omega) (by omega) (by omega) hX hr' ⟨I1, I2, fun j hj hc => by
        by_cases q : j = i
        · subst q; rw [hcut] at hc; cases hc
        · exact I3 j (by omega) hc⟩
      refine ⟨X', L', g1, g2, g3, ?_, g5⟩
      rw [show B + 18 * (d + 1) = B + 18 + 18 * d by omega]; exact g4
    · have hcut : gc G i = false := by
        cases q : gc G i with
        | false => rfl
        | true => exact absurd (ec.mpr q) c
      obtain ⟨dl1, dl2⟩ := dl_of h (show i < gl G by omega) hcut
      obtain ⟨X1, s1, f1, u1, r1⟩ := x_shorten (X := X) (L := L) (B := B) (δ := gd G i) hs ha q1 q2 (by omega) q5 hr
      obtain ⟨X2, s2, f2, u2, r2⟩ := x_shorten (X := X1) (B := B + 9) (δ := gd G i) hs ha q2 q1 (by omega) q5 r1
      have I2' : ∀ b, b < s → gW G s a b ≤ rx (rx L (go G i) (gt G i) (gd G i)) (gt G i) (go G i) (gd G i) b := by
        have st : ∀ (M : Nat → Nat) (x y : Nat), (∀ b, b < s → gW G s a b ≤ M b) → x < s → dl G x y = gd G i → ∀ b, b < s → gW G s a b ≤ rx M x y (gd G i) b := fun M x y hM hx hdl b hb => by
          unfold rx; split
          · next z =>
            rw [z.1]
            have w1 := hM x hx
            have w2 := gW_cl h hx a y
            omega
          · exact hM b hb
        exact st _ _ _ (st L _ _ (fun b hb => (I2 b hb).1) q1 dl1) q2 dl2
      have hI' : rdI G s a (i + 1) L0 (rx (rx L (go G i) (gt G i) (gd G i)) (gt G i) (go G i) (gd G i)) := by
        refine ⟨?_, fun b hb => ⟨I2' b hb, Nat.le_trans (rx_le b) (Nat.le_trans (rx_le b) (I2 b hb).2)⟩, fun j hj hc => ?_⟩
        · have := rx_le (L := rx L (go G i) (gt G i) (gd G i)) (b := gt G i) (c := go G i) (δ := gd G i) a
          have := rx_le (L := L) (b := go G i) (c := gt G i) (δ := gd G i) a
          omega
        · by_cases q : j = i
          · subst q
            have w1 := rx_le (L := rx L (go G j) (gt G j) (gd G j)) (b := gt G j) (c := go G j) (δ := gd G j) (gt G j)
            have w2 := rx_at (L := L) (b := go G j) (c := gt G j) (δ := gd G j)
            have w3 := rx_at (L := rx L (go G j) (gt G j) (gd G j)) (b := gt G j) (c := go G j) (δ := gd G j)
            have w4 := rx_le (L := L) (b := go G j) (c := gt G j) (δ := gd G j) (gt G j)
            have w5 := (I2 (go G j) q1).2
            have w6 := (I2 (gt G j) q2).2
            omega
          · have := I3 j (by omega) hc
            have w1 := rx_le (L := rx L (go G i) (gt G i) (gd G i)) (b := gt G i) (c := go G i) (δ := gd G i) (gt G j)
            have w2 := rx_le (L := L) (b := go G i) (c := gt G i) (δ := gd G i) (gt G j)
            have w3 := rx_le (L := rx L (go G i) (gt G i) (gd G i)) (b := gt G i) (c := go G i) (δ := gd G i) (go G j)
            have w4 := rx_le (L := L) (b := go G i) (c := gt G i) (δ := gd G i) (go G j)
            omega
      obtain ⟨X', L', g1, g2, g3, g4, g5⟩ := ih (i + 1) fu (B + 18) X2 _ (by omega) (by omega) (by omega) (by omega) ((hX.fr f1 (by decide)).fr f2 (by decide)) r2 hI'
      refine ⟨X', L', ?_, (f1.trans f2).trans g2, fun j hj => by rw [g3 j hj, u2 j (by omega), u1 j (by omega)], ?_, g5⟩
      · rw [if_neg (show ¬ ((X 5 1 >>> (nI i &&& 31)) &&& nI 1) = nI 1 from c), qzin (show i < 10 by omega) (by omega), qchk, qchk, qchk, qzn (by omega), e0, e1, e2, x_6, x_6, s1, qbd, qchk, qchk, qchk, f1 34 (by decide), f1 35 (by decide), f1 36 (by decide), e0, e1, e2, x_6, x_6, s2, qbd, nI_add, g1]
      · rw [show B + 18 * (d + 1) = B + 18 + 18 * d by omega]; exact g4
/-- after r - 1 rounds -/
def rndI (G : gT) (s a r : Nat) (L : Nat → Nat) : Prop := L a = 0 ∧ (∀ b, b < s → gW G s a b ≤ L b ∧ L b ≤ 1000000) ∧ ∀ b, b < s → gW G s a b < 1000000 → rk (gW G s a) (gW G s a b) s < r → L b ≤ gW G s a b
theorem ms_rounds (h : gOK G s) {a : Nat} (ha : a < s) (F : Nat) (hF : 100 ≤ F) : ∀ (d r fu : Nat) (X : zX) (L : Nat → Nat), s - r = d → 1 ≤ r → r ≤ s → d < fu → X 6 0 = nI s → gX G X → rowL s a (180 * r) X L → rndI G s a r L → ∃ X' L', hX9_measure_13 F fu (nI a) (nI r) X = some X' ∧ fr [39] X X' ∧ (∀ j, (j < a * 6 ∨ a * 6 + s ≤ j) → X' 39 j = X 39 j) ∧ rowL s a 2000 X' L' ∧ rndI G s a s L' := by
  have hs := h.1
  have hl := h.2.1
  intro d
  induction d with
  | zero =>
    intro r fu X L hd h1 hr hf h6 hX hw hI
    obtain ⟨fu, rfl⟩ : ∃ g, fu = g + 1 := ⟨fu - 1, by omega⟩
    have : r = s := by omega
    subst this
    refine ⟨X, L, ?_, fr.refl _ _, fun _ _ => rfl, fun x hx => ⟨(hw x hx).1, by have := (hw x hx).2; omega⟩, hI⟩
    unfold hX9_measure_13
    rw [h6, if_pos ((nI_leI (by omega) (by omega)).mpr (by omega))]
  | succ d ih =>
    intro r fu X L hd h1 hr hf h6 hX hw hI
    obtain ⟨fu, rfl⟩ : ∃ g, fu = g + 1 := ⟨fu - 1, by omega⟩
    obtain ⟨I1, I2, I3⟩ := hI
    obtain ⟨X1, L1, e1, f1, u1, r1, K1, K2, K3⟩ := ms_links h ha F (hX9_measure_13 F fu) r L (fun b hb => (I2 b hb).2) (gl G) 0 F (180 * r) X L (by omega) (by omega) (by omega) (by omega) hX hw ⟨I1, fun b hb => ⟨(I2 b hb).1, Nat.le_refl _⟩, fun j hj => absurd hj (Nat.not_lt_zero _)⟩
    have hw1 : rowL s a (180 * (r + 1)) X1 L1 := fun x hx => ⟨(r1 x hx).1, by have := (r1 x hx).2; omega⟩
    have hI1 : rndI G s a (r + 1) L1 := by
      refine ⟨K1, fun b hb => ⟨(K2 b hb).1, Nat.le_trans (K2 b hb).2 (I2 b hb).2⟩, fun b hb hwb hrk => ?_⟩
      by_cases q : a = b
      · subst q; rw [K1]; omega
      · obtain ⟨p1, p2, p3, p4, p5⟩ := gP_ok h ha q hwb
        have hlt := rk_lt p5 p1 rfl
        have hp := I3 (gP G s a b) p1 (by omega) (by omega)
        obtain ⟨b1, b2, b3, -⟩ := dl_lt h p4
        have hk := K3 _ b1 b2
        rcases bw_lnk b1 with ⟨z1, z2⟩ | ⟨z1, z2⟩
        · rw [z1, z2] at hk; omega
        · rw [z1, z2] at hk; omega
    obtain ⟨X', L', e, f, u, rr, I⟩ := ih (r + 1) fu X1 L1 (by omega) (by omega) (by omega) (by omega) (by rw [f1 6 (by decide)]; exact h6) (hX.fr f1 (by decide)) hw1 hI1
    refine ⟨X', L', ?_, f1.trans f, fun j hj => by rw [u j hj, u1 j hj], rr, I⟩
    unfold hX9_measure_13
    rw [h6, if_neg (nI_ge (by omega) (by omega)), e1, e]
theorem x_measure (h : gOK G s) {a : Nat} (ha : a < s) (F : Nat) (hF : 100 ≤ F) {X : zX} (h6 : X 6 0 = nI s) (hX : gX G X) (h39 : ∀ b, b < s → X 39 (a * 6 + b) = -1) : ∃ X', eX9_measure F (nI a) X = some X' ∧ fr [39] X X' ∧ (∀ j, (j < a * 6 ∨ a * 6 + s ≤ j) → X' 39 j = X 39 j) ∧ (∀ b, b < s → X' 39 (a * 6 + b) = lenE (gW G s a b)) := by
  have hs := h.1
  have hz : zin (nI (a * 6 + a)) 36 = true := x_in6 (by omega) (by omega)
  have f0 : fr [39] X (zw X 39 (a * 6 + a) (nI 0)) := fr1
  obtain ⟨X', L', e, f, u, r, I1, I2, I3⟩ := ms_rounds h ha F hF (s - 1) 1 F (zw X 39 (a * 6 + a) (nI 0)) (fun b => if b = a then 0 else 1000000) (by omega) (by omega) (by omega) (by omega) (by rw [f0 6 (by decide)]; exact h6) (hX.fr f0 (by decide)) (fun b hb => by
    by_cases q : b = a
    · subst q
      rw [zw_at]
      dsimp only
      rw [if_pos rfl, lenE_lt (by omega)]
      exact ⟨rfl, by omega⟩
    · rw [zw_no (Or.inr (by omega)), h39 b hb]
      dsimp only
      rw [if_neg q, lenE_far]
      exact ⟨rfl, Or.inr rfl⟩) ⟨if_pos rfl, fun b hb => by
        dsimp only
        by_cases q : b = a
        · subst q; rw [if_pos rfl, gW_0]; omega
        · rw [if_neg q]; exact ⟨gW_far h a b, Nat.le_refl _⟩, fun b hb hwb hrk => by
        dsimp only
        by_cases q : b = a
        · subst q; rw [if_pos rfl]; omega
        · have h0 := gW_pos h (a := a) (b := b) (fun z => q z.symm)
          have := rk_lt (W := gW G s a) (v := 0) (w := gW G s a b) (by omega) ha (gW_0 G s a)
          omega⟩
  refine ⟨X', ?_, f0.trans f, fun j hj => by rw [u j hj, zw_no (Or.inr (by omega))], fun b hb => ?_⟩
  · unfold eX9_measure
    rw [x_6, hz, qchk, x_zn6 (by omega) (by omega), e]
  · rw [(r b hb).1]
    have w1 := I2 b hb
    by_cases c : gW G s a b < 1000000
    · have := I3 b hb c (rk_own hb)
      congr 1; omega
    · congr 1; omega
end MS

