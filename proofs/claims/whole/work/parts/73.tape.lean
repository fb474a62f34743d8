/-! the tape: bytes, runs of signs, words, numbers -/
theorem by_255 : ∀ n, n < 256 → (Int8.ofNat n).toInt32 &&& nI 255 = nI n := by decide +kernel
theorem by_lo : ∀ n, n < 128 → (Int8.ofNat n).toInt32 = nI n := by decide +kernel
theorem by_hi : ∀ n, n < 256 → 128 ≤ n → (Int8.ofNat n).toInt32 < 0 := by decide +kernel
theorem by_c {b : Int32} (h : byR b) {c : Nat} (hc : c < 128) : (b &&& nI 255 = nI c ↔ b = nI c) := by
  obtain ⟨n, hn, rfl⟩ := h
  rw [by_255 n hn]
  by_cases z : n < 128
  · rw [by_lo n z]
  · constructor
    · intro e; have := (nI_eq (by omega) (by omega)).mp e; omega
    · intro e
      have := by_hi n hn (by omega)
      rw [e] at this
      exact absurd this (nI_pos (by omega))
theorem by_r {b : Int32} (h : byR b) {lo hi : Nat} (h1 : lo < 128) (h2 : hi < 128) : ((¬ (b &&& nI 255 < nI lo)) ∧ ¬ (nI hi < b &&& nI 255)) ↔ ((¬ b < nI lo) ∧ ¬ nI hi < b) := by
  obtain ⟨n, hn, rfl⟩ := h
  rw [by_255 n hn]
  by_cases z : n < 128
  · rw [by_lo n z]
  · constructor
    · rintro ⟨-, e⟩
      exact absurd ((nI_ltI (by omega) (by omega)).mpr (by omega)) e
    · rintro ⟨e, -⟩
      have := by_hi n hn (by omega)
      refine absurd ?_ e
      rw [Int32.lt_iff_toInt_lt] at this ⊢
      rw [nI_toInt (by omega)]
      have z0 : (0 : Int32).toInt = 0 := rfl
      omega
theorem by_in {b : Int32} (h : byR b) {lo hi : Nat} (h1 : lo < 128) (h2 : hi < 128) (e : (¬ b < nI lo) ∧ ¬ nI hi < b) : ∃ c, lo ≤ c ∧ c ≤ hi ∧ b = nI c := by
  obtain ⟨n, hn, rfl⟩ := h
  by_cases z : n < 128
  · rw [by_lo n z] at e ⊢
    refine ⟨n, ?_, ?_, rfl⟩
    · exact Decidable.byContradiction fun w => e.1 ((nI_ltI (by omega) (by omega)).mpr (by omega))
    · exact Decidable.byContradiction fun w => e.2 ((nI_ltI (by omega) (by omega)).mpr (by omega))
  · have := by_hi n hn (by omega)
    refine absurd ?_ e.1
    rw [Int32.lt_iff_toInt_lt] at this ⊢
    rw [nI_toInt (by omega)]
    have z0 : (0 : Int32).toInt = 0 := rfl
    omega
/-- where a run of signs ends -/
def sB (tp : Nat → Int32) : Nat → Bool := fun i => !decide (tp i = nI 32)
def sL (tp : Nat → Int32) : Nat → Bool := fun i => !decide ((¬ tp i < nI 97) ∧ ¬ nI 122 < tp i)
def sD (tp : Nat → Int32) : Nat → Bool := fun i => !decide ((¬ tp i < nI 48) ∧ ¬ nI 57 < tp i)
def bk (tp : Nat → Int32) (e a : Nat) : Nat := ff (sB tp) (e - a) a
def lw (tp : Nat → Int32) (e a : Nat) : Nat := ff (sL tp) (e - a) a
def dw (tp : Nat → Int32) (e a : Nat) : Nat := ff (sD tp) (e - a) a
theorem bk_b {tp : Nat → Int32} {e a : Nat} (h : a ≤ e) : a ≤ bk tp e a ∧ bk tp e a ≤ e := by have := ff_ge (sB tp) (e - a) a; unfold bk; omega
theorem lw_b {tp : Nat → Int32} {e a : Nat} (h : a ≤ e) : a ≤ lw tp e a ∧ lw tp e a ≤ e := by have := ff_ge (sL tp) (e - a) a; unfold lw; omega
theorem dw_b {tp : Nat → Int32} {e a : Nat} (h : a ≤ e) : a ≤ dw tp e a ∧ dw tp e a ≤ e := by have := ff_ge (sD tp) (e - a) a; unfold dw; omega
theorem bk_bk {tp : Nat → Int32} {e a : Nat} (h : a ≤ e) : bk tp e (bk tp e a) = bk tp e a := by
  have hb := bk_b (tp := tp) h
  by_cases z : bk tp e a = e
  · rw [z]; unfold bk; rw [Nat.sub_self]; rfl
  · have hlt : bk tp e a < e := by omega
    have hy := ff_yes (sB tp) (e - a) a (by unfold bk at hlt; omega)
    obtain ⟨d, hd⟩ : ∃ d, e - bk tp e a = d + 1 := ⟨e - bk tp e a - 1, by omega⟩
    rw [bk, hd, ff, if_pos]
    exact hy
theorem bk_no {tp : Nat → Int32} {e a : Nat} (h : a < e) (ha : sB tp a = true) : bk tp e a = a := by
  obtain ⟨d, hd⟩ : ∃ d, e - a = d + 1 := ⟨e - a - 1, by omega⟩
  rw [bk, hd, ff, if_pos ha]
/-- a place on the tape: the class's (begin, at), the reference's (begin, point) -/
def tpX (tp : Nat → Int32) (e b a : Nat) (X : zX) : Prop := e ≤ 400 ∧ a ≤ e ∧ X 1 1 = nI e ∧ X 3 2 = nI b ∧ X 3 1 = nI a ∧ ∀ i, i < e → X 2 i = tp i
def tpY (tp : Nat → Int32) (e b a : Nat) (Y : zX) : Prop := e ≤ 400 ∧ a ≤ e ∧ Y 0 9 = nI e ∧ Y 0 10 = nI b ∧ Y 0 8 = nI a ∧ ∀ i, i < e → Y 5 i = tp i
def byT (tp : Nat → Int32) (e : Nat) : Prop := ∀ i, i < e → byR (tp i)
def Xs (X : zX) (b a : Nat) : zX := zw (zw X 3 2 (nI b)) 3 1 (nI a)
def Ys (Y : zX) (b a : Nat) : zX := zw (zw Y 0 10 (nI b)) 0 8 (nI a)
theorem Xs_Xs (X : zX) (b a b' a' : Nat) : Xs (Xs X b a) b' a' = Xs X b' a' := by
  unfold Xs
  rw [zw_com (k := 3) (i := 1) (k' := 3) (i' := 2) (Or.inr (by decide)), zw_zw, zw_zw]
theorem Ys_Ys (Y : zX) (b a b' a' : Nat) : Ys (Ys Y b a) b' a' = Ys Y b' a' := by
  unfold Ys
  rw [zw_com (k := 0) (i := 8) (k' := 0) (i' := 10) (Or.inr (by decide)), zw_zw, zw_zw]
theorem Xs_row (X : zX) (b a : Nat) {k : Nat} (h : k ≠ 3) : Xs X b a k = X k := by unfold Xs; rw [zw_row_ne h, zw_row_ne h]
theorem Ys_row (Y : zX) (b a : Nat) {k : Nat} (h : k ≠ 0) : Ys Y b a k = Y k := by unfold Ys; rw [zw_row_ne h, zw_row_ne h]
theorem Ys_no (Y : zX) (b a : Nat) {i : Nat} (h : i ≠ 8 ∧ i ≠ 10) : Ys Y b a 0 i = Y 0 i := by unfold Ys; rw [zw_no (Or.inr h.1), zw_no (Or.inr h.2)]
theorem tpX.s {tp : Nat → Int32} {e b a : Nat} {X : zX} (h : tpX tp e b a X) {b' a' : Nat} (ha : a' ≤ e) : tpX tp e b' a' (Xs X b' a') :=
  ⟨h.1, ha, by rw [Xs_row _ _ _ (by decide)]; exact h.2.2.1, by unfold Xs; rw [zw_no (by decide), zw_at], by unfold Xs; rw [zw_at], fun i hi => by rw [Xs_row _ _ _ (by decide)]; exact h.2.2.2.2.2 i hi⟩
theorem tpY.s {tp : Nat → Int32} {e b a : Nat} {Y : zX} (h : tpY tp e b a Y) {b' a' : Nat} (ha : a' ≤ e) : tpY tp e b' a' (Ys Y b' a') :=
  ⟨h.1, ha, by rw [Ys_no _ _ _ (by decide)]; exact h.2.2.1, by unfold Ys; rw [zw_no (by decide), zw_at], by unfold Ys; rw [zw_at], fun i hi => by rw [Ys_row _ _ _ (by decide)]; exact h.2.2.2.2.2 i hi⟩
theorem tpX.same {tp : Nat → Int32} {e b a : Nat} {X : zX} (h : tpX tp e b a X) : Xs X b a = X := by
  unfold Xs
  rw [zw_sf (Y := X) (v := nI b) h.2.2.2.1.symm, zw_sf h.2.2.2.2.1.symm]
theorem tpY.same {tp : Nat → Int32} {e b a : Nat} {Y : zX} (h : tpY tp e b a Y) : Ys Y b a = Y := by
  unfold Ys
  rw [zw_sf (Y := Y) (v := nI b) h.2.2.2.1.symm, zw_sf h.2.2.2.2.1.symm]
section TP
variable {tp : Nat → Int32} {e b a : Nat} {X Y : zX}
theorem x_byte (h : tpX tp e b a X) {i : Nat} (hi : i < e) : eX7_byteAt (nI i) X = some (tp i &&& nI 255) := by
  have he := h.1
  unfold eX7_byteAt
  rw [if_neg (nI_pos (by omega)), h.2.2.1, if_neg (nI_ge hi (by omega)), qzin (show i < 400 by omega) (by omega), qchk, qzn (by omega), h.2.2.2.2.2 i hi]
theorem x_byteE (h : tpX tp e b a X) {i : Nat} (hi : e ≤ i) (hi2 : i < 2147483648) : eX7_byteAt (nI i) X = some (-1) := by
  have he := h.1
  unfold eX7_byteAt
  rw [if_neg (nI_pos (by omega)), h.2.2.1, if_pos ((nI_leI (by omega) (by omega)).mpr hi)]
theorem y_at1 (h : tpY tp e b a Y) (ha : a < e) {lo hi : Int32} : eX12_isAt lo hi Y = some (if (¬ tp a < lo) ∧ ¬ hi < tp a then nI 1 else nI 0) := by
  have he := h.1
  unfold eX12_isAt
  rw [h.2.2.1, h.2.2.2.2.1, if_neg (nI_ge ha (by omega)), qzin (show a < 400 by omega) (by omega), qchk, qchk, qzn (by omega), h.2.2.2.2.2 a ha]
  by_cases c1 : tp a < lo
  · rw [if_pos c1, if_neg (fun z => z.1 c1)]
  · rw [if_neg c1]
    by_cases c2 : hi < tp a
    · rw [if_pos c2, if_neg (fun z => z.2 c2)]
    · rw [if_neg c2, if_pos ⟨c1, c2⟩]
theorem y_at0 (h : tpY tp e b a Y) (ha : a = e) {lo hi : Int32} : eX12_isAt lo hi Y = some (nI 0) := by
  have he := h.1
  unfold eX12_isAt
  rw [h.2.2.1, h.2.2.2.2.1, if_pos ((nI_leI (by omega) (by omega)).mpr (by omega))]
theorem x_skipL (F : Nat) (hT : byT tp e) : ∀ (d fu a : Nat) (X : zX), e - a = d → d < fu → tpX tp e b a X → hX6_skipBlanks_0 F fu X = some (Xs X b (ff (sB tp) d a)) := by
  intro d
  induction d with
  | zero =>
    intro fu a X h1 h2 h
    obtain ⟨fu, rfl⟩ := Nat.exists_eq_succ_of_ne_zero (show fu ≠ 0 by omega)
    have := h.1; have := h.2.1
    unfold hX6_skipBlanks_0
    rw [h.2.2.1, h.2.2.2.2.1, if_pos ((nI_leI (by omega) (by omega)).mpr (by omega)), ff, h.same]
  | succ d ih =>
    intro fu a X h1 h2 h
    obtain ⟨fu, rfl⟩ := Nat.exists_eq_succ_of_ne_zero (show fu ≠ 0 by omega)
    have he := h.1
    have ha : a < e := by omega
    have e1 : zw X 3 1 (nI (a + 1)) = Xs X b (a + 1) := by
      unfold Xs; rw [zw_sf (Y := X) (v := nI b) h.2.2.2.1.symm]
    unfold hX6_skipBlanks_0
    rw [h.2.2.1, h.2.2.2.2.1, if_neg (nI_ge ha (by omega)), x_byte h ha, qbd, nI_add, e1, ff]
    by_cases c : tp a = nI 32
    · rw [if_pos ((by_c (hT a ha) (by decide)).mpr c), if_neg (show ¬ sB tp a = true by unfold sB; simp [c]), ih fu (a + 1) _ (by omega) (by omega) (h.s (by omega)), Xs_Xs]
    · rw [if_neg (fun z => c ((by_c (hT a ha) (by decide)).mp z)), if_pos (show sB tp a = true by unfold sB; simp [c]), h.same]
theorem x_skip (F : Nat) (hF : 500 ≤ F) (hT : byT tp e) (h : tpX tp e b a X) : eX6_skipBlanks F X = some (Xs X b (bk tp e a)) := x_skipL F hT (e - a) F a X rfl (by have := h.1; omega) h
theorem y_blankL (F : Nat) : ∀ (d fu a : Nat) (Y : zX), e - a = d → d < fu → tpY tp e b a Y → hX12_blanks_0 F fu Y = some (Ys Y (ff (sB tp) d a) (ff (sB tp) d a)) := by
  intro d
  induction d with
  | zero =>
    intro fu a Y h1 h2 h
    obtain ⟨fu, rfl⟩ := Nat.exists_eq_succ_of_ne_zero (show fu ≠ 0 by omega)
    have := h.1; have := h.2.1
    unfold hX12_blanks_0
    rw [y_at0 h (by omega), qbd, if_pos (show nI 0 = 0 from rfl), ff, h.2.2.2.2.1]
    unfold Ys
    rw [zw_sf (v := nI a) (k := 0) (i := 8) (by rw [zw_no (by decide)]; exact h.2.2.2.2.1.symm)]
  | succ d ih =>
    intro fu a Y h1 h2 h
    obtain ⟨fu, rfl⟩ := Nat.exists_eq_succ_of_ne_zero (show fu ≠ 0 by omega)
    have he := h.1
    have ha : a < e := by omega
    have e1 : zw Y 0 8 (nI (a + 1)) = Ys Y b (a + 1) := by
      unfold Ys; rw [zw_sf (Y := Y) (v := nI b) h.2.2.2.1.symm]
    unfold hX12_blanks_0
    rw [y_at1 h ha, qbd, h.2.2.2.2.1, nI_add, e1, ff]
    by_cases c : tp a = nI 32
    · have c' : (¬ tp a < nI 32) ∧ ¬ nI 32 < tp a := by rw [c]; exact ⟨by decide, by decide⟩
      rw [if_pos c', if_neg (show ¬ nI 1 = 0 by decide), if_neg (show ¬ sB tp a = true by unfold sB; simp [c]), ih fu (a + 1) _ (by omega) (by omega) (h.s (by omega)), Ys_Ys]
    · have c' : ¬ ((¬ tp a < nI 32) ∧ ¬ nI 32 < tp a) := fun z => c (by
        apply Int32.toInt_inj.mp
        rw [Int32.lt_iff_toInt_lt, Int32.lt_iff_toInt_lt] at z
        omega)
      rw [if_neg c', if_pos (show nI 0 = 0 from rfl), if_pos (show sB tp a = true by unfold sB; simp [c])]
      unfold Ys
      rw [zw_sf (v := nI a) (k := 0) (i := 8) (by rw [zw_no (by decide)]; exact h.2.2.2.2.1.symm)]
theorem y_blanks (F : Nat) (hF : 500 ≤ F) (h : tpY tp e b a Y) : eX12_blanks F Y = some (Ys Y (bk tp e a) (bk tp e a)) := y_blankL F (e - a) F a Y rfl (by have := h.1; omega) h
theorem x_wordL (F : Nat) (hT : byT tp e) : ∀ (d fu a : Nat) (X : zX), e - a = d → d < fu → tpX tp e b a X → hX6_takeWord_12 F fu X = some (Xs X b (ff (sL tp) d a)) := by
  intro d
  induction d with
  | zero =>
    intro fu a X h1 h2 h
    obtain ⟨fu, rfl⟩ := Nat.exists_eq_succ_of_ne_zero (show fu ≠ 0 by omega)
    have := h.1; have := h.2.1
    unfold hX6_takeWord_12
    rw [h.2.2.1, h.2.2.2.2.1, if_pos ((nI_leI (by omega) (by omega)).mpr (by omega)), ff, h.same]
  | succ d ih =>
    intro fu a X h1 h2 h
    obtain ⟨fu, rfl⟩ := Nat.exists_eq_succ_of_ne_zero (show fu ≠ 0 by omega)
    have he := h.1
    have ha : a < e := by omega
    have e1 : zw X 3 1 (nI (a + 1)) = Xs X b (a + 1) := by
      unfold Xs; rw [zw_sf (Y := X) (v := nI b) h.2.2.2.1.symm]
    unfold hX6_takeWord_12
    rw [h.2.2.1, h.2.2.2.2.1, if_neg (nI_ge ha (by omega)), x_byte h ha, qbd, nI_add, e1, ff]
    by_cases c : (¬ tp a < nI 97) ∧ ¬ nI 122 < tp a
    · rw [if_pos ((by_r (hT a ha) (by decide) (by decide)).mpr c), if_neg (show ¬ sL tp a = true by unfold sL; rw [decide_eq_true c]; decide), ih fu (a + 1) _ (by omega) (by omega) (h.s (by omega)), Xs_Xs]
    · rw [if_neg (fun z => c ((by_r (hT a ha) (by decide) (by decide)).mp z)), if_pos (show sL tp a = true by unfold sL; rw [decide_eq_false c]; rfl), h.same]
theorem x_word (F : Nat) (hF : 500 ≤ F) (hT : byT tp e) (h : tpX tp e b a X) : eX6_takeWord F X = some (Xs X (bk tp e a) (lw tp e (bk tp e a))) := by
  have h1 := bk_b (tp := tp) h.2.1
  have p1 := h.s (b' := b) h1.2
  unfold eX6_takeWord
  rw [x_skip F hF hT h, qbd, p1.2.2.2.2.1]
  have e1 : zw (Xs X b (bk tp e a)) 3 2 (nI (bk tp e a)) = Xs X (bk tp e a) (bk tp e a) := by
    unfold Xs
    rw [zw_com (k := 3) (i := 1) (k' := 3) (i' := 2) (Or.inr (by decide)), zw_zw]
  rw [e1, x_wordL F hT (e - bk tp e a) F (bk tp e a) _ rfl (by have := h.1; omega) (h.s h1.2), Xs_Xs]
  rfl
theorem y_letL (F : Nat) : ∀ (d fu a : Nat) (Y : zX), e - a = d → d < fu → tpY tp e b a Y → hX12_letters_4 F fu Y = some (Ys Y b (ff (sL tp) d a)) := by
  intro d
  induction d with
  | zero =>
    intro fu a Y h1 h2 h
    obtain ⟨fu, rfl⟩ := Nat.exists_eq_succ_of_ne_zero (show fu ≠ 0 by omega)
    have := h.1; have := h.2.1
    unfold hX12_letters_4
    rw [y_at0 h (by omega), qbd, if_pos (show nI 0 = 0 from rfl), ff, h.same]
  | succ d ih =>
    intro fu a Y h1 h2 h
    obtain ⟨fu, rfl⟩ := Nat.exists_eq_succ_of_ne_zero (show fu ≠ 0 by omega)
    have he := h.1
    have ha : a < e := by omega
    have e1 : zw Y 0 8 (nI (a + 1)) = Ys Y b (a + 1) := by
      unfold Ys; rw [zw_sf (Y := Y) (v := nI b) h.2.2.2.1.symm]
    unfold hX12_letters_4
    rw [y_at1 h ha, qbd, h.2.2.2.2.1, nI_add, e1, ff]
    by_cases c : (¬ tp a < nI 97) ∧ ¬ nI 122 < tp a
    · rw [if_pos c, if_neg (show ¬ nI 1 = 0 by decide), if_neg (show ¬ sL tp a = true by unfold sL; rw [decide_eq_true c]; decide), ih fu (a + 1) _ (by omega) (by omega) (h.s (by omega)), Ys_Ys]
    · rw [if_neg c, if_pos (show nI 0 = 0 from rfl), if_pos (show sL tp a = true by unfold sL; rw [decide_eq_false c]; rfl), h.same]
theorem y_letters (F : Nat) (hF : 500 ≤ F) (h : tpY tp e b a Y) : eX12_letters F Y = some (Ys Y (bk tp e a) (lw tp e (bk tp e a))) := by
  have h1 := bk_b (tp := tp) h.2.1
  unfold eX12_letters
  rw [y_blanks F hF h, qbd, y_letL F (e - bk tp e a) F (bk tp e a) _ rfl (by have := h.1; omega) (h.s h1.2), Ys_Ys]
  rfl
/-- a number's value by its digits -/
def dv (tp : Nat → Int32) (b : Nat) : Nat → Nat
  | 0 => 0
  | k + 1 => 10 * dv tp b k + ((tp (b + k)).toInt.toNat - 48)
theorem sD_n {i : Nat} (h : sD tp i = false) : (¬ tp i < nI 48) ∧ ¬ nI 57 < tp i := by
  unfold sD at h
  simpa using h
theorem dv_b (hT : byT tp e) : ∀ k, (∀ i, i < k → b + i < e ∧ sD tp (b + i) = false) → dv tp b k < 10 ^ k
  | 0, _ => Nat.zero_lt_one
  | k + 1, h => by
    have := dv_b hT k (fun i hi => h i (by omega))
    obtain ⟨h1, h2⟩ := h k (by omega)
    obtain ⟨c, c1, c2, c3⟩ := by_in (hT _ h1) (by decide) (by decide) (sD_n h2)
    unfold dv
    rw [c3, nI_toInt (by omega), Nat.pow_succ]
    omega
/-- what a number is read as -/
def nmR (tp : Nat → Int32) (b w : Nat) (lo hi : Int32) : Int32 := if (w - b = 0 ∨ 3 < w - b) ∨ (nI (dv tp b (w - b)) < lo ∨ ¬ nI (dv tp b (w - b)) ≤ hi) then -1 else nI (dv tp b (w - b))
theorem nmR_in (hT : byT tp e) {w : Nat} (hw : w = dw tp e b) (hb : b ≤ e) (lo hi : Int32) : nmR tp b w lo hi = -1 ∨ ∃ v, v < 1000 ∧ nmR tp b w lo hi = nI v ∧ ¬ nI v < lo ∧ nI v ≤ hi := by
  unfold nmR
  by_cases c : (w - b = 0 ∨ 3 < w - b) ∨ (nI (dv tp b (w - b)) < lo ∨ ¬ nI (dv tp b (w - b)) ≤ hi)
  · rw [if_pos c]; exact Or.inl rfl
  · rw [if_neg c]
    have hwb := dw_b (tp := tp) hb
    refine Or.inr ⟨_, ?_, rfl, fun z => c (Or.inr (Or.inl z)), Decidable.byContradiction fun z => c (Or.inr (Or.inr z))⟩
    have h1 := dv_b (tp := tp) (b := b) hT (w - b) (fun i hi => ⟨by omega, ff_no (sD tp) (e - b) b (b + i) (by omega) (by rw [hw] at hi; unfold dw at hi; omega)⟩)
    have h2 : 10 ^ (w - b) ≤ 10 ^ 3 := Nat.pow_le_pow_right (by decide) (Decidable.byContradiction fun z => c (Or.inl (Or.inr (by omega))))
    omega
theorem x_numL (F : Nat) (hT : byT tp e) (lo hi : Int32) : ∀ (d fu a : Nat) (X : zX), e - a = d → d < fu → b ≤ a → (∀ i, b ≤ i → i < a → sD tp i = false) → tpX tp e b a X → hX6_takeNumber_14 F fu lo hi (nI (dv tp b (min (a - b) 3))) X = some (nmR tp b (ff (sD tp) d a) lo hi, if nmR tp b (ff (sD tp) d a) lo hi = -1 then zw (Xs X b (ff (sD tp) d a)) 3 3 (nI b) else Xs X b (ff (sD tp) d a)) := by
  have fin : ∀ (a : Nat) (X : zX), b ≤ a → (∀ i, b ≤ i → i < a → sD tp i = false) → tpX tp e b a X → jX6_takeNumber_91 F lo hi (nI (dv tp b (min (a - b) 3))) X = some (nmR tp b a lo hi, if nmR tp b a lo hi = -1 then zw X 3 3 (nI b) else X) := by
    intro a X h1 h2 h
    have he := h.1; have hae := h.2.1
    have fl : ∀ r, r = -1 → jX6_takeNumber_124 F X = some (r, if r = -1 then zw X 3 3 (nI b) else X) := fun r hr => by
      unfold jX6_takeNumber_124 eX6_fail
      rw [qbd, h.2.2.2.1, hr, if_pos rfl]
    unfold jX6_takeNumber_91 nmR
    rw [h.2.2.2.2.1, h.2.2.2.1, nI_sub h1]
    by_cases c1 : a - b = 0
    · rw [if_pos (show nI (a - b) < nI 1 by rw [c1]; decide), if_pos (Or.inl (Or.inl c1))]
      exact fl _ rfl
    · rw [if_neg (nI_nlt (by omega) (by omega))]
      by_cases c2 : 3 < a - b
      · rw [if_pos ((nI_ltI (by omega) (by omega)).mpr c2), if_pos (Or.inl (Or.inr c2))]
        exact fl _ rfl
      · rw [if_neg (nI_nlt (by omega) (by omega)), Nat.min_eq_left (by omega)]
        by_cases c3 : nI (dv tp b (a - b)) < lo
        · rw [if_pos c3, if_pos (Or.inr (Or.inl c3))]
          exact fl _ rfl
        · rw [if_neg c3]
          by_cases c4 : nI (dv tp b (a - b)) ≤ hi
          · have hlt := dv_b (tp := tp) (b := b) hT (a - b) (fun i hi => ⟨by omega, h2 _ (by omega) (by omega)⟩)
            have h10 : 10 ^ (a - b) ≤ 10 ^ 3 := Nat.pow_le_pow_right (by decide) (by omega)
            rw [if_pos c4, if_neg (fun z => z.elim (fun z => z.elim c1 c2) (fun z => z.elim c3 (fun w => w c4))), if_neg (nI_ne_m1 (by omega))]
          · rw [if_neg c4, if_pos (Or.inr (Or.inr c4))]
            exact fl _ rfl
  intro d
  induction d with
  | zero =>
    intro fu a X h1 h2 h3 h4 h
    obtain ⟨fu, rfl⟩ := Nat.exists_eq_succ_of_ne_zero (show fu ≠ 0 by omega)
    have he := h.1; have hae := h.2.1
    unfold hX6_takeNumber_14
    rw [h.2.2.1, h.2.2.2.2.1, if_pos ((nI_leI (by omega) (by omega)).mpr (by omega)), ff, h.same]
    exact fin a X h3 h4 h
  | succ d ih =>
    intro fu a X h1 h2 h3 h4 h
    obtain ⟨fu, rfl⟩ := Nat.exists_eq_succ_of_ne_zero (show fu ≠ 0 by omega)
    have he := h.1
    have ha : a < e := by omega
    have e1 : zw X 3 1 (nI (a + 1)) = Xs X b (a + 1) := by
      unfold Xs; rw [zw_sf (Y := X) (v := nI b) h.2.2.2.1.symm]
    unfold hX6_takeNumber_14
    rw [h.2.2.1, h.2.2.2.2.1, if_neg (nI_ge ha (by omega)), x_byte h ha, qbd, ff]
    by_cases c : (¬ tp a < nI 48) ∧ ¬ nI 57 < tp a
    · have cs : sD tp a = false := by unfold sD; rw [decide_eq_true c]; rfl
      have h4' : ∀ i, b ≤ i → i < a + 1 → sD tp i = false := fun i g1 g2 => by
        by_cases z : i = a
        · rw [z]; exact cs
        · exact h4 i g1 (by omega)
      have nx := ih fu (a + 1) (Xs X b (a + 1)) (by omega) (by omega) (by omega) h4' (h.s (by omega))
      rw [Xs_Xs] at nx
      unfold jX6_takeNumber_78
      rw [if_pos ((by_r (hT a ha) (by decide) (by decide)).mpr c), if_neg (show ¬ sD tp a = true by rw [cs]; decide), h.2.2.2.1, h.2.2.2.2.1, nI_sub h3, nI_add, e1, ← nx]
      by_cases c3 : 3 ≤ a - b
      · rw [if_pos ((nI_leI (by omega) (by omega)).mpr c3), Nat.min_eq_right c3, Nat.min_eq_right (show 3 ≤ a + 1 - b by omega)]
      · obtain ⟨q, q1, q2, q3⟩ := by_in (hT a ha) (by decide) (by decide) c
        have hq : tp a &&& nI 255 = nI q := (by_c (hT a ha) (by omega)).mpr q3
        have es : dv tp b (a + 1 - b) = 10 * dv tp b (a - b) + (q - 48) := by
          rw [show a + 1 - b = (a - b) + 1 by omega, dv, show b + (a - b) = a by omega, q3, nI_toInt (by omega)]
          rfl
        rw [if_neg (nI_ge (by omega) (by omega)), qbd, hq, nI_mul, nI_add, nI_sub (by omega), Nat.min_eq_left (show a - b ≤ 3 by omega), Nat.min_eq_left (show a + 1 - b ≤ 3 by omega), es, show dv tp b (a - b) * 10 + q - 48 = 10 * dv tp b (a - b) + (q - 48) by omega]
    · have cs : sD tp a = true := by unfold sD; rw [decide_eq_false c]; rfl
      rw [if_neg (fun z => c ((by_r (hT a ha) (by decide) (by decide)).mp z)), if_pos cs, h.same]
      exact fin a X h3 h4 h
theorem x_num (F : Nat) (hF : 500 ≤ F) (hT : byT tp e) (h : tpX tp e b a X) (lo hi : Int32) : eX6_takeNumber F lo hi X = some (nmR tp (bk tp e a) (dw tp e (bk tp e a)) lo hi, if nmR tp (bk tp e a) (dw tp e (bk tp e a)) lo hi = -1 then zw (Xs X (bk tp e a) (dw tp e (bk tp e a))) 3 3 (nI (bk tp e a)) else Xs X (bk tp e a) (dw tp e (bk tp e a))) := by
  have h1 := bk_b (tp := tp) h.2.1
  have p1 := h.s (b' := b) h1.2
  unfold eX6_takeNumber
  rw [x_skip F hF hT h, qbd, p1.2.2.2.2.1]
  have e1 : zw (Xs X b (bk tp e a)) 3 2 (nI (bk tp e a)) = Xs X (bk tp e a) (bk tp e a) := by
    unfold Xs
    rw [zw_com (k := 3) (i := 1) (k' := 3) (i' := 2) (Or.inr (by decide)), zw_zw]
  have k := x_numL F hT lo hi (e - bk tp e a) F (bk tp e a) _ rfl (by have := h.1; omega) (Nat.le_refl _) (fun i g1 g2 => by omega) (h.s (b' := bk tp e a) h1.2)
  rw [Nat.sub_self, Xs_Xs] at k
  rw [e1]
  exact k
theorem y_numL (F : Nat) (hT : byT tp e) (lo hi : Int32) : ∀ (d fu a : Nat) (Y : zX), e - a = d → d < fu → b ≤ a → (∀ i, b ≤ i → i < a → sD tp i = false) → tpY tp e b a Y → hX12_number_6 F fu lo hi (nI (dv tp b (min (a - b) 3))) Y = some (nmR tp b (ff (sD tp) d a) lo hi, Ys Y b (ff (sD tp) d a)) := by
  have fin : ∀ (a : Nat) (Y : zX), b ≤ a → tpY tp e b a Y → (if (Y 0 8) = (Y 0 10) then some ((-1 : Int32), Y) else if (nI 3) < ((Y 0 8) - (Y 0 10)) then some ((-1), Y) else if nI (dv tp b (min (a - b) 3)) < lo then some ((-1), Y) else if nI (dv tp b (min (a - b) 3)) ≤ hi then some (nI (dv tp b (min (a - b) 3)), Y) else some ((-1), Y)) = some (nmR tp b a lo hi, Y) := by
    intro a Y h1 h
    have he := h.1; have hae := h.2.1
    unfold nmR
    rw [h.2.2.2.2.1, h.2.2.2.1, nI_sub h1]
    by_cases c1 : a - b = 0
    · rw [if_pos (show nI a = nI b by rw [show a = b by omega]), if_pos (Or.inl (Or.inl c1))]
    · rw [if_neg (fun z => c1 (by have := (nI_eq (by omega) (by omega)).mp z; omega))]
      by_cases c2 : 3 < a - b
      · rw [if_pos ((nI_ltI (by omega) (by omega)).mpr c2), if_pos (Or.inl (Or.inr c2))]
      · rw [if_neg (nI_nlt (by omega) (by omega)), Nat.min_eq_left (by omega)]
        by_cases c3 : nI (dv tp b (a - b)) < lo
        · rw [if_pos c3, if_pos (Or.inr (Or.inl c3))]
        · rw [if_neg c3]
          by_cases c4 : nI (dv tp b (a - b)) ≤ hi
          · rw [if_pos c4, if_neg (fun z => z.elim (fun z => z.elim c1 c2) (fun z => z.elim c3 (fun w => w c4)))]
          · rw [if_neg c4, if_pos (Or.inr (Or.inr c4))]
  intro d
  induction d with
  | zero =>
    intro fu a Y h1 h2 h3 h4 h
    obtain ⟨fu, rfl⟩ := Nat.exists_eq_succ_of_ne_zero (show fu ≠ 0 by omega)
    have he := h.1; have hae := h.2.1
    unfold hX12_number_6
    rw [y_at0 h (by omega), qbd, if_pos (show nI 0 = 0 from rfl), ff, h.same]
    exact fin a Y h3 h
  | succ d ih =>
    intro fu a Y h1 h2 h3 h4 h
    obtain ⟨fu, rfl⟩ := Nat.exists_eq_succ_of_ne_zero (show fu ≠ 0 by omega)
    have he := h.1
    have ha : a < e := by omega
    have e1 : zw Y 0 8 (nI (a + 1)) = Ys Y b (a + 1) := by
      unfold Ys; rw [zw_sf (Y := Y) (v := nI b) h.2.2.2.1.symm]
    unfold hX12_number_6
    rw [y_at1 h ha, qbd, ff]
    by_cases c : (¬ tp a < nI 48) ∧ ¬ nI 57 < tp a
    · have cs : sD tp a = false := by unfold sD; rw [decide_eq_true c]; rfl
      have h4' : ∀ i, b ≤ i → i < a + 1 → sD tp i = false := fun i g1 g2 => by
        by_cases z : i = a
        · rw [z]; exact cs
        · exact h4 i g1 (by omega)
      have nx := ih fu (a + 1) (Ys Y b (a + 1)) (by omega) (by omega) (by omega) h4' (h.s (by omega))
      rw [Ys_Ys] at nx
      unfold jX12_number_51
      rw [if_pos c, if_neg (show ¬ nI 1 = 0 by decide), if_neg (show ¬ sD tp a = true by rw [cs]; decide), h.2.2.2.1, h.2.2.2.2.1, nI_sub h3, nI_add, e1, ← nx, qzin (show a < 400 by omega) (by omega), qchk, qzn (by omega), h.2.2.2.2.2 a ha]
      by_cases c3 : 3 ≤ a - b
      · rw [if_pos ((nI_leI (by omega) (by omega)).mpr c3), Nat.min_eq_right c3, Nat.min_eq_right (show 3 ≤ a + 1 - b by omega)]
      · obtain ⟨q, q1, q2, q3⟩ := by_in (hT a ha) (by decide) (by decide) c
        have es : dv tp b (a + 1 - b) = 10 * dv tp b (a - b) + (q - 48) := by
          rw [show a + 1 - b = (a - b) + 1 by omega, dv, show b + (a - b) = a by omega, q3, nI_toInt (by omega)]
          rfl
        rw [if_neg (nI_ge (by omega) (by omega)), q3, nI_mul, nI_add, nI_sub (by omega), Nat.min_eq_left (show a - b ≤ 3 by omega), Nat.min_eq_left (show a + 1 - b ≤ 3 by omega), es, show 10 * dv tp b (a - b) + q - 48 = 10 * dv tp b (a - b) + (q - 48) by omega]
    · have cs : sD tp a = true := by unfold sD; rw [decide_eq_false c]; rfl
      rw [if_neg c, if_pos (show nI 0 = 0 from rfl), if_pos cs, h.same]
      exact fin a Y h3 h
theorem y_num (F : Nat) (hF : 500 ≤ F) (hT : byT tp e) (h : tpY tp e b a Y) (lo hi : Int32) : eX12_number F lo hi Y = some (nmR tp (bk tp e a) (dw tp e (bk tp e a)) lo hi, Ys Y (bk tp e a) (dw tp e (bk tp e a))) := by
  have h1 := bk_b (tp := tp) h.2.1
  unfold eX12_number
  have k := y_numL F hT lo hi (e - bk tp e a) F (bk tp e a) _ rfl (by have := h.1; omega) (Nat.le_refl _) (fun i g1 g2 => by omega) (h.s (b' := bk tp e a) h1.2)
  rw [Nat.sub_self, Ys_Ys] at k
  rw [y_blanks F hF h, qbd]
  exact k
end TP
