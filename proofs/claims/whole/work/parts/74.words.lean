/-! words on the tape -/
/-- the letters from k on stand there -/
def wdR (tp : Nat → Int32) (w : List Nat) (b : Nat) : Nat → Nat → Bool
  | 0, _ => true
  | d + 1, k => decide (tp (b + k) = nI (List.getD w k 0)) && wdR tp w b d (k + 1)
/-- a word stands there -/
def wd (tp : Nat → Int32) (w : List Nat) (b a : Nat) : Bool := decide (a - b = w.length) && wdR tp w b w.length 0
def wB1 (c : Bool) : Int32 := if c then nI 1 else nI 0
theorem wB1_0 {c : Bool} : wB1 c = 0 ↔ c = false := by cases c <;> decide
section WD
variable {tp : Nat → Int32} {e b a : Nat} {X Y : zX}
theorem x_w0L (F : Nat) (hT : byT tp e) (h : tpX tp e b a X) (hba : b + 4 ≤ a) : ∀ (d fu k : Nat), k + d = 4 → d < fu → hX6_isWords0_20 F fu (nI k) X = some (wB1 (wdR tp [110, 111, 100, 101] b d k)) := by
  have he := h.1; have hae := h.2.1
  intro d
  induction d with
  | zero =>
    intro fu k h1 h2
    obtain ⟨fu, rfl⟩ := Nat.exists_eq_succ_of_ne_zero (show fu ≠ 0 by omega)
    unfold hX6_isWords0_20
    rw [if_pos ((nI_leI (by omega) (by omega)).mpr (by omega))]
    rfl
  | succ d ih =>
    intro fu k h1 h2
    obtain ⟨fu, rfl⟩ := Nat.exists_eq_succ_of_ne_zero (show fu ≠ 0 by omega)
    have hc : List.getD [110, 111, 100, 101] k 0 < 128 := by
      have : ∀ k, k < 4 → List.getD [110, 111, 100, 101] k 0 < 128 := by decide
      exact this k (by omega)
    unfold hX6_isWords0_20
    rw [if_neg (nI_ge (by omega) (by omega)), h.2.2.2.1, nI_add, x_byte h (show b + k < e by omega), qbd, qzin (show k < 4 by omega) (by omega), qchk, qzn (by omega), nI_add, wdR]
    by_cases c : tp (b + k) = nI (List.getD [110, 111, 100, 101] k 0)
    · rw [if_pos ((by_c (hT _ (by omega)) hc).mpr c), decide_eq_true c, Bool.true_and]
      exact ih fu (k + 1) (by omega) (by omega)
    · rw [if_neg (fun z => c ((by_c (hT _ (by omega)) hc).mp z)), decide_eq_false c, Bool.false_and]
      rfl
theorem x_w0 (F : Nat) (hF : 500 ≤ F) (hT : byT tp e) (h : tpX tp e b a X) (hba : b ≤ a) : eX6_isWords0 F X = some (wB1 (wd tp [110, 111, 100, 101] b a)) := by
  have he := h.1; have hae := h.2.1
  unfold eX6_isWords0 wd
  rw [h.2.2.2.1, h.2.2.2.2.1, nI_sub hba]
  by_cases c : a - b = 4
  · rw [if_pos (show nI (a - b) = nI 4 by rw [c]), decide_eq_true (show a - b = [110, 111, 100, 101].length from c), Bool.true_and]
    exact x_w0L F hT h (by omega) 4 F 0 rfl (by omega)
  · rw [if_neg (fun z => c ((nI_eq (by omega) (by omega)).mp z)), decide_eq_false (show ¬ a - b = [110, 111, 100, 101].length from c), Bool.false_and]
    rfl
theorem y_w30L (F : Nat) (h : tpY tp e b a Y) (hba : b + 4 ≤ a) : ∀ (d fu k : Nat), k + d = 4 → d + 1 < fu → hX12_isWords30_24 F fu (nI 1) (nI k) Y = some (wB1 (wdR tp [110, 111, 100, 101] b d k)) := by
  have he := h.1; have hae := h.2.1
  intro d
  induction d with
  | zero =>
    intro fu k h1 h2
    obtain ⟨fu, rfl⟩ := Nat.exists_eq_succ_of_ne_zero (show fu ≠ 0 by omega)
    unfold hX12_isWords30_24
    rw [if_neg (show ¬ nI 1 = 0 by decide), if_pos ((nI_leI (by omega) (by omega)).mpr (by omega))]
    rfl
  | succ d ih =>
    intro fu k h1 h2
    obtain ⟨fu, rfl⟩ := Nat.exists_eq_succ_of_ne_zero (show fu ≠ 0 by omega)
    unfold hX12_isWords30_24
    rw [if_neg (show ¬ nI 1 = 0 by decide), if_neg (nI_ge (by omega) (by omega)), h.2.2.2.1, nI_add, qzin (show b + k < 400 by omega) (by omega), qchk, qzin (show k < 4 by omega) (by omega), qchk, qzn (by omega), qzn (by omega), nI_add, h.2.2.2.2.2 _ (show b + k < e by omega), wdR]
    by_cases c : tp (b + k) = nI (List.getD [110, 111, 100, 101] k 0)
    · rw [if_pos c, decide_eq_true c, Bool.true_and]
      exact ih fu (k + 1) (by omega) (by omega)
    · rw [if_neg c, decide_eq_false c, Bool.false_and]
      obtain ⟨fu, rfl⟩ := Nat.exists_eq_succ_of_ne_zero (show fu ≠ 0 by omega)
      unfold hX12_isWords30_24
      rw [if_pos (show nI 0 = 0 from rfl)]
      rfl
theorem y_w30 (F : Nat) (hF : 500 ≤ F) (h : tpY tp e b a Y) (hba : b ≤ a) : eX12_isWords30 F Y = some (wB1 (wd tp [110, 111, 100, 101] b a)) := by
  have he := h.1; have hae := h.2.1
  unfold eX12_isWords30 wd
  rw [h.2.2.2.1, h.2.2.2.2.1, nI_sub hba]
  by_cases c : a - b = 4
  · rw [if_pos (show nI (a - b) = nI 4 by rw [c]), decide_eq_true (show a - b = [110, 111, 100, 101].length from c), Bool.true_and]
    exact y_w30L F h (by omega) 4 F 0 rfl (by omega)
  · rw [if_neg (fun z => c ((nI_eq (by omega) (by omega)).mp z)), decide_eq_false (show ¬ a - b = [110, 111, 100, 101].length from c), Bool.false_and]
    obtain ⟨f, rfl⟩ : ∃ f, F = f + 1 := ⟨F - 1, by omega⟩
    unfold hX12_isWords30_24
    rw [if_pos (show nI 0 = 0 from rfl)]
    rfl
theorem x_w1L (F : Nat) (hT : byT tp e) (h : tpX tp e b a X) (hba : b + 4 ≤ a) : ∀ (d fu k : Nat), k + d = 4 → d < fu → hX6_isWords1_20 F fu (nI k) X = some (wB1 (wdR tp [100, 111, 119, 110] b d k)) := by
  have he := h.1; have hae := h.2.1
  intro d
  induction d with
  | zero =>
    intro fu k h1 h2
    obtain ⟨fu, rfl⟩ := Nat.exists_eq_succ_of_ne_zero (show fu ≠ 0 by omega)
    unfold hX6_isWords1_20
    rw [if_pos ((nI_leI (by omega) (by omega)).mpr (by omega))]
    rfl
  | succ d ih =>
    intro fu k h1 h2
    obtain ⟨fu, rfl⟩ := Nat.exists_eq_succ_of_ne_zero (show fu ≠ 0 by omega)
    have hc : List.getD [100, 111, 119, 110] k 0 < 128 := by
      have : ∀ k, k < 4 → List.getD [100, 111, 119, 110] k 0 < 128 := by decide
      exact this k (by omega)
    unfold hX6_isWords1_20
    rw [if_neg (nI_ge (by omega) (by omega)), h.2.2.2.1, nI_add, x_byte h (show b + k < e by omega), qbd, qzin (show k < 4 by omega) (by omega), qchk, qzn (by omega), nI_add, wdR]
    by_cases c : tp (b + k) = nI (List.getD [100, 111, 119, 110] k 0)
    · rw [if_pos ((by_c (hT _ (by omega)) hc).mpr c), decide_eq_true c, Bool.true_and]
      exact ih fu (k + 1) (by omega) (by omega)
    · rw [if_neg (fun z => c ((by_c (hT _ (by omega)) hc).mp z)), decide_eq_false c, Bool.false_and]
      rfl
theorem x_w1 (F : Nat) (hF : 500 ≤ F) (hT : byT tp e) (h : tpX tp e b a X) (hba : b ≤ a) : eX6_isWords1 F X = some (wB1 (wd tp [100, 111, 119, 110] b a)) := by
  have he := h.1; have hae := h.2.1
  unfold eX6_isWords1 wd
  rw [h.2.2.2.1, h.2.2.2.2.1, nI_sub hba]
  by_cases c : a - b = 4
  · rw [if_pos (show nI (a - b) = nI 4 by rw [c]), decide_eq_true (show a - b = [100, 111, 119, 110].length from c), Bool.true_and]
    exact x_w1L F hT h (by omega) 4 F 0 rfl (by omega)
  · rw [if_neg (fun z => c ((nI_eq (by omega) (by omega)).mp z)), decide_eq_false (show ¬ a - b = [100, 111, 119, 110].length from c), Bool.false_and]
    rfl
theorem y_w31L (F : Nat) (h : tpY tp e b a Y) (hba : b + 4 ≤ a) : ∀ (d fu k : Nat), k + d = 4 → d + 1 < fu → hX12_isWords31_24 F fu (nI 1) (nI k) Y = some (wB1 (wdR tp [100, 111, 119, 110] b d k)) := by
  have he := h.1; have hae := h.2.1
  intro d
  induction d with
  | zero =>
    intro fu k h1 h2
    obtain ⟨fu, rfl⟩ := Nat.exists_eq_succ_of_ne_zero (show fu ≠ 0 by omega)
    unfold hX12_isWords31_24
    rw [if_neg (show ¬ nI 1 = 0 by decide), if_pos ((nI_leI (by omega) (by omega)).mpr (by omega))]
    rfl
  | succ d ih =>
    intro fu k h1 h2
    obtain ⟨fu, rfl⟩ := Nat.exists_eq_succ_of_ne_zero (show fu ≠ 0 by omega)
    unfold hX12_isWords31_24
    rw [if_neg (show ¬ nI 1 = 0 by decide), if_neg (nI_ge (by omega) (by omega)), h.2.2.2.1, nI_add, qzin (show b + k < 400 by omega) (by omega), qchk, qzin (show k < 4 by omega) (by omega), qchk, qzn (by omega), qzn (by omega), nI_add, h.2.2.2.2.2 _ (show b + k < e by omega), wdR]
    by_cases c : tp (b + k) = nI (List.getD [100, 111, 119, 110] k 0)
    · rw [if_pos c, decide_eq_true c, Bool.true_and]
      exact ih fu (k + 1) (by omega) (by omega)
    · rw [if_neg c, decide_eq_false c, Bool.false_and]
      obtain ⟨fu, rfl⟩ := Nat.exists_eq_succ_of_ne_zero (show fu ≠ 0 by omega)
      unfold hX12_isWords31_24
      rw [if_pos (show nI 0 = 0 from rfl)]
      rfl
theorem y_w31 (F : Nat) (hF : 500 ≤ F) (h : tpY tp e b a Y) (hba : b ≤ a) : eX12_isWords31 F Y = some (wB1 (wd tp [100, 111, 119, 110] b a)) := by
  have he := h.1; have hae := h.2.1
  unfold eX12_isWords31 wd
  rw [h.2.2.2.1, h.2.2.2.2.1, nI_sub hba]
  by_cases c : a - b = 4
  · rw [if_pos (show nI (a - b) = nI 4 by rw [c]), decide_eq_true (show a - b = [100, 111, 119, 110].length from c), Bool.true_and]
    exact y_w31L F h (by omega) 4 F 0 rfl (by omega)
  · rw [if_neg (fun z => c ((nI_eq (by omega) (by omega)).mp z)), decide_eq_false (show ¬ a - b = [100, 111, 119, 110].length from c), Bool.false_and]
    obtain ⟨f, rfl⟩ : ∃ f, F = f + 1 := ⟨F - 1, by omega⟩
    unfold hX12_isWords31_24
    rw [if_pos (show nI 0 = 0 from rfl)]
    rfl
theorem x_w2L (F : Nat) (hT : byT tp e) (h : tpX tp e b a X) (hba : b + 4 ≤ a) : ∀ (d fu k : Nat), k + d = 4 → d < fu → hX6_isWords2_20 F fu (nI k) X = some (wB1 (wdR tp [108, 105, 110, 107] b d k)) := by
  have he := h.1; have hae := h.2.1
  intro d
  induction d with
  | zero =>
    intro fu k h1 h2
    obtain ⟨fu, rfl⟩ := Nat.exists_eq_succ_of_ne_zero (show fu ≠ 0 by omega)
    unfold hX6_isWords2_20
    rw [if_pos ((nI_leI (by omega) (by omega)).mpr (by omega))]
    rfl
  | succ d ih =>
    intro fu k h1 h2
    obtain ⟨fu, rfl⟩ := Nat.exists_eq_succ_of_ne_zero (show fu ≠ 0 by omega)
    have hc : List.getD [108, 105, 110, 107] k 0 < 128 := by
      have : ∀ k, k < 4 → List.getD [108, 105, 110, 107] k 0 < 128 := by decide
      exact this k (by omega)
    unfold hX6_isWords2_20
    rw [if_neg (nI_ge (by omega) (by omega)), h.2.2.2.1, nI_add, x_byte h (show b + k < e by omega), qbd, qzin (show k < 4 by omega) (by omega), qchk, qzn (by omega), nI_add, wdR]
    by_cases c : tp (b + k) = nI (List.getD [108, 105, 110, 107] k 0)
    · rw [if_pos ((by_c (hT _ (by omega)) hc).mpr c), decide_eq_true c, Bool.true_and]
      exact ih fu (k + 1) (by omega) (by omega)
    · rw [if_neg (fun z => c ((by_c (hT _ (by omega)) hc).mp z)), decide_eq_false c, Bool.false_and]
      rfl
theorem x_w2 (F : Nat) (hF : 500 ≤ F) (hT : byT tp e) (h : tpX tp e b a X) (hba : b ≤ a) : eX6_isWords2 F X = some (wB1 (wd tp [108, 105, 110, 107] b a)) := by
  have he := h.1; have hae := h.2.1
  unfold eX6_isWords2 wd
  rw [h.2.2.2.1, h.2.2.2.2.1, nI_sub hba]
  by_cases c : a - b = 4
  · rw [if_pos (show nI (a - b) = nI 4 by rw [c]), decide_eq_true (show a - b = [108, 105, 110, 107].length from c), Bool.true_and]
    exact x_w2L F hT h (by omega) 4 F 0 rfl (by omega)
  · rw [if_neg (fun z => c ((nI_eq (by omega) (by omega)).mp z)), decide_eq_false (show ¬ a - b = [108, 105, 110, 107].length from c), Bool.false_and]
    rfl
theorem y_w32L (F : Nat) (h : tpY tp e b a Y) (hba : b + 4 ≤ a) : ∀ (d fu k : Nat), k + d = 4 → d + 1 < fu → hX12_isWords32_24 F fu (nI 1) (nI k) Y = some (wB1 (wdR tp [108, 105, 110, 107] b d k)) := by
  have he := h.1; have hae := h.2.1
  intro d
  induction d with
  | zero =>
    intro fu k h1 h2
    obtain ⟨fu, rfl⟩ := Nat.exists_eq_succ_of_ne_zero (show fu ≠ 0 by omega)
    unfold hX12_isWords32_24
    rw [if_neg (show ¬ nI 1 = 0 by decide), if_pos ((nI_leI (by omega) (by omega)).mpr (by omega))]
    rfl
  | succ d ih =>
    intro fu k h1 h2
    obtain ⟨fu, rfl⟩ := Nat.exists_eq_succ_of_ne_zero (show fu ≠ 0 by omega)
    unfold hX12_isWords32_24
    rw [if_neg (show ¬ nI 1 = 0 by decide), if_neg (nI_ge (by omega) (by omega)), h.2.2.2.1, nI_add, qzin (show b + k < 400 by omega) (by omega), qchk, qzin (show k < 4 by omega) (by omega), qchk, qzn (by omega), qzn (by omega), nI_add, h.2.2.2.2.2 _ (show b + k < e by omega), wdR]
    by_cases c : tp (b + k) = nI (List.getD [108, 105, 110, 107] k 0)
    · rw [if_pos c, decide_eq_true c, Bool.true_and]
      exact ih fu (k + 1) (by omega) (by omega)
    · rw [if_neg c, decide_eq_false c, Bool.false_and]
      obtain ⟨fu, rfl⟩ := Nat.exists_eq_succ_of_ne_zero (show fu ≠ 0 by omega)
      unfold hX12_isWords32_24
      rw [if_pos (show nI 0 = 0 from rfl)]
      rfl
theorem y_w32 (F : Nat) (hF : 500 ≤ F) (h : tpY tp e b a Y) (hba : b ≤ a) : eX12_isWords32 F Y = some (wB1 (wd tp [108, 105, 110, 107] b a)) := by
  have he := h.1; have hae := h.2.1
  unfold eX12_isWords32 wd
  rw [h.2.2.2.1, h.2.2.2.2.1, nI_sub hba]
  by_cases c : a - b = 4
  · rw [if_pos (show nI (a - b) = nI 4 by rw [c]), decide_eq_true (show a - b = [108, 105, 110, 107].length from c), Bool.true_and]
    exact y_w32L F h (by omega) 4 F 0 rfl (by omega)
  · rw [if_neg (fun z => c ((nI_eq (by omega) (by omega)).mp z)), decide_eq_false (show ¬ a - b = [108, 105, 110, 107].length from c), Bool.false_and]
    obtain ⟨f, rfl⟩ : ∃ f, F = f + 1 := ⟨F - 1, by omega⟩
    unfold hX12_isWords32_24
    rw [if_pos (show nI 0 = 0 from rfl)]
    rfl
theorem x_w3L (F : Nat) (hT : byT tp e) (h : tpX tp e b a X) (hba : b + 5 ≤ a) : ∀ (d fu k : Nat), k + d = 5 → d < fu → hX6_isWords3_20 F fu (nI k) X = some (wB1 (wdR tp [100, 101, 108, 97, 121] b d k)) := by
  have he := h.1; have hae := h.2.1
  intro d
  induction d with
  | zero =>
    intro fu k h1 h2
    obtain ⟨fu, rfl⟩ := Nat.exists_eq_succ_of_ne_zero (show fu ≠ 0 by omega)
    unfold hX6_isWords3_20
    rw [if_pos ((nI_leI (by omega) (by omega)).mpr (by omega))]
    rfl
  | succ d ih =>
    intro fu k h1 h2
    obtain ⟨fu, rfl⟩ := Nat.exists_eq_succ_of_ne_zero (show fu ≠ 0 by omega)
    have hc : List.getD [100, 101, 108, 97, 121] k 0 < 128 := by
      have : ∀ k, k < 5 → List.getD [100, 101, 108, 97, 121] k 0 < 128 := by decide
      exact this k (by omega)
    unfold hX6_isWords3_20
    rw [if_neg (nI_ge (by omega) (by omega)), h.2.2.2.1, nI_add, x_byte h (show b + k < e by omega), qbd, qzin (show k < 5 by omega) (by omega), qchk, qzn (by omega), nI_add, wdR]
    by_cases c : tp (b + k) = nI (List.getD [100, 101, 108, 97, 121] k 0)
    · rw [if_pos ((by_c (hT _ (by omega)) hc).mpr c), decide_eq_true c, Bool.true_and]
      exact ih fu (k + 1) (by omega) (by omega)
    · rw [if_neg (fun z => c ((by_c (hT _ (by omega)) hc).mp z)), decide_eq_false c, Bool.false_and]
      rfl
theorem x_w3 (F : Nat) (hF : 500 ≤ F) (hT : byT tp e) (h : tpX tp e b a X) (hba : b ≤ a) : eX6_isWords3 F X = some (wB1 (wd tp [100, 101, 108, 97, 121] b a)) := by
  have he := h.1; have hae := h.2.1
  unfold eX6_isWords3 wd
  rw [h.2.2.2.1, h.2.2.2.2.1, nI_sub hba]
  by_cases c : a - b = 5
  · rw [if_pos (show nI (a - b) = nI 5 by rw [c]), decide_eq_true (show a - b = [100, 101, 108, 97, 121].length from c), Bool.true_and]
    exact x_w3L F hT h (by omega) 5 F 0 rfl (by omega)
  · rw [if_neg (fun z => c ((nI_eq (by omega) (by omega)).mp z)), decide_eq_false (show ¬ a - b = [100, 101, 108, 97, 121].length from c), Bool.false_and]
    rfl
theorem y_w33L (F : Nat) (h : tpY tp e b a Y) (hba : b + 5 ≤ a) : ∀ (d fu k : Nat), k + d = 5 → d + 1 < fu → hX12_isWords33_24 F fu (nI 1) (nI k) Y = some (wB1 (wdR tp [100, 101, 108, 97, 121] b d k)) := by
  have he := h.1; have hae := h.2.1
  intro d
  induction d with
  | zero =>
    intro fu k h1 h2
    obtain ⟨fu, rfl⟩ := Nat.exists_eq_succ_of_ne_zero (show fu ≠ 0 by omega)
    unfold hX12_isWords33_24
    rw [if_neg (show ¬ nI 1 = 0 by decide), if_pos ((nI_leI (by omega) (by omega)).mpr (by omega))]
    rfl
  | succ d ih =>
    intro fu k h1 h2
    obtain ⟨fu, rfl⟩ := Nat.exists_eq_succ_of_ne_zero (show fu ≠ 0 by omega)
    unfold hX12_isWords33_24
    rw [if_neg (show ¬ nI 1 = 0 by decide), if_neg (nI_ge (by omega) (by omega)), h.2.2.2.1, nI_add, qzin (show b + k < 400 by omega) (by omega), qchk, qzin (show k < 5 by omega) (by omega), qchk, qzn (by omega), qzn (by omega), nI_add, h.2.2.2.2.2 _ (show b + k < e by omega), wdR]
    by_cases c : tp (b + k) = nI (List.getD [100, 101, 108, 97, 121] k 0)
    · rw [if_pos c, decide_eq_true c, Bool.true_and]
      exact ih fu (k + 1) (by omega) (by omega)
    · rw [if_neg c, decide_eq_false c, Bool.false_and]
      obtain ⟨fu, rfl⟩ := Nat.exists_eq_succ_of_ne_zero (show fu ≠ 0 by omega)
      unfold hX12_isWords33_24
      rw [if_pos (show nI 0 = 0 from rfl)]
      rfl
theorem y_w33 (F : Nat) (hF : 500 ≤ F) (h : tpY tp e b a Y) (hba : b ≤ a) : eX12_isWords33 F Y = some (wB1 (wd tp [100, 101, 108, 97, 121] b a)) := by
  have he := h.1; have hae := h.2.1
  unfold eX12_isWords33 wd
  rw [h.2.2.2.1, h.2.2.2.2.1, nI_sub hba]
  by_cases c : a - b = 5
  · rw [if_pos (show nI (a - b) = nI 5 by rw [c]), decide_eq_true (show a - b = [100, 101, 108, 97, 121].length from c), Bool.true_and]
    exact y_w33L F h (by omega) 5 F 0 rfl (by omega)
  · rw [if_neg (fun z => c ((nI_eq (by omega) (by omega)).mp z)), decide_eq_false (show ¬ a - b = [100, 101, 108, 97, 121].length from c), Bool.false_and]
    obtain ⟨f, rfl⟩ : ∃ f, F = f + 1 := ⟨F - 1, by omega⟩
    unfold hX12_isWords33_24
    rw [if_pos (show nI 0 = 0 from rfl)]
    rfl
theorem x_w4L (F : Nat) (hT : byT tp e) (h : tpX tp e b a X) (hba : b + 4 ≤ a) : ∀ (d fu k : Nat), k + d = 4 → d < fu → hX6_isWords4_20 F fu (nI k) X = some (wB1 (wdR tp [108, 111, 115, 115] b d k)) := by
  have he := h.1; have hae := h.2.1
  intro d
  induction d with
  | zero =>
    intro fu k h1 h2
    obtain ⟨fu, rfl⟩ := Nat.exists_eq_succ_of_ne_zero (show fu ≠ 0 by omega)
    unfold hX6_isWords4_20
    rw [if_pos ((nI_leI (by omega) (by omega)).mpr (by omega))]
    rfl
  | succ d ih =>
    intro fu k h1 h2
    obtain ⟨fu, rfl⟩ := Nat.exists_eq_succ_of_ne_zero (show fu ≠ 0 by omega)
    have hc : List.getD [108, 111, 115, 115] k 0 < 128 := by
      have : ∀ k, k < 4 → List.getD [108, 111, 115, 115] k 0 < 128 := by decide
      exact this k (by omega)
    unfold hX6_isWords4_20
    rw [if_neg (nI_ge (by omega) (by omega)), h.2.2.2.1, nI_add, x_byte h (show b + k < e by omega), qbd, qzin (show k < 4 by omega) (by omega), qchk, qzn (by omega), nI_add, wdR]
    by_cases c : tp (b + k) = nI (List.getD [108, 111, 115, 115] k 0)
    · rw [if_pos ((by_c (hT _ (by omega)) hc).mpr c), decide_eq_true c, Bool.true_and]
      exact ih fu (k + 1) (by omega) (by omega)
    · rw [if_neg (fun z => c ((by_c (hT _ (by omega)) hc).mp z)), decide_eq_false c, Bool.false_and]
      rfl
theorem x_w4 (F : Nat) (hF : 500 ≤ F) (hT : byT tp e) (h : tpX tp e b a X) (hba : b ≤ a) : eX6_isWords4 F X = some (wB1 (wd tp [108, 111, 115, 115] b a)) := by
  have he := h.1; have hae := h.2.1
  unfold eX6_isWords4 wd
  rw [h.2.2.2.1, h.2.2.2.2.1, nI_sub hba]
  by_cases c : a - b = 4
  · rw [if_pos (show nI (a - b) = nI 4 by rw [c]), decide_eq_true (show a - b = [108, 111, 115, 115].length from c), Bool.true_and]
    exact x_w4L F hT h (by omega) 4 F 0 rfl (by omega)
  · rw [if_neg (fun z => c ((nI_eq (by omega) (by omega)).mp z)), decide_eq_false (show ¬ a - b = [108, 111, 115, 115].length from c), Bool.false_and]
    rfl
theorem y_w34L (F : Nat) (h : tpY tp e b a Y) (hba : b + 4 ≤ a) : ∀ (d fu k : Nat), k + d = 4 → d + 1 < fu → hX12_isWords34_24 F fu (nI 1) (nI k) Y = some (wB1 (wdR tp [108, 111, 115, 115] b d k)) := by
  have he := h.1; have hae := h.2.1
  intro d
  induction d with
  | zero =>
    intro fu k h1 h2
    obtain ⟨fu, rfl⟩ := Nat.exists_eq_succ_of_ne_zero (show fu ≠ 0 by omega)
    unfold hX12_isWords34_24
    rw [if_neg (show ¬ nI 1 = 0 by decide), if_pos ((nI_leI (by omega) (by omega)).mpr (by omega))]
    rfl
  | succ d ih =>
    intro fu k h1 h2
    obtain ⟨fu, rfl⟩ := Nat.exists_eq_succ_of_ne_zero (show fu ≠ 0 by omega)
    unfold hX12_isWords34_24
    rw [if_neg (show ¬ nI 1 = 0 by decide), if_neg (nI_ge (by omega) (by omega)), h.2.2.2.1, nI_add, qzin (show b + k < 400 by omega) (by omega), qchk, qzin (show k < 4 by omega) (by omega), qchk, qzn (by omega), qzn (by omega), nI_add, h.2.2.2.2.2 _ (show b + k < e by omega), wdR]
    by_cases c : tp (b + k) = nI (List.getD [108, 111, 115, 115] k 0)
    · rw [if_pos c, decide_eq_true c, Bool.true_and]
      exact ih fu (k + 1) (by omega) (by omega)
    · rw [if_neg c, decide_eq_false c, Bool.false_and]
      obtain ⟨fu, rfl⟩ := Nat.exists_eq_succ_of_ne_zero (show fu ≠ 0 by omega)
      unfold hX12_isWords34_24
      rw [if_pos (show nI 0 = 0 from rfl)]
      rfl
theorem y_w34 (F : Nat) (hF : 500 ≤ F) (h : tpY tp e b a Y) (hba : b ≤ a) : eX12_isWords34 F Y = some (wB1 (wd tp [108, 111, 115, 115] b a)) := by
  have he := h.1; have hae := h.2.1
  unfold eX12_isWords34 wd
  rw [h.2.2.2.1, h.2.2.2.2.1, nI_sub hba]
  by_cases c : a - b = 4
  · rw [if_pos (show nI (a - b) = nI 4 by rw [c]), decide_eq_true (show a - b = [108, 111, 115, 115].length from c), Bool.true_and]
    exact y_w34L F h (by omega) 4 F 0 rfl (by omega)
  · rw [if_neg (fun z => c ((nI_eq (by omega) (by omega)).mp z)), decide_eq_false (show ¬ a - b = [108, 111, 115, 115].length from c), Bool.false_and]
    obtain ⟨f, rfl⟩ : ∃ f, F = f + 1 := ⟨F - 1, by omega⟩
    unfold hX12_isWords34_24
    rw [if_pos (show nI 0 = 0 from rfl)]
    rfl
theorem x_w7L (F : Nat) (hT : byT tp e) (h : tpX tp e b a X) (hba : b + 6 ≤ a) : ∀ (d fu k : Nat), k + d = 6 → d < fu → hX6_isWords7_20 F fu (nI k) X = some (wB1 (wdR tp [115, 111, 117, 114, 99, 101] b d k)) := by
  have he := h.1; have hae := h.2.1
  intro d
  induction d with
  | zero =>
    intro fu k h1 h2
    obtain ⟨fu, rfl⟩ := Nat.exists_eq_succ_of_ne_zero (show fu ≠ 0 by omega)
    unfold hX6_isWords7_20
    rw [if_pos ((nI_leI (by omega) (by omega)).mpr (by omega))]
    rfl
  | succ d ih =>
    intro fu k h1 h2
    obtain ⟨fu, rfl⟩ := Nat.exists_eq_succ_of_ne_zero (show fu ≠ 0 by omega)
    have hc : List.getD [115, 111, 117, 114, 99, 101] k 0 < 128 := by
      have : ∀ k, k < 6 → List.getD [115, 111, 117, 114, 99, 101] k 0 < 128 := by decide
      exact this k (by omega)
    unfold hX6_isWords7_20
    rw [if_neg (nI_ge (by omega) (by omega)), h.2.2.2.1, nI_add, x_byte h (show b + k < e by omega), qbd, qzin (show k < 6 by omega) (by omega), qchk, qzn (by omega), nI_add, wdR]
    by_cases c : tp (b + k) = nI (List.getD [115, 111, 117, 114, 99, 101] k 0)
    · rw [if_pos ((by_c (hT _ (by omega)) hc).mpr c), decide_eq_true c, Bool.true_and]
      exact ih fu (k + 1) (by omega) (by omega)
    · rw [if_neg (fun z => c ((by_c (hT _ (by omega)) hc).mp z)), decide_eq_false c, Bool.false_and]
      rfl
theorem x_w7 (F : Nat) (hF : 500 ≤ F) (hT : byT tp e) (h : tpX tp e b a X) (hba : b ≤ a) : eX6_isWords7 F X = some (wB1 (wd tp [115, 111, 117, 114, 99, 101] b a)) := by
  have he := h.1; have hae := h.2.1
  unfold eX6_isWords7 wd
  rw [h.2.2.2.1, h.2.2.2.2.1, nI_sub hba]
  by_cases c : a - b = 6
  · rw [if_pos (show nI (a - b) = nI 6 by rw [c]), decide_eq_true (show a - b = [115, 111, 117, 114, 99, 101].length from c), Bool.true_and]
    exact x_w7L F hT h (by omega) 6 F 0 rfl (by omega)
  · rw [if_neg (fun z => c ((nI_eq (by omega) (by omega)).mp z)), decide_eq_false (show ¬ a - b = [115, 111, 117, 114, 99, 101].length from c), Bool.false_and]
    rfl
theorem y_w35L (F : Nat) (h : tpY tp e b a Y) (hba : b + 6 ≤ a) : ∀ (d fu k : Nat), k + d = 6 → d + 1 < fu → hX12_isWords35_24 F fu (nI 1) (nI k) Y = some (wB1 (wdR tp [115, 111, 117, 114, 99, 101] b d k)) := by
  have he := h.1; have hae := h.2.1
  intro d
  induction d with
  | zero =>
    intro fu k h1 h2
    obtain ⟨fu, rfl⟩ := Nat.exists_eq_succ_of_ne_zero (show fu ≠ 0 by omega)
    unfold hX12_isWords35_24
    rw [if_neg (show ¬ nI 1 = 0 by decide), if_pos ((nI_leI (by omega) (by omega)).mpr (by omega))]
    rfl
  | succ d ih =>
    intro fu k h1 h2
    obtain ⟨fu, rfl⟩ := Nat.exists_eq_succ_of_ne_zero (show fu ≠ 0 by omega)
    unfold hX12_isWords35_24
    rw [if_neg (show ¬ nI 1 = 0 by decide), if_neg (nI_ge (by omega) (by omega)), h.2.2.2.1, nI_add, qzin (show b + k < 400 by omega) (by omega), qchk, qzin (show k < 6 by omega) (by omega), qchk, qzn (by omega), qzn (by omega), nI_add, h.2.2.2.2.2 _ (show b + k < e by omega), wdR]
    by_cases c : tp (b + k) = nI (List.getD [115, 111, 117, 114, 99, 101] k 0)
    · rw [if_pos c, decide_eq_true c, Bool.true_and]
      exact ih fu (k + 1) (by omega) (by omega)
    · rw [if_neg c, decide_eq_false c, Bool.false_and]
      obtain ⟨fu, rfl⟩ := Nat.exists_eq_succ_of_ne_zero (show fu ≠ 0 by omega)
      unfold hX12_isWords35_24
      rw [if_pos (show nI 0 = 0 from rfl)]
      rfl
theorem y_w35 (F : Nat) (hF : 500 ≤ F) (h : tpY tp e b a Y) (hba : b ≤ a) : eX12_isWords35 F Y = some (wB1 (wd tp [115, 111, 117, 114, 99, 101] b a)) := by
  have he := h.1; have hae := h.2.1
  unfold eX12_isWords35 wd
  rw [h.2.2.2.1, h.2.2.2.2.1, nI_sub hba]
  by_cases c : a - b = 6
  · rw [if_pos (show nI (a - b) = nI 6 by rw [c]), decide_eq_true (show a - b = [115, 111, 117, 114, 99, 101].length from c), Bool.true_and]
    exact y_w35L F h (by omega) 6 F 0 rfl (by omega)
  · rw [if_neg (fun z => c ((nI_eq (by omega) (by omega)).mp z)), decide_eq_false (show ¬ a - b = [115, 111, 117, 114, 99, 101].length from c), Bool.false_and]
    obtain ⟨f, rfl⟩ : ∃ f, F = f + 1 := ⟨F - 1, by omega⟩
    unfold hX12_isWords35_24
    rw [if_pos (show nI 0 = 0 from rfl)]
    rfl
theorem x_w5L (F : Nat) (hT : byT tp e) (h : tpX tp e b a X) (hba : b + 7 ≤ a) : ∀ (d fu k : Nat), k + d = 7 → d < fu → hX6_isWords5_20 F fu (nI k) X = some (wB1 (wdR tp [114, 101, 113, 117, 101, 115, 116] b d k)) := by
  have he := h.1; have hae := h.2.1
  intro d
  induction d with
  | zero =>
    intro fu k h1 h2
    obtain ⟨fu, rfl⟩ := Nat.exists_eq_succ_of_ne_zero (show fu ≠ 0 by omega)
    unfold hX6_isWords5_20
    rw [if_pos ((nI_leI (by omega) (by omega)).mpr (by omega))]
    rfl
  | succ d ih =>
    intro fu k h1 h2
    obtain ⟨fu, rfl⟩ := Nat.exists_eq_succ_of_ne_zero (show fu ≠ 0 by omega)
    have hc : List.getD [114, 101, 113, 117, 101, 115, 116] k 0 < 128 := by
      have : ∀ k, k < 7 → List.getD [114, 101, 113, 117, 101, 115, 116] k 0 < 128 := by decide
      exact this k (by omega)
    unfold hX6_isWords5_20
    rw [if_neg (nI_ge (by omega) (by omega)), h.2.2.2.1, nI_add, x_byte h (show b + k < e by omega), qbd, qzin (show k < 7 by omega) (by omega), qchk, qzn (by omega), nI_add, wdR]
    by_cases c : tp (b + k) = nI (List.getD [114, 101, 113, 117, 101, 115, 116] k 0)
    · rw [if_pos ((by_c (hT _ (by omega)) hc).mpr c), decide_eq_true c, Bool.true_and]
      exact ih fu (k + 1) (by omega) (by omega)
    · rw [if_neg (fun z => c ((by_c (hT _ (by omega)) hc).mp z)), decide_eq_false c, Bool.false_and]
      rfl
theorem x_w5 (F : Nat) (hF : 500 ≤ F) (hT : byT tp e) (h : tpX tp e b a X) (hba : b ≤ a) : eX6_isWords5 F X = some (wB1 (wd tp [114, 101, 113, 117, 101, 115, 116] b a)) := by
  have he := h.1; have hae := h.2.1
  unfold eX6_isWords5 wd
  rw [h.2.2.2.1, h.2.2.2.2.1, nI_sub hba]
  by_cases c : a - b = 7
  · rw [if_pos (show nI (a - b) = nI 7 by rw [c]), decide_eq_true (show a - b = [114, 101, 113, 117, 101, 115, 116].length from c), Bool.true_and]
    exact x_w5L F hT h (by omega) 7 F 0 rfl (by omega)
  · rw [if_neg (fun z => c ((nI_eq (by omega) (by omega)).mp z)), decide_eq_false (show ¬ a - b = [114, 101, 113, 117, 101, 115, 116].length from c), Bool.false_and]
    rfl
theorem y_w36L (F : Nat) (h : tpY tp e b a Y) (hba : b + 7 ≤ a) : ∀ (d fu k : Nat), k + d = 7 → d + 1 < fu → hX12_isWords36_24 F fu (nI 1) (nI k) Y = some (wB1 (wdR tp [114, 101, 113, 117, 101, 115, 116] b d k)) := by
  have he := h.1; have hae := h.2.1
  intro d
  induction d with
  | zero =>
    intro fu k h1 h2
    obtain ⟨fu, rfl⟩ := Nat.exists_eq_succ_of_ne_zero (show fu ≠ 0 by omega)
    unfold hX12_isWords36_24
    rw [if_neg (show ¬ nI 1 = 0 by decide), if_pos ((nI_leI (by omega) (by omega)).mpr (by omega))]
    rfl
  | succ d ih =>
    intro fu k h1 h2
    obtain ⟨fu, rfl⟩ := Nat.exists_eq_succ_of_ne_zero (show fu ≠ 0 by omega)
    unfold hX12_isWords36_24
    rw [if_neg (show ¬ nI 1 = 0 by decide), if_neg (nI_ge (by omega) (by omega)), h.2.2.2.1, nI_add, qzin (show b + k < 400 by omega) (by omega), qchk, qzin (show k < 7 by omega) (by omega), qchk, qzn (by omega), qzn (by omega), nI_add, h.2.2.2.2.2 _ (show b + k < e by omega), wdR]
    by_cases c : tp (b + k) = nI (List.getD [114, 101, 113, 117, 101, 115, 116] k 0)
    · rw [if_pos c, decide_eq_true c, Bool.true_and]
      exact ih fu (k + 1) (by omega) (by omega)
    · rw [if_neg c, decide_eq_false c, Bool.false_and]
      obtain ⟨fu, rfl⟩ := Nat.exists_eq_succ_of_ne_zero (show fu ≠ 0 by omega)
      unfold hX12_isWords36_24
      rw [if_pos (show nI 0 = 0 from rfl)]
      rfl
theorem y_w36 (F : Nat) (hF : 500 ≤ F) (h : tpY tp e b a Y) (hba : b ≤ a) : eX12_isWords36 F Y = some (wB1 (wd tp [114, 101, 113, 117, 101, 115, 116] b a)) := by
  have he := h.1; have hae := h.2.1
  unfold eX12_isWords36 wd
  rw [h.2.2.2.1, h.2.2.2.2.1, nI_sub hba]
  by_cases c : a - b = 7
  · rw [if_pos (show nI (a - b) = nI 7 by rw [c]), decide_eq_true (show a - b = [114, 101, 113, 117, 101, 115, 116].length from c), Bool.true_and]
    exact y_w36L F h (by omega) 7 F 0 rfl (by omega)
  · rw [if_neg (fun z => c ((nI_eq (by omega) (by omega)).mp z)), decide_eq_false (show ¬ a - b = [114, 101, 113, 117, 101, 115, 116].length from c), Bool.false_and]
    obtain ⟨f, rfl⟩ : ∃ f, F = f + 1 := ⟨F - 1, by omega⟩
    unfold hX12_isWords36_24
    rw [if_pos (show nI 0 = 0 from rfl)]
    rfl
theorem x_w6L (F : Nat) (hT : byT tp e) (h : tpX tp e b a X) (hba : b + 6 ≤ a) : ∀ (d fu k : Nat), k + d = 6 → d < fu → hX6_isWords6_20 F fu (nI k) X = some (wB1 (wdR tp [114, 101, 112, 97, 105, 114] b d k)) := by
  have he := h.1; have hae := h.2.1
  intro d
  induction d with
  | zero =>
    intro fu k h1 h2
    obtain ⟨fu, rfl⟩ := Nat.exists_eq_succ_of_ne_zero (show fu ≠ 0 by omega)
    unfold hX6_isWords6_20
    rw [if_pos ((nI_leI (by omega) (by omega)).mpr (by omega))]
    rfl
  | succ d ih =>
    intro fu k h1 h2
    obtain ⟨fu, rfl⟩ := Nat.exists_eq_succ_of_ne_zero (show fu ≠ 0 by omega)
    have hc : List.getD [114, 101, 112, 97, 105, 114] k 0 < 128 := by
      have : ∀ k, k < 6 → List.getD [114, 101, 112, 97, 105, 114] k 0 < 128 := by decide
      exact this k (by omega)
    unfold hX6_isWords6_20
    rw [if_neg (nI_ge (by omega) (by omega)), h.2.2.2.1, nI_add, x_byte h (show b + k < e by omega), qbd, qzin (show k < 6 by omega) (by omega), qchk, qzn (by omega), nI_add, wdR]
    by_cases c : tp (b + k) = nI (List.getD [114, 101, 112, 97, 105, 114] k 0)
    · rw [if_pos ((by_c (hT _ (by omega)) hc).mpr c), decide_eq_true c, Bool.true_and]
      exact ih fu (k + 1) (by omega) (by omega)
    · rw [if_neg (fun z => c ((by_c (hT _ (by omega)) hc).mp z)), decide_eq_false c, Bool.false_and]
      rfl
theorem x_w6 (F : Nat) (hF : 500 ≤ F) (hT : byT tp e) (h : tpX tp e b a X) (hba : b ≤ a) : eX6_isWords6 F X = some (wB1 (wd tp [114, 101, 112, 97, 105, 114] b a)) := by
  have he := h.1; have hae := h.2.1
  unfold eX6_isWords6 wd
  rw [h.2.2.2.1, h.2.2.2.2.1, nI_sub hba]
  by_cases c : a - b = 6
  · rw [if_pos (show nI (a - b) = nI 6 by rw [c]), decide_eq_true (show a - b = [114, 101, 112, 97, 105, 114].length from c), Bool.true_and]
    exact x_w6L F hT h (by omega) 6 F 0 rfl (by omega)
  · rw [if_neg (fun z => c ((nI_eq (by omega) (by omega)).mp z)), decide_eq_false (show ¬ a - b = [114, 101, 112, 97, 105, 114].length from c), Bool.false_and]
    rfl
theorem y_w37L (F : Nat) (h : tpY tp e b a Y) (hba : b + 6 ≤ a) : ∀ (d fu k : Nat), k + d = 6 → d + 1 < fu → hX12_isWords37_24 F fu (nI 1) (nI k) Y = some (wB1 (wdR tp [114, 101, 112, 97, 105, 114] b d k)) := by
  have he := h.1; have hae := h.2.1
  intro d
  induction d with
  | zero =>
    intro fu k h1 h2
    obtain ⟨fu, rfl⟩ := Nat.exists_eq_succ_of_ne_zero (show fu ≠ 0 by omega)
    unfold hX12_isWords37_24
    rw [if_neg (show ¬ nI 1 = 0 by decide), if_pos ((nI_leI (by omega) (by omega)).mpr (by omega))]
    rfl
  | succ d ih =>
    intro fu k h1 h2
    obtain ⟨fu, rfl⟩ := Nat.exists_eq_succ_of_ne_zero (show fu ≠ 0 by omega)
    unfold hX12_isWords37_24
    rw [if_neg (show ¬ nI 1 = 0 by decide), if_neg (nI_ge (by omega) (by omega)), h.2.2.2.1, nI_add, qzin (show b + k < 400 by omega) (by omega), qchk, qzin (show k < 6 by omega) (by omega), qchk, qzn (by omega), qzn (by omega), nI_add, h.2.2.2.2.2 _ (show b + k < e by omega), wdR]
    by_cases c : tp (b + k) = nI (List.getD [114, 101, 112, 97, 105, 114] k 0)
    · rw [if_pos c, decide_eq_true c, Bool.true_and]
      exact ih fu (k + 1) (by omega) (by omega)
    · rw [if_neg c, decide_eq_false c, Bool.false_and]
      obtain ⟨fu, rfl⟩ := Nat.exists_eq_succ_of_ne_zero (show fu ≠ 0 by omega)
      unfold hX12_isWords37_24
      rw [if_pos (show nI 0 = 0 from rfl)]
      rfl
theorem y_w37 (F : Nat) (hF : 500 ≤ F) (h : tpY tp e b a Y) (hba : b ≤ a) : eX12_isWords37 F Y = some (wB1 (wd tp [114, 101, 112, 97, 105, 114] b a)) := by
  have he := h.1; have hae := h.2.1
  unfold eX12_isWords37 wd
  rw [h.2.2.2.1, h.2.2.2.2.1, nI_sub hba]
  by_cases c : a - b = 6
  · rw [if_pos (show nI (a - b) = nI 6 by rw [c]), decide_eq_true (show a - b = [114, 101, 112, 97, 105, 114].length from c), Bool.true_and]
    exact y_w37L F h (by omega) 6 F 0 rfl (by omega)
  · rw [if_neg (fun z => c ((nI_eq (by omega) (by omega)).mp z)), decide_eq_false (show ¬ a - b = [114, 101, 112, 97, 105, 114].length from c), Bool.false_and]
    obtain ⟨f, rfl⟩ : ∃ f, F = f + 1 := ⟨F - 1, by omega⟩
    unfold hX12_isWords37_24
    rw [if_pos (show nI 0 = 0 from rfl)]
    rfl
theorem x_w8L (F : Nat) (hT : byT tp e) (h : tpX tp e b a X) (hba : b + 5 ≤ a) : ∀ (d fu k : Nat), k + d = 5 → d < fu → hX6_isWords8_20 F fu (nI k) X = some (wB1 (wdR tp [115, 99, 111, 112, 101] b d k)) := by
  have he := h.1; have hae := h.2.1
  intro d
  induction d with
  | zero =>
    intro fu k h1 h2
    obtain ⟨fu, rfl⟩ := Nat.exists_eq_succ_of_ne_zero (show fu ≠ 0 by omega)
    unfold hX6_isWords8_20
    rw [if_pos ((nI_leI (by omega) (by omega)).mpr (by omega))]
    rfl
  | succ d ih =>
    intro fu k h1 h2
    obtain ⟨fu, rfl⟩ := Nat.exists_eq_succ_of_ne_zero (show fu ≠ 0 by omega)
    have hc : List.getD [115, 99, 111, 112, 101] k 0 < 128 := by
      have : ∀ k, k < 5 → List.getD [115, 99, 111, 112, 101] k 0 < 128 := by decide
      exact this k (by omega)
    unfold hX6_isWords8_20
    rw [if_neg (nI_ge (by omega) (by omega)), h.2.2.2.1, nI_add, x_byte h (show b + k < e by omega), qbd, qzin (show k < 5 by omega) (by omega), qchk, qzn (by omega), nI_add, wdR]
    by_cases c : tp (b + k) = nI (List.getD [115, 99, 111, 112, 101] k 0)
    · rw [if_pos ((by_c (hT _ (by omega)) hc).mpr c), decide_eq_true c, Bool.true_and]
      exact ih fu (k + 1) (by omega) (by omega)
    · rw [if_neg (fun z => c ((by_c (hT _ (by omega)) hc).mp z)), decide_eq_false c, Bool.false_and]
      rfl
theorem x_w8 (F : Nat) (hF : 500 ≤ F) (hT : byT tp e) (h : tpX tp e b a X) (hba : b ≤ a) : eX6_isWords8 F X = some (wB1 (wd tp [115, 99, 111, 112, 101] b a)) := by
  have he := h.1; have hae := h.2.1
  unfold eX6_isWords8 wd
  rw [h.2.2.2.1, h.2.2.2.2.1, nI_sub hba]
  by_cases c : a - b = 5
  · rw [if_pos (show nI (a - b) = nI 5 by rw [c]), decide_eq_true (show a - b = [115, 99, 111, 112, 101].length from c), Bool.true_and]
    exact x_w8L F hT h (by omega) 5 F 0 rfl (by omega)
  · rw [if_neg (fun z => c ((nI_eq (by omega) (by omega)).mp z)), decide_eq_false (show ¬ a - b = [115, 99, 111, 112, 101].length from c), Bool.false_and]
    rfl
theorem y_w38L (F : Nat) (h : tpY tp e b a Y) (hba : b + 5 ≤ a) : ∀ (d fu k : Nat), k + d = 5 → d + 1 < fu → hX12_isWords38_24 F fu (nI 1) (nI k) Y = some (wB1 (wdR tp [115, 99, 111, 112, 101] b d k)) := by
  have he := h.1; have hae := h.2.1
  intro d
  induction d with
  | zero =>
    intro fu k h1 h2
    obtain ⟨fu, rfl⟩ := Nat.exists_eq_succ_of_ne_zero (show fu ≠ 0 by omega)
    unfold hX12_isWords38_24
    rw [if_neg (show ¬ nI 1 = 0 by decide), if_pos ((nI_leI (by omega) (by omega)).mpr (by omega))]
    rfl
  | succ d ih =>
    intro fu k h1 h2
    obtain ⟨fu, rfl⟩ := Nat.exists_eq_succ_of_ne_zero (show fu ≠ 0 by omega)
    unfold hX12_isWords38_24
    rw [if_neg (show ¬ nI 1 = 0 by decide), if_neg (nI_ge (by omega) (by omega)), h.2.2.2.1, nI_add, qzin (show b + k < 400 by omega) (by omega), qchk, qzin (show k < 5 by omega) (by omega), qchk, qzn (by omega), qzn (by omega), nI_add, h.2.2.2.2.2 _ (show b + k < e by omega), wdR]
    by_cases c : tp (b + k) = nI (List.getD [115, 99, 111, 112, 101] k 0)
    · rw [if_pos c, decide_eq_true c, Bool.true_and]
      exact ih fu (k + 1) (by omega) (by omega)
    · rw [if_neg c, decide_eq_false c, Bool.false_and]
      obtain ⟨fu, rfl⟩ := Nat.exists_eq_succ_of_ne_zero (show fu ≠ 0 by omega)
      unfold hX12_isWords38_24
      rw [if_pos (show nI 0 = 0 from rfl)]
      rfl
theorem y_w38 (F : Nat) (hF : 500 ≤ F) (h : tpY tp e b a Y) (hba : b ≤ a) : eX12_isWords38 F Y = some (wB1 (wd tp [115, 99, 111, 112, 101] b a)) := by
  have he := h.1; have hae := h.2.1
  unfold eX12_isWords38 wd
  rw [h.2.2.2.1, h.2.2.2.2.1, nI_sub hba]
  by_cases c : a - b = 5
  · rw [if_pos (show nI (a - b) = nI 5 by rw [c]), decide_eq_true (show a - b = [115, 99, 111, 112, 101].length from c), Bool.true_and]
    exact y_w38L F h (by omega) 5 F 0 rfl (by omega)
  · rw [if_neg (fun z => c ((nI_eq (by omega) (by omega)).mp z)), decide_eq_false (show ¬ a - b = [115, 99, 111, 112, 101].length from c), Bool.false_and]
    obtain ⟨f, rfl⟩ : ∃ f, F = f + 1 := ⟨F - 1, by omega⟩
    unfold hX12_isWords38_24
    rw [if_pos (show nI 0 = 0 from rfl)]
    rfl
theorem x_w9L (F : Nat) (hT : byT tp e) (h : tpX tp e b a X) (hba : b + 7 ≤ a) : ∀ (d fu k : Nat), k + d = 7 → d < fu → hX6_isWords9_20 F fu (nI k) X = some (wB1 (wdR tp [115, 101, 115, 115, 105, 111, 110] b d k)) := by
  have he := h.1; have hae := h.2.1
  intro d
  induction d with
  | zero =>
    intro fu k h1 h2
    obtain ⟨fu, rfl⟩ := Nat.exists_eq_succ_of_ne_zero (show fu ≠ 0 by omega)
    unfold hX6_isWords9_20
    rw [if_pos ((nI_leI (by omega) (by omega)).mpr (by omega))]
    rfl
  | succ d ih =>
    intro fu k h1 h2
    obtain ⟨fu, rfl⟩ := Nat.exists_eq_succ_of_ne_zero (show fu ≠ 0 by omega)
    have hc : List.getD [115, 101, 115, 115, 105, 111, 110] k 0 < 128 := by
      have : ∀ k, k < 7 → List.getD [115, 101, 115, 115, 105, 111, 110] k 0 < 128 := by decide
      exact this k (by omega)
    unfold hX6_isWords9_20
    rw [if_neg (nI_ge (by omega) (by omega)), h.2.2.2.1, nI_add, x_byte h (show b + k < e by omega), qbd, qzin (show k < 7 by omega) (by omega), qchk, qzn (by omega), nI_add, wdR]
    by_cases c : tp (b + k) = nI (List.getD [115, 101, 115, 115, 105, 111, 110] k 0)
    · rw [if_pos ((by_c (hT _ (by omega)) hc).mpr c), decide_eq_true c, Bool.true_and]
      exact ih fu (k + 1) (by omega) (by omega)
    · rw [if_neg (fun z => c ((by_c (hT _ (by omega)) hc).mp z)), decide_eq_false c, Bool.false_and]
      rfl
theorem x_w9 (F : Nat) (hF : 500 ≤ F) (hT : byT tp e) (h : tpX tp e b a X) (hba : b ≤ a) : eX6_isWords9 F X = some (wB1 (wd tp [115, 101, 115, 115, 105, 111, 110] b a)) := by
  have he := h.1; have hae := h.2.1
  unfold eX6_isWords9 wd
  rw [h.2.2.2.1, h.2.2.2.2.1, nI_sub hba]
  by_cases c : a - b = 7
  · rw [if_pos (show nI (a - b) = nI 7 by rw [c]), decide_eq_true (show a - b = [115, 101, 115, 115, 105, 111, 110].length from c), Bool.true_and]
    exact x_w9L F hT h (by omega) 7 F 0 rfl (by omega)
  · rw [if_neg (fun z => c ((nI_eq (by omega) (by omega)).mp z)), decide_eq_false (show ¬ a - b = [115, 101, 115, 115, 105, 111, 110].length from c), Bool.false_and]
    rfl
theorem y_w39L (F : Nat) (h : tpY tp e b a Y) (hba : b + 7 ≤ a) : ∀ (d fu k : Nat), k + d = 7 → d + 1 < fu → hX12_isWords39_24 F fu (nI 1) (nI k) Y = some (wB1 (wdR tp [115, 101, 115, 115, 105, 111, 110] b d k)) := by
  have he := h.1; have hae := h.2.1
  intro d
  induction d with
  | zero =>
    intro fu k h1 h2
    obtain ⟨fu, rfl⟩ := Nat.exists_eq_succ_of_ne_zero (show fu ≠ 0 by omega)
    unfold hX12_isWords39_24
    rw [if_neg (show ¬ nI 1 = 0 by decide), if_pos ((nI_leI (by omega) (by omega)).mpr (by omega))]
    rfl
  | succ d ih =>
    intro fu k h1 h2
    obtain ⟨fu, rfl⟩ := Nat.exists_eq_succ_of_ne_zero (show fu ≠ 0 by omega)
    unfold hX12_isWords39_24
    rw [if_neg (show ¬ nI 1 = 0 by decide), if_neg (nI_ge (by omega) (by omega)), h.2.2.2.1, nI_add, qzin (show b + k < 400 by omega) (by omega), qchk, qzin (show k < 7 by omega) (by omega), qchk, qzn (by omega), qzn (by omega), nI_add, h.2.2.2.2.2 _ (show b + k < e by omega), wdR]
    by_cases c : tp (b + k) = nI (List.getD [115, 101, 115, 115, 105, 111, 110] k 0)
    · rw [if_pos c, decide_eq_true c, Bool.true_and]
      exact ih fu (k + 1) (by omega) (by omega)
    · rw [if_neg c, decide_eq_false c, Bool.false_and]
      obtain ⟨fu, rfl⟩ := Nat.exists_eq_succ_of_ne_zero (show fu ≠ 0 by omega)
      unfold hX12_isWords39_24
      rw [if_pos (show nI 0 = 0 from rfl)]
      rfl
theorem y_w39 (F : Nat) (hF : 500 ≤ F) (h : tpY tp e b a Y) (hba : b ≤ a) : eX12_isWords39 F Y = some (wB1 (wd tp [115, 101, 115, 115, 105, 111, 110] b a)) := by
  have he := h.1; have hae := h.2.1
  unfold eX12_isWords39 wd
  rw [h.2.2.2.1, h.2.2.2.2.1, nI_sub hba]
  by_cases c : a - b = 7
  · rw [if_pos (show nI (a - b) = nI 7 by rw [c]), decide_eq_true (show a - b = [115, 101, 115, 115, 105, 111, 110].length from c), Bool.true_and]
    exact y_w39L F h (by omega) 7 F 0 rfl (by omega)
  · rw [if_neg (fun z => c ((nI_eq (by omega) (by omega)).mp z)), decide_eq_false (show ¬ a - b = [115, 101, 115, 115, 105, 111, 110].length from c), Bool.false_and]
    obtain ⟨f, rfl⟩ : ∃ f, F = f + 1 := ⟨F - 1, by omega⟩
    unfold hX12_isWords39_24
    rw [if_pos (show nI 0 = 0 from rfl)]
    rfl
theorem x_w10L (F : Nat) (hT : byT tp e) (h : tpX tp e b a X) (hba : b + 4 ≤ a) : ∀ (d fu k : Nat), k + d = 4 → d < fu → hX6_isWords10_20 F fu (nI k) X = some (wB1 (wdR tp [114, 97, 116, 101] b d k)) := by
  have he := h.1; have hae := h.2.1
  intro d
  induction d with
  | zero =>
    intro fu k h1 h2
    obtain ⟨fu, rfl⟩ := Nat.exists_eq_succ_of_ne_zero (show fu ≠ 0 by omega)
    unfold hX6_isWords10_20
    rw [if_pos ((nI_leI (by omega) (by omega)).mpr (by omega))]
    rfl
  | succ d ih =>
    intro fu k h1 h2
    obtain ⟨fu, rfl⟩ := Nat.exists_eq_succ_of_ne_zero (show fu ≠ 0 by omega)
    have hc : List.getD [114, 97, 116, 101] k 0 < 128 := by
      have : ∀ k, k < 4 → List.getD [114, 97, 116, 101] k 0 < 128 := by decide
      exact this k (by omega)
    unfold hX6_isWords10_20
    rw [if_neg (nI_ge (by omega) (by omega)), h.2.2.2.1, nI_add, x_byte h (show b + k < e by omega), qbd, qzin (show k < 4 by omega) (by omega), qchk, qzn (by omega), nI_add, wdR]
    by_cases c : tp (b + k) = nI (List.getD [114, 97, 116, 101] k 0)
    · rw [if_pos ((by_c (hT _ (by omega)) hc).mpr c), decide_eq_true c, Bool.true_and]
      exact ih fu (k + 1) (by omega) (by omega)
    · rw [if_neg (fun z => c ((by_c (hT _ (by omega)) hc).mp z)), decide_eq_false c, Bool.false_and]
      rfl
theorem x_w10 (F : Nat) (hF : 500 ≤ F) (hT : byT tp e) (h : tpX tp e b a X) (hba : b ≤ a) : eX6_isWords10 F X = some (wB1 (wd tp [114, 97, 116, 101] b a)) := by
  have he := h.1; have hae := h.2.1
  unfold eX6_isWords10 wd
  rw [h.2.2.2.1, h.2.2.2.2.1, nI_sub hba]
  by_cases c : a - b = 4
  · rw [if_pos (show nI (a - b) = nI 4 by rw [c]), decide_eq_true (show a - b = [114, 97, 116, 101].length from c), Bool.true_and]
    exact x_w10L F hT h (by omega) 4 F 0 rfl (by omega)
  · rw [if_neg (fun z => c ((nI_eq (by omega) (by omega)).mp z)), decide_eq_false (show ¬ a - b = [114, 97, 116, 101].length from c), Bool.false_and]
    rfl
theorem y_w40L (F : Nat) (h : tpY tp e b a Y) (hba : b + 4 ≤ a) : ∀ (d fu k : Nat), k + d = 4 → d + 1 < fu → hX12_isWords40_24 F fu (nI 1) (nI k) Y = some (wB1 (wdR tp [114, 97, 116, 101] b d k)) := by
  have he := h.1; have hae := h.2.1
  intro d
  induction d with
  | zero =>
    intro fu k h1 h2
    obtain ⟨fu, rfl⟩ := Nat.exists_eq_succ_of_ne_zero (show fu ≠ 0 by omega)
    unfold hX12_isWords40_24
    rw [if_neg (show ¬ nI 1 = 0 by decide), if_pos ((nI_leI (by omega) (by omega)).mpr (by omega))]
    rfl
  | succ d ih =>
    intro fu k h1 h2
    obtain ⟨fu, rfl⟩ := Nat.exists_eq_succ_of_ne_zero (show fu ≠ 0 by omega)
    unfold hX12_isWords40_24
    rw [if_neg (show ¬ nI 1 = 0 by decide), if_neg (nI_ge (by omega) (by omega)), h.2.2.2.1, nI_add, qzin (show b + k < 400 by omega) (by omega), qchk, qzin (show k < 4 by omega) (by omega), qchk, qzn (by omega), qzn (by omega), nI_add, h.2.2.2.2.2 _ (show b + k < e by omega), wdR]
    by_cases c : tp (b + k) = nI (List.getD [114, 97, 116, 101] k 0)
    · rw [if_pos c, decide_eq_true c, Bool.true_and]
      exact ih fu (k + 1) (by omega) (by omega)
    · rw [if_neg c, decide_eq_false c, Bool.false_and]
      obtain ⟨fu, rfl⟩ := Nat.exists_eq_succ_of_ne_zero (show fu ≠ 0 by omega)
      unfold hX12_isWords40_24
      rw [if_pos (show nI 0 = 0 from rfl)]
      rfl
theorem y_w40 (F : Nat) (hF : 500 ≤ F) (h : tpY tp e b a Y) (hba : b ≤ a) : eX12_isWords40 F Y = some (wB1 (wd tp [114, 97, 116, 101] b a)) := by
  have he := h.1; have hae := h.2.1
  unfold eX12_isWords40 wd
  rw [h.2.2.2.1, h.2.2.2.2.1, nI_sub hba]
  by_cases c : a - b = 4
  · rw [if_pos (show nI (a - b) = nI 4 by rw [c]), decide_eq_true (show a - b = [114, 97, 116, 101].length from c), Bool.true_and]
    exact y_w40L F h (by omega) 4 F 0 rfl (by omega)
  · rw [if_neg (fun z => c ((nI_eq (by omega) (by omega)).mp z)), decide_eq_false (show ¬ a - b = [114, 97, 116, 101].length from c), Bool.false_and]
    obtain ⟨f, rfl⟩ : ∃ f, F = f + 1 := ⟨F - 1, by omega⟩
    unfold hX12_isWords40_24
    rw [if_pos (show nI 0 = 0 from rfl)]
    rfl
end WD
