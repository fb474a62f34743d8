/-! the pure side: numbers -/
theorem nI_mul (a b : Nat) : nI a * nI b = nI (a * b) := (Int32.ofNat_mul a b).symm
theorem qchk {α : Type} (o : Option α) : zchk true o = o := rfl
theorem qbd {α β : Type} (a : α) (f : α → Option β) : zbd (some a) f = f a := rfl
theorem qlet {α β : Type} (x : α) (f : α → β) : zlet x f = f x := rfl
theorem qzn {k : Nat} (h : k < 2147483648) : zn (nI k) = k := nI_clamp h
theorem qzin {i n : Nat} (h : i < n) (hn : n < 2147483648) : zin (nI i) n = true := zin_nI h hn
theorem q_m1 : (-1 : Int32).toInt = -1 := by decide
theorem nI_ne_m1 {a : Nat} (h : a < 2147483648) : ¬ nI a = -1 := by
  intro z
  have := congrArg Int32.toInt z
  rw [nI_toInt h, q_m1] at this
  omega
theorem nI_sub {a b : Nat} (h : b ≤ a) : nI a - nI b = nI (a - b) := by
  have e : nI a = nI (a - b) + nI b := by rw [nI_add, Nat.sub_add_cancel h]
  rw [e, Int32.add_sub_cancel]
theorem nI_div {a b : Nat} (ha : a < 2147483648) (hb : b < 2147483648) : nI a / nI b = nI (a / b) := by
  apply Int32.toInt_inj.mp
  have hd : a / b ≤ a := Nat.div_le_self a b
  rw [nI_toInt (by omega : a / b < 2 ^ 31), Int32.toInt_div, nI_toInt ha, nI_toInt hb, show ((a : Int).tdiv (b : Int)) = ((a / b : Nat) : Int) from (Int.ofNat_tdiv a b).symm, Int.bmod_def]
  generalize a / b = q at *
  split <;> omega
theorem nI_rem {a b : Nat} (ha : a < 2147483648) (hb : b < 2147483648) : zrem (nI a) (nI b) = nI (a % b) := by
  unfold zrem
  have h := Nat.div_mul_le_self a b
  rw [nI_div ha hb, nI_mul, nI_sub h]
  congr 1
  have := Nat.div_add_mod a b
  rw [Nat.mul_comm] at this
  omega
theorem zmx_nI {a b : Nat} (ha : a < 2147483648) (hb : b < 2147483648) : zmx (nI a) (nI b) = nI (max a b) := by
  unfold zmx
  by_cases h : a < b
  · rw [if_pos ((nI_ltI ha hb).mpr h), Nat.max_eq_right (by omega)]
  · rw [if_neg (fun z => h ((nI_ltI ha hb).mp z)), Nat.max_eq_left (by omega)]
theorem zmn_nI {a b : Nat} (ha : a < 2147483648) (hb : b < 2147483648) : zmn (nI a) (nI b) = nI (min a b) := by
  unfold zmn
  by_cases h : b < a
  · rw [if_pos ((nI_ltI hb ha).mpr h), Nat.min_eq_right (by omega)]
  · rw [if_neg (fun z => h ((nI_ltI hb ha).mp z)), Nat.min_eq_left (by omega)]
theorem zmx_int (a b : Int32) : (zmx a b).toInt = max a.toInt b.toInt := by
  unfold zmx; split
  · next h => rw [Int32.lt_iff_toInt_lt] at h; omega
  · next h => rw [Int32.lt_iff_toInt_lt] at h; omega
theorem zmn_int (a b : Int32) : (zmn a b).toInt = min a.toInt b.toInt := by
  unfold zmn; split
  · next h => rw [Int32.lt_iff_toInt_lt] at h; omega
  · next h => rw [Int32.lt_iff_toInt_lt] at h; omega
theorem zmx_com (a b : Int32) : zmx a b = zmx b a := Int32.toInt_inj.mp (by rw [zmx_int, zmx_int, Int.max_comm])
theorem zmn_com (a b : Int32) : zmn a b = zmn b a := Int32.toInt_inj.mp (by rw [zmn_int, zmn_int, Int.min_comm])
/-- a bit of a word -/
def hb (v : Int32) (p : Nat) : Prop := ((v >>> (nI p &&& 31)) &&& nI 1) = nI 1
theorem b_1 (i : Nat) : bt (nI 1) i = decide (i = 0) := by
  unfold bt
  show (1#32).getLsbD i = _
  rw [BitVec.getLsbD_one]; simp
theorem hb_bt {v : Int32} {p : Nat} (hp : p < 32) : hb v p ↔ bt v p = true := by
  unfold hb
  constructor
  · intro h
    have := congrArg (fun x => bt x 0) h
    simp only [b_and, b_1, b_sshr p hp v (by omega : 0 < 32)] at this
    simpa [hp] using this
  · intro h
    apply b_ext
    intro i hi
    rw [b_and, b_sshr p hp v hi, b_1]
    by_cases h0 : i = 0
    · subst h0; simp [hp, h]
    · simp [h0]
theorem hb_1shl {p q : Nat} (hp : p < 32) (hq : q < 32) : bt (nI 1 <<< (nI p &&& 31)) q = decide (q = p) := by
  rw [b_shl p hp _ hq, b_1]
  by_cases h : q = p
  · subst h; simp
  · have : ¬ (p ≤ q ∧ q - p = 0) := by omega
    simp only [h, decide_false]
    by_cases h2 : p ≤ q
    · have : ¬ q - p = 0 := by omega
      simp [this]
    · simp [h2]
theorem hb_or {v : Int32} {p q : Nat} (hp : p < 32) (hq : q < 32) : hb (v ||| (nI 1 <<< (nI p &&& 31))) q ↔ hb v q ∨ q = p := by
  rw [hb_bt hq, hb_bt hq, b_or, hb_1shl hp hq]; simp
theorem hb_xor {v : Int32} {p q : Nat} (hp : p < 32) (hq : q < 32) : hb (v ^^^ (nI 1 <<< (nI p &&& 31))) q ↔ (if q = p then ¬ hb v q else hb v q) := by
  rw [hb_bt hq, hb_bt hq, b_xor, hb_1shl hp hq]
  by_cases h : q = p <;> simp [h]
theorem hb_off {v : Int32} {p q : Nat} (hp : p < 32) (hq : q < 32) : hb (v &&& ((nI 1 <<< (nI p &&& 31)) ^^^ (-1))) q ↔ hb v q ∧ q ≠ p := by
  rw [hb_bt hq, hb_bt hq, b_and, b_xor, hb_1shl hp hq, b_m1 q hq]
  by_cases h : q = p <;> simp [h]
theorem hb_orw {v w : Int32} {q : Nat} (hq : q < 32) : hb (v ||| w) q ↔ hb v q ∨ hb w q := by
  rw [hb_bt hq, hb_bt hq, hb_bt hq, b_or]; simp
theorem hb_andw {v w : Int32} {q : Nat} (hq : q < 32) : hb (v &&& w) q ↔ hb v q ∧ hb w q := by
  rw [hb_bt hq, hb_bt hq, hb_bt hq, b_and]; simp
theorem hb_not {w : Int32} {q : Nat} (hq : q < 32) : hb (w ^^^ (-1)) q ↔ ¬ hb w q := by
  rw [hb_bt hq, hb_bt hq, b_xor, b_m1 q hq]; simp
theorem hb_0 {q : Nat} (hq : q < 32) : ¬ hb 0 q := by
  rw [hb_bt hq, b_0]; simp
theorem hb_ext {v w : Int32} (h : ∀ q, q < 32 → (hb v q ↔ hb w q)) : v = w := by
  apply b_ext
  intro i hi
  have := h i hi
  rw [hb_bt hi, hb_bt hi] at this
  exact Bool.eq_iff_iff.mpr this
theorem hb_below : ∀ n, n < 32 → ∀ q, q < 32 → (((nI 1 <<< (nI n &&& 31)) - nI 1).toBitVec.getLsbD q = decide (q < n)) := by decide +kernel
theorem hb_bel {n q : Nat} (hn : n < 32) (hq : q < 32) : hb ((nI 1 <<< (nI n &&& 31)) - nI 1) q ↔ q < n := by
  rw [hb_bt hq, show bt _ q = _ from hb_below n hn q hq]; simp
theorem hb_nI {k q : Nat} (hk : k < 2147483648) (hq : q < 32) : hb (nI k) q ↔ k.testBit q = true := by
  rw [hb_bt hq]
  unfold bt
  show (BitVec.ofNat 32 k).getLsbD q = true ↔ _
  rw [BitVec.getLsbD_ofNat]; simp [hq]
/-- rows: places written -/
theorem zw_in {X : zX} {k i a b : Nat} {v : Int32} : zw X k i v a b = if a = k ∧ b = i then v else X a b := by
  unfold zw zr upd
  by_cases h1 : a = k
  · subst h1; rw [if_pos rfl]; by_cases h2 : b = i <;> simp [h2]
  · rw [if_neg h1, if_neg (fun z => h1 z.1)]
theorem zw_no {X : zX} {k i a b : Nat} {v : Int32} (h : a ≠ k ∨ b ≠ i) : zw X k i v a b = X a b := by
  rw [zw_in, if_neg (fun z => h.elim (fun q => q z.1) (fun q => q z.2))]
theorem zw_row_ne {X : zX} {k i a : Nat} {v : Int32} (h : ¬ a = k) : zw X k i v a = X a := zw_nk h
/-- an int that is a number up to N; or -1 -/
def leN (v : Int32) (N : Nat) : Prop := ∃ j, j ≤ N ∧ v = nI j
def lm1 (v : Int32) (N : Nat) : Prop := v = -1 ∨ leN v N
theorem leN_int {v : Int32} {N : Nat} (hN : N < 2147483648) : leN v N ↔ 0 ≤ v.toInt ∧ v.toInt ≤ N := by
  constructor
  · rintro ⟨j, hj, rfl⟩
    rw [nI_toInt (by omega)]; omega
  · rintro ⟨h1, h2⟩
    refine ⟨v.toInt.toNat, by omega, Int32.toInt_inj.mp ?_⟩
    rw [nI_toInt (by omega)]; omega
theorem lm1_int {v : Int32} {N : Nat} (hN : N < 2147483648) : lm1 v N ↔ -1 ≤ v.toInt ∧ v.toInt ≤ N := by
  unfold lm1
  rw [leN_int hN, ← Int32.toInt_inj, q_m1]; omega
theorem leN.mono {v : Int32} {N N' : Nat} (h : leN v N) (hN : N ≤ N') : leN v N' := by
  obtain ⟨j, hj, e⟩ := h; exact ⟨j, Nat.le_trans hj hN, e⟩
theorem leN_nI {j N : Nat} (h : j ≤ N) : leN (nI j) N := ⟨j, h, rfl⟩
