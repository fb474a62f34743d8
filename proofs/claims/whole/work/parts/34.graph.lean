/-! graphs: links, ways, trees (numbers alone) -/
def ff (p : Nat → Bool) : Nat → Nat → Nat
  | 0, k => k
  | d + 1, k => if p k then k else ff p d (k + 1)
theorem ff_ge (p : Nat → Bool) : ∀ d k, k ≤ ff p d k ∧ ff p d k ≤ k + d
  | 0, k => ⟨Nat.le_refl _, Nat.le_refl _⟩
  | d + 1, k => by
    have := ff_ge p d (k + 1)
    unfold ff; split <;> omega
theorem ff_yes (p : Nat → Bool) : ∀ d k, ff p d k < k + d → p (ff p d k) = true
  | 0, k, h => absurd h (by unfold ff; omega)
  | d + 1, k, h => by
    unfold ff at h ⊢
    by_cases c : p k = true
    · rw [if_pos c]; exact c
    · rw [if_neg c] at h ⊢
      exact ff_yes p d (k + 1) (by omega)
theorem ff_no (p : Nat → Bool) : ∀ d k i, k ≤ i → i < ff p d k → p i = false
  | 0, k, i, h1, h2 => absurd h2 (by unfold ff; omega)
  | d + 1, k, i, h1, h2 => by
    unfold ff at h2
    by_cases c : p k = true
    · rw [if_pos c] at h2; omega
    · rw [if_neg c] at h2
      by_cases q : i = k
      · subst q; simpa using c
      · exact ff_no p d (k + 1) i (by omega) h2
theorem ff_eq (p : Nat → Bool) {d k i : Nat} (h1 : k ≤ i) (h2 : i < k + d) (h3 : p i = true) (h4 : ∀ j, k ≤ j → j < i → p j = false) : ff p d k = i := by
  have a := ff_ge p d k
  rcases Nat.lt_trichotomy (ff p d k) i with q | q | q
  · have := ff_yes p d k (by omega)
    rw [h4 _ a.1 q] at this; cases this
  · exact q
  · have := ff_no p d k i h1 q
    rw [h3] at this; cases this
theorem ff_cong {p q : Nat → Bool} : ∀ (d k : Nat), (∀ i, k ≤ i → i < k + d → p i = q i) → ff p d k = ff q d k
  | 0, k, _ => rfl
  | d + 1, k, h => by
    unfold ff
    rw [h k (Nat.le_refl _) (by omega), ff_cong d (k + 1) (fun i h1 h2 => h i (by omega) (by omega))]
/-- l, ends, ends, delays, cuts -/
abbrev gT : Type := Nat × (Nat → Nat) × (Nat → Nat) × (Nat → Nat) × (Nat → Bool)
def gl (G : gT) : Nat := G.1
def go (G : gT) : Nat → Nat := G.2.1
def gt (G : gT) : Nat → Nat := G.2.2.1
def gd (G : gT) : Nat → Nat := G.2.2.2.1
def gc (G : gT) : Nat → Bool := G.2.2.2.2
def lnk (G : gT) (a b i : Nat) : Bool := decide ((go G i = a ∧ gt G i = b) ∨ (go G i = b ∧ gt G i = a))
theorem lnk_sym (G : gT) (a b i : Nat) : lnk G a b i = lnk G b a i := by
  unfold lnk
  exact decide_eq_decide.mpr Or.comm
def bw (G : gT) (a b : Nat) : Nat := ff (lnk G a b) (gl G) 0
theorem bw_le (G : gT) (a b : Nat) : bw G a b ≤ gl G := by have := (ff_ge (lnk G a b) (gl G) 0).2; unfold bw; omega
theorem bw_sym (G : gT) (a b : Nat) : bw G a b = bw G b a := ff_cong _ _ (fun i _ _ => lnk_sym G a b i)
def gOK (G : gT) (s : Nat) : Prop := s ≤ 6 ∧ gl G ≤ 10 ∧ (∀ i, i < gl G → go G i < s ∧ gt G i < s ∧ go G i ≠ gt G i ∧ 1 ≤ gd G i ∧ gd G i ≤ 9) ∧ (∀ i j, i < j → j < gl G → lnk G (go G i) (gt G i) j = false)
def dl (G : gT) (a b : Nat) : Nat := if bw G a b = gl G then 1000000 else if gc G (bw G a b) then 1000000 else gd G (bw G a b)
theorem dl_sym (G : gT) (a b : Nat) : dl G a b = dl G b a := by unfold dl; rw [bw_sym]
theorem bw_lnk {G : gT} {a b : Nat} (h : bw G a b < gl G) : (go G (bw G a b) = a ∧ gt G (bw G a b) = b) ∨ (go G (bw G a b) = b ∧ gt G (bw G a b) = a) := by
  have := ff_yes (lnk G a b) (gl G) 0 (by unfold bw at h; omega)
  exact of_decide_eq_true this
theorem bw_of {G : gT} {s i : Nat} (h : gOK G s) (hi : i < gl G) : bw G (go G i) (gt G i) = i := by
  refine ff_eq _ (Nat.zero_le _) (by omega) (decide_eq_true (Or.inl ⟨rfl, rfl⟩)) (fun j _ hj => ?_)
  have := h.2.2.2 j i hj hi
  cases q : lnk G (go G i) (gt G i) j with
  | false => rfl
  | true =>
    have q1 := of_decide_eq_true q
    have : lnk G (go G j) (gt G j) i = true := decide_eq_true (by
      rcases q1 with ⟨a, b⟩ | ⟨a, b⟩
      · exact Or.inl ⟨a.symm, b.symm⟩
      · exact Or.inr ⟨b.symm, a.symm⟩)
    rw [h.2.2.2 j i hj hi] at this; cases this
theorem dl_of {G : gT} {s i : Nat} (h : gOK G s) (hi : i < gl G) (hc : gc G i = false) : dl G (go G i) (gt G i) = gd G i ∧ dl G (gt G i) (go G i) = gd G i := by
  have : dl G (go G i) (gt G i) = gd G i := by
    unfold dl
    rw [bw_of h hi, if_neg (by omega), hc]; rfl
  exact ⟨this, (dl_sym _ _ _).trans this⟩
theorem dl_lt {G : gT} {s a b : Nat} (h : gOK G s) (hd : dl G a b < 1000000) : bw G a b < gl G ∧ gc G (bw G a b) = false ∧ dl G a b = gd G (bw G a b) ∧ 1 ≤ dl G a b ∧ dl G a b ≤ 9 ∧ a ≠ b ∧ a < s ∧ b < s := by
  have hb := bw_le G a b
  unfold dl at hd ⊢
  by_cases c : bw G a b = gl G
  · rw [if_pos c] at hd; omega
  · rw [if_neg c] at hd ⊢
    by_cases c2 : gc G (bw G a b) = true
    · rw [if_pos c2] at hd; omega
    · rw [if_neg c2] at hd ⊢
      have hl : bw G a b < gl G := by omega
      obtain ⟨q1, q2, q3, q4, q5⟩ := h.2.2.1 _ hl
      refine ⟨hl, by simpa using c2, rfl, q4, q5, ?_, ?_, ?_⟩ <;> rcases bw_lnk hl with ⟨e1, e2⟩ | ⟨e1, e2⟩ <;> omega
theorem dl_pos {G : gT} {s a b : Nat} (h : gOK G s) : 1 ≤ dl G a b ∧ dl G a b ≤ 1000000 := by
  by_cases c : dl G a b < 1000000
  · have := dl_lt h c; omega
  · have hb := bw_le G a b
    unfold dl at c ⊢
    by_cases c1 : bw G a b = gl G
    · rw [if_pos c1]; omega
    · rw [if_neg c1] at c ⊢
      by_cases c2 : gc G (bw G a b) = true
      · rw [if_pos c2]; omega
      · rw [if_neg c2] at c ⊢
        have := h.2.2.1 (bw G a b) (by omega)
        omega
/-- ways by the nodes below k -/
def wk (G : gT) : Nat → Nat → Nat → Nat
  | 0, a, b => if a = b then 0 else dl G a b
  | k + 1, a, b => min (wk G k a b) (wk G k a k + wk G k k b)
theorem wk_s (G : gT) (k a b : Nat) : wk G (k + 1) a b = min (wk G k a b) (wk G k a k + wk G k k b) := rfl
theorem wk_0 (G : gT) : ∀ k a, wk G k a a = 0
  | 0, a => by unfold wk; rw [if_pos rfl]
  | k + 1, a => by rw [wk_s, wk_0 G k a]; omega
theorem wk_far {G : gT} {s : Nat} (h : gOK G s) : ∀ k a b, wk G k a b ≤ 1000000
  | 0, a, b => by
    unfold wk; split
    · omega
    · exact (dl_pos h).2
  | k + 1, a, b => by
    have := wk_far h k a b
    rw [wk_s]; omega
theorem wk_row (G : gT) (k a : Nat) : wk G (k + 1) a k = wk G k a k := by rw [wk_s, wk_0]; omega
theorem wk_col (G : gT) (k b : Nat) : wk G (k + 1) k b = wk G k k b := by rw [wk_s, wk_0]; omega
theorem wk_pos {G : gT} {s : Nat} (h : gOK G s) : ∀ k a b, a ≠ b → 1 ≤ wk G k a b
  | 0, a, b, hab => by unfold wk; rw [if_neg hab]; exact (dl_pos h).1
  | k + 1, a, b, hab => by
    have h1 := wk_pos h k a b hab
    rw [wk_s]
    by_cases q : a = k
    · subst q
      have := wk_pos h a a b hab
      omega
    · have := wk_pos h k a k q
      omega
theorem wk_tri (G : gT) : ∀ k j a b, j < k → wk G k a b ≤ wk G k a j + wk G k j b
  | 0, j, a, b, h => absurd h (Nat.not_lt_zero _)
  | k + 1, j, a, b, h => by
    by_cases q : j = k
    · subst q
      rw [wk_row, wk_col, wk_s]; omega
    · have t := fun a b => wk_tri G k j a b (by omega)
      have t1 := t a b
      have t2 := t k b
      have t3 := t a k
      have t4 := t k k
      rw [wk_s, wk_s, wk_s]
      omega
theorem wk_le0 {G : gT} : ∀ k a b, wk G k a b ≤ wk G 0 a b
  | 0, _, _ => Nat.le_refl _
  | k + 1, a, b => by
    have := wk_le0 (G := G) k a b
    rw [wk_s]; omega
/-- the last step of a way -/
theorem wk_last {G : gT} {s : Nat} (h : gOK G s) : ∀ k a b, k ≤ s → a < s → a ≠ b → wk G k a b < 1000000 → ∃ c, c < s ∧ c ≠ b ∧ dl G c b < 1000000 ∧ wk G k a c + dl G c b ≤ wk G k a b
  | 0, a, b, _, ha, hab, hw => by
    refine ⟨a, ha, hab, ?_, ?_⟩
    · unfold wk at hw; rw [if_neg hab] at hw; exact hw
    · rw [wk_0]; unfold wk; rw [if_neg hab]; omega
  | k + 1, a, b, hk, ha, hab, hw => by
    rw [wk_s] at hw
    by_cases q : wk G k a b ≤ wk G k a k + wk G k k b
    · obtain ⟨c, h1, h2, h3, h4⟩ := wk_last h k a b (by omega) ha hab (by omega)
      refine ⟨c, h1, h2, h3, ?_⟩
      rw [wk_s, wk_s]; omega
    · have hkb : k ≠ b := by
        rintro rfl
        rw [wk_0] at q; omega
      obtain ⟨c, h1, h2, h3, h4⟩ := wk_last h k k b (by omega) (by omega) hkb (by omega)
      refine ⟨c, h1, h2, h3, ?_⟩
      rw [wk_s, wk_s]; omega
/-- ways -/
def gW (G : gT) (s a b : Nat) : Nat := wk G s a b
theorem gW_0 (G : gT) (s a : Nat) : gW G s a a = 0 := wk_0 G s a
theorem gW_far {G : gT} {s : Nat} (h : gOK G s) (a b : Nat) : gW G s a b ≤ 1000000 := wk_far h s a b
theorem gW_pos {G : gT} {s : Nat} (h : gOK G s) {a b : Nat} (hab : a ≠ b) : 1 ≤ gW G s a b := wk_pos h s a b hab
theorem gW_cl {G : gT} {s : Nat} (h : gOK G s) {b : Nat} (hb : b < s) (a c : Nat) : gW G s a c ≤ gW G s a b + dl G b c := by
  have h1 := wk_tri G s b a c hb
  have h2 := wk_le0 (G := G) s b c
  have h3 : wk G 0 b c ≤ dl G b c := by
    unfold wk; split
    · omega
    · exact Nat.le_refl _
  unfold gW; omega
theorem gW_last {G : gT} {s : Nat} (h : gOK G s) {a b : Nat} (ha : a < s) (hab : a ≠ b) (hw : gW G s a b < 1000000) : ∃ c, c < s ∧ c ≠ b ∧ dl G c b < 1000000 ∧ gW G s a c + dl G c b = gW G s a b := by
  obtain ⟨c, h1, h2, h3, h4⟩ := wk_last h s a b (Nat.le_refl _) ha hab hw
  have := gW_cl h h1 a b
  unfold gW at *
  exact ⟨c, h1, h2, h3, by omega⟩
/-- the one above -/
def paP (G : gT) (s a b : Nat) : Nat → Bool := fun p => decide (p ≠ b ∧ gW G s a p + dl G p b = gW G s a b)
def gP (G : gT) (s a b : Nat) : Nat := ff (paP G s a b) s 0
theorem gP_ok {G : gT} {s : Nat} (h : gOK G s) {a b : Nat} (ha : a < s) (hab : a ≠ b) (hw : gW G s a b < 1000000) : gP G s a b < s ∧ gP G s a b ≠ b ∧ gW G s a (gP G s a b) + dl G (gP G s a b) b = gW G s a b ∧ dl G (gP G s a b) b < 1000000 ∧ gW G s a (gP G s a b) < gW G s a b := by
  obtain ⟨c, h1, h2, h3, h4⟩ := gW_last h ha hab hw
  have hlt : ff (paP G s a b) s 0 < 0 + s := by
    refine Decidable.byContradiction fun z => ?_
    have := ff_no (paP G s a b) s 0 c (Nat.zero_le _) (by omega)
    rw [show paP G s a b c = true from decide_eq_true ⟨h2, h4⟩] at this
    cases this
  have hy := ff_yes _ _ _ hlt
  obtain ⟨q1, q2⟩ := of_decide_eq_true hy
  have hp := (dl_pos h (a := gP G s a b) (b := b)).1
  unfold gP at *
  exact ⟨by omega, q1, q2, by omega, by omega⟩
theorem gP_no {G : gT} {s a b p : Nat} (hp : p < gP G s a b) : ¬ (p ≠ b ∧ gW G s a p + dl G p b = gW G s a b) := by
  have := ff_no (paP G s a b) s 0 p (Nat.zero_le _) hp
  exact of_decide_eq_false this
/-- how many are nearer -/
def rk (W : Nat → Nat) (v : Nat) : Nat → Nat
  | 0 => 0
  | n + 1 => rk W v n + (if W n < v then 1 else 0)
theorem rk_mono {W : Nat → Nat} {v w : Nat} (h : v ≤ w) : ∀ n, rk W v n ≤ rk W w n
  | 0 => Nat.le_refl _
  | n + 1 => by
    have := rk_mono (W := W) h n
    unfold rk; split <;> split <;> omega
theorem rk_lt {W : Nat → Nat} {v w : Nat} (h : v < w) : ∀ {n c : Nat}, c < n → W c = v → rk W v n < rk W w n
  | 0, c, hc, _ => absurd hc (Nat.not_lt_zero _)
  | n + 1, c, hc, he => by
    have hm := rk_mono (W := W) (Nat.le_of_lt h) n
    unfold rk
    by_cases q : c = n
    · subst q; rw [he, if_neg (by omega), if_pos h]; omega
    · have := rk_lt (W := W) h (n := n) (c := c) (by omega) he
      split <;> split <;> omega
theorem rk_le (W : Nat → Nat) (v : Nat) : ∀ n, rk W v n ≤ n
  | 0 => Nat.le_refl _
  | n + 1 => by
    have := rk_le W v n
    unfold rk; split <;> omega
theorem rk_own {W : Nat → Nat} : ∀ {n b : Nat}, b < n → rk W (W b) n < n
  | 0, b, hb => absurd hb (Nat.not_lt_zero _)
  | n + 1, b, hb => by
    unfold rk
    by_cases q : b = n
    · subst q; rw [if_neg (by omega)]
      have := rk_le W (W b) b
      omega
    · have := rk_own (W := W) (n := n) (b := b) (by omega)
      split <;> omega
theorem rk_0 {W : Nat → Nat} : ∀ n, rk W 0 n = 0
  | 0 => rfl
  | n + 1 => by unfold rk; rw [rk_0 n, if_neg (by omega)]
/-- hops -/
def hpn (G : gT) (s a : Nat) : Nat → Nat → Nat
  | 0, _ => 0
  | f + 1, b => if a = b then 0 else hpn G s a f (gP G s a b) + 1
def gH (G : gT) (s a b : Nat) : Nat := hpn G s a s b
theorem hpn_st {G : gT} {s : Nat} (h : gOK G s) {a : Nat} (ha : a < s) : ∀ (f : Nat) (b : Nat), b < s → gW G s a b < 1000000 → rk (gW G s a) (gW G s a b) s < f → hpn G s a f b = hpn G s a (f + 1) b ∧ hpn G s a f b ≤ rk (gW G s a) (gW G s a b) s
  | 0, b, _, _, hr => absurd hr (Nat.not_lt_zero _)
  | f + 1, b, hb, hw, hr => by
    by_cases q : a = b
    · subst q
      constructor
      · unfold hpn; rw [if_pos rfl, if_pos rfl]
      · unfold hpn; rw [if_pos rfl]; omega
    · obtain ⟨p1, p2, p3, p4, p5⟩ := gP_ok h ha q hw
      have hlt := rk_lt p5 p1 rfl
      obtain ⟨i1, i2⟩ := hpn_st h ha f (gP G s a b) p1 (by omega) (by omega)
      constructor
      · rw [hpn, if_neg q, hpn, if_neg q, i1]
      · rw [hpn, if_neg q]; omega
theorem gH_0 {G : gT} {s a : Nat} (ha : a < s) : gH G s a a = 0 := by
  obtain ⟨t, rfl⟩ : ∃ t, s = t + 1 := ⟨s - 1, by omega⟩
  unfold gH hpn; rw [if_pos rfl]
theorem gH_s {G : gT} {s : Nat} (h : gOK G s) {a b : Nat} (ha : a < s) (hb : b < s) (hab : a ≠ b) (hw : gW G s a b < 1000000) : gH G s a b = gH G s a (gP G s a b) + 1 := by
  obtain ⟨p1, p2, p3, p4, p5⟩ := gP_ok h ha hab hw
  have hr := rk_own (W := gW G s a) p1
  unfold gH
  rw [(hpn_st h ha s b hb hw (rk_own hb)).1, hpn, if_neg hab]
theorem gH_le {G : gT} {s : Nat} (h : gOK G s) {a b : Nat} (ha : a < s) (hb : b < s) (hw : gW G s a b < 1000000) : gH G s a b ≤ rk (gW G s a) (gW G s a b) s ∧ gH G s a b ≤ 5 := by
  have h1 := (hpn_st h ha s b hb hw (rk_own hb)).2
  have h2 := rk_own (W := gW G s a) hb
  have h3 := h.1
  exact ⟨h1, by unfold gH; omega⟩
