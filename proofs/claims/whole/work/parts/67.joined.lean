/-! what is joined is what has a way -/
def cutG (G : gT) (c : Int32) : gT := (G.1, G.2.1, G.2.2.1, G.2.2.2.1, fun i => decide (((c >>> (nI i &&& 31)) &&& nI 1) = nI 1))
section JA
variable {G : gT} {s : Nat} {X : zX} {c : Int32}
theorem cutG_ok (h : gOK G s) : gOK (cutG G c) s := h
theorem cutG_c {i : Nat} : gc (cutG G c) i = true ↔ hb c i := by
  show decide (((c >>> (nI i &&& 31)) &&& nI 1) = nI 1) = true ↔ _
  rw [decide_eq_true_eq]; rfl
theorem dl_9 (h : gOK G s) {x y : Nat} (hd : dl G x y < 1000000) : dl G x y ≤ 9 ∧ bw G x y < gl G ∧ ¬ gc G (bw G x y) = true := by
  have hle := bw_le G x y
  unfold dl at hd ⊢
  by_cases c1 : bw G x y = gl G
  · rw [if_pos c1] at hd; omega
  · rw [if_neg c1] at hd ⊢
    by_cases c2 : gc G (bw G x y) = true
    · rw [if_pos c2] at hd; omega
    · rw [if_neg c2]
      exact ⟨(h.2.2.1 _ (by omega)).2.2.2.2, by omega, c2⟩
theorem dl_lk (h : gOK G s) {i : Nat} (hi : i < gl G) (hc : ¬ gc G i = true) : dl G (go G i) (gt G i) ≤ 9 := by
  unfold dl
  rw [bw_of h hi, if_neg (by omega), if_neg hc]
  exact (h.2.2.1 i hi).2.2.2.2
theorem gW_sm (h : gOK G s) {a : Nat} (ha : a < s) : ∀ (n b : Nat), gH G s a b = n → b < s → gW G s a b < 1000000 → gW G s a b ≤ 9 * n := by
  intro n
  induction n with
  | zero =>
    intro b hn hb' hw
    by_cases c1 : a = b
    · subst c1; rw [gW_0]; omega
    · have := gH_s h ha hb' c1 hw
      omega
  | succ n ih =>
    intro b hn hb' hw
    by_cases c1 : a = b
    · subst c1; rw [gW_0]; omega
    · have h1 := gH_s h ha hb' c1 hw
      obtain ⟨p1, p2, p3, p4, p5⟩ := gP_ok h ha c1 hw
      have h2 := ih (gP G s a b) (by omega) p1 (by omega)
      have h3 := (dl_9 h p4).1
      omega
/-- a set that holds what is reached in k steps, and nothing that is not reached -/
def jnG (G : gT) (s a : Nat) (v : Int32) (k : Nat) : Prop := (∀ q, q < 32 → hb v q → q < s ∧ gW G s a q < 1000000) ∧ (∀ q, q < s → gW G s a q < 1000000 → gH G s a q ≤ k → hb v q)
theorem jn_step (hG : gOK G s) (hX : gX G X) (F : Nat) (hF : 300 ≤ F) {a : Nat} (ha : a < s) (a3 : Int32) : ∃ r, (∀ K a4 a5, hX2_joined_20 F K F c a3 a4 a5 (nI 0) X = (if r = a5 then some r else K c r (a4 + (nI 1)) X)) ∧ ∀ k, jnG (cutG G c) s a a3 k → jnG (cutG G c) s a r (k + 1) := by
  have hs := hG.1
  have hgl := hG.2.1
  have hG' : gOK (cutG G c) s := hG
  obtain ⟨r, k1, k2, k3, k4⟩ := jn_in hG hX F (cuts := c) (gl G) F 0 a3 rfl (Nat.zero_le _) (by omega)
  refine ⟨r, k1, fun k hk => ⟨fun q hq hh => ?_, fun q hq hw hn => ?_⟩⟩
  · refine k3 (fun q => q < s ∧ gW (cutG G c) s a q < 1000000) (fun j hj hc => ?_) hk.1 q hq hh
    obtain ⟨g1, g2, g3, g4, g5⟩ := hG.2.2.1 j hj
    have hc' : ¬ gc (cutG G c) j = true := fun z => hc (cutG_c.mp z)
    have hd := dl_lk (G := cutG G c) hG' hj hc'
    have hd' : dl (cutG G c) (go G j) (gt G j) ≤ 9 := hd
    have hd2 : dl (cutG G c) (gt G j) (go G j) ≤ 9 := by rw [dl_sym]; exact hd'
    have m1 := gW_cl hG' (b := go G j) g1 a (gt G j)
    have m2 := gW_cl hG' (b := gt G j) g2 a (go G j)
    constructor
    · rintro ⟨z1, z2⟩
      have := gW_sm hG' ha _ _ rfl z1 z2
      have := (gH_le hG' ha z1 z2).2
      exact ⟨g2, by omega⟩
    · rintro ⟨z1, z2⟩
      have := gW_sm hG' ha _ _ rfl z1 z2
      have := (gH_le hG' ha z1 z2).2
      exact ⟨g1, by omega⟩
  · by_cases e : a = q
    · subst e
      exact k2 a (by omega) (hk.2 a hq hw (by rw [gH_0 ha]; omega))
    · have h1 := gH_s hG' ha hq e hw
      obtain ⟨p1, p2, p3, p4, p5⟩ := gP_ok hG' ha e hw
      have hp := hk.2 _ p1 (by omega) (by omega)
      obtain ⟨d1, d2, d3⟩ := dl_9 hG' p4
      have nc : ¬ hb c (bw (cutG G c) (gP (cutG G c) s a q) q) := fun z => d3 (cutG_c.mpr z)
      rcases bw_lnk d2 with ⟨z1, z2⟩ | ⟨z1, z2⟩
      · have := k4 _ (Nat.zero_le _) d2 nc (Or.inl (by rw [show go G (bw (cutG G c) (gP (cutG G c) s a q) q) = gP (cutG G c) s a q from z1]; exact hp))
        rw [show gt G (bw (cutG G c) (gP (cutG G c) s a q) q) = q from z2] at this
        exact this.2
      · have := k4 _ (Nat.zero_le _) d2 nc (Or.inr (by rw [show gt G (bw (cutG G c) (gP (cutG G c) s a q) q) = gP (cutG G c) s a q from z2]; exact hp))
        rw [show go G (bw (cutG G c) (gP (cutG G c) s a q) q) = q from z1] at this
        exact this.1
theorem jn_out (hG : gOK G s) (hX : gX G X) (F : Nat) (hF : 300 ≤ F) {a : Nat} (ha : a < s) : ∀ (d fu k : Nat) (a3 : Int32), k + d = 5 → d < fu → jnG (cutG G c) s a a3 k → ∃ r, hX2_joined_7 F fu c a3 (nI (k + 1)) X = some r ∧ jnG (cutG G c) s a r 5 := by
  intro d
  induction d with
  | zero =>
    intro fu k a3 h1 h2 hk
    obtain ⟨fu, rfl⟩ := Nat.exists_eq_succ_of_ne_zero (show fu ≠ 0 by omega)
    have : k = 5 := by omega
    subst this
    unfold hX2_joined_7
    rw [if_pos (by decide)]
    exact ⟨_, rfl, hk⟩
  | succ d ih =>
    intro fu k a3 h1 h2 hk
    obtain ⟨fu, rfl⟩ := Nat.exists_eq_succ_of_ne_zero (show fu ≠ 0 by omega)
    obtain ⟨r, e1, e2⟩ := jn_step (c := c) hG hX F hF ha a3
    unfold hX2_joined_7
    rw [if_neg (nI_ge (show k + 1 < 6 by omega) (by omega)), e1]
    by_cases z : r = a3
    · rw [if_pos z]
      subst z
      refine ⟨r, rfl, ?_⟩
      have all : ∀ n, jnG (cutG G c) s a r (k + n) := by
        intro n
        induction n with
        | zero => exact hk
        | succ n ihn => exact e2 _ ihn
      have := all (5 - k)
      rw [show k + (5 - k) = 5 by omega] at this
      exact this
    · rw [if_neg z, nI_add]
      exact ih fu (k + 1) r (by omega) (by omega) (e2 k hk)
theorem x_joined (hG : gOK G s) (hX : gX G X) (F : Nat) (hF : 300 ≤ F) {a : Nat} (ha : a < s) : ∃ r, eX2_joined F (nI a) c X = some r ∧ ∀ q, q < 32 → (hb r q ↔ q < s ∧ gW (cutG G c) s a q < 1000000) := by
  have hs := hG.1
  have hG' : gOK (cutG G c) s := hG
  have h1b : ∀ q, q < 32 → (hb (nI 1 <<< (nI a &&& 31)) q ↔ q = a) := fun q hq => by
    rw [hb_bt hq, hb_1shl (by omega) hq]; simp
  obtain ⟨r, e, k1, k2⟩ := jn_out (c := c) hG hX F hF ha 5 F 0 (nI 1 <<< (nI a &&& 31)) rfl (by omega) ⟨fun q hq hh => by
    rw [h1b q hq] at hh
    subst hh
    exact ⟨ha, by rw [gW_0]; omega⟩, fun q hq hw hn => by
    rw [h1b q (by omega)]
    refine Decidable.byContradiction fun z => ?_
    have := gH_s hG' ha hq (fun y => z y.symm) hw
    omega⟩
  exact ⟨r, e, fun q hq => ⟨k1 q hq, fun z => k2 q z.1 z.2 (gH_le hG' ha z.1 z.2).2⟩⟩
end JA
