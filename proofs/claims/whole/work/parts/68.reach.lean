/-! what is reached: the least closed set -/
section RC
variable {G : gT} {s : Nat}
/-- closed under the links that are not cut -/
def rCl (G : gT) (R : Nat → Prop) : Prop := ∀ j, j < gl G → ¬ gc G j = true → (R (go G j) ↔ R (gt G j))
theorem rc_min (h : gOK G s) {a : Nat} (ha : a < s) {R : Nat → Prop} (hR : rCl G R) (hRa : R a) : ∀ (n q : Nat), gH G s a q = n → q < s → gW G s a q < 1000000 → R q := by
  intro n
  induction n with
  | zero =>
    intro q hn hq hw
    by_cases e : a = q
    · subst e; exact hRa
    · have := gH_s h ha hq e hw
      omega
  | succ n ih =>
    intro q hn hq hw
    by_cases e : a = q
    · subst e; exact hRa
    · have h1 := gH_s h ha hq e hw
      obtain ⟨p1, p2, p3, p4, p5⟩ := gP_ok h ha e hw
      have hp := ih _ (by omega) p1 (by omega)
      obtain ⟨d1, d2, d3⟩ := dl_9 h p4
      have hj := hR _ d2 d3
      rcases bw_lnk d2 with ⟨z1, z2⟩ | ⟨z1, z2⟩
      · rw [z1, z2] at hj; exact hj.mp hp
      · rw [z1, z2] at hj; exact hj.mpr hp
theorem rc_cl (h : gOK G s) {a : Nat} (ha : a < s) : rCl G (fun q => q < s ∧ gW G s a q < 1000000) := by
  intro j hj hc
  obtain ⟨g1, g2, g3, g4, g5⟩ := h.2.2.1 j hj
  have hd := dl_lk h hj hc
  have hd2 : dl G (gt G j) (go G j) ≤ 9 := by rw [dl_sym]; exact hd
  have m1 := gW_cl h (b := go G j) g1 a (gt G j)
  have m2 := gW_cl h (b := gt G j) g2 a (go G j)
  constructor
  · rintro ⟨z1, z2⟩
    have := gW_sm h ha _ _ rfl z1 z2
    have := (gH_le h ha z1 z2).2
    exact ⟨g2, by omega⟩
  · rintro ⟨z1, z2⟩
    have := gW_sm h ha _ _ rfl z1 z2
    have := (gH_le h ha z1 z2).2
    exact ⟨g1, by omega⟩
/-- a graph with a link less: H has the links of G, and what is cut in G is cut in H; the links j cut in H alone keep their ends reached -/
theorem rc_sub {H : gT} (h : gOK G s) (h' : gOK H s) (e1 : gl H = gl G) (e2 : go H = go G) (e3 : gt H = gt G) (e4 : ∀ j, j < gl G → gc G j = true → gc H j = true) {a q : Nat} (ha : a < s) (hq : q < s) (hw : gW H s a q < 1000000) : gW G s a q < 1000000 := by
  have := rc_min h' ha (R := fun q => q < s ∧ gW G s a q < 1000000) (fun j hj hc => by
    rw [e2, e3]
    exact rc_cl h ha j (e1 ▸ hj) (fun z => hc (e4 j (e1 ▸ hj) z))) ⟨ha, by rw [gW_0]; omega⟩ _ q rfl hq hw
  exact this.2
theorem rc_same {H : gT} (h : gOK G s) (h' : gOK H s) (e1 : gl H = gl G) (e2 : go H = go G) (e3 : gt H = gt G) {i : Nat} (hi : i < gl G) (e4 : ∀ j, j < gl G → j ≠ i → gc H j = true → gc G j = true) (hc : gW H s (go G i) (gt G i) < 1000000) {a q : Nat} (ha : a < s) (hq : q < s) (hw : gW G s a q < 1000000) : gW H s a q < 1000000 := by
  obtain ⟨g1, g2, g3, g4, g5⟩ := h.2.2.1 i hi
  have cl := rc_cl h' ha
  have := rc_min h ha (R := fun q => q < s ∧ gW H s a q < 1000000) (fun j hj hcj => by
    by_cases z : j = i
    · subst z
      have cn : rCl H (fun q => ¬ (q < s ∧ gW H s a q < 1000000)) := fun k hk hck => not_congr (cl k hk hck)
      constructor
      · intro y
        exact rc_min h' g1 cl y _ _ rfl g2 hc
      · intro y
        refine Classical.byContradiction fun w => ?_
        exact rc_min h' g1 cn w _ _ rfl g2 hc y
    · have := cl j (e1.symm ▸ hj) (fun y => hcj (e4 j hj z y))
      rw [e2, e3] at this
      exact this) ⟨ha, by rw [gW_0]; omega⟩ _ q rfl hq hw
  exact this.2
end RC
