/-! the links of a world; who comes behind in a flood -/
def gOf (l : Nat) (X : zX) : gT := (l, fun i => zn (X 34 i), fun i => zn (X 35 i), fun i => zn (X 36 i), fun i => decide (((X 5 1 >>> (nI i &&& 31)) &&& nI 1) = nI 1))
theorem gOf_X {s l : Nat} {X : zX} (j0 : J0 s l X) (j10 : J10 s l X) : gOK (gOf l X) s ∧ gX (gOf l X) X := by
  obtain ⟨hs, hl, -, h5⟩ := j0
  have key : ∀ i, i < l → ∃ a b e, a < s ∧ b < s ∧ a ≠ b ∧ 1 ≤ e ∧ e ≤ 9 ∧ X 34 i = nI a ∧ X 35 i = nI b ∧ X 36 i = nI e ∧ zn (X 34 i) = a ∧ zn (X 35 i) = b ∧ zn (X 36 i) = e := fun i hi => by
    obtain ⟨a, b, e, q1, q2, q3, q4, q5, q6, q7, q8, -⟩ := j10.1 i hi
    exact ⟨a, b, e, q1, q2, q3, q4, q5, q6, q7, q8, by rw [q6]; exact qzn (by omega), by rw [q7]; exact qzn (by omega), by rw [q8]; exact qzn (by omega)⟩
  refine ⟨⟨hs, hl, fun i hi => ?_, fun i j hij hj => ?_⟩, h5, fun i hi => ?_⟩
  · obtain ⟨a, b, e, q1, q2, q3, q4, q5, q6, q7, q8, z1, z2, z3⟩ := key i hi
    show zn (X 34 i) < s ∧ zn (X 35 i) < s ∧ zn (X 34 i) ≠ zn (X 35 i) ∧ 1 ≤ zn (X 36 i) ∧ zn (X 36 i) ≤ 9
    rw [z1, z2, z3]; exact ⟨q1, q2, q3, q4, q5⟩
  · have hj' : j < l := hj
    obtain ⟨a, b, e, q1, q2, q3, q4, q5, q6, q7, q8, z1, z2, z3⟩ := key i (by omega)
    obtain ⟨a', b', e', q1', q2', q3', q4', q5', q6', q7', q8', z1', z2', z3'⟩ := key j hj'
    obtain ⟨-, -, -, -, -, -, -, -, -, -, -, hu⟩ := j10.1 i (by omega)
    have hu := hu j hij hj'
    show decide ((zn (X 34 j) = zn (X 34 i) ∧ zn (X 35 j) = zn (X 35 i)) ∨ (zn (X 34 j) = zn (X 35 i) ∧ zn (X 35 j) = zn (X 34 i))) = false
    rw [z1, z2, z1', z2']
    rw [q6, q7, q6', q7'] at hu
    refine decide_eq_false (fun z => hu ?_)
    rcases z with ⟨e1, e2⟩ | ⟨e1, e2⟩
    · exact Or.inl ⟨by rw [e1], by rw [e2]⟩
    · exact Or.inr ⟨by rw [e1], by rw [e2]⟩
  · have hi' : i < l := hi
    obtain ⟨a, b, e, q1, q2, q3, q4, q5, q6, q7, q8, z1, z2, z3⟩ := key i hi'
    refine ⟨?_, ?_, ?_, ?_⟩
    · show X 34 i = nI (zn (X 34 i)); rw [z1]; exact q6
    · show X 35 i = nI (zn (X 35 i)); rw [z2]; exact q7
    · show X 36 i = nI (zn (X 36 i)); rw [z3]; exact q8
    · show hb (X 5 1) i ↔ decide (((X 5 1 >>> (nI i &&& 31)) &&& nI 1) = nI 1) = true
      rw [decide_eq_true_iff]; exact Iff.rfl
theorem gOf_fr {l : Nat} {X X' : zX} {L : List Nat} (f : fr L X X') (hL : (!L.contains 5 && !L.contains 34 && !L.contains 35 && !L.contains 36) = true) : gOf l X' = gOf l X := by
  simp only [Bool.and_eq_true, Bool.not_eq_true'] at hL
  unfold gOf; rw [f 5 hL.1.1.1, f 34 hL.1.1.2, f 35 hL.1.2, f 36 hL.2]
section BH
variable {lo : Nat × (Nat → Int32)} {s l m : Nat} {T : Nat × Nat} {X Y : zX}
theorem wR.gY (h : wR lo s l m T X Y) {G : gT} (hX : gX G X) (hl : gl G = l) : gY G s Y := by
  refine ⟨h.nn.trans h.nodes, h.ln.trans (hX.1), fun i hi => ?_⟩
  obtain ⟨e0, e1, e2, e3⟩ := hX.2 i hi
  rw [hl] at hi
  refine ⟨(h.lone hi).trans e0, (h.ltwo hi).trans e1, (h.ldelay hi).trans e2, ?_⟩
  obtain ⟨c1, c2⟩ := h.2.2.2.1 i hi
  by_cases c : gc G i = true
  · rw [if_pos c]; exact c1 (e3.mpr c)
  · rw [if_neg c]; exact c2 (fun z => c (e3.mp z))
theorem wS.frY (h : wS lo s l m T X Y) {Y' : zX} {L : List Nat} (f : fr L Y Y') (h1 : L.contains 1 = false) (h0 : L.contains 0 = false) : wS lo s l m T X Y' := by
  obtain ⟨⟨i, d1, d2, d3, d4, d5, d6, d7, d8⟩, hm⟩ := h
  refine ⟨⟨i, ?_, ?_, ?_, ?_, ?_, ?_, ?_, ?_⟩, by rw [f 0 h0]; exact hm⟩
  · unfold eDir at *; rw [f 1 h1]; exact d1
  · unfold eUp at *; rw [f 1 h1]; exact d2
  · unfold eCut at *; rw [f 1 h1]; exact d3
  · unfold eAns at *; rw [f 1 h1]; exact d4
  · unfold eGap at *; rw [f 1 h1]; exact d5
  · unfold eLog at *; rw [f 1 h1]; exact d6
  · unfold eEch at *; rw [f 1 h1]; exact d7
  · unfold eOld at *; rw [f 1 h1]; exact d8
end BH
section BI
variable {G : gT} {s : Nat}
theorem lx_irr {a x : Nat} : ¬ lx G s a x x := by unfold lx; omega
theorem lx_tr {a x y z : Nat} (h : lx G s a x y) (h2 : lx G s a y z) : lx G s a x z := by unfold lx at *; omega
theorem lx_tot {a x y : Nat} (h : x ≠ y) : lx G s a x y ∨ lx G s a y x := by unfold lx; omega
theorem y_cmp (h : gOK G s) {Y : zX} (hw : wY G s Y) {a x y : Nat} (ha : a < s) (hx : x < s) (hy : y < s) : ∃ r, eX12_comesBehind (nI a) (nI x) (nI y) Y = some r ∧ (r = 0 ↔ ¬ lx G s a y x) := by
  have hs := h.1
  have w1 := gW_far h a x
  have w2 := gW_far h a y
  unfold eX12_comesBehind
  rw [a_6, a_6, y6_in (by omega) (by omega), qchk, y6_in (by omega) (by omega), qchk, y6_zn (by omega) (by omega), y6_zn (by omega) (by omega), (hw a x ha hx).1, (hw a y ha hy).1]
  by_cases c1 : gW G s a y < gW G s a x
  · rw [if_pos ((nI_ltI (by omega) (by omega)).mpr c1)]
    exact ⟨_, rfl, fun z => absurd z (by decide), fun z => absurd (Or.inl c1) z⟩
  · rw [if_neg (fun z => c1 ((nI_ltI (by omega) (by omega)).mp z))]
    by_cases c2 : gW G s a x = gW G s a y
    · rw [if_pos (by rw [c2])]
      by_cases c3 : x ≤ y
      · rw [if_pos ((nI_leI (by omega) (by omega)).mpr c3)]
        exact ⟨_, rfl, fun _ => by unfold lx; omega, fun _ => rfl⟩
      · rw [if_neg (fun z => c3 ((nI_leI (by omega) (by omega)).mp z))]
        exact ⟨_, rfl, fun z => absurd z (by decide), fun z => absurd (Or.inr ⟨c2.symm, by omega⟩) z⟩
    · rw [if_neg (fun z => c2 ((nI_eq (by omega) (by omega)).mp z))]
      exact ⟨_, rfl, fun _ => by unfold lx; omega, fun _ => rfl⟩
/-- candidates behind the last one -/
def cdB (G : gT) (s a : Nat) (last : Option Nat) (n : Nat) : Prop := iw G s a n = true ∧ ∀ q, last = some q → lx G s a q n
def encO : Option Nat → Int32
  | none => -1
  | some n => nI n
def lstB (G : gT) (s a : Nat) (last best : Option Nat) (x : Nat) : Prop := (best = none ∧ ∀ n, n < x → ¬ cdB G s a last n) ∨ ∃ b, best = some b ∧ b < x ∧ cdB G s a last b ∧ ∀ n, n < x → n ≠ b → cdB G s a last n → lx G s a b n
theorem y_beh (h : gOK G s) {Y : zX} (hY : gY G s Y) (hw : wY G s Y) (F : Nat) (hF : 100 ≤ F) {a : Nat} (ha : a < s) (last : Option Nat) (hlast : ∀ q, last = some q → q < s) : ∃ best, eX12_behindIn F (nI a) (encO last) Y = some (encO best) ∧ lstB G s a last best s := by
  have hs := h.1
  have key : ∀ (d x fu : Nat) (best : Option Nat), s - x = d → x ≤ s → d < fu → lstB G s a last best x → ∃ b', hX12_behindIn_5 F fu (nI a) (encO last) (encO best) (nI x) Y = some (encO b') ∧ lstB G s a last b' s := by
    intro d
    induction d with
    | zero =>
      intro x fu best hd hx hf hb
      obtain ⟨fu, rfl⟩ : ∃ g, fu = g + 1 := ⟨fu - 1, by omega⟩
      have : x = s := by omega
      subst this
      refine ⟨best, ?_, hb⟩
      unfold hX12_behindIn_5
      rw [hY.1, if_pos ((nI_leI (by omega) (by omega)).mpr (by omega))]
    | succ d ih =>
      intro x fu best hd hx hf hb
      obtain ⟨fu, rfl⟩ : ∃ g, fu = g + 1 := ⟨fu - 1, by omega⟩
      have skip : ¬ cdB G s a last x → lstB G s a last best (x + 1) := fun hn => by
        rcases hb with ⟨e, q⟩ | ⟨b, e, q1, q2, q3⟩
        · refine Or.inl ⟨e, fun n hn' => ?_⟩
          by_cases z : n = x
          · subst z; exact hn
          · exact q n (by omega)
        · refine Or.inr ⟨b, e, by omega, q2, fun n hn' hne hc => ?_⟩
          by_cases z : n = x
          · subst z; exact absurd hc hn
          · exact q3 n (by omega) hne hc
      -- the candidate x
      have take : cdB G s a last x → ∃ b', jX12_behindIn_43 F (hX12_behindIn_5 F fu) (nI a) (encO last) (encO best) (nI x) Y = some (encO b') ∧ lstB G s a last b' s := fun hc => by
        unfold jX12_behindIn_43 jX12_behindIn_59
        rw [nI_add]
        have tk : (∀ n, n < x → cdB G s a last n → lx G s a x n) → ∃ b', hX12_behindIn_5 F fu (nI a) (encO last) (nI x) (nI (x + 1)) Y = some (encO b') ∧ lstB G s a last b' s := fun hall => ih (x + 1) fu (some x) (by omega) (by omega) (by omega) (Or.inr ⟨x, rfl, by omega, hc, fun n hn hne hcn => hall n (by omega) hcn⟩)
        rcases hb with ⟨e, q⟩ | ⟨b, e, q1, q2, q3⟩
        · subst e
          rw [show encO none = -1 from rfl, if_pos rfl]
          exact tk (fun n hn hcn => absurd hcn (q n hn))
        · subst e
          rw [show encO (some b) = nI b from rfl, if_neg (nI_ne_m1 (by omega))]
          obtain ⟨r, e1, e2⟩ := y_cmp h hw ha (show b < s by omega) (show x < s by omega)
          rw [e1, qbd]
          by_cases c : lx G s a x b
          · rw [if_neg (fun z => (e2.mp z) c)]
            refine tk (fun n hn hcn => ?_)
            by_cases z : n = b
            · rw [z]; exact c
            · exact lx_tr c (q3 n hn z hcn)
          · rw [if_pos (e2.mpr c)]
            refine ih (x + 1) fu (some b) (by omega) (by omega) (by omega) (Or.inr ⟨b, rfl, by omega, q2, fun n hn hne hcn => ?_⟩)
            by_cases z : n = x
            · subst z
              rcases lx_tot (G := G) (s := s) (a := a) (show n ≠ b from hne) with w | w
              · exact absurd w c
              · exact w
            · exact q3 n (by omega) hne hcn
      unfold hX12_behindIn_5
      rw [hY.1, if_neg (nI_ge (by omega) (by omega)), y_isWay h (by omega) (by omega) (hw a x ha (by omega)).1, qbd, nI_add]
      by_cases c : iw G s a x = true
      · rw [if_pos c, if_neg (by decide)]
        cases last with
        | none =>
          rw [show encO none = -1 from rfl, if_pos rfl]
          exact take ⟨c, fun q z => by cases z⟩
        | some q =>
          have hq := hlast q rfl
          rw [show encO (some q) = nI q from rfl, if_neg (nI_ne_m1 (by omega))]
          obtain ⟨r, e1, e2⟩ := y_cmp h hw ha (show x < s by omega) hq
          rw [e1, qbd]
          by_cases c2 : lx G s a q x
          · rw [if_neg (fun z => (e2.mp z) c2)]
            exact take ⟨c, fun q' z => by cases z; exact c2⟩
          · rw [if_pos (e2.mpr c2)]
            exact ih (x + 1) fu best (by omega) (by omega) (by omega) (skip (fun z => c2 (z.2 q rfl)))
      · rw [if_neg c, if_pos (show nI 0 = 0 from rfl)]
        exact ih (x + 1) fu best (by omega) (by omega) (by omega) (skip (fun z => c z.1))
  unfold eX12_behindIn
  exact key s 0 F none (by omega) (by omega) (by omega) (Or.inl ⟨rfl, fun n hn => absurd hn (Nat.not_lt_zero _)⟩)
/-- the first one, and the next one -/
theorem y_beh0 (h : gOK G s) {Y : zX} (hY : gY G s Y) (hw : wY G s Y) (F : Nat) (hF : 100 ≤ F) {a N : Nat} {f : Nat → Nat} (ha : a < s) (ho : ordX G s a s N f) : eX12_behindIn F (nI a) (-1) Y = some (if 0 < N then nI (f 0) else -1) := by
  obtain ⟨best, e, hb⟩ := y_beh h hY hw F hF ha none (fun q z => by cases z)
  rw [show encO none = -1 from rfl] at e
  rw [e]
  have c0 : 0 < N → cdB G s a none (f 0) := fun hN => ⟨(ho.2.1 0 hN).2, fun q z => by cases z⟩
  rcases hb with ⟨e1, q⟩ | ⟨b, e1, q1, q2, q3⟩
  · subst e1
    by_cases hN : 0 < N
    · exact absurd (c0 hN) (q (f 0) (ho.2.1 0 hN).1)
    · rw [if_neg hN]; rfl
  · subst e1
    obtain ⟨k, hk, ek⟩ := ho.2.2.2 b q1 q2.1
    rw [if_pos (by omega)]
    by_cases z : f 0 = b
    · rw [z]; rfl
    · have w1 := q3 (f 0) (ho.2.1 0 (by omega)).1 z (c0 (by omega))
      have hk0 : k ≠ 0 := fun q => z (by rw [← q]; exact ek)
      have w2 := ord_lx ho (k - 1) 0 (by omega)
      rw [show 0 + (k - 1 + 1) = k by omega, ek] at w2
      exact absurd (lx_tr w1 w2) lx_irr
theorem y_behS (h : gOK G s) {Y : zX} (hY : gY G s Y) (hw : wY G s Y) (F : Nat) (hF : 100 ≤ F) {a N k : Nat} {f : Nat → Nat} (ha : a < s) (ho : ordX G s a s N f) (hk : k < N) : eX12_behindIn F (nI a) (nI (f k)) Y = some (if k + 1 < N then nI (f (k + 1)) else -1) := by
  obtain ⟨best, e, hb⟩ := y_beh h hY hw F hF ha (some (f k)) (fun q z => by cases z; exact (ho.2.1 k hk).1)
  rw [show encO (some (f k)) = nI (f k) from rfl] at e
  rw [e]
  have c0 : k + 1 < N → cdB G s a (some (f k)) (f (k + 1)) := fun hN => ⟨(ho.2.1 (k + 1) hN).2, fun q z => by cases z; exact ho.2.2.1 k hN⟩
  rcases hb with ⟨e1, q⟩ | ⟨b, e1, q1, q2, q3⟩
  · subst e1
    by_cases hN : k + 1 < N
    · exact absurd (c0 hN) (q (f (k + 1)) (ho.2.1 (k + 1) hN).1)
    · rw [if_neg hN]; rfl
  · subst e1
    obtain ⟨j, hj, ej⟩ := ho.2.2.2 b q1 q2.1
    have hkb := q2.2 (f k) rfl
    have hjk : k < j := by
      refine Decidable.byContradiction fun z => ?_
      by_cases w : j = k
      · subst w; rw [ej] at hkb; exact lx_irr hkb
      · have w2 := ord_lx ho (k - j - 1) j (by omega)
        rw [show j + (k - j - 1 + 1) = k by omega, ej] at w2
        exact lx_irr (lx_tr hkb w2)
    rw [if_pos (by omega)]
    by_cases z : f (k + 1) = b
    · rw [z]; rfl
    · have w1 := q3 (f (k + 1)) (ho.2.1 (k + 1) (by omega)).1 z (c0 (by omega))
      have hk0 : j ≠ k + 1 := fun q => z (by rw [← q]; exact ej)
      have w2 := ord_lx ho (j - (k + 1) - 1) (k + 1) (by omega)
      rw [show k + 1 + (j - (k + 1) - 1 + 1) = j by omega, ej] at w2
      exact absurd (lx_tr w1 w2) lx_irr
end BI
