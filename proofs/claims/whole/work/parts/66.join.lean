/-! what is joined: the class's rounds over the links -/
theorem and_2 {x : Int32} {u v : Nat} (hu : u < 32) (hv : v < 32) : (x &&& ((nI 1 <<< (nI u &&& 31)) ||| (nI 1 <<< (nI v &&& 31))) = 0) ↔ (¬ hb x u ∧ ¬ hb x v) := by
  have h1 : ∀ p, p < 32 → ∀ q, q < 32 → (hb (nI 1 <<< (nI p &&& 31)) q ↔ q = p) := fun p hp q hq => by
    rw [hb_bt hq, hb_1shl hp hq]; simp
  constructor
  · intro e
    have key : ∀ q, q < 32 → (q = u ∨ q = v) → ¬ hb x q := fun q hq hh hx => by
      have : hb (x &&& ((nI 1 <<< (nI u &&& 31)) ||| (nI 1 <<< (nI v &&& 31)))) q := by
        rw [hb_andw hq, hb_orw hq, h1 u hu q hq, h1 v hv q hq]
        exact ⟨hx, hh⟩
      rw [e] at this
      exact hb_0 hq this
    exact ⟨key u hu (Or.inl rfl), key v hv (Or.inr rfl)⟩
  · rintro ⟨a, b⟩
    refine hb_ext fun q hq => ?_
    rw [hb_andw hq, hb_orw hq, h1 u hu q hq, h1 v hv q hq]
    constructor
    · rintro ⟨z1, rfl | rfl⟩
      · exact absurd z1 a
      · exact absurd z1 b
    · intro z; exact absurd z (hb_0 hq)
section JN
variable {G : gT} {s : Nat} {X : zX}
theorem jn_in (hG : gOK G s) (hX : gX G X) (F : Nat) {cuts : Int32} : ∀ (d fu i : Nat) (a3 : Int32), gl G - i = d → i ≤ gl G → d < fu → ∃ r, (∀ K a4 a5, hX2_joined_20 F K fu cuts a3 a4 a5 (nI i) X = (if r = a5 then some r else K cuts r (a4 + (nI 1)) X)) ∧ (∀ q, q < 32 → hb a3 q → hb r q) ∧ (∀ R : Nat → Prop, (∀ j, j < gl G → ¬ hb cuts j → (R (go G j) ↔ R (gt G j))) → (∀ q, q < 32 → hb a3 q → R q) → ∀ q, q < 32 → hb r q → R q) ∧ (∀ j, i ≤ j → j < gl G → ¬ hb cuts j → (hb a3 (go G j) ∨ hb a3 (gt G j)) → hb r (go G j) ∧ hb r (gt G j)) := by
  have hs := hG.1
  have hgl := hG.2.1
  intro d
  induction d with
  | zero =>
    intro fu i a3 h1 h2 h3
    obtain ⟨fu, rfl⟩ := Nat.exists_eq_succ_of_ne_zero (show fu ≠ 0 by omega)
    refine ⟨a3, fun K a4 a5 => ?_, fun q _ h => h, fun R _ h => h, fun j h1 h2 => by omega⟩
    unfold hX2_joined_20
    rw [hX.1, if_pos ((nI_leI (by omega) (by omega)).mpr (by omega))]
  | succ d ih =>
    intro fu i a3 h1 h2 h3
    obtain ⟨fu, rfl⟩ := Nat.exists_eq_succ_of_ne_zero (show fu ≠ 0 by omega)
    have hi : i < gl G := by omega
    obtain ⟨e34, e35, -, -⟩ := hX.2 i hi
    obtain ⟨go6, gt6, -⟩ := hG.2.2.1 i hi
    have stp : ∀ K a4 a5, hX2_joined_20 F K (fu + 1) cuts a3 a4 a5 (nI i) X = (if ((cuts >>> (nI i &&& 31)) &&& (nI 1)) = (nI 1) then hX2_joined_20 F K fu cuts a3 a4 a5 (nI (i + 1)) X else if (a3 &&& ((nI 1 <<< (nI (go G i) &&& 31)) ||| (nI 1 <<< (nI (gt G i) &&& 31)))) = 0 then hX2_joined_20 F K fu cuts a3 a4 a5 (nI (i + 1)) X else hX2_joined_20 F K fu cuts (a3 ||| ((nI 1 <<< (nI (go G i) &&& 31)) ||| (nI 1 <<< (nI (gt G i) &&& 31)))) a4 a5 (nI (i + 1)) X) := fun K a4 a5 => by
      conv => lhs; unfold hX2_joined_20
      rw [hX.1, if_neg (nI_ge hi (by omega)), qzin (show i < 10 by omega) (by omega), qchk, qchk, qlet, qzn (by omega), e34, e35, nI_add]
    have h1b : ∀ p, p < 32 → ∀ q, q < 32 → (hb (nI 1 <<< (nI p &&& 31)) q ↔ q = p) := fun p hp q hq => by
      rw [hb_bt hq, hb_1shl hp hq]; simp
    by_cases c1 : hb cuts i
    · obtain ⟨r, k1, k2, k3, k4⟩ := ih fu (i + 1) a3 (by omega) (by omega) (by omega)
      refine ⟨r, fun K a4 a5 => ?_, k2, k3, fun j g1 g2 g3 => ?_⟩
      · rw [stp, if_pos (show ((cuts >>> (nI i &&& 31)) &&& (nI 1)) = (nI 1) from c1), k1]
      · by_cases z : j = i
        · subst z; exact absurd c1 g3
        · exact k4 j (by omega) g2 g3
    · by_cases c2 : (a3 &&& ((nI 1 <<< (nI (go G i) &&& 31)) ||| (nI 1 <<< (nI (gt G i) &&& 31)))) = 0
      · obtain ⟨n1, n2⟩ := (and_2 (by omega) (by omega)).mp c2
        obtain ⟨r, k1, k2, k3, k4⟩ := ih fu (i + 1) a3 (by omega) (by omega) (by omega)
        refine ⟨r, fun K a4 a5 => ?_, k2, k3, fun j g1 g2 g3 g4 => ?_⟩
        · rw [stp, if_neg (show ¬ ((cuts >>> (nI i &&& 31)) &&& (nI 1)) = (nI 1) from c1), if_pos c2, k1]
        · by_cases z : j = i
          · subst z; exact absurd g4 (fun w => w.elim n1 n2)
          · exact k4 j (by omega) g2 g3 g4
      · obtain ⟨r, k1, k2, k3, k4⟩ := ih fu (i + 1) (a3 ||| ((nI 1 <<< (nI (go G i) &&& 31)) ||| (nI 1 <<< (nI (gt G i) &&& 31)))) (by omega) (by omega) (by omega)
        have hor : ∀ q, q < 32 → (hb (a3 ||| ((nI 1 <<< (nI (go G i) &&& 31)) ||| (nI 1 <<< (nI (gt G i) &&& 31)))) q ↔ hb a3 q ∨ q = go G i ∨ q = gt G i) := fun q hq => by
          rw [hb_orw hq, hb_orw hq, h1b _ (by omega) q hq, h1b _ (by omega) q hq]
        refine ⟨r, fun K a4 a5 => ?_, fun q hq hh => k2 q hq ((hor q hq).mpr (Or.inl hh)), fun R hR ha => k3 R hR (fun q hq hh => ?_), fun j g1 g2 g3 g4 => ?_⟩
        · rw [stp, if_neg (show ¬ ((cuts >>> (nI i &&& 31)) &&& (nI 1)) = (nI 1) from c1), if_neg c2, k1]
        · have hRi := hR i hi c1
          have one : R (go G i) ∧ R (gt G i) := by
            by_cases w : hb a3 (go G i)
            · have := ha _ (by omega) w
              exact ⟨this, hRi.mp this⟩
            · by_cases w2 : hb a3 (gt G i)
              · have := ha _ (by omega) w2
                exact ⟨hRi.mpr this, this⟩
              · exact absurd ((and_2 (by omega) (by omega)).mpr ⟨w, w2⟩) c2
          rcases (hor q hq).mp hh with z | z | z
          · exact ha q hq z
          · rw [z]; exact one.1
          · rw [z]; exact one.2
        · obtain ⟨j6, j6', -⟩ := hG.2.2.1 j g2
          by_cases z : j = i
          · subst z
            exact ⟨k2 _ (by omega) ((hor _ (by omega)).mpr (Or.inr (Or.inl rfl))), k2 _ (by omega) ((hor _ (by omega)).mpr (Or.inr (Or.inr rfl)))⟩
          · exact k4 j (by omega) g2 g3 (g4.imp (fun w => (hor _ (by omega)).mpr (Or.inl w)) (fun w => (hor _ (by omega)).mpr (Or.inl w)))
end JN
