/-! the memory at the start keeps what the calls keep -/
theorem hb_nn : ∀ i, i < 32 → ¬ hb (nI 0) i := fun i hi => by rw [nI_0]; exact hb_0 hi
theorem rw_eDir : eDir (0, fun _ => 0) 0 0 0 (m0 4) (m0 1) := by
  intro k i a h _
  unfold rc at h
  rcases h with ⟨rfl, h⟩ | ⟨rfl, h⟩ | ⟨rfl, h⟩ | ⟨_, _, h, _⟩ | ⟨_, _, n, o, h, _⟩ | ⟨_, n, p, h, _⟩ | ⟨_, n, p, h, _⟩ | ⟨_, h, _⟩ | ⟨_, _, h, _⟩ | ⟨_, h, _⟩
  · rcases h with ⟨rfl, rfl⟩ | ⟨rfl, rfl⟩ | ⟨rfl, rfl⟩ | ⟨rfl, rfl⟩ | ⟨rfl, rfl⟩ <;> decide +kernel
  · rcases h with ⟨rfl, rfl⟩ | ⟨h1, h2, rfl⟩
    · decide +kernel
    · have e : ∀ i, i < 8 → 1 ≤ i → m0 1 1 (i + 4) = m0 4 1 i := by decide +kernel
      exact e i (by omega) h1
  · rcases h with ⟨rfl, rfl⟩ | ⟨rfl, rfl⟩ | ⟨rfl, rfl⟩ | ⟨rfl, rfl⟩ | ⟨rfl, rfl⟩ <;> decide +kernel
  all_goals exact absurd h (by omega)
theorem rw_J11 : J11 0 (m0 4) := by
  intro n _ hn
  refine ⟨⟨rfl, rfl, rfl, fun k h1 h2 => ?_⟩, fun o ho => ⟨rfl, rfl, fun k h1 h2 => ?_⟩, fun p hp => ⟨rfl, fun k h1 h2 => ?_, rfl, rfl, rfl, rfl, rfl, rfl, rfl⟩⟩
  · rcases (show k = 14 ∨ k = 15 ∨ k = 16 ∨ k = 17 by omega) with rfl | rfl | rfl | rfl <;> rfl
  · rcases (show k = 19 ∨ k = 20 by omega) with rfl | rfl <;> exact ⟨rfl, rfl⟩
  · rcases (show k = 22 ∨ k = 23 ∨ k = 24 ∨ k = 25 by omega) with rfl | rfl | rfl | rfl <;> rfl
theorem INV_0 : INV 0 m0 := by
  refine ⟨⟨0, by omega, by decide +kernel, by decide +kernel, fun i hi => absurd hi (by omega)⟩, by decide +kernel, ⟨by decide +kernel, ⟨0, by omega, by decide +kernel⟩⟩, ⟨0, 0, 0, 0, fun _ => 0, ⟨⟨⟨by omega, by omega, by decide +kernel, by decide +kernel⟩, ⟨⟨0, Nat.le_refl 0, by decide +kernel⟩, by decide, by decide +kernel⟩, ⟨⟨0, by omega, Or.inl ⟨rfl, rfl⟩, by decide +kernel⟩, fun w h1 h2 => ?_⟩, fun n hn => absurd hn (by omega), fun n hn => absurd hn (by omega), fun n o hn => absurd hn (by omega), fun n p hn => absurd hn (by omega), fun n p hn => absurd hn (by omega), ⟨by omega, by decide +kernel, fun k hk => absurd hk (by omega)⟩, ⟨fun i hi => absurd hi (by omega), fun i _ hi => ⟨rfl, hb_nn i (by omega)⟩, fun n _ hn => hb_nn n (by omega)⟩, rw_J11⟩, rw_eDir, fun n hn => absurd hn (by omega), fun n hn => absurd hn (by omega), fun n p hn => absurd hn (by omega), fun n p hn => absurd hn (by omega), ⟨0, 0, by omega, by omega, by decide +kernel, by decide +kernel, fun a w ha => absurd ha (by omega)⟩, fun k hk => absurd hk (by omega), fun a h1 h2 => absurd h2 (by show ¬ a < 1542 + 10 * 0; omega)⟩, ⟨by decide +kernel, fun a ha => absurd ha (by omega)⟩, fun n hn => absurd hn (by omega)⟩, Or.inl ⟨by decide +kernel, by decide +kernel⟩⟩
  rcases (show w = 4 ∨ w = 5 ∨ w = 6 ∨ w = 7 by omega) with rfl | rfl | rfl | rfl
  · exact ⟨8, by omega, rfl⟩
  · exact ⟨8, by omega, rfl⟩
  · exact ⟨4, by omega, rfl⟩
  · exact ⟨4, by omega, rfl⟩
