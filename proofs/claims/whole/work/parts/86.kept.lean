/-! the class's methods leave the reference as it is -/
def kpt {α : Type} (μ : zM) (o : Option (α × zM)) : Prop := ∀ r, o = some r → r.2 1 = μ 1
section KP
variable {α β : Type} {μ μ1 : zM}
theorem kpt_some {r : α} {μ' : zM} (h : μ' 1 = μ 1) : kpt μ (some (r, μ')) := fun q hq => by cases hq; exact h
theorem kpt_none : kpt μ (none : Option (α × zM)) := fun q hq => by cases hq
theorem kpt_ite {c : Prop} [Decidable c] {a b : Option (α × zM)} (ha : kpt μ a) (hb : kpt μ b) : kpt μ (if c then a else b) := by
  by_cases h : c
  · rw [if_pos h]; exact ha
  · rw [if_neg h]; exact hb
theorem kpt_zbd {o : Option β} {f : β → Option (α × zM)} (h : ∀ a, kpt μ (f a)) : kpt μ (zbd o f) := by
  cases o with
  | none => exact fun q hq => by cases hq
  | some a => exact h a
theorem kpt_bind {o : Option (β × zM)} {f : β × zM → Option (α × zM)} (ho : kpt μ1 o) (e : μ1 1 = μ 1) (h : ∀ a, a.2 1 = μ 1 → kpt μ (f a)) : kpt μ (zbd o f) := by
  cases o with
  | none => exact fun q hq => by cases hq
  | some a => exact h a ((ho a rfl).trans e)
theorem kpt_zchk {b : Bool} {o : Option (α × zM)} (h : kpt μ o) : kpt μ (zchk b o) := by
  unfold zchk
  exact kpt_ite h kpt_none
theorem kpt_mv {o : Option (α × zM)} (h : kpt μ1 o) (e : μ1 1 = μ 1) : kpt μ o := fun q hq => (h q hq).trans e
theorem kpt_feed (F : Nat) (a b c d e : Int32) : kpt μ (eX11_feed F a b c d e μ) := by
  unfold eX11_feed
  refine kpt_ite (kpt_zbd fun _ => kpt_zbd fun _ => kpt_zbd fun _ => kpt_zbd fun _ => kpt_zbd fun _ => kpt_some rfl) (kpt_some rfl)
theorem kpt_end (x : Int32) : kpt μ (eX11_end x μ) := by
  unfold eX11_end
  exact kpt_ite (kpt_some rfl) (kpt_ite (kpt_some rfl) (kpt_some rfl))
theorem kpt_seed (x : Int32) : kpt μ (eX11_seed x μ) := kpt_some rfl
theorem kpt_back : kpt μ (eX11_back μ) := by
  unfold eX11_back
  exact kpt_ite (kpt_some rfl) (kpt_some rfl)
theorem kpt_image {μ' : zM} (h : eX11_image μ = some μ') : μ' 1 = μ 1 := by
  unfold eX11_image at h
  cases h
  rfl
theorem kpt_wake (x y : Int32) : kpt μ (eX11_wake x y μ) := by
  unfold eX11_wake
  exact kpt_ite (kpt_some rfl) (kpt_ite (kpt_some rfl) (kpt_some rfl))
theorem kpt_cut (F : Nat) (x y : Int32) : kpt μ (eX11_cut F x y μ) := by
  unfold eX11_cut
  exact kpt_ite (kpt_some rfl) (kpt_ite (kpt_some rfl) (kpt_zbd fun _ => kpt_some rfl))
theorem kpt_loss (x y : Int32) : kpt μ (eX11_loss x y μ) := by
  unfold eX11_loss
  exact kpt_ite (kpt_some rfl) (kpt_ite (kpt_some rfl) (kpt_ite (kpt_zchk (kpt_zchk (kpt_some rfl))) (kpt_some rfl)))
theorem kpt_give (x y z : Int32) : kpt μ (eX11_give x y z μ) := by
  unfold eX11_give
  exact kpt_ite (kpt_some rfl) (kpt_ite (kpt_some rfl) (kpt_ite (kpt_zbd fun _ => kpt_ite (kpt_some rfl) (kpt_ite (kpt_zbd fun _ => kpt_some rfl) (kpt_zbd fun _ => kpt_some rfl))) (kpt_some rfl)))
theorem kpt_send (F : Nat) : kpt μ (eX11_send F μ) := by
  unfold eX11_send
  exact kpt_zbd fun _ => kpt_ite (kpt_some rfl) (kpt_zbd fun _ => kpt_some rfl)
theorem kpt_ticksL (F : Nat) : ∀ (n : Nat) (a b c : Int32) (μ : zM), kpt μ (hX11_ticks_31 F n a b c μ)
  | 0, _, _, _, _ => kpt_none
  | n + 1, a, b, c, μ => by
    unfold hX11_ticks_31
    exact kpt_ite (kpt_some rfl) (kpt_zbd fun _ => kpt_mv (kpt_ticksL F n _ _ _ _) rfl)
theorem kpt_ticks (F : Nat) (x : Int32) : kpt μ (eX11_ticks F x μ) := by
  unfold eX11_ticks
  exact kpt_ite (kpt_some rfl) (kpt_ite (kpt_mv (kpt_ticksL F F _ _ _ _) rfl) (kpt_some rfl))
theorem kpt_look {x : Int32} {y : zM} (h : eX11_lookAhead x μ = some y) : y 1 = μ 1 := by
  unfold eX11_lookAhead jX11_lookAhead_27 at h
  by_cases c : x = 0
  · rw [if_pos c] at h; cases h; rfl
  · rw [if_neg c] at h; cases h; rfl
theorem kpt_lk {x : Int32} {f : zM → Option (α × zM)} (h : ∀ y, y 1 = μ 1 → kpt μ (f y)) : kpt μ (zbd (eX11_lookAhead x μ) f) := by
  cases e : eX11_lookAhead x μ with
  | none => exact fun q hq => by cases hq
  | some y => exact h y (kpt_look e)
theorem kpt_talkL (F : Nat) : ∀ (n : Nat) (a b c d : Int32) (μ : zM), kpt μ (hX11_talk_58 F n a b c d μ)
  | 0, _, _, _, _, _ => kpt_none
  | n + 1, a, b, c, d, μ => by
    unfold hX11_talk_58
    exact kpt_ite (kpt_ite (kpt_zbd fun _ => kpt_some rfl) (kpt_zbd fun _ => kpt_some rfl)) (kpt_zbd fun _ => kpt_mv (kpt_talkL F n _ _ _ _ _) rfl)
theorem kpt_talk (F : Nat) (x y z : Int32) : kpt μ (eX11_talk F x y z μ) := by
  unfold eX11_talk
  exact kpt_ite (kpt_some rfl) (kpt_ite (kpt_lk fun w hw => kpt_ite (kpt_zbd fun _ => kpt_mv (kpt_talkL F F _ _ _ _ _) hw) (kpt_zbd fun _ => kpt_mv (kpt_talkL F F _ _ _ _ _) hw)) (kpt_some rfl))
theorem kpt_wholeL (F : Nat) : ∀ (n : Nat) (a : Int32) (μ : zM), kpt μ (hX11_whole_7 F n a μ)
  | 0, _, _ => kpt_none
  | n + 1, a, μ => by
    unfold hX11_whole_7
    exact kpt_ite (kpt_zbd fun _ => kpt_ite (kpt_some rfl) (kpt_some rfl)) (kpt_zbd fun _ => kpt_ite (kpt_zbd fun _ => kpt_mv (kpt_wholeL F n _ _) rfl) (kpt_some rfl))
theorem kpt_whole (F : Nat) (x : Int32) : kpt μ (eX11_whole F x μ) := by
  unfold eX11_whole
  exact kpt_lk fun w hw => kpt_mv (kpt_wholeL F F _ _) hw
theorem kpt_best7 (F : Nat) (K : Int32 → Int32 → Int32 → Int32 → Int32 → zM → Option ((Int32 ⊕ String) × zM)) (hK : ∀ a b c d e (μ : zM), kpt μ (K a b c d e μ)) : ∀ (n : Nat) (a1 a2 a3 a4 a5 a6 a7 : Int32) (μ : zM), kpt μ (hX11_best_76 F K n a1 a2 a3 a4 a5 a6 a7 μ)
  | 0, _, _, _, _, _, _, _, _ => kpt_none
  | n + 1, a1, a2, a3, a4, a5, a6, a7, μ => by
    unfold hX11_best_76 jX11_best_123
    exact kpt_ite (kpt_zbd fun _ => kpt_ite (kpt_mv (hK _ _ _ _ _ _) rfl) (kpt_ite (kpt_mv (hK _ _ _ _ _ _) rfl) (kpt_mv (hK _ _ _ _ _ _) rfl))) (kpt_zbd fun _ => kpt_mv (kpt_best7 F K hK n _ _ _ _ _ _ _ _) rfl)
theorem kpt_best2 (F : Nat) : ∀ (n : Nat) (a1 a2 a3 a4 a5 : Int32) (μ : zM), kpt μ (hX11_best_29 F n a1 a2 a3 a4 a5 μ)
  | 0, _, _, _, _, _, _ => kpt_none
  | n + 1, a1, a2, a3, a4, a5, μ => by
    unfold hX11_best_29
    exact kpt_ite (kpt_some rfl) (kpt_ite (kpt_some rfl) (kpt_lk fun y hy => kpt_zbd fun _ => kpt_zbd fun _ => kpt_mv (kpt_best7 F _ (kpt_best2 F n) F _ _ _ _ _ _ _ _) hy))
theorem kpt_best (F : Nat) (x y : Int32) : kpt μ (eX11_best F x y μ) := by
  unfold eX11_best
  exact kpt_ite (kpt_some rfl) (kpt_ite (kpt_best2 F F _ _ _ _ _ _) (kpt_some rfl))
theorem kpt_repair (F : Nat) (μ : zM) : kpt μ (eX6_readRepair F μ) := by
  unfold eX6_readRepair jX6_readRepair_24
  exact kpt_zbd fun _ => kpt_ite (kpt_ite (kpt_some rfl) (kpt_some rfl)) (kpt_zbd fun _ => kpt_ite (kpt_some rfl) (kpt_some rfl))
theorem kpt_request (F : Nat) (μ : zM) : kpt μ (eX6_readRequest F μ) := by
  unfold eX6_readRequest jX6_readRequest_24
  exact kpt_zbd fun _ => kpt_ite (kpt_ite (kpt_some rfl) (kpt_zbd fun _ => kpt_zbd fun _ => kpt_some rfl)) (kpt_zbd fun _ => kpt_ite (kpt_some rfl) (kpt_zbd fun _ => kpt_zbd fun _ => kpt_some rfl))
theorem kpt_number (F : Nat) (μ : zM) : kpt μ (eX6_readNumber F μ) := by
  unfold eX6_readNumber
  exact kpt_zbd fun _ => kpt_ite (kpt_zbd fun _ => kpt_ite (kpt_zbd fun _ => kpt_ite (kpt_zbd fun _ => kpt_ite (kpt_zbd fun _ => kpt_zchk (kpt_some rfl)) (kpt_zbd fun _ => kpt_ite (kpt_some rfl) (kpt_some rfl))) (kpt_zbd fun _ => kpt_ite (kpt_some rfl) (kpt_some rfl))) (kpt_zbd fun _ => kpt_ite (kpt_some rfl) (kpt_some rfl))) (kpt_zbd fun _ => kpt_ite (kpt_some rfl) (kpt_some rfl))
theorem kpt_link134 (F : Nat) (a b c d : Int32) (μ : zM) : kpt μ (jX6_readLink_134 F a b c d μ) := by
  unfold jX6_readLink_134
  exact kpt_ite (kpt_some rfl) (kpt_zbd fun _ => kpt_some rfl)
theorem kpt_link104 (F : Nat) (a b c : Int32) (μ : zM) : kpt μ (jX6_readLink_104 F a b c μ) := by
  unfold jX6_readLink_104
  exact kpt_ite (kpt_some rfl) (kpt_zbd fun _ => kpt_ite (kpt_mv (kpt_link134 F _ _ _ _ _) rfl) (kpt_zbd fun _ => kpt_mv (kpt_link134 F _ _ _ _ _) rfl))
theorem kpt_link79 (F : Nat) (μ : zM) : kpt μ (jX6_readLink_79 F μ) := by
  unfold jX6_readLink_79
  exact kpt_zbd fun _ => kpt_zchk (kpt_some rfl)
theorem kpt_link49 (F : Nat) (a b : Int32) (μ : zM) : kpt μ (jX6_readLink_49 F a b μ) := by
  unfold jX6_readLink_49
  exact kpt_ite (kpt_some rfl) (kpt_ite (kpt_link79 F μ) (kpt_zbd fun _ => kpt_ite (kpt_zbd fun _ => kpt_ite (kpt_mv (kpt_link104 F _ _ _ _) rfl) (kpt_zbd fun _ => kpt_mv (kpt_link104 F _ _ _ _) rfl)) (kpt_mv (kpt_link79 F _) rfl)))
theorem kpt_link (F : Nat) (μ : zM) : kpt μ (eX6_readLink F μ) := by
  unfold eX6_readLink
  exact kpt_ite (kpt_zbd fun _ => kpt_ite (kpt_mv (kpt_link49 F _ _ _) rfl) (kpt_zbd fun _ => kpt_mv (kpt_link49 F _ _ _) rfl)) (kpt_zbd fun _ => kpt_zchk (kpt_some rfl))
theorem kpt_node51 (F : Nat) (a : Int32) (μ : zM) : kpt μ (jX6_readNode_51 F a μ) := by
  unfold jX6_readNode_51 jX6_readNode_64
  exact kpt_ite (kpt_zbd fun _ => kpt_some rfl) (kpt_zbd fun _ => kpt_some rfl)
theorem kpt_node (F : Nat) (μ : zM) : kpt μ (eX6_readNode F μ) := by
  unfold eX6_readNode
  exact kpt_ite (kpt_zbd fun _ => kpt_zbd fun _ => kpt_ite (kpt_zbd fun _ => kpt_ite (kpt_some rfl) (kpt_mv (kpt_node51 F _ _) rfl)) (kpt_mv (kpt_node51 F _ _) rfl)) (kpt_zbd fun _ => kpt_zchk (kpt_some rfl))
theorem kpt_line (F : Nat) (μ : zM) : kpt μ (eX6_readLine F μ) := by
  unfold eX6_readLine
  exact kpt_zbd fun _ => kpt_zbd fun _ => kpt_ite (kpt_zbd fun _ => kpt_ite (kpt_zbd fun _ => kpt_ite (kpt_zbd fun _ => kpt_ite (kpt_bind (kpt_number F _) rfl fun _ h => kpt_zchk (kpt_some h)) (kpt_bind (kpt_repair F _) rfl fun _ h => kpt_zchk (kpt_some h))) (kpt_bind (kpt_request F _) rfl fun _ h => kpt_zchk (kpt_some h))) (kpt_bind (kpt_link F _) rfl fun _ h => kpt_zchk (kpt_some h))) (kpt_bind (kpt_node F _) rfl fun _ h => kpt_zchk (kpt_some h))
theorem kpt_read3 (F : Nat) : ∀ (n : Nat) (a : Int32) (μ : zM), kpt μ (hX6_read_37 F n a μ)
  | 0, _, _ => kpt_none
  | n + 1, a, μ => by
    unfold hX6_read_37
    exact kpt_ite (kpt_some rfl) (kpt_bind (kpt_line F μ) rfl fun y h => kpt_ite (kpt_some h) (kpt_zbd fun _ => kpt_ite (kpt_zbd fun _ => kpt_ite (kpt_zbd fun _ => kpt_mv (kpt_read3 F n _ _) h) (kpt_some h)) (kpt_some h)))
theorem kpt_read (F : Nat) (μ : zM) : kpt μ (eX6_read F μ) := by
  unfold eX6_read
  exact kpt_zbd fun _ => kpt_ite (kpt_mv (kpt_read3 F F _ _) rfl) (kpt_some rfl)
theorem kpt_group (F : Nat) : kpt μ (eX11_group F μ) := by
  unfold eX11_group
  exact kpt_bind (kpt_read F _) rfl fun y h => kpt_ite (kpt_ite (kpt_zbd fun _ => kpt_some h) (kpt_some h)) (kpt_some h)
end KP
