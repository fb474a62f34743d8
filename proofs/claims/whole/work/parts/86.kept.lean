/-! the class's methods leave the reference as it is -/
def kp {α : Type} (μ : zM) (o : Option (α × zM)) : Prop := ∀ r, o = some r → r.2 1 = μ 1
section KP
variable {α β : Type} {μ μ1 : zM}
theorem kp_some {r : α} {μ' : zM} (h : μ' 1 = μ 1) : kp μ (some (r, μ')) := fun q hq => by cases hq; exact h
theorem kp_none : kp μ (none : Option (α × zM)) := fun q hq => by cases hq
theorem kp_ite {c : Prop} [Decidable c] {a b : Option (α × zM)} (ha : kp μ a) (hb : kp μ b) : kp μ (if c then a else b) := by
  by_cases h : c
  · rw [if_pos h]; exact ha
  · rw [if_neg h]; exact hb
theorem kp_zbd {o : Option β} {f : β → Option (α × zM)} (h : ∀ a, kp μ (f a)) : kp μ (zbd o f) := by
  cases o with
  | none => exact fun q hq => by cases hq
  | some a => exact h a
theorem kp_bind {o : Option (β × zM)} {f : β × zM → Option (α × zM)} (ho : kp μ1 o) (e : μ1 1 = μ 1) (h : ∀ a, a.2 1 = μ 1 → kp μ (f a)) : kp μ (zbd o f) := by
  cases o with
  | none => exact fun q hq => by cases hq
  | some a => exact h a ((ho a rfl).trans e)
theorem kp_zchk {b : Bool} {o : Option (α × zM)} (h : kp μ o) : kp μ (zchk b o) := by
  unfold zchk
  exact kp_ite h kp_none
theorem kp_mv {o : Option (α × zM)} (h : kp μ1 o) (e : μ1 1 = μ 1) : kp μ o := fun q hq => (h q hq).trans e
theorem kp_feed (F : Nat) (a b c d e : Int32) : kp μ (eX11_feed F a b c d e μ) := by
  unfold eX11_feed
  refine kp_ite (kp_zbd fun _ => kp_zbd fun _ => kp_zbd fun _ => kp_zbd fun _ => kp_zbd fun _ => kp_some rfl) (kp_some rfl)
theorem kp_end (x : Int32) : kp μ (eX11_end x μ) := by
  unfold eX11_end
  exact kp_ite (kp_some rfl) (kp_ite (kp_some rfl) (kp_some rfl))
theorem kp_seed (x : Int32) : kp μ (eX11_seed x μ) := kp_some rfl
theorem kp_back : kp μ (eX11_back μ) := by
  unfold eX11_back
  exact kp_ite (kp_some rfl) (kp_some rfl)
theorem kp_image {μ' : zM} (h : eX11_image μ = some μ') : μ' 1 = μ 1 := by
  unfold eX11_image at h
  cases h
  rfl
theorem kp_wake (x y : Int32) : kp μ (eX11_wake x y μ) := by
  unfold eX11_wake
  exact kp_ite (kp_some rfl) (kp_ite (kp_some rfl) (kp_some rfl))
theorem kp_cut (F : Nat) (x y : Int32) : kp μ (eX11_cut F x y μ) := by
  unfold eX11_cut
  exact kp_ite (kp_some rfl) (kp_ite (kp_some rfl) (kp_zbd fun _ => kp_some rfl))
theorem kp_loss (x y : Int32) : kp μ (eX11_loss x y μ) := by
  unfold eX11_loss
  exact kp_ite (kp_some rfl) (kp_ite (kp_some rfl) (kp_ite (kp_zchk (kp_zchk (kp_some rfl))) (kp_some rfl)))
theorem kp_give (x y z : Int32) : kp μ (eX11_give x y z μ) := by
  unfold eX11_give
  exact kp_ite (kp_some rfl) (kp_ite (kp_some rfl) (kp_ite (kp_zbd fun _ => kp_ite (kp_some rfl) (kp_ite (kp_zbd fun _ => kp_some rfl) (kp_zbd fun _ => kp_some rfl))) (kp_some rfl)))
theorem kp_send (F : Nat) : kp μ (eX11_send F μ) := by
  unfold eX11_send
  exact kp_zbd fun _ => kp_ite (kp_some rfl) (kp_zbd fun _ => kp_some rfl)
theorem kp_ticksL (F : Nat) : ∀ (n : Nat) (a b c : Int32) (μ : zM), kp μ (hX11_ticks_31 F n a b c μ)
  | 0, _, _, _, _ => kp_none
  | n + 1, a, b, c, μ => by
    unfold hX11_ticks_31
    exact kp_ite (kp_some rfl) (kp_zbd fun _ => kp_mv (kp_ticksL F n _ _ _ _) rfl)
theorem kp_ticks (F : Nat) (x : Int32) : kp μ (eX11_ticks F x μ) := by
  unfold eX11_ticks
  exact kp_ite (kp_some rfl) (kp_ite (kp_mv (kp_ticksL F F _ _ _ _) rfl) (kp_some rfl))
theorem kp_look {x : Int32} {y : zM} (h : eX11_lookAhead x μ = some y) : y 1 = μ 1 := by
  unfold eX11_lookAhead jX11_lookAhead_27 at h
  by_cases c : x = 0
  · rw [if_pos c] at h; cases h; rfl
  · rw [if_neg c] at h; cases h; rfl
theorem kp_lk {x : Int32} {f : zM → Option (α × zM)} (h : ∀ y, y 1 = μ 1 → kp μ (f y)) : kp μ (zbd (eX11_lookAhead x μ) f) := by
  cases e : eX11_lookAhead x μ with
  | none => exact fun q hq => by cases hq
  | some y => exact h y (kp_look e)
theorem kp_talkL (F : Nat) : ∀ (n : Nat) (a b c d : Int32) (μ : zM), kp μ (hX11_talk_58 F n a b c d μ)
  | 0, _, _, _, _, _ => kp_none
  | n + 1, a, b, c, d, μ => by
    unfold hX11_talk_58
    exact kp_ite (kp_ite (kp_zbd fun _ => kp_some rfl) (kp_zbd fun _ => kp_some rfl)) (kp_zbd fun _ => kp_mv (kp_talkL F n _ _ _ _ _) rfl)
theorem kp_talk (F : Nat) (x y z : Int32) : kp μ (eX11_talk F x y z μ) := by
  unfold eX11_talk
  exact kp_ite (kp_some rfl) (kp_ite (kp_lk fun w hw => kp_ite (kp_zbd fun _ => kp_mv (kp_talkL F F _ _ _ _ _) hw) (kp_zbd fun _ => kp_mv (kp_talkL F F _ _ _ _ _) hw)) (kp_some rfl))
theorem kp_wholeL (F : Nat) : ∀ (n : Nat) (a : Int32) (μ : zM), kp μ (hX11_whole_7 F n a μ)
  | 0, _, _ => kp_none
  | n + 1, a, μ => by
    unfold hX11_whole_7
    exact kp_ite (kp_zbd fun _ => kp_ite (kp_some rfl) (kp_some rfl)) (kp_zbd fun _ => kp_ite (kp_zbd fun _ => kp_mv (kp_wholeL F n _ _) rfl) (kp_some rfl))
theorem kp_whole (F : Nat) (x : Int32) : kp μ (eX11_whole F x μ) := by
  unfold eX11_whole
  exact kp_lk fun w hw => kp_mv (kp_wholeL F F _ _) hw
theorem kp_best7 (F : Nat) (K : Int32 → Int32 → Int32 → Int32 → Int32 → zM → Option ((Int32 ⊕ String) × zM)) (hK : ∀ a b c d e (μ : zM), kp μ (K a b c d e μ)) : ∀ (n : Nat) (a1 a2 a3 a4 a5 a6 a7 : Int32) (μ : zM), kp μ (hX11_best_76 F K n a1 a2 a3 a4 a5 a6 a7 μ)
  | 0, _, _, _, _, _, _, _, _ => kp_none
  | n + 1, a1, a2, a3, a4, a5, a6, a7, μ => by
    unfold hX11_best_76 jX11_best_123
    exact kp_ite (kp_zbd fun _ => kp_ite (kp_mv (hK _ _ _ _ _ _) rfl) (kp_ite (kp_mv (hK _ _ _ _ _ _) rfl) (kp_mv (hK _ _ _ _ _ _) rfl))) (kp_zbd fun _ => kp_mv (kp_best7 F K hK n _ _ _ _ _ _ _ _) rfl)
theorem kp_best2 (F : Nat) : ∀ (n : Nat) (a1 a2 a3 a4 a5 : Int32) (μ : zM), kp μ (hX11_best_29 F n a1 a2 a3 a4 a5 μ)
  | 0, _, _, _, _, _, _ => kp_none
  | n + 1, a1, a2, a3, a4, a5, μ => by
    unfold hX11_best_29
    exact kp_ite (kp_some rfl) (kp_ite (kp_some rfl) (kp_lk fun y hy => kp_zbd fun _ => kp_zbd fun _ => kp_mv (kp_best7 F _ (kp_best2 F n) F _ _ _ _ _ _ _ _) hy))
theorem kp_best (F : Nat) (x y : Int32) : kp μ (eX11_best F x y μ) := by
  unfold eX11_best
  exact kp_ite (kp_some rfl) (kp_ite (kp_best2 F F _ _ _ _ _ _) (kp_some rfl))
theorem kp_repair (F : Nat) (μ : zM) : kp μ (eX6_readRepair F μ) := by
  unfold eX6_readRepair jX6_readRepair_24
  exact kp_zbd fun _ => kp_ite (kp_ite (kp_some rfl) (kp_some rfl)) (kp_zbd fun _ => kp_ite (kp_some rfl) (kp_some rfl))
theorem kp_request (F : Nat) (μ : zM) : kp μ (eX6_readRequest F μ) := by
  unfold eX6_readRequest jX6_readRequest_24
  exact kp_zbd fun _ => kp_ite (kp_ite (kp_some rfl) (kp_zbd fun _ => kp_zbd fun _ => kp_some rfl)) (kp_zbd fun _ => kp_ite (kp_some rfl) (kp_zbd fun _ => kp_zbd fun _ => kp_some rfl))
theorem kp_number (F : Nat) (μ : zM) : kp μ (eX6_readNumber F μ) := by
  unfold eX6_readNumber
  exact kp_zbd fun _ => kp_ite (kp_zbd fun _ => kp_ite (kp_zbd fun _ => kp_ite (kp_zbd fun _ => kp_ite (kp_zbd fun _ => kp_zchk (kp_some rfl)) (kp_zbd fun _ => kp_ite (kp_some rfl) (kp_some rfl))) (kp_zbd fun _ => kp_ite (kp_some rfl) (kp_some rfl))) (kp_zbd fun _ => kp_ite (kp_some rfl) (kp_some rfl))) (kp_zbd fun _ => kp_ite (kp_some rfl) (kp_some rfl))
theorem kp_link134 (F : Nat) (a b c d : Int32) (μ : zM) : kp μ (jX6_readLink_134 F a b c d μ) := by
  unfold jX6_readLink_134
  exact kp_ite (kp_some rfl) (kp_zbd fun _ => kp_some rfl)
theorem kp_link104 (F : Nat) (a b c : Int32) (μ : zM) : kp μ (jX6_readLink_104 F a b c μ) := by
  unfold jX6_readLink_104
  exact kp_ite (kp_some rfl) (kp_zbd fun _ => kp_ite (kp_mv (kp_link134 F _ _ _ _ _) rfl) (kp_zbd fun _ => kp_mv (kp_link134 F _ _ _ _ _) rfl))
theorem kp_link79 (F : Nat) (μ : zM) : kp μ (jX6_readLink_79 F μ) := by
  unfold jX6_readLink_79
  exact kp_zbd fun _ => kp_zchk (kp_some rfl)
theorem kp_link49 (F : Nat) (a b : Int32) (μ : zM) : kp μ (jX6_readLink_49 F a b μ) := by
  unfold jX6_readLink_49
  exact kp_ite (kp_some rfl) (kp_ite (kp_link79 F μ) (kp_zbd fun _ => kp_ite (kp_zbd fun _ => kp_ite (kp_mv (kp_link104 F _ _ _ _) rfl) (kp_zbd fun _ => kp_mv (kp_link104 F _ _ _ _) rfl)) (kp_mv (kp_link79 F _) rfl)))
theorem kp_link (F : Nat) (μ : zM) : kp μ (eX6_readLink F μ) := by
  unfold eX6_readLink
  exact kp_ite (kp_zbd fun _ => kp_ite (kp_mv (kp_link49 F _ _ _) rfl) (kp_zbd fun _ => kp_mv (kp_link49 F _ _ _) rfl)) (kp_zbd fun _ => kp_zchk (kp_some rfl))
theorem kp_node51 (F : Nat) (a : Int32) (μ : zM) : kp μ (jX6_readNode_51 F a μ) := by
  unfold jX6_readNode_51 jX6_readNode_64
  exact kp_ite (kp_zbd fun _ => kp_some rfl) (kp_zbd fun _ => kp_some rfl)
theorem kp_node (F : Nat) (μ : zM) : kp μ (eX6_readNode F μ) := by
  unfold eX6_readNode
  exact kp_ite (kp_zbd fun _ => kp_zbd fun _ => kp_ite (kp_zbd fun _ => kp_ite (kp_some rfl) (kp_mv (kp_node51 F _ _) rfl)) (kp_mv (kp_node51 F _ _) rfl)) (kp_zbd fun _ => kp_zchk (kp_some rfl))
theorem kp_line (F : Nat) (μ : zM) : kp μ (eX6_readLine F μ) := by
  unfold eX6_readLine
  exact kp_zbd fun _ => kp_zbd fun _ => kp_ite (kp_zbd fun _ => kp_ite (kp_zbd fun _ => kp_ite (kp_zbd fun _ => kp_ite (kp_bind (kp_number F _) rfl fun _ h => kp_zchk (kp_some h)) (kp_bind (kp_repair F _) rfl fun _ h => kp_zchk (kp_some h))) (kp_bind (kp_request F _) rfl fun _ h => kp_zchk (kp_some h))) (kp_bind (kp_link F _) rfl fun _ h => kp_zchk (kp_some h))) (kp_bind (kp_node F _) rfl fun _ h => kp_zchk (kp_some h))
theorem kp_read3 (F : Nat) : ∀ (n : Nat) (a : Int32) (μ : zM), kp μ (hX6_read_37 F n a μ)
  | 0, _, _ => kp_none
  | n + 1, a, μ => by
    unfold hX6_read_37
    exact kp_ite (kp_some rfl) (kp_bind (kp_line F μ) rfl fun y h => kp_ite (kp_some h) (kp_zbd fun _ => kp_ite (kp_zbd fun _ => kp_ite (kp_zbd fun _ => kp_mv (kp_read3 F n _ _) h) (kp_some h)) (kp_some h)))
theorem kp_read (F : Nat) (μ : zM) : kp μ (eX6_read F μ) := by
  unfold eX6_read
  exact kp_zbd fun _ => kp_ite (kp_mv (kp_read3 F F _ _) rfl) (kp_some rfl)
theorem kp_group (F : Nat) : kp μ (eX11_group F μ) := by
  unfold eX11_group
  exact kp_bind (kp_read F _) rfl fun y h => kp_ite (kp_ite (kp_zbd fun _ => kp_some h) (kp_some h)) (kp_some h)
end KP
