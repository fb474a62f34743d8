-- J7_fill_53178q39
def hJ7_fill_53178q39_5 (F : Nat) : Nat → Int32 → Int32 → Int32 → zX → Option (zX)
  | 0, _, _, _, _ => none
  | n + 1, a1, a2, a3, X => if a3 ≤ a2 then some X else zchk (zin a2 36) ((hJ7_fill_53178q39_5 F n) a1 (a2 + (nI 1)) a3 (zw X 39 (zn a2) a1))
set_option maxRecDepth 20000 in
set_option maxHeartbeats 4000000 in
theorem sJ7_fill_53178q39_5 {μ : zM} {w : Nat} (hw : w < 3) {F : Nat} : ∀ {n : Nat} {a1 a2 a3 : Int32} {X : zX} {ρ : zX}, hJ7_fill_53178q39_5 F n a1 a2 a3 X = some ρ → zJ mJ7_fill_53178 1 (0, 0) (0, 0) (zQ none (zg μ (w + 4) ρ)) 5 [some (zq (w + 4) 39), some (zi a1), some (zi a2), some (zi a3)] [] (zg μ (w + 4) X) := by
  intro n
  induction n with
  | zero => intro a1 a2 a3 X ρ h; exact nomatch (show (none : Option _) = some ρ from h)
  | succ n ih =>
    intro a1 a2 a3 X ρ h
    have hK5 := @ih
    rw [hJ7_fill_53178q39_5] at h
    refine z_iload dJ7_fill_53178_5 rfl (z_iload dJ7_fill_53178_6 rfl (z_icmp_ge dJ7_fill_53178_7 (fun c1 => ?_) (fun c1 => ?_)))
    · have h := ziT h (c1)
      exact z_vretQ dJ7_fill_53178_20 rfl (by cases h; rfl)
    · have h := ziF h (c1)
      obtain ⟨s2, h⟩ := zchk_some h
      exact z_aload dJ7_fill_53178_10 rfl (z_iload dJ7_fill_53178_11 rfl (z_iload dJ7_fill_53178_12 rfl (z_iast dJ7_fill_53178_13 (in_39 hw) sh_39 (zin_vp s2) (z_iinc dJ7_fill_53178_14 (Nat.le_of_ble_eq_true rfl) rfl (z_goto dJ7_fill_53178_17 (z_mask [true, true, true, true] (hK5 h)))))))
def eJ7_fill_53178q39 (F : Nat) (x1 : Int32) (X : zX) : Option (zX) := hJ7_fill_53178q39_5 F F x1 (nI 0) (nI 36) X
set_option maxRecDepth 20000 in
set_option maxHeartbeats 4000000 in
theorem tJ7_fill_53178q39 {μ : zM} {w : Nat} (hw : w < 3) {F : Nat} {x1 : Int32} {X : zX} {ρ : zX} (h : eJ7_fill_53178q39 F x1 X = some ρ) : LM mJ7_fill_53178 1 [zq (w + 4) 39, zi x1] (zg μ (w + 4) X) none (zg μ (w + 4) ρ) := by
  unfold eJ7_fill_53178q39 at h
  refine LM.ofF (by decide +kernel) rfl (Nat.le_of_ble_eq_true rfl) ?_
  show zJ mJ7_fill_53178 1 (0, 0) (0, 0) _ 0 [some (zq (w + 4) 39), some (zi x1), none, none] [] _
  exact z_const dJ7_fill_53178_0 (z_istore dJ7_fill_53178_1 (Nat.le_of_ble_eq_true rfl) (z_aload dJ7_fill_53178_2 rfl (z_alen dJ7_fill_53178_3 (in_39 hw) sh_39 (by decide) (z_istore dJ7_fill_53178_4 (Nat.le_of_ble_eq_true rfl) (z_mask [true, true, true, true] (sJ7_fill_53178q39_5 hw h))))))
-- J7_fill_53178q40
def hJ7_fill_53178q40_5 (F : Nat) : Nat → Int32 → Int32 → Int32 → zX → Option (zX)
  | 0, _, _, _, _ => none
  | n + 1, a1, a2, a3, X => if a3 ≤ a2 then some X else zchk (zin a2 36) ((hJ7_fill_53178q40_5 F n) a1 (a2 + (nI 1)) a3 (zw X 40 (zn a2) a1))
set_option maxRecDepth 20000 in
set_option maxHeartbeats 4000000 in
theorem sJ7_fill_53178q40_5 {μ : zM} {w : Nat} (hw : w < 3) {F : Nat} : ∀ {n : Nat} {a1 a2 a3 : Int32} {X : zX} {ρ : zX}, hJ7_fill_53178q40_5 F n a1 a2 a3 X = some ρ → zJ mJ7_fill_53178 1 (0, 0) (0, 0) (zQ none (zg μ (w + 4) ρ)) 5 [some (zq (w + 4) 40), some (zi a1), some (zi a2), some (zi a3)] [] (zg μ (w + 4) X) := by
  intro n
  induction n with
  | zero => intro a1 a2 a3 X ρ h; exact nomatch (show (none : Option _) = some ρ from h)
  | succ n ih =>
    intro a1 a2 a3 X ρ h
    have hK5 := @ih
    rw [hJ7_fill_53178q40_5] at h
    refine z_iload dJ7_fill_53178_5 rfl (z_iload dJ7_fill_53178_6 rfl (z_icmp_ge dJ7_fill_53178_7 (fun c1 => ?_) (fun c1 => ?_)))
    · have h := ziT h (c1)
      exact z_vretQ dJ7_fill_53178_20 rfl (by cases h; rfl)
    · have h := ziF h (c1)
      obtain ⟨s2, h⟩ := zchk_some h
      exact z_aload dJ7_fill_53178_10 rfl (z_iload dJ7_fill_53178_11 rfl (z_iload dJ7_fill_53178_12 rfl (z_iast dJ7_fill_53178_13 (in_40 hw) sh_40 (zin_vp s2) (z_iinc dJ7_fill_53178_14 (Nat.le_of_ble_eq_true rfl) rfl (z_goto dJ7_fill_53178_17 (z_mask [true, true, true, true] (hK5 h)))))))
def eJ7_fill_53178q40 (F : Nat) (x1 : Int32) (X : zX) : Option (zX) := hJ7_fill_53178q40_5 F F x1 (nI 0) (nI 36) X
set_option maxRecDepth 20000 in
set_option maxHeartbeats 4000000 in
theorem tJ7_fill_53178q40 {μ : zM} {w : Nat} (hw : w < 3) {F : Nat} {x1 : Int32} {X : zX} {ρ : zX} (h : eJ7_fill_53178q40 F x1 X = some ρ) : LM mJ7_fill_53178 1 [zq (w + 4) 40, zi x1] (zg μ (w + 4) X) none (zg μ (w + 4) ρ) := by
  unfold eJ7_fill_53178q40 at h
  refine LM.ofF (by decide +kernel) rfl (Nat.le_of_ble_eq_true rfl) ?_
  show zJ mJ7_fill_53178 1 (0, 0) (0, 0) _ 0 [some (zq (w + 4) 40), some (zi x1), none, none] [] _
  exact z_const dJ7_fill_53178_0 (z_istore dJ7_fill_53178_1 (Nat.le_of_ble_eq_true rfl) (z_aload dJ7_fill_53178_2 rfl (z_alen dJ7_fill_53178_3 (in_40 hw) sh_40 (by decide) (z_istore dJ7_fill_53178_4 (Nat.le_of_ble_eq_true rfl) (z_mask [true, true, true, true] (sJ7_fill_53178q40_5 hw h))))))
-- J7_fill_53178q41
def hJ7_fill_53178q41_5 (F : Nat) : Nat → Int32 → Int32 → Int32 → zX → Option (zX)
  | 0, _, _, _, _ => none
  | n + 1, a1, a2, a3, X => if a3 ≤ a2 then some X else zchk (zin a2 36) ((hJ7_fill_53178q41_5 F n) a1 (a2 + (nI 1)) a3 (zw X 41 (zn a2) a1))
set_option maxRecDepth 20000 in
set_option maxHeartbeats 4000000 in
theorem sJ7_fill_53178q41_5 {μ : zM} {w : Nat} (hw : w < 3) {F : Nat} : ∀ {n : Nat} {a1 a2 a3 : Int32} {X : zX} {ρ : zX}, hJ7_fill_53178q41_5 F n a1 a2 a3 X = some ρ → zJ mJ7_fill_53178 1 (0, 0) (0, 0) (zQ none (zg μ (w + 4) ρ)) 5 [some (zq (w + 4) 41), some (zi a1), some (zi a2), some (zi a3)] [] (zg μ (w + 4) X) := by
  intro n
  induction n with
  | zero => intro a1 a2 a3 X ρ h; exact nomatch (show (none : Option _) = some ρ from h)
  | succ n ih =>
    intro a1 a2 a3 X ρ h
    have hK5 := @ih
    rw [hJ7_fill_53178q41_5] at h
    refine z_iload dJ7_fill_53178_5 rfl (z_iload dJ7_fill_53178_6 rfl (z_icmp_ge dJ7_fill_53178_7 (fun c1 => ?_) (fun c1 => ?_)))
    · have h := ziT h (c1)
      exact z_vretQ dJ7_fill_53178_20 rfl (by cases h; rfl)
    · have h := ziF h (c1)
      obtain ⟨s2, h⟩ := zchk_some h
      exact z_aload dJ7_fill_53178_10 rfl (z_iload dJ7_fill_53178_11 rfl (z_iload dJ7_fill_53178_12 rfl (z_iast dJ7_fill_53178_13 (in_41 hw) sh_41 (zin_vp s2) (z_iinc dJ7_fill_53178_14 (Nat.le_of_ble_eq_true rfl) rfl (z_goto dJ7_fill_53178_17 (z_mask [true, true, true, true] (hK5 h)))))))
def eJ7_fill_53178q41 (F : Nat) (x1 : Int32) (X : zX) : Option (zX) := hJ7_fill_53178q41_5 F F x1 (nI 0) (nI 36) X
set_option maxRecDepth 20000 in
set_option maxHeartbeats 4000000 in
theorem tJ7_fill_53178q41 {μ : zM} {w : Nat} (hw : w < 3) {F : Nat} {x1 : Int32} {X : zX} {ρ : zX} (h : eJ7_fill_53178q41 F x1 X = some ρ) : LM mJ7_fill_53178 1 [zq (w + 4) 41, zi x1] (zg μ (w + 4) X) none (zg μ (w + 4) ρ) := by
  unfold eJ7_fill_53178q41 at h
  refine LM.ofF (by decide +kernel) rfl (Nat.le_of_ble_eq_true rfl) ?_
  show zJ mJ7_fill_53178 1 (0, 0) (0, 0) _ 0 [some (zq (w + 4) 41), some (zi x1), none, none] [] _
  exact z_const dJ7_fill_53178_0 (z_istore dJ7_fill_53178_1 (Nat.le_of_ble_eq_true rfl) (z_aload dJ7_fill_53178_2 rfl (z_alen dJ7_fill_53178_3 (in_41 hw) sh_41 (by decide) (z_istore dJ7_fill_53178_4 (Nat.le_of_ble_eq_true rfl) (z_mask [true, true, true, true] (sJ7_fill_53178q41_5 hw h))))))
-- J7_fill_53178q42
def hJ7_fill_53178q42_5 (F : Nat) : Nat → Int32 → Int32 → Int32 → zX → Option (zX)
  | 0, _, _, _, _ => none
  | n + 1, a1, a2, a3, X => if a3 ≤ a2 then some X else zchk (zin a2 36) ((hJ7_fill_53178q42_5 F n) a1 (a2 + (nI 1)) a3 (zw X 42 (zn a2) a1))
set_option maxRecDepth 20000 in
set_option maxHeartbeats 4000000 in
theorem sJ7_fill_53178q42_5 {μ : zM} {w : Nat} (hw : w < 3) {F : Nat} : ∀ {n : Nat} {a1 a2 a3 : Int32} {X : zX} {ρ : zX}, hJ7_fill_53178q42_5 F n a1 a2 a3 X = some ρ → zJ mJ7_fill_53178 1 (0, 0) (0, 0) (zQ none (zg μ (w + 4) ρ)) 5 [some (zq (w + 4) 42), some (zi a1), some (zi a2), some (zi a3)] [] (zg μ (w + 4) X) := by
  intro n
  induction n with
  | zero => intro a1 a2 a3 X ρ h; exact nomatch (show (none : Option _) = some ρ from h)
  | succ n ih =>
    intro a1 a2 a3 X ρ h
    have hK5 := @ih
    rw [hJ7_fill_53178q42_5] at h
    refine z_iload dJ7_fill_53178_5 rfl (z_iload dJ7_fill_53178_6 rfl (z_icmp_ge dJ7_fill_53178_7 (fun c1 => ?_) (fun c1 => ?_)))
    · have h := ziT h (c1)
      exact z_vretQ dJ7_fill_53178_20 rfl (by cases h; rfl)
    · have h := ziF h (c1)
      obtain ⟨s2, h⟩ := zchk_some h
      exact z_aload dJ7_fill_53178_10 rfl (z_iload dJ7_fill_53178_11 rfl (z_iload dJ7_fill_53178_12 rfl (z_iast dJ7_fill_53178_13 (in_42 hw) sh_42 (zin_vp s2) (z_iinc dJ7_fill_53178_14 (Nat.le_of_ble_eq_true rfl) rfl (z_goto dJ7_fill_53178_17 (z_mask [true, true, true, true] (hK5 h)))))))
def eJ7_fill_53178q42 (F : Nat) (x1 : Int32) (X : zX) : Option (zX) := hJ7_fill_53178q42_5 F F x1 (nI 0) (nI 36) X
set_option maxRecDepth 20000 in
set_option maxHeartbeats 4000000 in
theorem tJ7_fill_53178q42 {μ : zM} {w : Nat} (hw : w < 3) {F : Nat} {x1 : Int32} {X : zX} {ρ : zX} (h : eJ7_fill_53178q42 F x1 X = some ρ) : LM mJ7_fill_53178 1 [zq (w + 4) 42, zi x1] (zg μ (w + 4) X) none (zg μ (w + 4) ρ) := by
  unfold eJ7_fill_53178q42 at h
  refine LM.ofF (by decide +kernel) rfl (Nat.le_of_ble_eq_true rfl) ?_
  show zJ mJ7_fill_53178 1 (0, 0) (0, 0) _ 0 [some (zq (w + 4) 42), some (zi x1), none, none] [] _
  exact z_const dJ7_fill_53178_0 (z_istore dJ7_fill_53178_1 (Nat.le_of_ble_eq_true rfl) (z_aload dJ7_fill_53178_2 rfl (z_alen dJ7_fill_53178_3 (in_42 hw) sh_42 (by decide) (z_istore dJ7_fill_53178_4 (Nat.le_of_ble_eq_true rfl) (z_mask [true, true, true, true] (sJ7_fill_53178q42_5 hw h))))))
-- J7_fill_53178q11
def hJ7_fill_53178q11_5 (F : Nat) : Nat → Int32 → Int32 → Int32 → zX → Option (zX)
  | 0, _, _, _, _ => none
  | n + 1, a1, a2, a3, X => if a3 ≤ a2 then some X else zchk (zin a2 6) ((hJ7_fill_53178q11_5 F n) a1 (a2 + (nI 1)) a3 (zw X 11 (zn a2) a1))
set_option maxRecDepth 20000 in
set_option maxHeartbeats 4000000 in
theorem sJ7_fill_53178q11_5 {μ : zM} {w : Nat} (hw : w < 3) {F : Nat} : ∀ {n : Nat} {a1 a2 a3 : Int32} {X : zX} {ρ : zX}, hJ7_fill_53178q11_5 F n a1 a2 a3 X = some ρ → zJ mJ7_fill_53178 1 (0, 0) (0, 0) (zQ none (zg μ (w + 4) ρ)) 5 [some (zq (w + 4) 11), some (zi a1), some (zi a2), some (zi a3)] [] (zg μ (w + 4) X) := by
  intro n
  induction n with
  | zero => intro a1 a2 a3 X ρ h; exact nomatch (show (none : Option _) = some ρ from h)
  | succ n ih =>
    intro a1 a2 a3 X ρ h
    have hK5 := @ih
    rw [hJ7_fill_53178q11_5] at h
    refine z_iload dJ7_fill_53178_5 rfl (z_iload dJ7_fill_53178_6 rfl (z_icmp_ge dJ7_fill_53178_7 (fun c1 => ?_) (fun c1 => ?_)))
    · have h := ziT h (c1)
      exact z_vretQ dJ7_fill_53178_20 rfl (by cases h; rfl)
    · have h := ziF h (c1)
      obtain ⟨s2, h⟩ := zchk_some h
      exact z_aload dJ7_fill_53178_10 rfl (z_iload dJ7_fill_53178_11 rfl (z_iload dJ7_fill_53178_12 rfl (z_iast dJ7_fill_53178_13 (in_11 hw) sh_11 (zin_vp s2) (z_iinc dJ7_fill_53178_14 (Nat.le_of_ble_eq_true rfl) rfl (z_goto dJ7_fill_53178_17 (z_mask [true, true, true, true] (hK5 h)))))))
def eJ7_fill_53178q11 (F : Nat) (x1 : Int32) (X : zX) : Option (zX) := hJ7_fill_53178q11_5 F F x1 (nI 0) (nI 6) X
set_option maxRecDepth 20000 in
set_option maxHeartbeats 4000000 in
theorem tJ7_fill_53178q11 {μ : zM} {w : Nat} (hw : w < 3) {F : Nat} {x1 : Int32} {X : zX} {ρ : zX} (h : eJ7_fill_53178q11 F x1 X = some ρ) : LM mJ7_fill_53178 1 [zq (w + 4) 11, zi x1] (zg μ (w + 4) X) none (zg μ (w + 4) ρ) := by
  unfold eJ7_fill_53178q11 at h
  refine LM.ofF (by decide +kernel) rfl (Nat.le_of_ble_eq_true rfl) ?_
  show zJ mJ7_fill_53178 1 (0, 0) (0, 0) _ 0 [some (zq (w + 4) 11), some (zi x1), none, none] [] _
  exact z_const dJ7_fill_53178_0 (z_istore dJ7_fill_53178_1 (Nat.le_of_ble_eq_true rfl) (z_aload dJ7_fill_53178_2 rfl (z_alen dJ7_fill_53178_3 (in_11 hw) sh_11 (by decide) (z_istore dJ7_fill_53178_4 (Nat.le_of_ble_eq_true rfl) (z_mask [true, true, true, true] (sJ7_fill_53178q11_5 hw h))))))
-- J7_fill_53178q12
def hJ7_fill_53178q12_5 (F : Nat) : Nat → Int32 → Int32 → Int32 → zX → Option (zX)
  | 0, _, _, _, _ => none
  | n + 1, a1, a2, a3, X => if a3 ≤ a2 then some X else zchk (zin a2 6) ((hJ7_fill_53178q12_5 F n) a1 (a2 + (nI 1)) a3 (zw X 12 (zn a2) a1))
set_option maxRecDepth 20000 in
set_option maxHeartbeats 4000000 in
theorem sJ7_fill_53178q12_5 {μ : zM} {w : Nat} (hw : w < 3) {F : Nat} : ∀ {n : Nat} {a1 a2 a3 : Int32} {X : zX} {ρ : zX}, hJ7_fill_53178q12_5 F n a1 a2 a3 X = some ρ → zJ mJ7_fill_53178 1 (0, 0) (0, 0) (zQ none (zg μ (w + 4) ρ)) 5 [some (zq (w + 4) 12), some (zi a1), some (zi a2), some (zi a3)] [] (zg μ (w + 4) X) := by
  intro n
  induction n with
  | zero => intro a1 a2 a3 X ρ h; exact nomatch (show (none : Option _) = some ρ from h)
  | succ n ih =>
    intro a1 a2 a3 X ρ h
    have hK5 := @ih
    rw [hJ7_fill_53178q12_5] at h
    refine z_iload dJ7_fill_53178_5 rfl (z_iload dJ7_fill_53178_6 rfl (z_icmp_ge dJ7_fill_53178_7 (fun c1 => ?_) (fun c1 => ?_)))
    · have h := ziT h (c1)
      exact z_vretQ dJ7_fill_53178_20 rfl (by cases h; rfl)
    · have h := ziF h (c1)
      obtain ⟨s2, h⟩ := zchk_some h
      exact z_aload dJ7_fill_53178_10 rfl (z_iload dJ7_fill_53178_11 rfl (z_iload dJ7_fill_53178_12 rfl (z_iast dJ7_fill_53178_13 (in_12 hw) sh_12 (zin_vp s2) (z_iinc dJ7_fill_53178_14 (Nat.le_of_ble_eq_true rfl) rfl (z_goto dJ7_fill_53178_17 (z_mask [true, true, true, true] (hK5 h)))))))
def eJ7_fill_53178q12 (F : Nat) (x1 : Int32) (X : zX) : Option (zX) := hJ7_fill_53178q12_5 F F x1 (nI 0) (nI 6) X
set_option maxRecDepth 20000 in
set_option maxHeartbeats 4000000 in
theorem tJ7_fill_53178q12 {μ : zM} {w : Nat} (hw : w < 3) {F : Nat} {x1 : Int32} {X : zX} {ρ : zX} (h : eJ7_fill_53178q12 F x1 X = some ρ) : LM mJ7_fill_53178 1 [zq (w + 4) 12, zi x1] (zg μ (w + 4) X) none (zg μ (w + 4) ρ) := by
  unfold eJ7_fill_53178q12 at h
  refine LM.ofF (by decide +kernel) rfl (Nat.le_of_ble_eq_true rfl) ?_
  show zJ mJ7_fill_53178 1 (0, 0) (0, 0) _ 0 [some (zq (w + 4) 12), some (zi x1), none, none] [] _
  exact z_const dJ7_fill_53178_0 (z_istore dJ7_fill_53178_1 (Nat.le_of_ble_eq_true rfl) (z_aload dJ7_fill_53178_2 rfl (z_alen dJ7_fill_53178_3 (in_12 hw) sh_12 (by decide) (z_istore dJ7_fill_53178_4 (Nat.le_of_ble_eq_true rfl) (z_mask [true, true, true, true] (sJ7_fill_53178q12_5 hw h))))))
-- X9_shorten
def jX9_shorten_37 (a1 a2 a3 : Int32) (X : zX) : Option (zX) := zchk (zin a1 36) (zchk (zin a2 36) (some (zw X 39 (zn a2) ((X 39 (zn a1)) + a3))))
set_option maxRecDepth 20000 in
set_option maxHeartbeats 4000000 in
theorem sX9_shorten_37 {μ : zM} {w : Nat} (hw : w < 3) {a1 a2 a3 : Int32} {X : zX} {ρ : zX} (h : jX9_shorten_37 a1 a2 a3 X = some ρ) : zJ mX9_shorten 1 (0, 0) (0, 0) (zQ none (zg μ (w + 4) ρ)) 37 [some (zq (w + 4) 6), some (zi a1), some (zi a2), some (zi a3)] [] (zg μ (w + 4) X) := by
  unfold jX9_shorten_37 at h
  obtain ⟨s1, h⟩ := zchk_some h
  obtain ⟨s2, h⟩ := zchk_some h
  exact z_aload dX9_shorten_37 rfl (z_getR dX9_shorten_38 fkX9_19 (in_6 hw) sh_6 rfl (z_iload dX9_shorten_41 rfl (z_aload dX9_shorten_42 rfl (z_getR dX9_shorten_43 fkX9_19 (in_6 hw) sh_6 rfl (z_iload dX9_shorten_46 rfl (z_iald dX9_shorten_47 (in_39 hw) sh_39 (zin_vp s1) (z_iload dX9_shorten_48 rfl (z_iadd dX9_shorten_49 (z_iast dX9_shorten_50 (in_39 hw) sh_39 (zin_vp s2) (z_vretQ dX9_shorten_51 rfl (by cases h; rfl)))))))))))
def eX9_shorten (x0 x1 x2 : Int32) (X : zX) : Option (zX) := zchk (zin x0 36) (if (X 39 (zn x0)) = (-1) then some X else zchk (zin x1 36) (if (X 39 (zn x1)) = (-1) then jX9_shorten_37 x0 x1 x2 X else zchk (zin x0 36) (zchk (zin x1 36) (if (X 39 (zn x1)) ≤ ((X 39 (zn x0)) + x2) then some X else jX9_shorten_37 x0 x1 x2 X))))
set_option maxRecDepth 20000 in
set_option maxHeartbeats 4000000 in
theorem tX9_shorten {μ : zM} {w : Nat} (hw : w < 3) {x0 x1 x2 : Int32} {X : zX} {ρ : zX} (h : eX9_shorten x0 x1 x2 X = some ρ) : LM mX9_shorten 1 [zq (w + 4) 6, zi x0, zi x1, zi x2] (zg μ (w + 4) X) none (zg μ (w + 4) ρ) := by
  unfold eX9_shorten at h
  refine LM.of (by decide +kernel) rfl (Nat.le_of_ble_eq_true rfl) ?_
  show zJ mX9_shorten 1 (0, 0) (0, 0) _ 0 [some (zq (w + 4) 6), some (zi x0), some (zi x1), some (zi x2)] [] _
  obtain ⟨s1, h⟩ := zchk_some h
  refine z_aload dX9_shorten_0 rfl (z_getR dX9_shorten_1 fkX9_19 (in_6 hw) sh_6 rfl (z_iload dX9_shorten_4 rfl (z_iald dX9_shorten_5 (in_39 hw) sh_39 (zin_vp s1) (z_const dX9_shorten_6 (z_icmp_eq dX9_shorten_7 (fun c2 => ?_) (fun c2 => ?_))))))
  · have h := ziT h (c2)
    exact z_vretQ dX9_shorten_51 rfl (by cases h; rfl)
  · have h := ziF h (c2)
    obtain ⟨s3, h⟩ := zchk_some h
    refine z_aload dX9_shorten_10 rfl (z_getR dX9_shorten_11 fkX9_19 (in_6 hw) sh_6 rfl (z_iload dX9_shorten_14 rfl (z_iald dX9_shorten_15 (in_39 hw) sh_39 (zin_vp s3) (z_const dX9_shorten_16 (z_icmp_eq dX9_shorten_17 (fun c4 => ?_) (fun c4 => ?_))))))
    · have h := ziT h (c4)
      exact z_mask [true, true, true, true] (sX9_shorten_37 hw h)
    · have h := ziF h (c4)
      obtain ⟨s5, h⟩ := zchk_some h
      obtain ⟨s6, h⟩ := zchk_some h
      refine z_aload dX9_shorten_20 rfl (z_getR dX9_shorten_21 fkX9_19 (in_6 hw) sh_6 rfl (z_iload dX9_shorten_24 rfl (z_iald dX9_shorten_25 (in_39 hw) sh_39 (zin_vp s5) (z_iload dX9_shorten_26 rfl (z_iadd dX9_shorten_27 (z_aload dX9_shorten_28 rfl (z_getR dX9_shorten_29 fkX9_19 (in_6 hw) sh_6 rfl (z_iload dX9_shorten_32 rfl (z_iald dX9_shorten_33 (in_39 hw) sh_39 (zin_vp s6) (z_icmp_ge dX9_shorten_34 (fun c7 => ?_) (fun c7 => ?_)))))))))))
      · have h := ziT h (c7)
        exact z_vretQ dX9_shorten_51 rfl (by cases h; rfl)
      · have h := ziF h (c7)
        exact z_mask [true, true, true, true] (sX9_shorten_37 hw h)
-- X9_linksWithin
def jX9_linksWithin_58 (F : Nat) (K5 : Int32 → Int32 → Int32 → Int32 → zX → Option (Int32)) (a1 a2 a4 b0 b1 : Int32) (X : zX) : Option (Int32) := K5 a1 a2 (b1 ||| b0) (a4 + (nI 1)) X
set_option maxRecDepth 20000 in
set_option maxHeartbeats 4000000 in
theorem sX9_linksWithin_58 {μ : zM} {w : Nat} (hw : w < 3) {F : Nat} {K5 : Int32 → Int32 → Int32 → Int32 → zX → Option (Int32)} (hK5 : ∀ {xa1 xa2 xa3 xa4 : Int32} {xX : zX} {ρ : Int32}, K5 xa1 xa2 xa3 xa4 xX = some ρ → zJ mX9_linksWithin 2 (0, 0) (0, 0) (zQ (some (zi ρ)) (zg μ (w + 4) xX)) 5 [some (zq (w + 4) 6), some (zi xa1), some (zi xa2), some (zi xa3), some (zi xa4), none] [] (zg μ (w + 4) xX)) {a1 a2 a4 b0 b1 : Int32} {X : zX} {ρ : Int32} (h : jX9_linksWithin_58 F K5 a1 a2 a4 b0 b1 X = some ρ) : zJ mX9_linksWithin 2 (0, 0) (0, 0) (zQ (some (zi ρ)) (zg μ (w + 4) X)) 58 [some (zq (w + 4) 6), some (zi a1), some (zi a2), none, some (zi a4), none] [zi b0, zi b1] (zg μ (w + 4) X) := by
  unfold jX9_linksWithin_58 at h
  exact z_ior dX9_linksWithin_58 (z_istore dX9_linksWithin_59 (Nat.le_of_ble_eq_true rfl) (z_iinc dX9_linksWithin_60 (Nat.le_of_ble_eq_true rfl) rfl (z_goto dX9_linksWithin_63 (z_mask [true, true, true, true, true, false] (hK5 h)))))
def hX9_linksWithin_5 (F : Nat) : Nat → Int32 → Int32 → Int32 → Int32 → zX → Option (Int32)
  | 0, _, _, _, _, _ => none
  | n + 1, a1, a2, a3, a4, X => zchk (zin a1 6) (if (X 44 (zn a1)) ≤ a4 then some a3 else zchk (zin ((a1 * (nI 6)) + a4) 36) (zlet ((a1 * (nI 6)) + (X 43 (zn ((a1 * (nI 6)) + a4)))) fun v4 => zchk (zin v4 36) (if a2 < (X 42 (zn v4)) then jX9_linksWithin_58 F (hX9_linksWithin_5 F n) a1 a2 a4 (nI 0) a3 X else zchk (zin v4 36) (jX9_linksWithin_58 F (hX9_linksWithin_5 F n) a1 a2 a4 ((nI 1) <<< ((X 41 (zn v4)) &&& 31)) a3 X))))
set_option maxRecDepth 20000 in
set_option maxHeartbeats 4000000 in
theorem sX9_linksWithin_5 {μ : zM} {w : Nat} (hw : w < 3) {F : Nat} : ∀ {n : Nat} {a1 a2 a3 a4 : Int32} {X : zX} {ρ : Int32}, hX9_linksWithin_5 F n a1 a2 a3 a4 X = some ρ → zJ mX9_linksWithin 2 (0, 0) (0, 0) (zQ (some (zi ρ)) (zg μ (w + 4) X)) 5 [some (zq (w + 4) 6), some (zi a1), some (zi a2), some (zi a3), some (zi a4), none] [] (zg μ (w + 4) X) := by
  intro n
  induction n with
  | zero => intro a1 a2 a3 a4 X ρ h; exact nomatch (show (none : Option _) = some ρ from h)
  | succ n ih =>
    intro a1 a2 a3 a4 X ρ h
    have hK5 := @ih
    rw [hX9_linksWithin_5] at h
    obtain ⟨s1, h⟩ := zchk_some h
    refine z_iload dX9_linksWithin_5 rfl (z_aload dX9_linksWithin_7 rfl (z_getR dX9_linksWithin_8 fkX9_35 (in_6 hw) sh_6 rfl (z_iload dX9_linksWithin_11 rfl (z_iald dX9_linksWithin_12 (in_44 hw) sh_44 (zin_vp s1) (z_icmp_ge dX9_linksWithin_13 (fun c2 => ?_) (fun c2 => ?_))))))
    · have h := ziT h (c2)
      exact z_iload dX9_linksWithin_66 rfl (z_iretQ dX9_linksWithin_67 rfl (by cases h; rfl))
    · have h := ziF h (c2)
      obtain ⟨s3, h⟩ := zchk_some h
      have h := zlet_h h
      refine z_iload dX9_linksWithin_16 rfl (z_aload dX9_linksWithin_17 rfl (z_getR dX9_linksWithin_18 fkX9_32 (in_6 hw) sh_6 rfl (z_iload dX9_linksWithin_21 rfl (z_iload dX9_linksWithin_22 rfl (z_callSN dX9_linksWithin_24 (tX11_pair) (Nat.le_of_ble_eq_true rfl) cdX11_pair naX11_pair lkX9_59 stX11_pair rfl rfl (Nat.le_of_ble_eq_true rfl) (z_iald dX9_linksWithin_27 (in_43 hw) sh_43 (zin_vp s3) (z_callSN dX9_linksWithin_28 (tX11_pair) (Nat.le_of_ble_eq_true rfl) cdX11_pair naX11_pair lkX9_59 stX11_pair rfl rfl (Nat.le_of_ble_eq_true rfl) (z_istore dX9_linksWithin_31 (Nat.le_of_ble_eq_true rfl) (z_iload dX9_linksWithin_33 rfl (z_aload dX9_linksWithin_34 rfl (z_getR dX9_linksWithin_35 fkX9_29 (in_6 hw) sh_6 rfl ?_)))))))))))
      obtain ⟨s5, h⟩ := zchk_some h
      refine z_iload dX9_linksWithin_38 rfl (z_iald dX9_linksWithin_40 (in_42 hw) sh_42 (zin_vp s5) (z_iload dX9_linksWithin_41 rfl (z_icmp_gt dX9_linksWithin_42 (fun c6 => ?_) (fun c6 => ?_))))
      · have h := ziT h (c6)
        exact z_const dX9_linksWithin_57 (z_mask [true, true, true, false, true, false] (sX9_linksWithin_58 hw hK5 h))
      · have h := ziF h (c6)
        obtain ⟨s7, h⟩ := zchk_some h
        exact z_const dX9_linksWithin_45 (z_aload dX9_linksWithin_46 rfl (z_getR dX9_linksWithin_47 fkX9_26 (in_6 hw) sh_6 rfl (z_iload dX9_linksWithin_50 rfl (z_iald dX9_linksWithin_52 (in_41 hw) sh_41 (zin_vp s7) (z_ishl dX9_linksWithin_53 (z_goto dX9_linksWithin_54 (z_mask [true, true, true, false, true, false] (sX9_linksWithin_58 hw hK5 h))))))))
def eX9_linksWithin (F : Nat) (x0 x1 : Int32) (X : zX) : Option (Int32) := hX9_linksWithin_5 F F x0 x1 (nI 0) (nI 0) X
set_option maxRecDepth 20000 in
set_option maxHeartbeats 4000000 in
theorem tX9_linksWithin {μ : zM} {w : Nat} (hw : w < 3) {F : Nat} {x0 x1 : Int32} {X : zX} {ρ : Int32} (h : eX9_linksWithin F x0 x1 X = some ρ) : LM mX9_linksWithin 2 [zq (w + 4) 6, zi x0, zi x1] (zg μ (w + 4) X) (some (zi ρ)) (zg μ (w + 4) X) := by
  unfold eX9_linksWithin at h
  refine LM.of (by decide +kernel) rfl (Nat.le_of_ble_eq_true rfl) ?_
  show zJ mX9_linksWithin 2 (0, 0) (0, 0) _ 0 [some (zq (w + 4) 6), some (zi x0), some (zi x1), none, none, none] [] _
  exact z_const dX9_linksWithin_0 (z_istore dX9_linksWithin_1 (Nat.le_of_ble_eq_true rfl) (z_const dX9_linksWithin_2 (z_istore dX9_linksWithin_3 (Nat.le_of_ble_eq_true rfl) (z_mask [true, true, true, true, true, false] (sX9_linksWithin_5 hw h)))))
-- X9_longest
def eX9_longest (x0 : Int32) (X : zX) : Option (Int32) := zchk (zin x0 6) (if (X 44 (zn x0)) ≤ 0 then some (nI 0) else zchk (zin ((x0 * (nI 6)) + ((X 44 (zn x0)) - (nI 1))) 36) (zchk (zin ((x0 * (nI 6)) + (X 43 (zn ((x0 * (nI 6)) + ((X 44 (zn x0)) - (nI 1)))))) 36) (some (X 39 (zn ((x0 * (nI 6)) + (X 43 (zn ((x0 * (nI 6)) + ((X 44 (zn x0)) - (nI 1)))))))))))
set_option maxRecDepth 20000 in
set_option maxHeartbeats 4000000 in
theorem tX9_longest {μ : zM} {w : Nat} (hw : w < 3) {x0 : Int32} {X : zX} {ρ : Int32} (h : eX9_longest x0 X = some ρ) : LM mX9_longest 2 [zq (w + 4) 6, zi x0] (zg μ (w + 4) X) (some (zi ρ)) (zg μ (w + 4) X) := by
  unfold eX9_longest at h
  refine LM.of (by decide +kernel) rfl (Nat.le_of_ble_eq_true rfl) ?_
  show zJ mX9_longest 2 (0, 0) (0, 0) _ 0 [some (zq (w + 4) 6), some (zi x0), none] [] _
  obtain ⟨s1, h⟩ := zchk_some h
  refine z_aload dX9_longest_0 rfl (z_getR dX9_longest_1 fkX9_35 (in_6 hw) sh_6 rfl (z_iload dX9_longest_4 rfl (z_iald dX9_longest_5 (in_44 hw) sh_44 (zin_vp s1) (z_istore dX9_longest_6 (Nat.le_of_ble_eq_true rfl) (z_iload dX9_longest_7 rfl (z_if_le dX9_longest_8 (fun c2 => ?_) (fun c2 => ?_)))))))
  · have h := ziT h (c2)
    exact z_const dX9_longest_35 (z_iretQ dX9_longest_36 rfl (by cases h; rfl))
  · have h := ziF h (c2)
    obtain ⟨s3, h⟩ := zchk_some h
    refine z_aload dX9_longest_11 rfl (z_getR dX9_longest_12 fkX9_19 (in_6 hw) sh_6 rfl (z_iload dX9_longest_15 rfl (z_aload dX9_longest_16 rfl (z_getR dX9_longest_17 fkX9_32 (in_6 hw) sh_6 rfl (z_iload dX9_longest_20 rfl (z_iload dX9_longest_21 rfl (z_const dX9_longest_22 (z_isub dX9_longest_23 (z_callSN dX9_longest_24 (tX11_pair) (Nat.le_of_ble_eq_true rfl) cdX11_pair naX11_pair lkX9_59 stX11_pair rfl rfl (Nat.le_of_ble_eq_true rfl) (z_iald dX9_longest_27 (in_43 hw) sh_43 (zin_vp s3) (z_callSN dX9_longest_28 (tX11_pair) (Nat.le_of_ble_eq_true rfl) cdX11_pair naX11_pair lkX9_59 stX11_pair rfl rfl (Nat.le_of_ble_eq_true rfl) ?_)))))))))))
    obtain ⟨s4, h⟩ := zchk_some h
    exact z_iald dX9_longest_31 (in_39 hw) sh_39 (zin_vp s4) (z_goto dX9_longest_32 (z_iretQ dX9_longest_36 rfl (by cases h; rfl)))
-- X9_nearest
def jX9_nearest_74 (F : Nat) (K5 : Int32 → Int32 → Int32 → Int32 → zX → Option (Int32)) (a1 a2 a4 : Int32) (X : zX) : Option (Int32) := K5 a1 a2 a4 (a4 + (nI 1)) X
set_option maxRecDepth 20000 in
set_option maxHeartbeats 4000000 in
theorem sX9_nearest_74 {μ : zM} {w : Nat} (hw : w < 3) {F : Nat} {K5 : Int32 → Int32 → Int32 → Int32 → zX → Option (Int32)} (hK5 : ∀ {xa1 xa2 xa3 xa4 : Int32} {xX : zX} {ρ : Int32}, K5 xa1 xa2 xa3 xa4 xX = some ρ → zJ mX9_nearest 2 (0, 0) (0, 0) (zQ (some (zi ρ)) (zg μ (w + 4) xX)) 5 [some (zq (w + 4) 6), some (zi xa1), some (zi xa2), some (zi xa3), some (zi xa4), none, none] [] (zg μ (w + 4) xX)) {a1 a2 a4 : Int32} {X : zX} {ρ : Int32} (h : jX9_nearest_74 F K5 a1 a2 a4 X = some ρ) : zJ mX9_nearest 2 (0, 0) (0, 0) (zQ (some (zi ρ)) (zg μ (w + 4) X)) 74 [some (zq (w + 4) 6), some (zi a1), some (zi a2), none, some (zi a4), none, none] [] (zg μ (w + 4) X) := by
  unfold jX9_nearest_74 at h
  exact z_iload dX9_nearest_74 rfl (z_istore dX9_nearest_76 (Nat.le_of_ble_eq_true rfl) (z_iinc dX9_nearest_77 (Nat.le_of_ble_eq_true rfl) rfl (z_goto dX9_nearest_80 (z_mask [true, true, true, true, true, false, false] (hK5 h)))))
def jX9_nearest_47 (F : Nat) (K5 : Int32 → Int32 → Int32 → Int32 → zX → Option (Int32)) (a1 a2 a3 a4 a5 b0 : Int32) (X : zX) : Option (Int32) := if b0 = 0 then K5 a1 a2 a3 (a4 + (nI 1)) X else if a3 = (-1) then jX9_nearest_74 F K5 a1 a2 a4 X else zchk (zin ((a1 * (nI 6)) + a3) 36) (if (X 39 (zn ((a1 * (nI 6)) + a3))) ≤ a5 then K5 a1 a2 a3 (a4 + (nI 1)) X else jX9_nearest_74 F K5 a1 a2 a4 X)
set_option maxRecDepth 20000 in
set_option maxHeartbeats 4000000 in
theorem sX9_nearest_47 {μ : zM} {w : Nat} (hw : w < 3) {F : Nat} {K5 : Int32 → Int32 → Int32 → Int32 → zX → Option (Int32)} (hK5 : ∀ {xa1 xa2 xa3 xa4 : Int32} {xX : zX} {ρ : Int32}, K5 xa1 xa2 xa3 xa4 xX = some ρ → zJ mX9_nearest 2 (0, 0) (0, 0) (zQ (some (zi ρ)) (zg μ (w + 4) xX)) 5 [some (zq (w + 4) 6), some (zi xa1), some (zi xa2), some (zi xa3), some (zi xa4), none, none] [] (zg μ (w + 4) xX)) {a1 a2 a3 a4 a5 b0 : Int32} {X : zX} {ρ : Int32} (h : jX9_nearest_47 F K5 a1 a2 a3 a4 a5 b0 X = some ρ) : zJ mX9_nearest 2 (0, 0) (0, 0) (zQ (some (zi ρ)) (zg μ (w + 4) X)) 47 [some (zq (w + 4) 6), some (zi a1), some (zi a2), some (zi a3), some (zi a4), some (zi a5), none] [zi b0] (zg μ (w + 4) X) := by
  unfold jX9_nearest_47 at h
  refine z_istore dX9_nearest_47 (Nat.le_of_ble_eq_true rfl) (z_iload dX9_nearest_49 rfl (z_if_eq dX9_nearest_51 (fun c1 => ?_) (fun c1 => ?_)))
  · have h := ziT h (c1)
    exact z_iinc dX9_nearest_77 (Nat.le_of_ble_eq_true rfl) rfl (z_goto dX9_nearest_80 (z_mask [true, true, true, true, true, false, false] (hK5 h)))
  · have h := ziF h (c1)
    refine z_iload dX9_nearest_54 rfl (z_const dX9_nearest_55 (z_icmp_eq dX9_nearest_56 (fun c2 => ?_) (fun c2 => ?_)))
    · have h := ziT h (c2)
      exact z_mask [true, true, true, false, true, false, false] (sX9_nearest_74 hw hK5 h)
    · have h := ziF h (c2)
      obtain ⟨s3, h⟩ := zchk_some h
      refine z_iload dX9_nearest_59 rfl (z_aload dX9_nearest_61 rfl (z_getR dX9_nearest_62 fkX9_19 (in_6 hw) sh_6 rfl (z_iload dX9_nearest_65 rfl (z_iload dX9_nearest_66 rfl (z_callSN dX9_nearest_67 (tX11_pair) (Nat.le_of_ble_eq_true rfl) cdX11_pair naX11_pair lkX9_59 stX11_pair rfl rfl (Nat.le_of_ble_eq_true rfl) (z_iald dX9_nearest_70 (in_39 hw) sh_39 (zin_vp s3) (z_icmp_ge dX9_nearest_71 (fun c4 => ?_) (fun c4 => ?_))))))))
      · have h := ziT h (c4)
        exact z_iinc dX9_nearest_77 (Nat.le_of_ble_eq_true rfl) rfl (z_goto dX9_nearest_80 (z_mask [true, true, true, true, true, false, false] (hK5 h)))
      · have h := ziF h (c4)
        exact z_mask [true, true, true, false, true, false, false] (sX9_nearest_74 hw hK5 h)
def jX9_nearest_46 (F : Nat) (K5 : Int32 → Int32 → Int32 → Int32 → zX → Option (Int32)) (a1 a2 a3 a4 a5 : Int32) (X : zX) : Option (Int32) := jX9_nearest_47 F K5 a1 a2 a3 a4 a5 (nI 0) X
set_option maxRecDepth 20000 in
set_option maxHeartbeats 4000000 in
theorem sX9_nearest_46 {μ : zM} {w : Nat} (hw : w < 3) {F : Nat} {K5 : Int32 → Int32 → Int32 → Int32 → zX → Option (Int32)} (hK5 : ∀ {xa1 xa2 xa3 xa4 : Int32} {xX : zX} {ρ : Int32}, K5 xa1 xa2 xa3 xa4 xX = some ρ → zJ mX9_nearest 2 (0, 0) (0, 0) (zQ (some (zi ρ)) (zg μ (w + 4) xX)) 5 [some (zq (w + 4) 6), some (zi xa1), some (zi xa2), some (zi xa3), some (zi xa4), none, none] [] (zg μ (w + 4) xX)) {a1 a2 a3 a4 a5 : Int32} {X : zX} {ρ : Int32} (h : jX9_nearest_46 F K5 a1 a2 a3 a4 a5 X = some ρ) : zJ mX9_nearest 2 (0, 0) (0, 0) (zQ (some (zi ρ)) (zg μ (w + 4) X)) 46 [some (zq (w + 4) 6), some (zi a1), some (zi a2), some (zi a3), some (zi a4), some (zi a5), none] [] (zg μ (w + 4) X) := by
  unfold jX9_nearest_46 at h
  exact z_const dX9_nearest_46 (z_mask [true, true, true, true, true, true, false] (sX9_nearest_47 hw hK5 h))
def hX9_nearest_5 (F : Nat) : Nat → Int32 → Int32 → Int32 → Int32 → zX → Option (Int32)
  | 0, _, _, _, _, _ => none
  | n + 1, a1, a2, a3, a4, X => if (X 6 0) ≤ a4 then some a3 else zchk (zin ((a1 * (nI 6)) + a4) 36) (if ((a2 >>> (a4 &&& 31)) &&& (nI 1)) = (nI 1) then if (X 39 (zn ((a1 * (nI 6)) + a4))) = (-1) then jX9_nearest_46 F (hX9_nearest_5 F n) a1 a2 a3 a4 (X 39 (zn ((a1 * (nI 6)) + a4))) X else jX9_nearest_47 F (hX9_nearest_5 F n) a1 a2 a3 a4 (X 39 (zn ((a1 * (nI 6)) + a4))) (nI 1) X else jX9_nearest_46 F (hX9_nearest_5 F n) a1 a2 a3 a4 (X 39 (zn ((a1 * (nI 6)) + a4))) X)
set_option maxRecDepth 20000 in
set_option maxHeartbeats 4000000 in
theorem sX9_nearest_5 {μ : zM} {w : Nat} (hw : w < 3) {F : Nat} : ∀ {n : Nat} {a1 a2 a3 a4 : Int32} {X : zX} {ρ : Int32}, hX9_nearest_5 F n a1 a2 a3 a4 X = some ρ → zJ mX9_nearest 2 (0, 0) (0, 0) (zQ (some (zi ρ)) (zg μ (w + 4) X)) 5 [some (zq (w + 4) 6), some (zi a1), some (zi a2), some (zi a3), some (zi a4), none, none] [] (zg μ (w + 4) X) := by
  intro n
  induction n with
  | zero => intro a1 a2 a3 a4 X ρ h; exact nomatch (show (none : Option _) = some ρ from h)
  | succ n ih =>
    intro a1 a2 a3 a4 X ρ h
    have hK5 := @ih
    rw [hX9_nearest_5] at h
    refine z_iload dX9_nearest_5 rfl (z_aload dX9_nearest_7 rfl (z_getI dX9_nearest_8 fkX9_9 (in_6 hw) sh_6 rfl (z_icmp_ge dX9_nearest_11 (fun c1 => ?_) (fun c1 => ?_))))
    · have h := ziT h (c1)
      exact z_iload dX9_nearest_83 rfl (z_iretQ dX9_nearest_84 rfl (by cases h; rfl))
    · have h := ziF h (c1)
      obtain ⟨s2, h⟩ := zchk_some h
      refine z_aload dX9_nearest_14 rfl (z_getR dX9_nearest_15 fkX9_19 (in_6 hw) sh_6 rfl (z_iload dX9_nearest_18 rfl (z_iload dX9_nearest_19 rfl (z_callSN dX9_nearest_21 (tX11_pair) (Nat.le_of_ble_eq_true rfl) cdX11_pair naX11_pair lkX9_59 stX11_pair rfl rfl (Nat.le_of_ble_eq_true rfl) (z_iald dX9_nearest_24 (in_39 hw) sh_39 (zin_vp s2) (z_istore dX9_nearest_25 (Nat.le_of_ble_eq_true rfl) (z_iload dX9_nearest_27 rfl (z_iload dX9_nearest_28 rfl (z_callSN dX9_nearest_30 (tX11_isIn) (Nat.le_of_ble_eq_true rfl) cdX11_isIn naX11_isIn lkX9_88 stX11_isIn rfl rfl (Nat.le_of_ble_eq_true rfl) (z_if_eq dX9_nearest_33 (fun c3 => ?_) (fun c3 => ?_)))))))))))
      · have h := ziF h (zB_0.mp c3)
        exact z_mask [true, true, true, true, true, true, false] (sX9_nearest_46 hw hK5 h)
      · have h := ziT h (zB_n0.mp c3)
        refine z_iload dX9_nearest_36 rfl (z_const dX9_nearest_38 (z_icmp_eq dX9_nearest_39 (fun c4 => ?_) (fun c4 => ?_)))
        · have h := ziT h (c4)
          exact z_mask [true, true, true, true, true, true, false] (sX9_nearest_46 hw hK5 h)
        · have h := ziF h (c4)
          exact z_const dX9_nearest_42 (z_goto dX9_nearest_43 (z_mask [true, true, true, true, true, true, false] (sX9_nearest_47 hw hK5 h)))
def eX9_nearest (F : Nat) (x0 x1 : Int32) (X : zX) : Option (Int32) := hX9_nearest_5 F F x0 x1 (-1) (nI 0) X
set_option maxRecDepth 20000 in
set_option maxHeartbeats 4000000 in
theorem tX9_nearest {μ : zM} {w : Nat} (hw : w < 3) {F : Nat} {x0 x1 : Int32} {X : zX} {ρ : Int32} (h : eX9_nearest F x0 x1 X = some ρ) : LM mX9_nearest 2 [zq (w + 4) 6, zi x0, zi x1] (zg μ (w + 4) X) (some (zi ρ)) (zg μ (w + 4) X) := by
  unfold eX9_nearest at h
  refine LM.of (by decide +kernel) rfl (Nat.le_of_ble_eq_true rfl) ?_
  show zJ mX9_nearest 2 (0, 0) (0, 0) _ 0 [some (zq (w + 4) 6), some (zi x0), some (zi x1), none, none, none, none] [] _
  exact z_const dX9_nearest_0 (z_istore dX9_nearest_1 (Nat.le_of_ble_eq_true rfl) (z_const dX9_nearest_2 (z_istore dX9_nearest_3 (Nat.le_of_ble_eq_true rfl) (z_mask [true, true, true, true, true, false, false] (sX9_nearest_5 hw h)))))
-- X9_sort
def jX9_sort_100 (F : Nat) (K4 : Int32 → Int32 → Int32 → zX → Option (zX)) (a1 a2 a3 a5 : Int32) (X : zX) : Option (zX) := zchk (zin ((a1 * (nI 6)) + a5) 36) (K4 a1 (a2 + (nI 1)) (a3 + (nI 1)) (zw X 43 (zn ((a1 * (nI 6)) + a5)) a3))
set_option maxRecDepth 20000 in
set_option maxHeartbeats 4000000 in
theorem sX9_sort_100 {μ : zM} {w : Nat} (hw : w < 3) {F : Nat} {K4 : Int32 → Int32 → Int32 → zX → Option (zX)} (hK4 : ∀ {xa1 xa2 xa3 : Int32} {xX : zX} {ρ : zX}, K4 xa1 xa2 xa3 xX = some ρ → zJ mX9_sort 2 (0, 0) (0, 0) (zQ none (zg μ (w + 4) ρ)) 4 [some (zq (w + 4) 6), some (zi xa1), some (zi xa2), some (zi xa3), none, none] [] (zg μ (w + 4) xX)) {a1 a2 a3 a5 : Int32} {X : zX} {ρ : zX} (h : jX9_sort_100 F K4 a1 a2 a3 a5 X = some ρ) : zJ mX9_sort 2 (0, 0) (0, 0) (zQ none (zg μ (w + 4) ρ)) 100 [some (zq (w + 4) 6), some (zi a1), some (zi a2), some (zi a3), none, some (zi a5)] [] (zg μ (w + 4) X) := by
  unfold jX9_sort_100 at h
  obtain ⟨s1, h⟩ := zchk_some h
  exact z_aload dX9_sort_100 rfl (z_getR dX9_sort_101 fkX9_32 (in_6 hw) sh_6 rfl (z_iload dX9_sort_104 rfl (z_iload dX9_sort_105 rfl (z_callSN dX9_sort_107 (tX11_pair) (Nat.le_of_ble_eq_true rfl) cdX11_pair naX11_pair lkX9_59 stX11_pair rfl rfl (Nat.le_of_ble_eq_true rfl) (z_iload dX9_sort_110 rfl (z_iast dX9_sort_111 (in_43 hw) sh_43 (zin_vp s1) (z_iinc dX9_sort_112 (Nat.le_of_ble_eq_true rfl) rfl (z_iinc dX9_sort_115 (Nat.le_of_ble_eq_true rfl) rfl (z_goto dX9_sort_118 (z_mask [true, true, true, true, false, false] (hK4 h)))))))))))
def hX9_sort_38 (F : Nat) (K4 : Int32 → Int32 → Int32 → zX → Option (zX)) : Nat → Int32 → Int32 → Int32 → Int32 → Int32 → zX → Option (zX)
  | 0, _, _, _, _, _, _ => none
  | n + 1, a1, a2, a3, a4, a5, X => if a5 ≤ 0 then jX9_sort_100 F K4 a1 a2 a3 a5 X else zchk (zin ((a1 * (nI 6)) + (a5 - (nI 1))) 36) (zchk (zin ((a1 * (nI 6)) + (X 43 (zn ((a1 * (nI 6)) + (a5 - (nI 1)))))) 36) (if (X 39 (zn ((a1 * (nI 6)) + (X 43 (zn ((a1 * (nI 6)) + (a5 - (nI 1)))))))) ≤ a4 then jX9_sort_100 F K4 a1 a2 a3 a5 X else zchk (zin ((a1 * (nI 6)) + (a5 - (nI 1))) 36) (zchk (zin ((a1 * (nI 6)) + a5) 36) (zlet (zw X 43 (zn ((a1 * (nI 6)) + a5)) (X 43 (zn ((a1 * (nI 6)) + (a5 - (nI 1)))))) fun X7 => (hX9_sort_38 F K4 n) a1 a2 a3 a4 (a5 + (-1)) X7))))
set_option maxRecDepth 20000 in
set_option maxHeartbeats 4000000 in
theorem sX9_sort_38 {μ : zM} {w : Nat} (hw : w < 3) {F : Nat} {K4 : Int32 → Int32 → Int32 → zX → Option (zX)} (hK4 : ∀ {xa1 xa2 xa3 : Int32} {xX : zX} {ρ : zX}, K4 xa1 xa2 xa3 xX = some ρ → zJ mX9_sort 2 (0, 0) (0, 0) (zQ none (zg μ (w + 4) ρ)) 4 [some (zq (w + 4) 6), some (zi xa1), some (zi xa2), some (zi xa3), none, none] [] (zg μ (w + 4) xX)) : ∀ {n : Nat} {a1 a2 a3 a4 a5 : Int32} {X : zX} {ρ : zX}, hX9_sort_38 F K4 n a1 a2 a3 a4 a5 X = some ρ → zJ mX9_sort 2 (0, 0) (0, 0) (zQ none (zg μ (w + 4) ρ)) 38 [some (zq (w + 4) 6), some (zi a1), some (zi a2), some (zi a3), some (zi a4), some (zi a5)] [] (zg μ (w + 4) X) := by
  intro n
  induction n with
  | zero => intro a1 a2 a3 a4 a5 X ρ h; exact nomatch (show (none : Option _) = some ρ from h)
  | succ n ih =>
    intro a1 a2 a3 a4 a5 X ρ h
    have hK38 := @ih
    rw [hX9_sort_38] at h
    refine z_iload dX9_sort_38 rfl (z_if_le dX9_sort_40 (fun c1 => ?_) (fun c1 => ?_))
    · have h := ziT h (c1)
      exact z_mask [true, true, true, true, false, true] (sX9_sort_100 hw hK4 h)
    · have h := ziF h (c1)
      obtain ⟨s2, h⟩ := zchk_some h
      refine z_aload dX9_sort_43 rfl (z_getR dX9_sort_44 fkX9_19 (in_6 hw) sh_6 rfl (z_iload dX9_sort_47 rfl (z_aload dX9_sort_48 rfl (z_getR dX9_sort_49 fkX9_32 (in_6 hw) sh_6 rfl (z_iload dX9_sort_52 rfl (z_iload dX9_sort_53 rfl (z_const dX9_sort_55 (z_isub dX9_sort_56 (z_callSN dX9_sort_57 (tX11_pair) (Nat.le_of_ble_eq_true rfl) cdX11_pair naX11_pair lkX9_59 stX11_pair rfl rfl (Nat.le_of_ble_eq_true rfl) (z_iald dX9_sort_60 (in_43 hw) sh_43 (zin_vp s2) (z_callSN dX9_sort_61 (tX11_pair) (Nat.le_of_ble_eq_true rfl) cdX11_pair naX11_pair lkX9_59 stX11_pair rfl rfl (Nat.le_of_ble_eq_true rfl) ?_)))))))))))
      obtain ⟨s3, h⟩ := zchk_some h
      refine z_iald dX9_sort_64 (in_39 hw) sh_39 (zin_vp s3) (z_iload dX9_sort_65 rfl (z_icmp_le dX9_sort_67 (fun c4 => ?_) (fun c4 => ?_)))
      · have h := ziT h (c4)
        exact z_mask [true, true, true, true, false, true] (sX9_sort_100 hw hK4 h)
      · have h := ziF h (c4)
        refine z_aload dX9_sort_70 rfl (z_getR dX9_sort_71 fkX9_32 (in_6 hw) sh_6 rfl (z_iload dX9_sort_74 rfl (z_iload dX9_sort_75 rfl (z_callSN dX9_sort_77 (tX11_pair) (Nat.le_of_ble_eq_true rfl) cdX11_pair naX11_pair lkX9_59 stX11_pair rfl rfl (Nat.le_of_ble_eq_true rfl) (z_aload dX9_sort_80 rfl (z_getR dX9_sort_81 fkX9_32 (in_6 hw) sh_6 rfl (z_iload dX9_sort_84 rfl (z_iload dX9_sort_85 rfl (z_const dX9_sort_87 (z_isub dX9_sort_88 (z_callSN dX9_sort_89 (tX11_pair) (Nat.le_of_ble_eq_true rfl) cdX11_pair naX11_pair lkX9_59 stX11_pair rfl rfl (Nat.le_of_ble_eq_true rfl) ?_)))))))))))
        obtain ⟨s5, h⟩ := zchk_some h
        obtain ⟨s6, h⟩ := zchk_some h
        have h := zlet_h h
        exact z_iald dX9_sort_92 (in_43 hw) sh_43 (zin_vp s5) (z_iast dX9_sort_93 (in_43 hw) sh_43 (zin_vp s6) (z_iinc dX9_sort_94 (Nat.le_of_ble_eq_true rfl) rfl (z_goto dX9_sort_97 (z_mask [true, true, true, true, true, true] (hK38 h)))))
def hX9_sort_4 (F : Nat) : Nat → Int32 → Int32 → Int32 → zX → Option (zX)
  | 0, _, _, _, _ => none
  | n + 1, a1, a2, a3, X => if (X 6 0) ≤ a3 then zchk (zin a1 6) (some (zw X 44 (zn a1) a2)) else zchk (zin ((a1 * (nI 6)) + a3) 36) (if a3 = a1 then (hX9_sort_4 F n) a1 a2 (a3 + (nI 1)) X else if (X 39 (zn ((a1 * (nI 6)) + a3))) = (-1) then (hX9_sort_4 F n) a1 a2 (a3 + (nI 1)) X else hX9_sort_38 F (hX9_sort_4 F n) F a1 a2 a3 (X 39 (zn ((a1 * (nI 6)) + a3))) a2 X)
set_option maxRecDepth 20000 in
set_option maxHeartbeats 4000000 in
theorem sX9_sort_4 {μ : zM} {w : Nat} (hw : w < 3) {F : Nat} : ∀ {n : Nat} {a1 a2 a3 : Int32} {X : zX} {ρ : zX}, hX9_sort_4 F n a1 a2 a3 X = some ρ → zJ mX9_sort 2 (0, 0) (0, 0) (zQ none (zg μ (w + 4) ρ)) 4 [some (zq (w + 4) 6), some (zi a1), some (zi a2), some (zi a3), none, none] [] (zg μ (w + 4) X) := by
  intro n
  induction n with
  | zero => intro a1 a2 a3 X ρ h; exact nomatch (show (none : Option _) = some ρ from h)
  | succ n ih =>
    intro a1 a2 a3 X ρ h
    have hK4 := @ih
    rw [hX9_sort_4] at h
    refine z_iload dX9_sort_4 rfl (z_aload dX9_sort_5 rfl (z_getI dX9_sort_6 fkX9_9 (in_6 hw) sh_6 rfl (z_icmp_ge dX9_sort_9 (fun c1 => ?_) (fun c1 => ?_))))
    · have h := ziT h (c1)
      obtain ⟨s2, h⟩ := zchk_some h
      exact z_aload dX9_sort_121 rfl (z_getR dX9_sort_122 fkX9_35 (in_6 hw) sh_6 rfl (z_iload dX9_sort_125 rfl (z_iload dX9_sort_126 rfl (z_iast dX9_sort_127 (in_44 hw) sh_44 (zin_vp s2) (z_vretQ dX9_sort_128 rfl (by cases h; rfl))))))
    · have h := ziF h (c1)
      obtain ⟨s3, h⟩ := zchk_some h
      refine z_aload dX9_sort_12 rfl (z_getR dX9_sort_13 fkX9_19 (in_6 hw) sh_6 rfl (z_iload dX9_sort_16 rfl (z_iload dX9_sort_17 rfl (z_callSN dX9_sort_18 (tX11_pair) (Nat.le_of_ble_eq_true rfl) cdX11_pair naX11_pair lkX9_59 stX11_pair rfl rfl (Nat.le_of_ble_eq_true rfl) (z_iald dX9_sort_21 (in_39 hw) sh_39 (zin_vp s3) (z_istore dX9_sort_22 (Nat.le_of_ble_eq_true rfl) (z_iload dX9_sort_24 rfl (z_iload dX9_sort_25 rfl (z_icmp_eq dX9_sort_26 (fun c4 => ?_) (fun c4 => ?_))))))))))
      · have h := ziT h (c4)
        exact z_iinc dX9_sort_115 (Nat.le_of_ble_eq_true rfl) rfl (z_goto dX9_sort_118 (z_mask [true, true, true, true, false, false] (hK4 h)))
      · have h := ziF h (c4)
        refine z_iload dX9_sort_29 rfl (z_const dX9_sort_31 (z_icmp_eq dX9_sort_32 (fun c5 => ?_) (fun c5 => ?_)))
        · have h := ziT h (c5)
          exact z_iinc dX9_sort_115 (Nat.le_of_ble_eq_true rfl) rfl (z_goto dX9_sort_118 (z_mask [true, true, true, true, false, false] (hK4 h)))
        · have h := ziF h (c5)
          exact z_iload dX9_sort_35 rfl (z_istore dX9_sort_36 (Nat.le_of_ble_eq_true rfl) (z_mask [true, true, true, true, true, true] (sX9_sort_38 hw hK4 h)))
def eX9_sort (F : Nat) (x0 : Int32) (X : zX) : Option (zX) := hX9_sort_4 F F x0 (nI 0) (nI 0) X
set_option maxRecDepth 20000 in
set_option maxHeartbeats 4000000 in
theorem tX9_sort {μ : zM} {w : Nat} (hw : w < 3) {F : Nat} {x0 : Int32} {X : zX} {ρ : zX} (h : eX9_sort F x0 X = some ρ) : LM mX9_sort 2 [zq (w + 4) 6, zi x0] (zg μ (w + 4) X) none (zg μ (w + 4) ρ) := by
  unfold eX9_sort at h
  refine LM.of (by decide +kernel) rfl (Nat.le_of_ble_eq_true rfl) ?_
  show zJ mX9_sort 2 (0, 0) (0, 0) _ 0 [some (zq (w + 4) 6), some (zi x0), none, none, none, none] [] _
  exact z_const dX9_sort_0 (z_istore dX9_sort_1 (Nat.le_of_ble_eq_true rfl) (z_const dX9_sort_2 (z_istore dX9_sort_3 (Nat.le_of_ble_eq_true rfl) (z_mask [true, true, true, true, false, false] (sX9_sort_4 hw h)))))
-- X9_within
def jX9_within_55 (F : Nat) (K7 : Int32 → Int32 → Int32 → Int32 → zX → Option (Int32)) (a1 a2 a4 b0 b1 : Int32) (X : zX) : Option (Int32) := K7 a1 a2 (b1 ||| b0) (a4 + (nI 1)) X
set_option maxRecDepth 20000 in
set_option maxHeartbeats 4000000 in
theorem sX9_within_55 {μ : zM} {w : Nat} (hw : w < 3) {F : Nat} {K7 : Int32 → Int32 → Int32 → Int32 → zX → Option (Int32)} (hK7 : ∀ {xa1 xa2 xa3 xa4 : Int32} {xX : zX} {ρ : Int32}, K7 xa1 xa2 xa3 xa4 xX = some ρ → zJ mX9_within 2 (0, 0) (0, 0) (zQ (some (zi ρ)) (zg μ (w + 4) xX)) 7 [some (zq (w + 4) 6), some (zi xa1), some (zi xa2), some (zi xa3), some (zi xa4), none] [] (zg μ (w + 4) xX)) {a1 a2 a4 b0 b1 : Int32} {X : zX} {ρ : Int32} (h : jX9_within_55 F K7 a1 a2 a4 b0 b1 X = some ρ) : zJ mX9_within 2 (0, 0) (0, 0) (zQ (some (zi ρ)) (zg μ (w + 4) X)) 55 [some (zq (w + 4) 6), some (zi a1), some (zi a2), none, some (zi a4), none] [zi b0, zi b1] (zg μ (w + 4) X) := by
  unfold jX9_within_55 at h
  exact z_ior dX9_within_55 (z_istore dX9_within_56 (Nat.le_of_ble_eq_true rfl) (z_iinc dX9_within_57 (Nat.le_of_ble_eq_true rfl) rfl (z_goto dX9_within_60 (z_mask [true, true, true, true, true, false] (hK7 h)))))
def hX9_within_7 (F : Nat) : Nat → Int32 → Int32 → Int32 → Int32 → zX → Option (Int32)
  | 0, _, _, _, _, _ => none
  | n + 1, a1, a2, a3, a4, X => zchk (zin a1 6) (if (X 44 (zn a1)) ≤ a4 then some a3 else zchk (zin ((a1 * (nI 6)) + a4) 36) (zchk (zin ((a1 * (nI 6)) + (X 43 (zn ((a1 * (nI 6)) + a4)))) 36) (if a2 < (X 42 (zn ((a1 * (nI 6)) + (X 43 (zn ((a1 * (nI 6)) + a4)))))) then jX9_within_55 F (hX9_within_7 F n) a1 a2 a4 (nI 0) a3 X else jX9_within_55 F (hX9_within_7 F n) a1 a2 a4 ((nI 1) <<< ((X 43 (zn ((a1 * (nI 6)) + a4))) &&& 31)) a3 X)))
set_option maxRecDepth 20000 in
set_option maxHeartbeats 4000000 in
theorem sX9_within_7 {μ : zM} {w : Nat} (hw : w < 3) {F : Nat} : ∀ {n : Nat} {a1 a2 a3 a4 : Int32} {X : zX} {ρ : Int32}, hX9_within_7 F n a1 a2 a3 a4 X = some ρ → zJ mX9_within 2 (0, 0) (0, 0) (zQ (some (zi ρ)) (zg μ (w + 4) X)) 7 [some (zq (w + 4) 6), some (zi a1), some (zi a2), some (zi a3), some (zi a4), none] [] (zg μ (w + 4) X) := by
  intro n
  induction n with
  | zero => intro a1 a2 a3 a4 X ρ h; exact nomatch (show (none : Option _) = some ρ from h)
  | succ n ih =>
    intro a1 a2 a3 a4 X ρ h
    have hK7 := @ih
    rw [hX9_within_7] at h
    obtain ⟨s1, h⟩ := zchk_some h
    refine z_iload dX9_within_7 rfl (z_aload dX9_within_9 rfl (z_getR dX9_within_10 fkX9_35 (in_6 hw) sh_6 rfl (z_iload dX9_within_13 rfl (z_iald dX9_within_14 (in_44 hw) sh_44 (zin_vp s1) (z_icmp_ge dX9_within_15 (fun c2 => ?_) (fun c2 => ?_))))))
    · have h := ziT h (c2)
      exact z_iload dX9_within_63 rfl (z_iretQ dX9_within_64 rfl (by cases h; rfl))
    · have h := ziF h (c2)
      obtain ⟨s3, h⟩ := zchk_some h
      refine z_aload dX9_within_18 rfl (z_getR dX9_within_19 fkX9_32 (in_6 hw) sh_6 rfl (z_iload dX9_within_22 rfl (z_iload dX9_within_23 rfl (z_callSN dX9_within_25 (tX11_pair) (Nat.le_of_ble_eq_true rfl) cdX11_pair naX11_pair lkX9_59 stX11_pair rfl rfl (Nat.le_of_ble_eq_true rfl) (z_iald dX9_within_28 (in_43 hw) sh_43 (zin_vp s3) (z_istore dX9_within_29 (Nat.le_of_ble_eq_true rfl) (z_iload dX9_within_31 rfl (z_aload dX9_within_32 rfl (z_getR dX9_within_33 fkX9_29 (in_6 hw) sh_6 rfl (z_iload dX9_within_36 rfl (z_iload dX9_within_37 rfl ?_)))))))))))
      obtain ⟨s4, h⟩ := zchk_some h
      refine z_callSN dX9_within_39 (tX11_pair) (Nat.le_of_ble_eq_true rfl) cdX11_pair naX11_pair lkX9_59 stX11_pair rfl rfl (Nat.le_of_ble_eq_true rfl) (z_iald dX9_within_42 (in_42 hw) sh_42 (zin_vp s4) (z_iload dX9_within_43 rfl (z_icmp_gt dX9_within_44 (fun c5 => ?_) (fun c5 => ?_))))
      · have h := ziT h (c5)
        exact z_const dX9_within_54 (z_mask [true, true, true, false, true, false] (sX9_within_55 hw hK7 h))
      · have h := ziF h (c5)
        exact z_const dX9_within_47 (z_iload dX9_within_48 rfl (z_ishl dX9_within_50 (z_goto dX9_within_51 (z_mask [true, true, true, false, true, false] (sX9_within_55 hw hK7 h)))))
def eX9_within (F : Nat) (x0 x1 : Int32) (X : zX) : Option (Int32) := hX9_within_7 F F x0 x1 ((nI 1) <<< (x0 &&& 31)) (nI 0) X
set_option maxRecDepth 20000 in
set_option maxHeartbeats 4000000 in
theorem tX9_within {μ : zM} {w : Nat} (hw : w < 3) {F : Nat} {x0 x1 : Int32} {X : zX} {ρ : Int32} (h : eX9_within F x0 x1 X = some ρ) : LM mX9_within 2 [zq (w + 4) 6, zi x0, zi x1] (zg μ (w + 4) X) (some (zi ρ)) (zg μ (w + 4) X) := by
  unfold eX9_within at h
  refine LM.of (by decide +kernel) rfl (Nat.le_of_ble_eq_true rfl) ?_
  show zJ mX9_within 2 (0, 0) (0, 0) _ 0 [some (zq (w + 4) 6), some (zi x0), some (zi x1), none, none, none] [] _
  exact z_const dX9_within_0 (z_iload dX9_within_1 rfl (z_ishl dX9_within_2 (z_istore dX9_within_3 (Nat.le_of_ble_eq_true rfl) (z_const dX9_within_4 (z_istore dX9_within_5 (Nat.le_of_ble_eq_true rfl) (z_mask [true, true, true, true, true, false] (sX9_within_7 hw h)))))))
-- X9_covered
def jX9_covered_35 (F : Nat) (K5 : Int32 → Int32 → Int32 → Int32 → zX → Option (Int32)) (a1 a2 a4 b0 b1 : Int32) (X : zX) : Option (Int32) := K5 a1 a2 (b1 ||| b0) (a4 + (nI 1)) X
set_option maxRecDepth 20000 in
set_option maxHeartbeats 4000000 in
theorem sX9_covered_35 {μ : zM} {w : Nat} (hw : w < 3) {F : Nat} {K5 : Int32 → Int32 → Int32 → Int32 → zX → Option (Int32)} (hK5 : ∀ {xa1 xa2 xa3 xa4 : Int32} {xX : zX} {ρ : Int32}, K5 xa1 xa2 xa3 xa4 xX = some ρ → zJ mX9_covered 3 (0, 0) (0, 0) (zQ (some (zi ρ)) (zg μ (w + 4) xX)) 5 [some (zq (w + 4) 6), some (zi xa1), some (zi xa2), some (zi xa3), some (zi xa4)] [] (zg μ (w + 4) xX)) {a1 a2 a4 b0 b1 : Int32} {X : zX} {ρ : Int32} (h : jX9_covered_35 F K5 a1 a2 a4 b0 b1 X = some ρ) : zJ mX9_covered 3 (0, 0) (0, 0) (zQ (some (zi ρ)) (zg μ (w + 4) X)) 35 [some (zq (w + 4) 6), some (zi a1), some (zi a2), none, some (zi a4)] [zi b0, zi b1] (zg μ (w + 4) X) := by
  unfold jX9_covered_35 at h
  exact z_ior dX9_covered_35 (z_istore dX9_covered_36 (Nat.le_of_ble_eq_true rfl) (z_iinc dX9_covered_37 (Nat.le_of_ble_eq_true rfl) rfl (z_goto dX9_covered_40 (z_mask [true, true, true, true, true] (hK5 h)))))
def hX9_covered_5 (F : Nat) : Nat → Int32 → Int32 → Int32 → Int32 → zX → Option (Int32)
  | 0, _, _, _, _, _ => none
  | n + 1, a1, a2, a3, a4, X => if (X 6 0) ≤ a4 then some a3 else if ((a1 >>> (a4 &&& 31)) &&& (nI 1)) = (nI 1) then zbd (eX9_within F a4 a2 X) fun r4 => jX9_covered_35 F (hX9_covered_5 F n) a1 a2 a4 r4 a3 X else jX9_covered_35 F (hX9_covered_5 F n) a1 a2 a4 (nI 0) a3 X
set_option maxRecDepth 20000 in
set_option maxHeartbeats 4000000 in
theorem sX9_covered_5 {μ : zM} {w : Nat} (hw : w < 3) {F : Nat} : ∀ {n : Nat} {a1 a2 a3 a4 : Int32} {X : zX} {ρ : Int32}, hX9_covered_5 F n a1 a2 a3 a4 X = some ρ → zJ mX9_covered 3 (0, 0) (0, 0) (zQ (some (zi ρ)) (zg μ (w + 4) X)) 5 [some (zq (w + 4) 6), some (zi a1), some (zi a2), some (zi a3), some (zi a4)] [] (zg μ (w + 4) X) := by
  intro n
  induction n with
  | zero => intro a1 a2 a3 a4 X ρ h; exact nomatch (show (none : Option _) = some ρ from h)
  | succ n ih =>
    intro a1 a2 a3 a4 X ρ h
    have hK5 := @ih
    rw [hX9_covered_5] at h
    refine z_iload dX9_covered_5 rfl (z_aload dX9_covered_7 rfl (z_getI dX9_covered_8 fkX9_9 (in_6 hw) sh_6 rfl (z_icmp_ge dX9_covered_11 (fun c1 => ?_) (fun c1 => ?_))))
    · have h := ziT h (c1)
      exact z_iload dX9_covered_43 rfl (z_iretQ dX9_covered_44 rfl (by cases h; rfl))
    · have h := ziF h (c1)
      refine z_iload dX9_covered_14 rfl (z_iload dX9_covered_15 rfl (z_iload dX9_covered_16 rfl (z_callSN dX9_covered_18 (tX11_isIn) (Nat.le_of_ble_eq_true rfl) cdX11_isIn naX11_isIn lkX9_88 stX11_isIn rfl rfl (Nat.le_of_ble_eq_true rfl) (z_if_eq dX9_covered_21 (fun c2 => ?_) (fun c2 => ?_)))))
      · have h := ziF h (zB_0.mp c2)
        exact z_const dX9_covered_34 (z_mask [true, true, true, false, true] (sX9_covered_35 hw hK5 h))
      · have h := ziT h (zB_n0.mp c2)
        obtain ⟨r4, l3, h⟩ := zbd_some h
        exact z_aload dX9_covered_24 rfl (z_iload dX9_covered_25 rfl (z_iload dX9_covered_27 rfl (z_callV dX9_covered_28 (tX9_within hw l3) (Nat.le_of_ble_eq_true rfl) cdX9_within naX9_within lkX9_107 imX9_within seX9_within (in_6 hw) sh_6 rfl rfl rfl (Nat.le_of_ble_eq_true rfl) (z_goto dX9_covered_31 (z_mask [true, true, true, false, true] (sX9_covered_35 hw hK5 h))))))
def eX9_covered (F : Nat) (x0 x1 : Int32) (X : zX) : Option (Int32) := hX9_covered_5 F F x0 x1 (nI 0) (nI 0) X
set_option maxRecDepth 20000 in
set_option maxHeartbeats 4000000 in
theorem tX9_covered {μ : zM} {w : Nat} (hw : w < 3) {F : Nat} {x0 x1 : Int32} {X : zX} {ρ : Int32} (h : eX9_covered F x0 x1 X = some ρ) : LM mX9_covered 3 [zq (w + 4) 6, zi x0, zi x1] (zg μ (w + 4) X) (some (zi ρ)) (zg μ (w + 4) X) := by
  unfold eX9_covered at h
  refine LM.of (by decide +kernel) rfl (Nat.le_of_ble_eq_true rfl) ?_
  show zJ mX9_covered 3 (0, 0) (0, 0) _ 0 [some (zq (w + 4) 6), some (zi x0), some (zi x1), none, none] [] _
  exact z_const dX9_covered_0 (z_istore dX9_covered_1 (Nat.le_of_ble_eq_true rfl) (z_const dX9_covered_2 (z_istore dX9_covered_3 (Nat.le_of_ble_eq_true rfl) (z_mask [true, true, true, true, true] (sX9_covered_5 hw h)))))
-- X9_hang
def jX9_hang_115 (F : Nat) (K13 : Int32 → Int32 → zX → Option (zX)) (K46 : Int32 → Int32 → Int32 → Int32 → Int32 → zX → Option (zX)) (a1 a3 a4 a5 a6 a7 a8 b0 : Int32) (X : zX) : Option (zX) := if b0 = 0 then K46 a1 a3 a4 a5 (a6 + (nI 1)) X else zchk (zin a7 10) (zchk (zin a5 36) (if (a8 + (X 36 (zn a7))) = (X 39 (zn a5)) then zchk (zin a5 36) (zchk (zin a5 36) (zchk (zin ((a1 * (nI 6)) + a6) 36) (zchk (zin a5 36) (zlet (zw (zw (zw X 40 (zn a5) a6) 41 (zn a5) a7) 42 (zn a5) ((X 42 (zn ((a1 * (nI 6)) + a6))) + (nI 1))) fun X9 => K46 a1 a3 a4 a5 (a6 + (nI 1)) X9)))) else K46 a1 a3 a4 a5 (a6 + (nI 1)) X))
set_option maxRecDepth 20000 in
set_option maxHeartbeats 4000000 in
theorem sX9_hang_115 {μ : zM} {w : Nat} (hw : w < 3) {F : Nat} {K13 : Int32 → Int32 → zX → Option (zX)} {K46 : Int32 → Int32 → Int32 → Int32 → Int32 → zX → Option (zX)} (hK13 : ∀ {xa1 xa3 : Int32} {xX : zX} {ρ : zX}, K13 xa1 xa3 xX = some ρ → zJ mX9_hang 3 (0, 0) (0, 0) (zQ none (zg μ (w + 4) ρ)) 13 [some (zq (w + 4) 6), some (zi xa1), some (zq (w + 4) 5), some (zi xa3), none, none, none, none, none, none] [] (zg μ (w + 4) xX)) (hK46 : ∀ {xa1 xa3 xa4 xa5 xa6 : Int32} {xX : zX} {ρ : zX}, K46 xa1 xa3 xa4 xa5 xa6 xX = some ρ → zJ mX9_hang 3 (0, 0) (0, 0) (zQ none (zg μ (w + 4) ρ)) 46 [some (zq (w + 4) 6), some (zi xa1), some (zq (w + 4) 5), some (zi xa3), some (zi xa4), some (zi xa5), some (zi xa6), none, none, none] [] (zg μ (w + 4) xX)) {a1 a3 a4 a5 a6 a7 a8 b0 : Int32} {X : zX} {ρ : zX} (h : jX9_hang_115 F K13 K46 a1 a3 a4 a5 a6 a7 a8 b0 X = some ρ) : zJ mX9_hang 3 (0, 0) (0, 0) (zQ none (zg μ (w + 4) ρ)) 115 [some (zq (w + 4) 6), some (zi a1), some (zq (w + 4) 5), some (zi a3), some (zi a4), some (zi a5), some (zi a6), some (zi a7), some (zi a8), none] [zi b0] (zg μ (w + 4) X) := by
  unfold jX9_hang_115 at h
  refine z_istore dX9_hang_115 (Nat.le_of_ble_eq_true rfl) (z_iload dX9_hang_117 rfl (z_if_eq dX9_hang_119 (fun c1 => ?_) (fun c1 => ?_)))
  · have h := ziT h (c1)
    exact z_iinc dX9_hang_180 (Nat.le_of_ble_eq_true rfl) rfl (z_goto dX9_hang_183 (z_mask [true, true, true, true, true, true, true, false, false, false] (hK46 h)))
  · have h := ziF h (c1)
    obtain ⟨s2, h⟩ := zchk_some h
    obtain ⟨s3, h⟩ := zchk_some h
    refine z_iload dX9_hang_122 rfl (z_aload dX9_hang_124 rfl (z_getR dX9_hang_125 fkX9_78 (in_5 hw) sh_5 rfl (z_iload dX9_hang_128 rfl (z_iald dX9_hang_130 (in_36 hw) sh_36 (zin_vp s2) (z_iadd dX9_hang_131 (z_aload dX9_hang_132 rfl (z_getR dX9_hang_133 fkX9_19 (in_6 hw) sh_6 rfl (z_iload dX9_hang_136 rfl (z_iald dX9_hang_138 (in_39 hw) sh_39 (zin_vp s3) (z_icmp_ne dX9_hang_139 (fun c4 => ?_) (fun c4 => ?_)))))))))))
    · have h := ziF h (c4)
      exact z_iinc dX9_hang_180 (Nat.le_of_ble_eq_true rfl) rfl (z_goto dX9_hang_183 (z_mask [true, true, true, true, true, true, true, false, false, false] (hK46 h)))
    · have h := ziT h (c4)
      obtain ⟨s5, h⟩ := zchk_some h
      obtain ⟨s6, h⟩ := zchk_some h
      refine z_aload dX9_hang_142 rfl (z_getR dX9_hang_143 fkX9_23 (in_6 hw) sh_6 rfl (z_iload dX9_hang_146 rfl (z_iload dX9_hang_148 rfl (z_iast dX9_hang_150 (in_40 hw) sh_40 (zin_vp s5) (z_aload dX9_hang_151 rfl (z_getR dX9_hang_152 fkX9_26 (in_6 hw) sh_6 rfl (z_iload dX9_hang_155 rfl (z_iload dX9_hang_157 rfl (z_iast dX9_hang_159 (in_41 hw) sh_41 (zin_vp s6) (z_aload dX9_hang_160 rfl (z_getR dX9_hang_161 fkX9_29 (in_6 hw) sh_6 rfl ?_)))))))))))
      obtain ⟨s7, h⟩ := zchk_some h
      obtain ⟨s8, h⟩ := zchk_some h
      have h := zlet_h h
      refine z_iload dX9_hang_164 rfl (z_aload dX9_hang_166 rfl (z_getR dX9_hang_167 fkX9_29 (in_6 hw) sh_6 rfl (z_iload dX9_hang_170 rfl (z_iload dX9_hang_171 rfl (z_callSN dX9_hang_173 (tX11_pair) (Nat.le_of_ble_eq_true rfl) cdX11_pair naX11_pair lkX9_59 stX11_pair rfl rfl (Nat.le_of_ble_eq_true rfl) (z_iald dX9_hang_176 (in_42 hw) sh_42 (zin_vp s7) (z_const dX9_hang_177 (z_iadd dX9_hang_178 (z_iast dX9_hang_179 (in_42 hw) sh_42 (zin_vp s8) (z_iinc dX9_hang_180 (Nat.le_of_ble_eq_true rfl) rfl (z_goto dX9_hang_183 ?_)))))))))))
      exact z_mask [true, true, true, true, true, true, true, false, false, false] (hK46 h)
def jX9_hang_114 (F : Nat) (K13 : Int32 → Int32 → zX → Option (zX)) (K46 : Int32 → Int32 → Int32 → Int32 → Int32 → zX → Option (zX)) (a1 a3 a4 a5 a6 a7 a8 : Int32) (X : zX) : Option (zX) := jX9_hang_115 F K13 K46 a1 a3 a4 a5 a6 a7 a8 (nI 0) X
set_option maxRecDepth 20000 in
set_option maxHeartbeats 4000000 in
theorem sX9_hang_114 {μ : zM} {w : Nat} (hw : w < 3) {F : Nat} {K13 : Int32 → Int32 → zX → Option (zX)} {K46 : Int32 → Int32 → Int32 → Int32 → Int32 → zX → Option (zX)} (hK13 : ∀ {xa1 xa3 : Int32} {xX : zX} {ρ : zX}, K13 xa1 xa3 xX = some ρ → zJ mX9_hang 3 (0, 0) (0, 0) (zQ none (zg μ (w + 4) ρ)) 13 [some (zq (w + 4) 6), some (zi xa1), some (zq (w + 4) 5), some (zi xa3), none, none, none, none, none, none] [] (zg μ (w + 4) xX)) (hK46 : ∀ {xa1 xa3 xa4 xa5 xa6 : Int32} {xX : zX} {ρ : zX}, K46 xa1 xa3 xa4 xa5 xa6 xX = some ρ → zJ mX9_hang 3 (0, 0) (0, 0) (zQ none (zg μ (w + 4) ρ)) 46 [some (zq (w + 4) 6), some (zi xa1), some (zq (w + 4) 5), some (zi xa3), some (zi xa4), some (zi xa5), some (zi xa6), none, none, none] [] (zg μ (w + 4) xX)) {a1 a3 a4 a5 a6 a7 a8 : Int32} {X : zX} {ρ : zX} (h : jX9_hang_114 F K13 K46 a1 a3 a4 a5 a6 a7 a8 X = some ρ) : zJ mX9_hang 3 (0, 0) (0, 0) (zQ none (zg μ (w + 4) ρ)) 114 [some (zq (w + 4) 6), some (zi a1), some (zq (w + 4) 5), some (zi a3), some (zi a4), some (zi a5), some (zi a6), some (zi a7), some (zi a8), none] [] (zg μ (w + 4) X) := by
  unfold jX9_hang_114 at h
  exact z_const dX9_hang_114 (z_mask [true, true, true, true, true, true, true, true, true, false] (sX9_hang_115 hw hK13 hK46 h))
def hX9_hang_46 (F : Nat) (K13 : Int32 → Int32 → zX → Option (zX)) : Nat → Int32 → Int32 → Int32 → Int32 → Int32 → zX → Option (zX)
  | 0, _, _, _, _, _, _ => none
  | n + 1, a1, a3, a4, a5, a6, X => if (X 6 0) ≤ a6 then K13 a1 (a3 + (nI 1)) X else zchk (zin a5 36) (if (X 40 (zn a5)) = (-1) then zbd (eX2_between F a6 a4 X) fun r5 => zchk (zin ((a1 * (nI 6)) + a6) 36) (if r5 = (-1) then jX9_hang_114 F K13 (hX9_hang_46 F K13 n) a1 a3 a4 a5 a6 r5 (X 39 (zn ((a1 * (nI 6)) + a6))) X else if (((X 5 1) >>> (r5 &&& 31)) &&& (nI 1)) = (nI 1) then jX9_hang_114 F K13 (hX9_hang_46 F K13 n) a1 a3 a4 a5 a6 r5 (X 39 (zn ((a1 * (nI 6)) + a6))) X else if (X 39 (zn ((a1 * (nI 6)) + a6))) = (-1) then jX9_hang_114 F K13 (hX9_hang_46 F K13 n) a1 a3 a4 a5 a6 r5 (X 39 (zn ((a1 * (nI 6)) + a6))) X else jX9_hang_115 F K13 (hX9_hang_46 F K13 n) a1 a3 a4 a5 a6 r5 (X 39 (zn ((a1 * (nI 6)) + a6))) (nI 1) X) else K13 a1 (a3 + (nI 1)) X)
set_option maxRecDepth 20000 in
set_option maxHeartbeats 4000000 in
theorem sX9_hang_46 {μ : zM} {w : Nat} (hw : w < 3) {F : Nat} {K13 : Int32 → Int32 → zX → Option (zX)} (hK13 : ∀ {xa1 xa3 : Int32} {xX : zX} {ρ : zX}, K13 xa1 xa3 xX = some ρ → zJ mX9_hang 3 (0, 0) (0, 0) (zQ none (zg μ (w + 4) ρ)) 13 [some (zq (w + 4) 6), some (zi xa1), some (zq (w + 4) 5), some (zi xa3), none, none, none, none, none, none] [] (zg μ (w + 4) xX)) : ∀ {n : Nat} {a1 a3 a4 a5 a6 : Int32} {X : zX} {ρ : zX}, hX9_hang_46 F K13 n a1 a3 a4 a5 a6 X = some ρ → zJ mX9_hang 3 (0, 0) (0, 0) (zQ none (zg μ (w + 4) ρ)) 46 [some (zq (w + 4) 6), some (zi a1), some (zq (w + 4) 5), some (zi a3), some (zi a4), some (zi a5), some (zi a6), none, none, none] [] (zg μ (w + 4) X) := by
  intro n
  induction n with
  | zero => intro a1 a3 a4 a5 a6 X ρ h; exact nomatch (show (none : Option _) = some ρ from h)
  | succ n ih =>
    intro a1 a3 a4 a5 a6 X ρ h
    have hK46 := @ih
    rw [hX9_hang_46] at h
    refine z_iload dX9_hang_46 rfl (z_aload dX9_hang_48 rfl (z_getI dX9_hang_49 fkX9_9 (in_6 hw) sh_6 rfl (z_icmp_ge dX9_hang_52 (fun c1 => ?_) (fun c1 => ?_))))
    · have h := ziT h (c1)
      exact z_iinc dX9_hang_186 (Nat.le_of_ble_eq_true rfl) rfl (z_goto dX9_hang_189 (z_mask [true, true, true, true, false, false, false, false, false, false] (hK13 h)))
    · have h := ziF h (c1)
      obtain ⟨s2, h⟩ := zchk_some h
      refine z_aload dX9_hang_55 rfl (z_getR dX9_hang_56 fkX9_23 (in_6 hw) sh_6 rfl (z_iload dX9_hang_59 rfl (z_iald dX9_hang_61 (in_40 hw) sh_40 (zin_vp s2) (z_const dX9_hang_62 (z_icmp_ne dX9_hang_63 (fun c3 => ?_) (fun c3 => ?_))))))
      · have h := ziF h (c3)
        exact z_iinc dX9_hang_186 (Nat.le_of_ble_eq_true rfl) rfl (z_goto dX9_hang_189 (z_mask [true, true, true, true, false, false, false, false, false, false] (hK13 h)))
      · have h := ziT h (c3)
        obtain ⟨r5, l4, h⟩ := zbd_some h
        obtain ⟨s6, h⟩ := zchk_some h
        refine z_aload dX9_hang_66 rfl (z_iload dX9_hang_67 rfl (z_iload dX9_hang_69 rfl (z_callV dX9_hang_71 (tX2_between hw l4) (Nat.le_of_ble_eq_true rfl) cdX2_between naX2_between lkX9_85 imX2_between seX2_between (in_5 hw) sh_5 rfl rfl rfl (Nat.le_of_ble_eq_true rfl) (z_istore dX9_hang_74 (Nat.le_of_ble_eq_true rfl) (z_aload dX9_hang_76 rfl (z_getR dX9_hang_77 fkX9_19 (in_6 hw) sh_6 rfl (z_iload dX9_hang_80 rfl (z_iload dX9_hang_81 rfl (z_callSN dX9_hang_83 (tX11_pair) (Nat.le_of_ble_eq_true rfl) cdX11_pair naX11_pair lkX9_59 stX11_pair rfl rfl (Nat.le_of_ble_eq_true rfl) (z_iald dX9_hang_86 (in_39 hw) sh_39 (zin_vp s6) (z_istore dX9_hang_87 (Nat.le_of_ble_eq_true rfl) ?_)))))))))))
        refine z_iload dX9_hang_89 rfl (z_const dX9_hang_91 (z_icmp_eq dX9_hang_92 (fun c7 => ?_) (fun c7 => ?_)))
        · have h := ziT h (c7)
          exact z_mask [true, true, true, true, true, true, true, true, true, false] (sX9_hang_114 hw hK13 hK46 h)
        · have h := ziF h (c7)
          refine z_aload dX9_hang_95 rfl (z_iload dX9_hang_96 rfl (z_callV dX9_hang_98 (tX2_isCut hw) (Nat.le_of_ble_eq_true rfl) cdX2_isCut naX2_isCut lkX9_68 imX2_isCut seX2_isCut (in_5 hw) sh_5 rfl rfl rfl (Nat.le_of_ble_eq_true rfl) (z_if_ne dX9_hang_101 (fun c8 => ?_) (fun c8 => ?_))))
          · have h := ziT h (zB_n0.mp c8)
            exact z_mask [true, true, true, true, true, true, true, true, true, false] (sX9_hang_114 hw hK13 hK46 h)
          · have h := ziF h (zB_0.mp c8)
            refine z_iload dX9_hang_104 rfl (z_const dX9_hang_106 (z_icmp_eq dX9_hang_107 (fun c9 => ?_) (fun c9 => ?_)))
            · have h := ziT h (c9)
              exact z_mask [true, true, true, true, true, true, true, true, true, false] (sX9_hang_114 hw hK13 hK46 h)
            · have h := ziF h (c9)
              exact z_const dX9_hang_110 (z_goto dX9_hang_111 (z_mask [true, true, true, true, true, true, true, true, true, false] (sX9_hang_115 hw hK13 hK46 h)))
def hX9_hang_13 (F : Nat) : Nat → Int32 → Int32 → zX → Option (zX)
  | 0, _, _, _ => none
  | n + 1, a1, a3, X => zchk (zin a1 6) (if (X 44 (zn a1)) ≤ a3 then some X else zchk (zin ((a1 * (nI 6)) + a3) 36) (zlet ((a1 * (nI 6)) + (X 43 (zn ((a1 * (nI 6)) + a3)))) fun v4 => hX9_hang_46 F (hX9_hang_13 F n) F a1 a3 (X 43 (zn ((a1 * (nI 6)) + a3))) v4 (nI 0) X))
set_option maxRecDepth 20000 in
set_option maxHeartbeats 4000000 in
theorem sX9_hang_13 {μ : zM} {w : Nat} (hw : w < 3) {F : Nat} : ∀ {n : Nat} {a1 a3 : Int32} {X : zX} {ρ : zX}, hX9_hang_13 F n a1 a3 X = some ρ → zJ mX9_hang 3 (0, 0) (0, 0) (zQ none (zg μ (w + 4) ρ)) 13 [some (zq (w + 4) 6), some (zi a1), some (zq (w + 4) 5), some (zi a3), none, none, none, none, none, none] [] (zg μ (w + 4) X) := by
  intro n
  induction n with
  | zero => intro a1 a3 X ρ h; exact nomatch (show (none : Option _) = some ρ from h)
  | succ n ih =>
    intro a1 a3 X ρ h
    have hK13 := @ih
    rw [hX9_hang_13] at h
    obtain ⟨s1, h⟩ := zchk_some h
    refine z_iload dX9_hang_13 rfl (z_aload dX9_hang_14 rfl (z_getR dX9_hang_15 fkX9_35 (in_6 hw) sh_6 rfl (z_iload dX9_hang_18 rfl (z_iald dX9_hang_19 (in_44 hw) sh_44 (zin_vp s1) (z_icmp_ge dX9_hang_20 (fun c2 => ?_) (fun c2 => ?_))))))
    · have h := ziT h (c2)
      exact z_vretQ dX9_hang_192 rfl (by cases h; rfl)
    · have h := ziF h (c2)
      obtain ⟨s3, h⟩ := zchk_some h
      have h := zlet_h h
      refine z_aload dX9_hang_23 rfl (z_getR dX9_hang_24 fkX9_32 (in_6 hw) sh_6 rfl (z_iload dX9_hang_27 rfl (z_iload dX9_hang_28 rfl (z_callSN dX9_hang_29 (tX11_pair) (Nat.le_of_ble_eq_true rfl) cdX11_pair naX11_pair lkX9_59 stX11_pair rfl rfl (Nat.le_of_ble_eq_true rfl) (z_iald dX9_hang_32 (in_43 hw) sh_43 (zin_vp s3) (z_istore dX9_hang_33 (Nat.le_of_ble_eq_true rfl) (z_iload dX9_hang_35 rfl (z_iload dX9_hang_36 rfl (z_callSN dX9_hang_38 (tX11_pair) (Nat.le_of_ble_eq_true rfl) cdX11_pair naX11_pair lkX9_59 stX11_pair rfl rfl (Nat.le_of_ble_eq_true rfl) (z_istore dX9_hang_41 (Nat.le_of_ble_eq_true rfl) (z_const dX9_hang_43 ?_)))))))))))
      exact z_istore dX9_hang_44 (Nat.le_of_ble_eq_true rfl) (z_mask [true, true, true, true, true, true, true, false, false, false] (sX9_hang_46 hw hK13 h))
def eX9_hang (F : Nat) (x0 : Int32) (X : zX) : Option (zX) := zchk (zin ((x0 * (nI 6)) + x0) 36) (hX9_hang_13 F F x0 (nI 0) (zw X 42 (zn ((x0 * (nI 6)) + x0)) (nI 0)))
set_option maxRecDepth 20000 in
set_option maxHeartbeats 4000000 in
theorem tX9_hang {μ : zM} {w : Nat} (hw : w < 3) {F : Nat} {x0 : Int32} {X : zX} {ρ : zX} (h : eX9_hang F x0 X = some ρ) : LM mX9_hang 3 [zq (w + 4) 6, zi x0, zq (w + 4) 5] (zg μ (w + 4) X) none (zg μ (w + 4) ρ) := by
  unfold eX9_hang at h
  refine LM.of (by decide +kernel) rfl (Nat.le_of_ble_eq_true rfl) ?_
  show zJ mX9_hang 3 (0, 0) (0, 0) _ 0 [some (zq (w + 4) 6), some (zi x0), some (zq (w + 4) 5), none, none, none, none, none, none, none] [] _
  obtain ⟨s1, h⟩ := zchk_some h
  exact z_aload dX9_hang_0 rfl (z_getR dX9_hang_1 fkX9_29 (in_6 hw) sh_6 rfl (z_iload dX9_hang_4 rfl (z_iload dX9_hang_5 rfl (z_callSN dX9_hang_6 (tX11_pair) (Nat.le_of_ble_eq_true rfl) cdX11_pair naX11_pair lkX9_59 stX11_pair rfl rfl (Nat.le_of_ble_eq_true rfl) (z_const dX9_hang_9 (z_iast dX9_hang_10 (in_42 hw) sh_42 (zin_vp s1) (z_const dX9_hang_11 (z_istore dX9_hang_12 (Nat.le_of_ble_eq_true rfl) (z_mask [true, true, true, true, false, false, false, false, false, false] (sX9_hang_13 hw h))))))))))
-- X9_measure
def hX9_measure_24 (F : Nat) (K13 : Int32 → Int32 → zX → Option (zX)) : Nat → Int32 → Int32 → Int32 → zX → Option (zX)
  | 0, _, _, _, _ => none
  | n + 1, a1, a3, a4, X => if (X 5 0) ≤ a4 then K13 a1 (a3 + (nI 1)) X else if (((X 5 1) >>> (a4 &&& 31)) &&& (nI 1)) = (nI 1) then (hX9_measure_24 F K13 n) a1 a3 (a4 + (nI 1)) X else zchk (zin a4 10) (zchk (zin a4 10) (zchk (zin a4 10) (zbd (eX9_shorten ((a1 * (nI 6)) + (X 34 (zn a4))) ((a1 * (nI 6)) + (X 35 (zn a4))) (X 36 (zn a4)) X) fun y7 => zchk (zin a4 10) (zchk (zin a4 10) (zchk (zin a4 10) (zbd (eX9_shorten ((a1 * (nI 6)) + (y7 35 (zn a4))) ((a1 * (nI 6)) + (y7 34 (zn a4))) (y7 36 (zn a4)) y7) fun y12 => (hX9_measure_24 F K13 n) a1 a3 (a4 + (nI 1)) y12))))))
set_option maxRecDepth 20000 in
set_option maxHeartbeats 4000000 in
theorem sX9_measure_24 {μ : zM} {w : Nat} (hw : w < 3) {F : Nat} {K13 : Int32 → Int32 → zX → Option (zX)} (hK13 : ∀ {xa1 xa3 : Int32} {xX : zX} {ρ : zX}, K13 xa1 xa3 xX = some ρ → zJ mX9_measure 3 (0, 0) (0, 0) (zQ none (zg μ (w + 4) ρ)) 13 [some (zq (w + 4) 6), some (zi xa1), some (zq (w + 4) 5), some (zi xa3), none] [] (zg μ (w + 4) xX)) : ∀ {n : Nat} {a1 a3 a4 : Int32} {X : zX} {ρ : zX}, hX9_measure_24 F K13 n a1 a3 a4 X = some ρ → zJ mX9_measure 3 (0, 0) (0, 0) (zQ none (zg μ (w + 4) ρ)) 24 [some (zq (w + 4) 6), some (zi a1), some (zq (w + 4) 5), some (zi a3), some (zi a4)] [] (zg μ (w + 4) X) := by
  intro n
  induction n with
  | zero => intro a1 a3 a4 X ρ h; exact nomatch (show (none : Option _) = some ρ from h)
  | succ n ih =>
    intro a1 a3 a4 X ρ h
    have hK24 := @ih
    rw [hX9_measure_24] at h
    refine z_iload dX9_measure_24 rfl (z_aload dX9_measure_26 rfl (z_getI dX9_measure_27 fkX9_63 (in_5 hw) sh_5 rfl (z_icmp_ge dX9_measure_30 (fun c1 => ?_) (fun c1 => ?_))))
    · have h := ziT h (c1)
      exact z_iinc dX9_measure_114 (Nat.le_of_ble_eq_true rfl) rfl (z_goto dX9_measure_117 (z_mask [true, true, true, true, false] (hK13 h)))
    · have h := ziF h (c1)
      refine z_aload dX9_measure_33 rfl (z_iload dX9_measure_34 rfl (z_callV dX9_measure_36 (tX2_isCut hw) (Nat.le_of_ble_eq_true rfl) cdX2_isCut naX2_isCut lkX9_68 imX2_isCut seX2_isCut (in_5 hw) sh_5 rfl rfl rfl (Nat.le_of_ble_eq_true rfl) (z_if_ne dX9_measure_39 (fun c2 => ?_) (fun c2 => ?_))))
      · have h := ziT h (zB_n0.mp c2)
        exact z_iinc dX9_measure_108 (Nat.le_of_ble_eq_true rfl) rfl (z_goto dX9_measure_111 (z_mask [true, true, true, true, true] (hK24 h)))
      · have h := ziF h (zB_0.mp c2)
        obtain ⟨s3, h⟩ := zchk_some h
        obtain ⟨s4, h⟩ := zchk_some h
        refine z_aload dX9_measure_42 rfl (z_iload dX9_measure_43 rfl (z_aload dX9_measure_44 rfl (z_getR dX9_measure_45 fkX9_72 (in_5 hw) sh_5 rfl (z_iload dX9_measure_48 rfl (z_iald dX9_measure_50 (in_34 hw) sh_34 (zin_vp s3) (z_callSN dX9_measure_51 (tX11_pair) (Nat.le_of_ble_eq_true rfl) cdX11_pair naX11_pair lkX9_59 stX11_pair rfl rfl (Nat.le_of_ble_eq_true rfl) (z_iload dX9_measure_54 rfl (z_aload dX9_measure_55 rfl (z_getR dX9_measure_56 fkX9_75 (in_5 hw) sh_5 rfl (z_iload dX9_measure_59 rfl (z_iald dX9_measure_61 (in_35 hw) sh_35 (zin_vp s4) ?_)))))))))))
        obtain ⟨s5, h⟩ := zchk_some h
        obtain ⟨y7, l6, h⟩ := zbd_some h
        obtain ⟨s8, h⟩ := zchk_some h
        refine z_callSN dX9_measure_62 (tX11_pair) (Nat.le_of_ble_eq_true rfl) cdX11_pair naX11_pair lkX9_59 stX11_pair rfl rfl (Nat.le_of_ble_eq_true rfl) (z_aload dX9_measure_65 rfl (z_getR dX9_measure_66 fkX9_78 (in_5 hw) sh_5 rfl (z_iload dX9_measure_69 rfl (z_iald dX9_measure_71 (in_36 hw) sh_36 (zin_vp s5) (z_callV dX9_measure_72 (tX9_shorten hw l6) (Nat.le_of_ble_eq_true rfl) cdX9_shorten naX9_shorten lkX9_81 imX9_shorten seX9_shorten (in_6 hw) sh_6 rfl rfl rfl (Nat.le_of_ble_eq_true rfl) (z_aload dX9_measure_75 rfl (z_iload dX9_measure_76 rfl (z_aload dX9_measure_77 rfl (z_getR dX9_measure_78 fkX9_75 (in_5 hw) sh_5 rfl (z_iload dX9_measure_81 rfl (z_iald dX9_measure_83 (in_35 hw) sh_35 (zin_vp s8) ?_)))))))))))
        obtain ⟨s9, h⟩ := zchk_some h
        obtain ⟨s10, h⟩ := zchk_some h
        obtain ⟨y12, l11, h⟩ := zbd_some h
        refine z_callSN dX9_measure_84 (tX11_pair) (Nat.le_of_ble_eq_true rfl) cdX11_pair naX11_pair lkX9_59 stX11_pair rfl rfl (Nat.le_of_ble_eq_true rfl) (z_iload dX9_measure_87 rfl (z_aload dX9_measure_88 rfl (z_getR dX9_measure_89 fkX9_72 (in_5 hw) sh_5 rfl (z_iload dX9_measure_92 rfl (z_iald dX9_measure_94 (in_34 hw) sh_34 (zin_vp s9) (z_callSN dX9_measure_95 (tX11_pair) (Nat.le_of_ble_eq_true rfl) cdX11_pair naX11_pair lkX9_59 stX11_pair rfl rfl (Nat.le_of_ble_eq_true rfl) (z_aload dX9_measure_98 rfl (z_getR dX9_measure_99 fkX9_78 (in_5 hw) sh_5 rfl (z_iload dX9_measure_102 rfl (z_iald dX9_measure_104 (in_36 hw) sh_36 (zin_vp s10) (z_callV dX9_measure_105 (tX9_shorten hw l11) (Nat.le_of_ble_eq_true rfl) cdX9_shorten naX9_shorten lkX9_81 imX9_shorten seX9_shorten (in_6 hw) sh_6 rfl rfl rfl (Nat.le_of_ble_eq_true rfl) ?_)))))))))))
        exact z_iinc dX9_measure_108 (Nat.le_of_ble_eq_true rfl) rfl (z_goto dX9_measure_111 (z_mask [true, true, true, true, true] (hK24 h)))
def hX9_measure_13 (F : Nat) : Nat → Int32 → Int32 → zX → Option (zX)
  | 0, _, _, _ => none
  | n + 1, a1, a3, X => if (X 6 0) ≤ a3 then some X else hX9_measure_24 F (hX9_measure_13 F n) F a1 a3 (nI 0) X
set_option maxRecDepth 20000 in
set_option maxHeartbeats 4000000 in
theorem sX9_measure_13 {μ : zM} {w : Nat} (hw : w < 3) {F : Nat} : ∀ {n : Nat} {a1 a3 : Int32} {X : zX} {ρ : zX}, hX9_measure_13 F n a1 a3 X = some ρ → zJ mX9_measure 3 (0, 0) (0, 0) (zQ none (zg μ (w + 4) ρ)) 13 [some (zq (w + 4) 6), some (zi a1), some (zq (w + 4) 5), some (zi a3), none] [] (zg μ (w + 4) X) := by
  intro n
  induction n with
  | zero => intro a1 a3 X ρ h; exact nomatch (show (none : Option _) = some ρ from h)
  | succ n ih =>
    intro a1 a3 X ρ h
    have hK13 := @ih
    rw [hX9_measure_13] at h
    refine z_iload dX9_measure_13 rfl (z_aload dX9_measure_14 rfl (z_getI dX9_measure_15 fkX9_9 (in_6 hw) sh_6 rfl (z_icmp_ge dX9_measure_18 (fun c1 => ?_) (fun c1 => ?_))))
    · have h := ziT h (c1)
      exact z_vretQ dX9_measure_120 rfl (by cases h; rfl)
    · have h := ziF h (c1)
      exact z_const dX9_measure_21 (z_istore dX9_measure_22 (Nat.le_of_ble_eq_true rfl) (z_mask [true, true, true, true, true] (sX9_measure_24 hw hK13 h)))
def eX9_measure (F : Nat) (x0 : Int32) (X : zX) : Option (zX) := zchk (zin ((x0 * (nI 6)) + x0) 36) (hX9_measure_13 F F x0 (nI 1) (zw X 39 (zn ((x0 * (nI 6)) + x0)) (nI 0)))
set_option maxRecDepth 20000 in
set_option maxHeartbeats 4000000 in
theorem tX9_measure {μ : zM} {w : Nat} (hw : w < 3) {F : Nat} {x0 : Int32} {X : zX} {ρ : zX} (h : eX9_measure F x0 X = some ρ) : LM mX9_measure 3 [zq (w + 4) 6, zi x0, zq (w + 4) 5] (zg μ (w + 4) X) none (zg μ (w + 4) ρ) := by
  unfold eX9_measure at h
  refine LM.of (by decide +kernel) rfl (Nat.le_of_ble_eq_true rfl) ?_
  show zJ mX9_measure 3 (0, 0) (0, 0) _ 0 [some (zq (w + 4) 6), some (zi x0), some (zq (w + 4) 5), none, none] [] _
  obtain ⟨s1, h⟩ := zchk_some h
  exact z_aload dX9_measure_0 rfl (z_getR dX9_measure_1 fkX9_19 (in_6 hw) sh_6 rfl (z_iload dX9_measure_4 rfl (z_iload dX9_measure_5 rfl (z_callSN dX9_measure_6 (tX11_pair) (Nat.le_of_ble_eq_true rfl) cdX11_pair naX11_pair lkX9_59 stX11_pair rfl rfl (Nat.le_of_ble_eq_true rfl) (z_const dX9_measure_9 (z_iast dX9_measure_10 (in_39 hw) sh_39 (zin_vp s1) (z_const dX9_measure_11 (z_istore dX9_measure_12 (Nat.le_of_ble_eq_true rfl) (z_mask [true, true, true, true, false] (sX9_measure_13 hw h))))))))))
-- X9_middle
def jX9_middle_60 (F : Nat) (K4 : Int32 → Int32 → zX → Option (Int32)) (a2 : Int32) (X : zX) : Option (Int32) := K4 a2 (a2 + (nI 1)) X
set_option maxRecDepth 20000 in
set_option maxHeartbeats 4000000 in
theorem sX9_middle_60 {μ : zM} {w : Nat} (hw : w < 3) {F : Nat} {K4 : Int32 → Int32 → zX → Option (Int32)} (hK4 : ∀ {xa1 xa2 : Int32} {xX : zX} {ρ : Int32}, K4 xa1 xa2 xX = some ρ → zJ mX9_middle 3 (0, 0) (0, 0) (zQ (some (zi ρ)) (zg μ (w + 4) xX)) 4 [some (zq (w + 4) 6), some (zi xa1), some (zi xa2)] [] (zg μ (w + 4) xX)) {a2 : Int32} {X : zX} {ρ : Int32} (h : jX9_middle_60 F K4 a2 X = some ρ) : zJ mX9_middle 3 (0, 0) (0, 0) (zQ (some (zi ρ)) (zg μ (w + 4) X)) 60 [some (zq (w + 4) 6), none, some (zi a2)] [] (zg μ (w + 4) X) := by
  unfold jX9_middle_60 at h
  exact z_iload dX9_middle_60 rfl (z_istore dX9_middle_61 (Nat.le_of_ble_eq_true rfl) (z_iinc dX9_middle_62 (Nat.le_of_ble_eq_true rfl) rfl (z_goto dX9_middle_65 (z_mask [true, true, true] (hK4 h)))))
def hX9_middle_4 (F : Nat) : Nat → Int32 → Int32 → zX → Option (Int32)
  | 0, _, _, _ => none
  | n + 1, a1, a2, X => if (X 6 0) ≤ a2 then some a1 else if a1 = (-1) then jX9_middle_60 F (hX9_middle_4 F n) a2 X else zchk (zin a2 6) (zchk (zin a1 6) (if (X 44 (zn a1)) < (X 44 (zn a2)) then jX9_middle_60 F (hX9_middle_4 F n) a2 X else zchk (zin a2 6) (zchk (zin a1 6) (if (X 44 (zn a2)) = (X 44 (zn a1)) then zbd (eX9_longest a2 X) fun r10 => zbd (eX9_longest a1 X) fun r12 => if r12 ≤ r10 then (hX9_middle_4 F n) a1 (a2 + (nI 1)) X else jX9_middle_60 F (hX9_middle_4 F n) a2 X else (hX9_middle_4 F n) a1 (a2 + (nI 1)) X))))
set_option maxRecDepth 20000 in
set_option maxHeartbeats 4000000 in
theorem sX9_middle_4 {μ : zM} {w : Nat} (hw : w < 3) {F : Nat} : ∀ {n : Nat} {a1 a2 : Int32} {X : zX} {ρ : Int32}, hX9_middle_4 F n a1 a2 X = some ρ → zJ mX9_middle 3 (0, 0) (0, 0) (zQ (some (zi ρ)) (zg μ (w + 4) X)) 4 [some (zq (w + 4) 6), some (zi a1), some (zi a2)] [] (zg μ (w + 4) X) := by
  intro n
  induction n with
  | zero => intro a1 a2 X ρ h; exact nomatch (show (none : Option _) = some ρ from h)
  | succ n ih =>
    intro a1 a2 X ρ h
    have hK4 := @ih
    rw [hX9_middle_4] at h
    refine z_iload dX9_middle_4 rfl (z_aload dX9_middle_5 rfl (z_getI dX9_middle_6 fkX9_9 (in_6 hw) sh_6 rfl (z_icmp_ge dX9_middle_9 (fun c1 => ?_) (fun c1 => ?_))))
    · have h := ziT h (c1)
      exact z_iload dX9_middle_68 rfl (z_iretQ dX9_middle_69 rfl (by cases h; rfl))
    · have h := ziF h (c1)
      refine z_iload dX9_middle_12 rfl (z_const dX9_middle_13 (z_icmp_eq dX9_middle_14 (fun c2 => ?_) (fun c2 => ?_)))
      · have h := ziT h (c2)
        exact z_mask [true, false, true] (sX9_middle_60 hw hK4 h)
      · have h := ziF h (c2)
        obtain ⟨s3, h⟩ := zchk_some h
        obtain ⟨s4, h⟩ := zchk_some h
        refine z_aload dX9_middle_17 rfl (z_getR dX9_middle_18 fkX9_35 (in_6 hw) sh_6 rfl (z_iload dX9_middle_21 rfl (z_iald dX9_middle_22 (in_44 hw) sh_44 (zin_vp s3) (z_aload dX9_middle_23 rfl (z_getR dX9_middle_24 fkX9_35 (in_6 hw) sh_6 rfl (z_iload dX9_middle_27 rfl (z_iald dX9_middle_28 (in_44 hw) sh_44 (zin_vp s4) (z_icmp_gt dX9_middle_29 (fun c5 => ?_) (fun c5 => ?_)))))))))
        · have h := ziT h (c5)
          exact z_mask [true, false, true] (sX9_middle_60 hw hK4 h)
        · have h := ziF h (c5)
          obtain ⟨s6, h⟩ := zchk_some h
          obtain ⟨s7, h⟩ := zchk_some h
          refine z_aload dX9_middle_32 rfl (z_getR dX9_middle_33 fkX9_35 (in_6 hw) sh_6 rfl (z_iload dX9_middle_36 rfl (z_iald dX9_middle_37 (in_44 hw) sh_44 (zin_vp s6) (z_aload dX9_middle_38 rfl (z_getR dX9_middle_39 fkX9_35 (in_6 hw) sh_6 rfl (z_iload dX9_middle_42 rfl (z_iald dX9_middle_43 (in_44 hw) sh_44 (zin_vp s7) (z_icmp_ne dX9_middle_44 (fun c8 => ?_) (fun c8 => ?_)))))))))
          · have h := ziF h (c8)
            exact z_iinc dX9_middle_62 (Nat.le_of_ble_eq_true rfl) rfl (z_goto dX9_middle_65 (z_mask [true, true, true] (hK4 h)))
          · have h := ziT h (c8)
            obtain ⟨r10, l9, h⟩ := zbd_some h
            obtain ⟨r12, l11, h⟩ := zbd_some h
            refine z_aload dX9_middle_47 rfl (z_iload dX9_middle_48 rfl (z_callV dX9_middle_49 (tX9_longest hw l9) (Nat.le_of_ble_eq_true rfl) cdX9_longest naX9_longest lkX9_92 imX9_longest seX9_longest (in_6 hw) sh_6 rfl rfl rfl (Nat.le_of_ble_eq_true rfl) (z_aload dX9_middle_52 rfl (z_iload dX9_middle_53 rfl (z_callV dX9_middle_54 (tX9_longest hw l11) (Nat.le_of_ble_eq_true rfl) cdX9_longest naX9_longest lkX9_92 imX9_longest seX9_longest (in_6 hw) sh_6 rfl rfl rfl (Nat.le_of_ble_eq_true rfl) (z_icmp_ge dX9_middle_57 (fun c13 => ?_) (fun c13 => ?_)))))))
            · have h := ziT h (c13)
              exact z_iinc dX9_middle_62 (Nat.le_of_ble_eq_true rfl) rfl (z_goto dX9_middle_65 (z_mask [true, true, true] (hK4 h)))
            · have h := ziF h (c13)
              exact z_mask [true, false, true] (sX9_middle_60 hw hK4 h)
def eX9_middle (F : Nat) (X : zX) : Option (Int32) := hX9_middle_4 F F (-1) (nI 0) X
set_option maxRecDepth 20000 in
set_option maxHeartbeats 4000000 in
theorem tX9_middle {μ : zM} {w : Nat} (hw : w < 3) {F : Nat} {X : zX} {ρ : Int32} (h : eX9_middle F X = some ρ) : LM mX9_middle 3 [zq (w + 4) 6] (zg μ (w + 4) X) (some (zi ρ)) (zg μ (w + 4) X) := by
  unfold eX9_middle at h
  refine LM.of (by decide +kernel) rfl (Nat.le_of_ble_eq_true rfl) ?_
  show zJ mX9_middle 3 (0, 0) (0, 0) _ 0 [some (zq (w + 4) 6), none, none] [] _
  exact z_const dX9_middle_0 (z_istore dX9_middle_1 (Nat.le_of_ble_eq_true rfl) (z_const dX9_middle_2 (z_istore dX9_middle_3 (Nat.le_of_ble_eq_true rfl) (z_mask [true, true, true] (sX9_middle_4 hw h)))))
-- X9_fewestCovering
def hX9_fewestCovering_13 (F : Nat) : Nat → Int32 → Int32 → Int32 → Int32 → zX → Option (Int32)
  | 0, _, _, _, _, _ => none
  | n + 1, a1, a2, a3, a4, X => if a2 ≤ a4 then some a3 else zbd (eJ6_bitCount_0f7a4 a4) fun r3 => zbd (eJ6_bitCount_0f7a4 a3) fun r5 => if r5 ≤ r3 then (hX9_fewestCovering_13 F n) a1 a2 a3 (a4 + (nI 1)) X else zbd (eX9_covered F a4 a1 X) fun r8 => if r8 = a2 then (hX9_fewestCovering_13 F n) a1 a2 a4 (a4 + (nI 1)) X else (hX9_fewestCovering_13 F n) a1 a2 a3 (a4 + (nI 1)) X
set_option maxRecDepth 20000 in
set_option maxHeartbeats 4000000 in
theorem sX9_fewestCovering_13 {μ : zM} {w : Nat} (hw : w < 3) {F : Nat} : ∀ {n : Nat} {a1 a2 a3 a4 : Int32} {X : zX} {ρ : Int32}, hX9_fewestCovering_13 F n a1 a2 a3 a4 X = some ρ → zJ mX9_fewestCovering 4 (0, 0) (0, 0) (zQ (some (zi ρ)) (zg μ (w + 4) X)) 13 [some (zq (w + 4) 6), some (zi a1), some (zi a2), some (zi a3), some (zi a4)] [] (zg μ (w + 4) X) := by
  intro n
  induction n with
  | zero => intro a1 a2 a3 a4 X ρ h; exact nomatch (show (none : Option _) = some ρ from h)
  | succ n ih =>
    intro a1 a2 a3 a4 X ρ h
    have hK13 := @ih
    rw [hX9_fewestCovering_13] at h
    refine z_iload dX9_fewestCovering_13 rfl (z_iload dX9_fewestCovering_15 rfl (z_icmp_ge dX9_fewestCovering_16 (fun c1 => ?_) (fun c1 => ?_)))
    · have h := ziT h (c1)
      exact z_iload dX9_fewestCovering_51 rfl (z_iretQ dX9_fewestCovering_52 rfl (by cases h; rfl))
    · have h := ziF h (c1)
      obtain ⟨r3, l2, h⟩ := zbd_some h
      obtain ⟨r5, l4, h⟩ := zbd_some h
      refine z_iload dX9_fewestCovering_19 rfl (z_callS dX9_fewestCovering_21 (tJ6_bitCount_0f7a4 l2) (Nat.le_of_ble_eq_true rfl) cdJ6_bitCount_0f7a4 naJ6_bitCount_0f7a4 lkX9_99 stJ6_bitCount_0f7a4 rfl rfl (Nat.le_of_ble_eq_true rfl) (z_iload dX9_fewestCovering_24 rfl (z_callS dX9_fewestCovering_25 (tJ6_bitCount_0f7a4 l4) (Nat.le_of_ble_eq_true rfl) cdJ6_bitCount_0f7a4 naJ6_bitCount_0f7a4 lkX9_99 stJ6_bitCount_0f7a4 rfl rfl (Nat.le_of_ble_eq_true rfl) (z_icmp_ge dX9_fewestCovering_28 (fun c6 => ?_) (fun c6 => ?_)))))
      · have h := ziT h (c6)
        exact z_iinc dX9_fewestCovering_45 (Nat.le_of_ble_eq_true rfl) rfl (z_goto dX9_fewestCovering_48 (z_mask [true, true, true, true, true] (hK13 h)))
      · have h := ziF h (c6)
        obtain ⟨r8, l7, h⟩ := zbd_some h
        refine z_aload dX9_fewestCovering_31 rfl (z_iload dX9_fewestCovering_32 rfl (z_iload dX9_fewestCovering_34 rfl (z_callV dX9_fewestCovering_35 (tX9_covered hw l7) (Nat.le_of_ble_eq_true rfl) cdX9_covered naX9_covered lkX9_104 imX9_covered seX9_covered (in_6 hw) sh_6 rfl rfl rfl (Nat.le_of_ble_eq_true rfl) (z_iload dX9_fewestCovering_38 rfl (z_icmp_ne dX9_fewestCovering_39 (fun c9 => ?_) (fun c9 => ?_))))))
        · have h := ziF h (c9)
          exact z_iinc dX9_fewestCovering_45 (Nat.le_of_ble_eq_true rfl) rfl (z_goto dX9_fewestCovering_48 (z_mask [true, true, true, true, true] (hK13 h)))
        · have h := ziT h (c9)
          exact z_iload dX9_fewestCovering_42 rfl (z_istore dX9_fewestCovering_44 (Nat.le_of_ble_eq_true rfl) (z_iinc dX9_fewestCovering_45 (Nat.le_of_ble_eq_true rfl) rfl (z_goto dX9_fewestCovering_48 (z_mask [true, true, true, true, true] (hK13 h)))))
def eX9_fewestCovering (F : Nat) (x0 : Int32) (X : zX) : Option (Int32) := hX9_fewestCovering_13 F F x0 (((nI 1) <<< ((X 6 0) &&& 31)) - (nI 1)) (((nI 1) <<< ((X 6 0) &&& 31)) - (nI 1)) (nI 0) X
set_option maxRecDepth 20000 in
set_option maxHeartbeats 4000000 in
theorem tX9_fewestCovering {μ : zM} {w : Nat} (hw : w < 3) {F : Nat} {x0 : Int32} {X : zX} {ρ : Int32} (h : eX9_fewestCovering F x0 X = some ρ) : LM mX9_fewestCovering 4 [zq (w + 4) 6, zi x0] (zg μ (w + 4) X) (some (zi ρ)) (zg μ (w + 4) X) := by
  unfold eX9_fewestCovering at h
  refine LM.of (by decide +kernel) rfl (Nat.le_of_ble_eq_true rfl) ?_
  show zJ mX9_fewestCovering 4 (0, 0) (0, 0) _ 0 [some (zq (w + 4) 6), some (zi x0), none, none, none] [] _
  exact z_aload dX9_fewestCovering_0 rfl (z_getI dX9_fewestCovering_1 fkX9_9 (in_6 hw) sh_6 rfl (z_callSN dX9_fewestCovering_4 (tX11_bitsBelow) (Nat.le_of_ble_eq_true rfl) cdX11_bitsBelow naX11_bitsBelow lkX9_96 stX11_bitsBelow rfl rfl (Nat.le_of_ble_eq_true rfl) (z_istore dX9_fewestCovering_7 (Nat.le_of_ble_eq_true rfl) (z_iload dX9_fewestCovering_8 rfl (z_istore dX9_fewestCovering_9 (Nat.le_of_ble_eq_true rfl) (z_const dX9_fewestCovering_10 (z_istore dX9_fewestCovering_11 (Nat.le_of_ble_eq_true rfl) (z_mask [true, true, true, true, true] (sX9_fewestCovering_13 hw h)))))))))
-- X9_find
def hX9_find_39 (F : Nat) : Nat → Int32 → zX → Option (zX)
  | 0, _, _ => none
  | n + 1, a3, X => if (X 6 0) ≤ a3 then some X else zbd (eX9_measure F a3 X) fun y3 => zbd (eX9_sort F a3 y3) fun y5 => zbd (eX9_hang F a3 y5) fun y7 => (hX9_find_39 F n) (a3 + (nI 1)) y7
set_option maxRecDepth 20000 in
set_option maxHeartbeats 4000000 in
theorem sX9_find_39 {μ : zM} {w : Nat} (hw : w < 3) {F : Nat} : ∀ {n : Nat} {a3 : Int32} {X : zX} {ρ : zX}, hX9_find_39 F n a3 X = some ρ → zJ mX9_find 4 (0, 0) (0, 0) (zQ none (zg μ (w + 4) ρ)) 39 [some (zq (w + 4) 6), some (zq (w + 4) 5), none, some (zi a3)] [] (zg μ (w + 4) X) := by
  intro n
  induction n with
  | zero => intro a3 X ρ h; exact nomatch (show (none : Option _) = some ρ from h)
  | succ n ih =>
    intro a3 X ρ h
    have hK39 := @ih
    rw [hX9_find_39] at h
    refine z_iload dX9_find_39 rfl (z_aload dX9_find_40 rfl (z_getI dX9_find_41 fkX9_9 (in_6 hw) sh_6 rfl (z_icmp_ge dX9_find_44 (fun c1 => ?_) (fun c1 => ?_))))
    · have h := ziT h (c1)
      exact z_vretQ dX9_find_70 rfl (by cases h; rfl)
    · have h := ziF h (c1)
      obtain ⟨y3, l2, h⟩ := zbd_some h
      obtain ⟨y5, l4, h⟩ := zbd_some h
      obtain ⟨y7, l6, h⟩ := zbd_some h
      refine z_aload dX9_find_47 rfl (z_iload dX9_find_48 rfl (z_aload dX9_find_49 rfl (z_callV dX9_find_50 (tX9_measure hw l2) (Nat.le_of_ble_eq_true rfl) cdX9_measure naX9_measure lkX9_48 imX9_measure seX9_measure (in_6 hw) sh_6 rfl rfl rfl (Nat.le_of_ble_eq_true rfl) (z_aload dX9_find_53 rfl (z_iload dX9_find_54 rfl (z_callV dX9_find_55 (tX9_sort hw l4) (Nat.le_of_ble_eq_true rfl) cdX9_sort naX9_sort lkX9_52 imX9_sort seX9_sort (in_6 hw) sh_6 rfl rfl rfl (Nat.le_of_ble_eq_true rfl) (z_aload dX9_find_58 rfl (z_iload dX9_find_59 rfl (z_aload dX9_find_60 rfl (z_callV dX9_find_61 (tX9_hang hw l6) (Nat.le_of_ble_eq_true rfl) cdX9_hang naX9_hang lkX9_56 imX9_hang seX9_hang (in_6 hw) sh_6 rfl rfl rfl (Nat.le_of_ble_eq_true rfl) (z_iinc dX9_find_64 (Nat.le_of_ble_eq_true rfl) rfl ?_)))))))))))
      exact z_goto dX9_find_67 (z_mask [true, true, false, true] (hK39 h))
def eX9_find (F : Nat) (x1 : Int32) (X : zX) : Option (zX) := zbd (eJ7_fill_53178q39 F (-1) (zw X 6 0 x1)) fun y2 => zbd (eJ7_fill_53178q40 F (-1) y2) fun y4 => zbd (eJ7_fill_53178q41 F (-1) y4) fun y6 => zbd (eJ7_fill_53178q42 F (-1) y6) fun y8 => hX9_find_39 F F (nI 0) y8
set_option maxRecDepth 20000 in
set_option maxHeartbeats 4000000 in
theorem tX9_find {μ : zM} {w : Nat} (hw : w < 3) {F : Nat} {x1 : Int32} {X : zX} {ρ : zX} (h : eX9_find F x1 X = some ρ) : LM mX9_find 4 [zq (w + 4) 6, zq (w + 4) 5, zi x1] (zg μ (w + 4) X) none (zg μ (w + 4) ρ) := by
  unfold eX9_find at h
  refine LM.of (by decide +kernel) rfl (Nat.le_of_ble_eq_true rfl) ?_
  show zJ mX9_find 4 (0, 0) (0, 0) _ 0 [some (zq (w + 4) 6), some (zq (w + 4) 5), some (zi x1), none] [] _
  obtain ⟨y2, l1, h⟩ := zbd_some h
  obtain ⟨y4, l3, h⟩ := zbd_some h
  refine z_aload dX9_find_0 rfl (z_iload dX9_find_1 rfl (z_putI dX9_find_2 fkX9_9 (in_6 hw) sh_6 rfl (fun _ _ _ h => by cases h; rfl) ⟨_, rfl, rfl, rfl⟩ (z_aload dX9_find_5 rfl (z_getR dX9_find_6 fkX9_19 (in_6 hw) sh_6 rfl (z_const dX9_find_9 (z_callS dX9_find_10 (tJ7_fill_53178q39 hw l1) (Nat.le_of_ble_eq_true rfl) cdJ7_fill_53178 naJ7_fill_53178 lkX9_42 stJ7_fill_53178 rfl rfl (Nat.le_of_ble_eq_true rfl) (z_aload dX9_find_13 rfl (z_getR dX9_find_14 fkX9_23 (in_6 hw) sh_6 rfl (z_const dX9_find_17 (z_callS dX9_find_18 (tJ7_fill_53178q40 hw l3) (Nat.le_of_ble_eq_true rfl) cdJ7_fill_53178 naJ7_fill_53178 lkX9_42 stJ7_fill_53178 rfl rfl (Nat.le_of_ble_eq_true rfl) (z_aload dX9_find_21 rfl ?_)))))))))))
  obtain ⟨y6, l5, h⟩ := zbd_some h
  obtain ⟨y8, l7, h⟩ := zbd_some h
  exact z_getR dX9_find_22 fkX9_26 (in_6 hw) sh_6 rfl (z_const dX9_find_25 (z_callS dX9_find_26 (tJ7_fill_53178q41 hw l5) (Nat.le_of_ble_eq_true rfl) cdJ7_fill_53178 naJ7_fill_53178 lkX9_42 stJ7_fill_53178 rfl rfl (Nat.le_of_ble_eq_true rfl) (z_aload dX9_find_29 rfl (z_getR dX9_find_30 fkX9_29 (in_6 hw) sh_6 rfl (z_const dX9_find_33 (z_callS dX9_find_34 (tJ7_fill_53178q42 hw l7) (Nat.le_of_ble_eq_true rfl) cdJ7_fill_53178 naJ7_fill_53178 lkX9_42 stJ7_fill_53178 rfl rfl (Nat.le_of_ble_eq_true rfl) (z_const dX9_find_37 (z_istore dX9_find_38 (Nat.le_of_ble_eq_true rfl) (z_mask [true, true, false, true] (sX9_find_39 hw h))))))))))
