/-! fields, arrays, returns, calls -/
/-- a class of the world: its words, its types -/
def zty0 : Nat → Nat → FieldType := fun ci => match ci with
  | 0 => tyX0 | 1 => tyX1 | 2 => tyX2 | 3 => tyX3 | 4 => tyX4 | 5 => tyX5 | 6 => tyX6 | 7 => tyX7 | 8 => tyX8 | 9 => tyX9 | 10 => tyX10 | 11 => tyX11 | _ => tyX12
def zmemB (w : Cond) : Bool := lw_tbl.any fun v => decide (v = w)
theorem zmem_of {w : Cond} (h : zmemB w = true) : w ∈ lw_tbl := by
  obtain ⟨v, h1, h2⟩ := List.any_eq_true.mp h
  exact of_decide_eq_true h2 ▸ h1
theorem zws_all : (zcl.all fun q => (u_ws q.1 q.2.1 q.2.2).all zmemB) = true := by decide +kernel
theorem zws_in {ci : Nat} {Cn : String} {T : u_T} {N : Nat} (hc : zcl[ci]? = some (Cn, T, N)) : ∀ w ∈ u_ws Cn T N, w ∈ lw_tbl := fun w hw =>
  zmem_of (List.all_eq_true.mp (List.all_eq_true.mp zws_all _ (List.mem_of_getElem? hc)) w hw)
theorem zws_good {ci : Nat} {Cn : String} {T : u_T} {N : Nat} (hc : zcl[ci]? = some (Cn, T, N)) : ∀ w ∈ u_ws Cn T N, goodWord w = true := by
  intro w hw
  obtain ⟨k, -, rfl⟩ := List.mem_map.mp hw
  unfold u_lay
  split <;> rfl
theorem zty_ok {ci : Nat} {Cn : String} {T : u_T} {N : Nat} (hc : zcl[ci]? = some (Cn, T, N)) : ∀ k, k < N → parseFieldDescriptor (T k).2.2.1 = some (zty0 ci k) := by
  match ci, hc with
  | 0, hc => cases hc; exact tyX0_ok
  | 1, hc => cases hc; exact tyX1_ok
  | 2, hc => cases hc; exact tyX2_ok
  | 3, hc => cases hc; exact tyX3_ok
  | 4, hc => cases hc; exact tyX4_ok
  | 5, hc => cases hc; exact tyX5_ok
  | 6, hc => cases hc; exact tyX6_ok
  | 7, hc => cases hc; exact tyX7_ok
  | 8, hc => cases hc; exact tyX8_ok
  | 9, hc => cases hc; exact tyX9_ok
  | 10, hc => cases hc; exact tyX10_ok
  | 11, hc => cases hc; exact tyX11_ok
  | 12, hc => cases hc; exact tyX12_ok
  | k + 13, hc => simp [zcl, vwCl] at hc
theorem znm_ok {ci : Nat} {Cn : String} {T : u_T} {N : Nat} (hc : zcl[ci]? = some (Cn, T, N)) : ∀ a, a < N → ∀ b, b < N → a ≠ b → (T a).2.1 ≠ (T b).2.1 := by
  match ci, hc with
  | 0, hc => cases hc; exact nmX0
  | 1, hc => cases hc; exact nmX1
  | 2, hc => cases hc; exact nmX2
  | 3, hc => cases hc; exact nmX3
  | 4, hc => cases hc; exact nmX4
  | 5, hc => cases hc; exact nmX5
  | 6, hc => cases hc; exact nmX6
  | 7, hc => cases hc; exact nmX7
  | 8, hc => cases hc; exact nmX8
  | 9, hc => cases hc; exact nmX9
  | 10, hc => cases hc; exact nmX10
  | 11, hc => cases hc; exact nmX11
  | 12, hc => cases hc; exact nmX12
  | k + 13, hc => simp [zcl, vwCl] at hc
section ZC
variable {M : zY} {n : Nat} {C u : Nat × Nat} {Q : zQT} {pc pc' tgt : Nat} {L : List (Option zV)} {S : List zV} {μ : zM} {j k : Nat} {X : zX}
/-- a field link: own class, place, the class ci and its field f -/
def zfk (own : String) (idx ci f : Nat) : Prop := ∃ (Cn : String) (T : u_T) (N : Nat), zcl[ci]? = some (Cn, T, N) ∧ f < N ∧ (T f).1 = Cn ∧ Cond.fieldLink own idx Cn (T f).2.1 (T f).2.2.1 ∈ lw_tbl
theorem zWS_g {G : zG} {μ : zM} {j : Nat} {X : zX} {k : Nat} {sh : zSh} (hin : (j, k) ∈ zids) (hs : zsh j k = some sh) : ∃ n, (zWS G (zg μ j X))[n]? = some (za G j k, zen G (X k) sh) ∧ ∀ row, (zWS G (zg μ j X)).set n (za G j k, zen G row sh) = zWS G (zg μ j (zr X k row)) := by
  obtain ⟨n, h1, h2⟩ := zWS_at G (zg μ j X) hin hs
  rw [zg_at] at h1
  refine ⟨n, h1, fun row => ?_⟩
  rw [h2 row, zg_at, zg_zg]
theorem z_getI {idx ci f : Nat} {fl : List (Option (Nat × Nat))} (hd : zd M.2.1 pc (.getfield idx) 3 pc') (hk : zfk M.1.cls idx ci f) (hin : (j, k) ∈ zids) (hs : zsh j k = some (.inr (ci, fl))) (hf0 : fl[f]? = some none) (kk : zJ M n C u Q pc' L (zi (X k f) :: S) (zg μ j X)) : zJ M n C u Q pc L (zq j k :: S) (zg μ j X) := by
  intro l G R p e s m args below meth c H locs ls hf ok hR hE hw hl hS hz
  obtain ⟨h1, rfl⟩ := hd
  obtain ⟨Cn, T, N, hc, hN, hT, hlk⟩ := hk
  obtain ⟨q0, hq, -⟩ := zWS_g (G := G) (μ := μ) (X := X) hin hs
  refine va_get (ref := Cn) (D := zD G) (cl := zcl) (ws := zWS G (zg μ j X)) (tys := zty G) (Ts := u_ws Cn T N) hE.1 hE.2.1 (fun w h => z_word ok hw (zws_in hc w h) (zws_good hc w h)) (fun w h => h) hE.2.2.2.2.2 (z_K ok hw) hw.1 q0 hq hc f hN (z_word ok hw hlk rfl) (fun x h => by rw [hT] at h; exact h) (v := .int (X k f)) ?_ h1 (kk l G R p e s m args below meth c H locs ls hf ok hR hE hw hl hS hz)
  rw [zfl_get, hf0]; simp
theorem z_getR {idx ci f : Nat} {fl : List (Option (Nat × Nat))} {q : Nat × Nat} (hd : zd M.2.1 pc (.getfield idx) 3 pc') (hk : zfk M.1.cls idx ci f) (hin : (j, k) ∈ zids) (hs : zsh j k = some (.inr (ci, fl))) (hf0 : fl[f]? = some (some q)) (kk : zJ M n C u Q pc' L (.inr (.inl q) :: S) μ) : zJ M n C u Q pc L (zq j k :: S) μ := by
  intro l G R p e s m args below meth c H locs ls hf ok hR hE hw hl hS hz
  obtain ⟨h1, rfl⟩ := hd
  obtain ⟨Cn, T, N, hc, hN, hT, hlk⟩ := hk
  obtain ⟨q0, hq, -⟩ := zWS_at G μ hin hs
  refine va_get (ref := Cn) (D := zD G) (cl := zcl) (ws := zWS G μ) (tys := zty G) (Ts := u_ws Cn T N) hE.1 hE.2.1 (fun w h => z_word ok hw (zws_in hc w h) (zws_good hc w h)) (fun w h => h) hE.2.2.2.2.2 (z_K ok hw) hw.1 q0 hq hc f hN (z_word ok hw hlk rfl) (fun x h => by rw [hT] at h; exact h) (v := .ref (za G q.1 q.2)) ?_ h1 (kk l G R p e s m args below meth c H locs ls hf ok hR hE hw hl hS hz)
  rw [zfl_get, hf0]; simp
theorem z_putI {idx ci f : Nat} {fl : List (Option (Nat × Nat))} {v : Int32} (hd : zd M.2.1 pc (.putfield idx) 3 pc') (hk : zfk M.1.cls idx ci f) (hin : (j, k) ∈ zids) (hs : zsh j k = some (.inr (ci, fl))) (hf0 : fl[f]? = some none) (hff : ∀ Cn T N, zcl[ci]? = some (Cn, T, N) → (T f).2.2.2 = false) (hty : ∃ ty, zty0 ci f = ty ∧ narrow ty (.int v) = .int v ∧ fits ty (.int v) = true) (kk : zJ M n C u Q pc' L S (zg μ j (zw X k f v))) : zJ M n C u Q pc L (zi v :: zq j k :: S) (zg μ j X) := by
  intro l G R p e s m args below meth c H locs ls hf ok hR hE hw hl hS hz
  obtain ⟨h1, rfl⟩ := hd
  obtain ⟨Cn, T, N, hc, hN, hT, hlk⟩ := hk
  obtain ⟨q0, hq, hset⟩ := zWS_g (G := G) (μ := μ) (X := X) hin hs
  obtain ⟨ty, ht1, ht2, ht3⟩ := hty
  refine va_put (ref := Cn) (D := zD G) (cl := zcl) (ws := zWS G (zg μ j X)) (tys := zty G) (Ts := u_ws Cn T N) hE.1 hE.2.1 (fun w h => z_word ok hw (zws_in hc w h) (zws_good hc w h)) (fun w h => h) (zty0 ci) (zty_ok hc) (znm_ok hc) hE.2.2.2.2.2 (z_K ok hw) hw.1 hw.2.1 hS q0 hq hc f hN (z_word ok hw hlk rfl) (fun x h => by rw [hT] at h; exact h) (hff _ _ _ hc) (ty := ty) (v := .int v) (by rw [← ht1]; exact zty_ok hc f hN) ht2 ht3 (by rw [zfl_len]; exact (List.getElem?_eq_some_iff.mp hf0).1) h1 (fun H1 locs1 hP1 hD1 hS1 => ?_)
  rw [zfl_set G (X k) v hf0] at hP1 hD1
  rw [show ((za G j k, (Sum.inr (ci, zfl G (upd (X k) f v) 0 fl) : va_E))) = (za G j k, zen G (upd (X k) f v) (.inr (ci, fl))) from rfl, hset] at hP1 hD1
  exact kk l G R p e s m args below meth c H1 locs1 ls hf ok hR hE (hw.upd hP1 hD1 hS hS1 hz) hl hS1 hz
end ZC
